section
-- ===== PART A: goes FIRST, ahead of the names: the tables' words, and 'selects' of the private methods out of them =====
/-- a private method of a class that the tables say can be made, by its rows of tables_1 -/
def lw_okq (q : MethodName × Nat) : Prop := (q.1.cls ≠ "java/lang/invoke/MethodHandle" ∧ q.1.cls ≠ "java/lang/invoke/VarHandle") ∧ Cond.instantiable q.1.cls q.2 ∈ tables_1 ∧ Cond.privateMethod q.1 ∈ tables_1 ∧ Cond.instanceMethod q.1 ∈ tables_1
theorem lw_p0 : lw_okq (⟨"PlainWords$Things", "add", "(III)V"⟩, 6) := ⟨⟨by decide +kernel, by decide +kernel⟩, List.mem_of_getElem? (i := 100) (by decide +kernel), List.mem_of_getElem? (i := 336) (by decide +kernel), List.mem_of_getElem? (i := 337) (by decide +kernel)⟩
theorem lw_p1 : lw_okq (⟨"PlainWords$Reader", "readSentence", "()Z"⟩, 6) := ⟨⟨by decide +kernel, by decide +kernel⟩, List.mem_of_getElem? (i := 58) (by decide +kernel), List.mem_of_getElem? (i := 352) (by decide +kernel), List.mem_of_getElem? (i := 353) (by decide +kernel)⟩
theorem lw_p2 : lw_okq (⟨"PlainWords$Reader", "readCond", "(I)LPlainWords$Cond;"⟩, 6) := ⟨⟨by decide +kernel, by decide +kernel⟩, List.mem_of_getElem? (i := 58) (by decide +kernel), List.mem_of_getElem? (i := 360) (by decide +kernel), List.mem_of_getElem? (i := 361) (by decide +kernel)⟩
theorem lw_p3 : lw_okq (⟨"PlainWords$Reader", "readAll", "(I)LPlainWords$Cond;"⟩, 6) := ⟨⟨by decide +kernel, by decide +kernel⟩, List.mem_of_getElem? (i := 58) (by decide +kernel), List.mem_of_getElem? (i := 364) (by decide +kernel), List.mem_of_getElem? (i := 365) (by decide +kernel)⟩
theorem lw_p4 : lw_okq (⟨"PlainWords$Reader", "readItem", "(I)LPlainWords$Cond;"⟩, 6) := ⟨⟨by decide +kernel, by decide +kernel⟩, List.mem_of_getElem? (i := 58) (by decide +kernel), List.mem_of_getElem? (i := 368) (by decide +kernel), List.mem_of_getElem? (i := 369) (by decide +kernel)⟩
theorem lw_p5 : lw_okq (⟨"PlainWords$Cond", "rowOf", "(I)[LPlainWords$Cond;"⟩, 7) := ⟨⟨by decide +kernel, by decide +kernel⟩, List.mem_of_getElem? (i := 383) (by decide +kernel), List.mem_of_getElem? (i := 431) (by decide +kernel), List.mem_of_getElem? (i := 432) (by decide +kernel)⟩
theorem lw_p6 : lw_okq (⟨"PlainWords$Reader", "readPassive", "()Z"⟩, 6) := ⟨⟨by decide +kernel, by decide +kernel⟩, List.mem_of_getElem? (i := 58) (by decide +kernel), List.mem_of_getElem? (i := 439) (by decide +kernel), List.mem_of_getElem? (i := 440) (by decide +kernel)⟩
theorem lw_p7 : lw_okq (⟨"PlainWords$Reader", "readActs", "()Z"⟩, 6) := ⟨⟨by decide +kernel, by decide +kernel⟩, List.mem_of_getElem? (i := 58) (by decide +kernel), List.mem_of_getElem? (i := 443) (by decide +kernel), List.mem_of_getElem? (i := 444) (by decide +kernel)⟩
theorem lw_p8 : lw_okq (⟨"PlainWords$Reader", "readAct", "()Z"⟩, 6) := ⟨⟨by decide +kernel, by decide +kernel⟩, List.mem_of_getElem? (i := 58) (by decide +kernel), List.mem_of_getElem? (i := 447) (by decide +kernel), List.mem_of_getElem? (i := 448) (by decide +kernel)⟩
theorem lw_p9 : lw_okq (⟨"PlainWords$Reader", "isTold", "(I)Z"⟩, 6) := ⟨⟨by decide +kernel, by decide +kernel⟩, List.mem_of_getElem? (i := 58) (by decide +kernel), List.mem_of_getElem? (i := 452) (by decide +kernel), List.mem_of_getElem? (i := 453) (by decide +kernel)⟩
theorem lw_p10 : lw_okq (⟨"PlainWords$Reader", "readMode", "()Z"⟩, 6) := ⟨⟨by decide +kernel, by decide +kernel⟩, List.mem_of_getElem? (i := 58) (by decide +kernel), List.mem_of_getElem? (i := 456) (by decide +kernel), List.mem_of_getElem? (i := 457) (by decide +kernel)⟩
theorem lw_p11 : lw_okq (⟨"PlainWords$Reader", "readWho", "()Z"⟩, 6) := ⟨⟨by decide +kernel, by decide +kernel⟩, List.mem_of_getElem? (i := 58) (by decide +kernel), List.mem_of_getElem? (i := 460) (by decide +kernel), List.mem_of_getElem? (i := 461) (by decide +kernel)⟩
theorem lw_p12 : lw_okq (⟨"PlainWords$Reader", "readActive", "()Z"⟩, 6) := ⟨⟨by decide +kernel, by decide +kernel⟩, List.mem_of_getElem? (i := 58) (by decide +kernel), List.mem_of_getElem? (i := 464) (by decide +kernel), List.mem_of_getElem? (i := 465) (by decide +kernel)⟩
theorem lw_p13 : lw_okq (⟨"PlainWords$Reader", "actsTold", "()[I"⟩, 6) := ⟨⟨by decide +kernel, by decide +kernel⟩, List.mem_of_getElem? (i := 58) (by decide +kernel), List.mem_of_getElem? (i := 470) (by decide +kernel), List.mem_of_getElem? (i := 471) (by decide +kernel)⟩
theorem lw_p14 : lw_okq (⟨"java/util/ArrayList", "add", "(Ljava/lang/Object;[Ljava/lang/Object;I)V"⟩, 3) := ⟨⟨by decide +kernel, by decide +kernel⟩, List.mem_of_getElem? (i := 70) (by decide +kernel), List.mem_of_getElem? (i := 527) (by decide +kernel), List.mem_of_getElem? (i := 528) (by decide +kernel)⟩
theorem lw_p15 : lw_okq (⟨"java/util/ArrayList", "grow", "()[Ljava/lang/Object;"⟩, 3) := ⟨⟨by decide +kernel, by decide +kernel⟩, List.mem_of_getElem? (i := 70) (by decide +kernel), List.mem_of_getElem? (i := 531) (by decide +kernel), List.mem_of_getElem? (i := 532) (by decide +kernel)⟩
def lw_privs_1 : List (MethodName × Nat) := [(⟨"PlainWords$Things", "add", "(III)V"⟩, 6), (⟨"PlainWords$Reader", "readSentence", "()Z"⟩, 6), (⟨"PlainWords$Reader", "readCond", "(I)LPlainWords$Cond;"⟩, 6), (⟨"PlainWords$Reader", "readAll", "(I)LPlainWords$Cond;"⟩, 6), (⟨"PlainWords$Reader", "readItem", "(I)LPlainWords$Cond;"⟩, 6), (⟨"PlainWords$Cond", "rowOf", "(I)[LPlainWords$Cond;"⟩, 7), (⟨"PlainWords$Reader", "readPassive", "()Z"⟩, 6), (⟨"PlainWords$Reader", "readActs", "()Z"⟩, 6), (⟨"PlainWords$Reader", "readAct", "()Z"⟩, 6), (⟨"PlainWords$Reader", "isTold", "(I)Z"⟩, 6), (⟨"PlainWords$Reader", "readMode", "()Z"⟩, 6), (⟨"PlainWords$Reader", "readWho", "()Z"⟩, 6), (⟨"PlainWords$Reader", "readActive", "()Z"⟩, 6), (⟨"PlainWords$Reader", "actsTold", "()[I"⟩, 6), (⟨"java/util/ArrayList", "add", "(Ljava/lang/Object;[Ljava/lang/Object;I)V"⟩, 3), (⟨"java/util/ArrayList", "grow", "()[Ljava/lang/Object;"⟩, 3)]
theorem lw_r1 : ∀ q ∈ lw_privs_1, lw_okq q := List.forall_mem_cons.mpr ⟨lw_p0, List.forall_mem_cons.mpr ⟨lw_p1, List.forall_mem_cons.mpr ⟨lw_p2, List.forall_mem_cons.mpr ⟨lw_p3, List.forall_mem_cons.mpr ⟨lw_p4, List.forall_mem_cons.mpr ⟨lw_p5, List.forall_mem_cons.mpr ⟨lw_p6, List.forall_mem_cons.mpr ⟨lw_p7, List.forall_mem_cons.mpr ⟨lw_p8, List.forall_mem_cons.mpr ⟨lw_p9, List.forall_mem_cons.mpr ⟨lw_p10, List.forall_mem_cons.mpr ⟨lw_p11, List.forall_mem_cons.mpr ⟨lw_p12, List.forall_mem_cons.mpr ⟨lw_p13, List.forall_mem_cons.mpr ⟨lw_p14, List.forall_mem_cons.mpr ⟨lw_p15, fun _ h => absurd h List.not_mem_nil⟩⟩⟩⟩⟩⟩⟩⟩⟩⟩⟩⟩⟩⟩⟩⟩
theorem lw_p16 : lw_okq (⟨"java/util/ArrayList", "grow", "(I)[Ljava/lang/Object;"⟩, 3) := ⟨⟨by decide +kernel, by decide +kernel⟩, List.mem_of_getElem? (i := 70) (by decide +kernel), List.mem_of_getElem? (i := 535) (by decide +kernel), List.mem_of_getElem? (i := 536) (by decide +kernel)⟩
theorem lw_p17 : lw_okq (⟨"java/lang/Throwable", "fillInStackTrace", "(I)Ljava/lang/Throwable;"⟩, 6) := ⟨⟨by decide +kernel, by decide +kernel⟩, List.mem_of_getElem? (i := 627) (by decide +kernel), List.mem_of_getElem? (i := 625) (by decide +kernel), List.mem_of_getElem? (i := 626) (by decide +kernel)⟩
theorem lw_p18 : lw_okq (⟨"PlainWords", "needSentence", "(I)V"⟩, 8) := ⟨⟨by decide +kernel, by decide +kernel⟩, List.mem_of_getElem? (i := 34) (by decide +kernel), List.mem_of_getElem? (i := 688) (by decide +kernel), List.mem_of_getElem? (i := 689) (by decide +kernel)⟩
theorem lw_p19 : lw_okq (⟨"PlainWords", "needLetter", "()V"⟩, 8) := ⟨⟨by decide +kernel, by decide +kernel⟩, List.mem_of_getElem? (i := 34) (by decide +kernel), List.mem_of_getElem? (i := 692) (by decide +kernel), List.mem_of_getElem? (i := 693) (by decide +kernel)⟩
theorem lw_p20 : lw_okq (⟨"java/util/ArrayList", "rangeCheckForAdd", "(I)V"⟩, 3) := ⟨⟨by decide +kernel, by decide +kernel⟩, List.mem_of_getElem? (i := 70) (by decide +kernel), List.mem_of_getElem? (i := 750) (by decide +kernel), List.mem_of_getElem? (i := 751) (by decide +kernel)⟩
theorem lw_p21 : lw_okq (⟨"java/util/ArrayList", "outOfBoundsMsg", "(I)Ljava/lang/String;"⟩, 3) := ⟨⟨by decide +kernel, by decide +kernel⟩, List.mem_of_getElem? (i := 70) (by decide +kernel), List.mem_of_getElem? (i := 755) (by decide +kernel), List.mem_of_getElem? (i := 756) (by decide +kernel)⟩
theorem lw_p22 : lw_okq (⟨"PlainWords", "tallied", "(Z)Z"⟩, 8) := ⟨⟨by decide +kernel, by decide +kernel⟩, List.mem_of_getElem? (i := 34) (by decide +kernel), List.mem_of_getElem? (i := 969) (by decide +kernel), List.mem_of_getElem? (i := 970) (by decide +kernel)⟩
theorem lw_p23 : lw_okq (⟨"java/util/ArrayList", "fastRemove", "([Ljava/lang/Object;I)V"⟩, 3) := ⟨⟨by decide +kernel, by decide +kernel⟩, List.mem_of_getElem? (i := 70) (by decide +kernel), List.mem_of_getElem? (i := 1009) (by decide +kernel), List.mem_of_getElem? (i := 1010) (by decide +kernel)⟩
theorem lw_p24 : lw_okq (⟨"PlainWords$Letter", "addPlainest", "(LPlainWords$Sentence;)V"⟩, 1) := ⟨⟨by decide +kernel, by decide +kernel⟩, List.mem_of_getElem? (i := 64) (by decide +kernel), List.mem_of_getElem? (i := 1070) (by decide +kernel), List.mem_of_getElem? (i := 1071) (by decide +kernel)⟩
theorem lw_p25 : lw_okq (⟨"PlainWords$Letter", "addWhole", "(LPlainWords$Sentence;Z)V"⟩, 1) := ⟨⟨by decide +kernel, by decide +kernel⟩, List.mem_of_getElem? (i := 64) (by decide +kernel), List.mem_of_getElem? (i := 1093) (by decide +kernel), List.mem_of_getElem? (i := 1094) (by decide +kernel)⟩
theorem lw_p26 : lw_okq (⟨"PlainWords", "chosen", "(Z)LPlainWords$Letter;"⟩, 8) := ⟨⟨by decide +kernel, by decide +kernel⟩, List.mem_of_getElem? (i := 34) (by decide +kernel), List.mem_of_getElem? (i := 1115) (by decide +kernel), List.mem_of_getElem? (i := 1116) (by decide +kernel)⟩
theorem lw_p27 : lw_okq (⟨"PlainWords$Letter", "casesAsking", "(LPlainWords$Sentence;I)J"⟩, 1) := ⟨⟨by decide +kernel, by decide +kernel⟩, List.mem_of_getElem? (i := 64) (by decide +kernel), List.mem_of_getElem? (i := 1160) (by decide +kernel), List.mem_of_getElem? (i := 1161) (by decide +kernel)⟩
theorem lw_p28 : lw_okq (⟨"PlainWords$Writer", "put", "(I)V"⟩, 3) := ⟨⟨by decide +kernel, by decide +kernel⟩, List.mem_of_getElem? (i := 146) (by decide +kernel), List.mem_of_getElem? (i := 1184) (by decide +kernel), List.mem_of_getElem? (i := 1185) (by decide +kernel)⟩
theorem lw_p29 : lw_okq (⟨"PlainWords$Writer", "writeSentence", "(LPlainWords$Sentence;)V"⟩, 3) := ⟨⟨by decide +kernel, by decide +kernel⟩, List.mem_of_getElem? (i := 146) (by decide +kernel), List.mem_of_getElem? (i := 1189) (by decide +kernel), List.mem_of_getElem? (i := 1190) (by decide +kernel)⟩
theorem lw_p30 : lw_okq (⟨"PlainWords$Writer", "writeWord", "(I)V"⟩, 3) := ⟨⟨by decide +kernel, by decide +kernel⟩, List.mem_of_getElem? (i := 146) (by decide +kernel), List.mem_of_getElem? (i := 1193) (by decide +kernel), List.mem_of_getElem? (i := 1194) (by decide +kernel)⟩
theorem lw_p31 : lw_okq (⟨"PlainWords$Writer", "blank", "()V"⟩, 3) := ⟨⟨by decide +kernel, by decide +kernel⟩, List.mem_of_getElem? (i := 146) (by decide +kernel), List.mem_of_getElem? (i := 1197) (by decide +kernel), List.mem_of_getElem? (i := 1198) (by decide +kernel)⟩
def lw_privs_2 : List (MethodName × Nat) := [(⟨"java/util/ArrayList", "grow", "(I)[Ljava/lang/Object;"⟩, 3), (⟨"java/lang/Throwable", "fillInStackTrace", "(I)Ljava/lang/Throwable;"⟩, 6), (⟨"PlainWords", "needSentence", "(I)V"⟩, 8), (⟨"PlainWords", "needLetter", "()V"⟩, 8), (⟨"java/util/ArrayList", "rangeCheckForAdd", "(I)V"⟩, 3), (⟨"java/util/ArrayList", "outOfBoundsMsg", "(I)Ljava/lang/String;"⟩, 3), (⟨"PlainWords", "tallied", "(Z)Z"⟩, 8), (⟨"java/util/ArrayList", "fastRemove", "([Ljava/lang/Object;I)V"⟩, 3), (⟨"PlainWords$Letter", "addPlainest", "(LPlainWords$Sentence;)V"⟩, 1), (⟨"PlainWords$Letter", "addWhole", "(LPlainWords$Sentence;Z)V"⟩, 1), (⟨"PlainWords", "chosen", "(Z)LPlainWords$Letter;"⟩, 8), (⟨"PlainWords$Letter", "casesAsking", "(LPlainWords$Sentence;I)J"⟩, 1), (⟨"PlainWords$Writer", "put", "(I)V"⟩, 3), (⟨"PlainWords$Writer", "writeSentence", "(LPlainWords$Sentence;)V"⟩, 3), (⟨"PlainWords$Writer", "writeWord", "(I)V"⟩, 3), (⟨"PlainWords$Writer", "blank", "()V"⟩, 3)]
theorem lw_r2 : ∀ q ∈ lw_privs_2, lw_okq q := List.forall_mem_cons.mpr ⟨lw_p16, List.forall_mem_cons.mpr ⟨lw_p17, List.forall_mem_cons.mpr ⟨lw_p18, List.forall_mem_cons.mpr ⟨lw_p19, List.forall_mem_cons.mpr ⟨lw_p20, List.forall_mem_cons.mpr ⟨lw_p21, List.forall_mem_cons.mpr ⟨lw_p22, List.forall_mem_cons.mpr ⟨lw_p23, List.forall_mem_cons.mpr ⟨lw_p24, List.forall_mem_cons.mpr ⟨lw_p25, List.forall_mem_cons.mpr ⟨lw_p26, List.forall_mem_cons.mpr ⟨lw_p27, List.forall_mem_cons.mpr ⟨lw_p28, List.forall_mem_cons.mpr ⟨lw_p29, List.forall_mem_cons.mpr ⟨lw_p30, List.forall_mem_cons.mpr ⟨lw_p31, fun _ h => absurd h List.not_mem_nil⟩⟩⟩⟩⟩⟩⟩⟩⟩⟩⟩⟩⟩⟩⟩⟩
theorem lw_p32 : lw_okq (⟨"PlainWords$Writer", "writeCond", "(LPlainWords$Cond;I)V"⟩, 3) := ⟨⟨by decide +kernel, by decide +kernel⟩, List.mem_of_getElem? (i := 146) (by decide +kernel), List.mem_of_getElem? (i := 1204) (by decide +kernel), List.mem_of_getElem? (i := 1205) (by decide +kernel)⟩
theorem lw_p33 : lw_okq (⟨"PlainWords$Writer", "writeNumber", "(I)V"⟩, 3) := ⟨⟨by decide +kernel, by decide +kernel⟩, List.mem_of_getElem? (i := 146) (by decide +kernel), List.mem_of_getElem? (i := 1208) (by decide +kernel), List.mem_of_getElem? (i := 1209) (by decide +kernel)⟩
theorem lw_p34 : lw_okq (⟨"PlainWords$Writer", "writePiece", "(LPlainWords$Cond;II)V"⟩, 3) := ⟨⟨by decide +kernel, by decide +kernel⟩, List.mem_of_getElem? (i := 146) (by decide +kernel), List.mem_of_getElem? (i := 1212) (by decide +kernel), List.mem_of_getElem? (i := 1213) (by decide +kernel)⟩
theorem lw_p35 : lw_okq (⟨"PlainWords$Writer", "writeActs", "([I)V"⟩, 3) := ⟨⟨by decide +kernel, by decide +kernel⟩, List.mem_of_getElem? (i := 146) (by decide +kernel), List.mem_of_getElem? (i := 1216) (by decide +kernel), List.mem_of_getElem? (i := 1217) (by decide +kernel)⟩
theorem lw_p36 : lw_okq (⟨"PlainWords$Writer", "writeMode", "(I)V"⟩, 3) := ⟨⟨by decide +kernel, by decide +kernel⟩, List.mem_of_getElem? (i := 146) (by decide +kernel), List.mem_of_getElem? (i := 1220) (by decide +kernel), List.mem_of_getElem? (i := 1221) (by decide +kernel)⟩
theorem lw_p37 : lw_okq (⟨"PlainWords$Writer", "writeDone", "(I)V"⟩, 3) := ⟨⟨by decide +kernel, by decide +kernel⟩, List.mem_of_getElem? (i := 146) (by decide +kernel), List.mem_of_getElem? (i := 1224) (by decide +kernel), List.mem_of_getElem? (i := 1225) (by decide +kernel)⟩
theorem lw_p38 : lw_okq (⟨"PlainWordsModel", "readAll", "()I"⟩, 33) := ⟨⟨by decide +kernel, by decide +kernel⟩, List.mem_of_getElem? (i := 1261) (by decide +kernel), List.mem_of_getElem? (i := 1385) (by decide +kernel), List.mem_of_getElem? (i := 1386) (by decide +kernel)⟩
theorem lw_p39 : lw_okq (⟨"PlainWordsModel", "readSentence", "(I)Z"⟩, 33) := ⟨⟨by decide +kernel, by decide +kernel⟩, List.mem_of_getElem? (i := 1261) (by decide +kernel), List.mem_of_getElem? (i := 1389) (by decide +kernel), List.mem_of_getElem? (i := 1390) (by decide +kernel)⟩
theorem lw_p40 : lw_okq (⟨"PlainWordsModel", "passes", "(Ljava/lang/String;)Z"⟩, 33) := ⟨⟨by decide +kernel, by decide +kernel⟩, List.mem_of_getElem? (i := 1261) (by decide +kernel), List.mem_of_getElem? (i := 1394) (by decide +kernel), List.mem_of_getElem? (i := 1395) (by decide +kernel)⟩
theorem lw_p41 : lw_okq (⟨"PlainWordsModel", "word", "()V"⟩, 33) := ⟨⟨by decide +kernel, by decide +kernel⟩, List.mem_of_getElem? (i := 1261) (by decide +kernel), List.mem_of_getElem? (i := 1398) (by decide +kernel), List.mem_of_getElem? (i := 1399) (by decide +kernel)⟩
theorem lw_p42 : lw_okq (⟨"PlainWordsModel", "blanks", "()V"⟩, 33) := ⟨⟨by decide +kernel, by decide +kernel⟩, List.mem_of_getElem? (i := 1261) (by decide +kernel), List.mem_of_getElem? (i := 1402) (by decide +kernel), List.mem_of_getElem? (i := 1403) (by decide +kernel)⟩
theorem lw_p43 : lw_okq (⟨"PlainWordsModel", "isAt", "(II)Z"⟩, 33) := ⟨⟨by decide +kernel, by decide +kernel⟩, List.mem_of_getElem? (i := 1261) (by decide +kernel), List.mem_of_getElem? (i := 1406) (by decide +kernel), List.mem_of_getElem? (i := 1407) (by decide +kernel)⟩
theorem lw_p44 : lw_okq (⟨"PlainWordsModel", "isWord", "(Ljava/lang/String;)Z"⟩, 33) := ⟨⟨by decide +kernel, by decide +kernel⟩, List.mem_of_getElem? (i := 1261) (by decide +kernel), List.mem_of_getElem? (i := 1410) (by decide +kernel), List.mem_of_getElem? (i := 1411) (by decide +kernel)⟩
theorem lw_p45 : lw_okq (⟨"PlainWordsModel", "readInto", "(I)Z"⟩, 33) := ⟨⟨by decide +kernel, by decide +kernel⟩, List.mem_of_getElem? (i := 1261) (by decide +kernel), List.mem_of_getElem? (i := 1416) (by decide +kernel), List.mem_of_getElem? (i := 1417) (by decide +kernel)⟩
theorem lw_p46 : lw_okq (⟨"PlainWordsModel", "readCond", "()I"⟩, 33) := ⟨⟨by decide +kernel, by decide +kernel⟩, List.mem_of_getElem? (i := 1261) (by decide +kernel), List.mem_of_getElem? (i := 1420) (by decide +kernel), List.mem_of_getElem? (i := 1421) (by decide +kernel)⟩
theorem lw_p47 : lw_okq (⟨"PlainWordsModel", "readAllOf", "()I"⟩, 33) := ⟨⟨by decide +kernel, by decide +kernel⟩, List.mem_of_getElem? (i := 1261) (by decide +kernel), List.mem_of_getElem? (i := 1424) (by decide +kernel), List.mem_of_getElem? (i := 1425) (by decide +kernel)⟩
def lw_privs_3 : List (MethodName × Nat) := [(⟨"PlainWords$Writer", "writeCond", "(LPlainWords$Cond;I)V"⟩, 3), (⟨"PlainWords$Writer", "writeNumber", "(I)V"⟩, 3), (⟨"PlainWords$Writer", "writePiece", "(LPlainWords$Cond;II)V"⟩, 3), (⟨"PlainWords$Writer", "writeActs", "([I)V"⟩, 3), (⟨"PlainWords$Writer", "writeMode", "(I)V"⟩, 3), (⟨"PlainWords$Writer", "writeDone", "(I)V"⟩, 3), (⟨"PlainWordsModel", "readAll", "()I"⟩, 33), (⟨"PlainWordsModel", "readSentence", "(I)Z"⟩, 33), (⟨"PlainWordsModel", "passes", "(Ljava/lang/String;)Z"⟩, 33), (⟨"PlainWordsModel", "word", "()V"⟩, 33), (⟨"PlainWordsModel", "blanks", "()V"⟩, 33), (⟨"PlainWordsModel", "isAt", "(II)Z"⟩, 33), (⟨"PlainWordsModel", "isWord", "(Ljava/lang/String;)Z"⟩, 33), (⟨"PlainWordsModel", "readInto", "(I)Z"⟩, 33), (⟨"PlainWordsModel", "readCond", "()I"⟩, 33), (⟨"PlainWordsModel", "readAllOf", "()I"⟩, 33)]
theorem lw_r3 : ∀ q ∈ lw_privs_3, lw_okq q := List.forall_mem_cons.mpr ⟨lw_p32, List.forall_mem_cons.mpr ⟨lw_p33, List.forall_mem_cons.mpr ⟨lw_p34, List.forall_mem_cons.mpr ⟨lw_p35, List.forall_mem_cons.mpr ⟨lw_p36, List.forall_mem_cons.mpr ⟨lw_p37, List.forall_mem_cons.mpr ⟨lw_p38, List.forall_mem_cons.mpr ⟨lw_p39, List.forall_mem_cons.mpr ⟨lw_p40, List.forall_mem_cons.mpr ⟨lw_p41, List.forall_mem_cons.mpr ⟨lw_p42, List.forall_mem_cons.mpr ⟨lw_p43, List.forall_mem_cons.mpr ⟨lw_p44, List.forall_mem_cons.mpr ⟨lw_p45, List.forall_mem_cons.mpr ⟨lw_p46, List.forall_mem_cons.mpr ⟨lw_p47, fun _ h => absurd h List.not_mem_nil⟩⟩⟩⟩⟩⟩⟩⟩⟩⟩⟩⟩⟩⟩⟩⟩
theorem lw_p48 : lw_okq (⟨"PlainWordsModel", "readItem", "()I"⟩, 33) := ⟨⟨by decide +kernel, by decide +kernel⟩, List.mem_of_getElem? (i := 1261) (by decide +kernel), List.mem_of_getElem? (i := 1428) (by decide +kernel), List.mem_of_getElem? (i := 1429) (by decide +kernel)⟩
theorem lw_p49 : lw_okq (⟨"PlainWordsModel", "sign", "(I)Z"⟩, 33) := ⟨⟨by decide +kernel, by decide +kernel⟩, List.mem_of_getElem? (i := 1261) (by decide +kernel), List.mem_of_getElem? (i := 1432) (by decide +kernel), List.mem_of_getElem? (i := 1433) (by decide +kernel)⟩
theorem lw_p50 : lw_okq (⟨"PlainWordsModel", "place", "(I)I"⟩, 33) := ⟨⟨by decide +kernel, by decide +kernel⟩, List.mem_of_getElem? (i := 1261) (by decide +kernel), List.mem_of_getElem? (i := 1437) (by decide +kernel), List.mem_of_getElem? (i := 1438) (by decide +kernel)⟩
theorem lw_p51 : lw_okq (⟨"PlainWordsModel", "puts", "(II)V"⟩, 33) := ⟨⟨by decide +kernel, by decide +kernel⟩, List.mem_of_getElem? (i := 1261) (by decide +kernel), List.mem_of_getElem? (i := 1441) (by decide +kernel), List.mem_of_getElem? (i := 1442) (by decide +kernel)⟩
theorem lw_p52 : lw_okq (⟨"PlainWordsModel", "number", "(II)I"⟩, 33) := ⟨⟨by decide +kernel, by decide +kernel⟩, List.mem_of_getElem? (i := 1261) (by decide +kernel), List.mem_of_getElem? (i := 1446) (by decide +kernel), List.mem_of_getElem? (i := 1447) (by decide +kernel)⟩
theorem lw_p53 : lw_okq (⟨"PlainWordsModel", "laysAll", "(II)V"⟩, 33) := ⟨⟨by decide +kernel, by decide +kernel⟩, List.mem_of_getElem? (i := 1261) (by decide +kernel), List.mem_of_getElem? (i := 1452) (by decide +kernel), List.mem_of_getElem? (i := 1453) (by decide +kernel)⟩
theorem lw_p54 : lw_okq (⟨"PlainWordsModel", "lays", "(II)V"⟩, 33) := ⟨⟨by decide +kernel, by decide +kernel⟩, List.mem_of_getElem? (i := 1261) (by decide +kernel), List.mem_of_getElem? (i := 1456) (by decide +kernel), List.mem_of_getElem? (i := 1457) (by decide +kernel)⟩
theorem lw_p55 : lw_okq (⟨"PlainWordsModel", "size", "(II)I"⟩, 33) := ⟨⟨by decide +kernel, by decide +kernel⟩, List.mem_of_getElem? (i := 1261) (by decide +kernel), List.mem_of_getElem? (i := 1460) (by decide +kernel), List.mem_of_getElem? (i := 1461) (by decide +kernel)⟩
theorem lw_p56 : lw_okq (⟨"PlainWordsModel", "laysThose", "(III)V"⟩, 33) := ⟨⟨by decide +kernel, by decide +kernel⟩, List.mem_of_getElem? (i := 1261) (by decide +kernel), List.mem_of_getElem? (i := 1464) (by decide +kernel), List.mem_of_getElem? (i := 1465) (by decide +kernel)⟩
theorem lw_p57 : lw_okq (⟨"PlainWordsModel", "readBody", "(I)Z"⟩, 33) := ⟨⟨by decide +kernel, by decide +kernel⟩, List.mem_of_getElem? (i := 1261) (by decide +kernel), List.mem_of_getElem? (i := 1468) (by decide +kernel), List.mem_of_getElem? (i := 1469) (by decide +kernel)⟩
theorem lw_p58 : lw_okq (⟨"PlainWordsModel", "readWho", "()I"⟩, 33) := ⟨⟨by decide +kernel, by decide +kernel⟩, List.mem_of_getElem? (i := 1261) (by decide +kernel), List.mem_of_getElem? (i := 1472) (by decide +kernel), List.mem_of_getElem? (i := 1473) (by decide +kernel)⟩
theorem lw_p59 : lw_okq (⟨"PlainWordsModel", "readMode", "(I)Z"⟩, 33) := ⟨⟨by decide +kernel, by decide +kernel⟩, List.mem_of_getElem? (i := 1261) (by decide +kernel), List.mem_of_getElem? (i := 1479) (by decide +kernel), List.mem_of_getElem? (i := 1480) (by decide +kernel)⟩
theorem lw_p60 : lw_okq (⟨"PlainWordsModel", "readActs", "(IZ)Z"⟩, 33) := ⟨⟨by decide +kernel, by decide +kernel⟩, List.mem_of_getElem? (i := 1261) (by decide +kernel), List.mem_of_getElem? (i := 1485) (by decide +kernel), List.mem_of_getElem? (i := 1486) (by decide +kernel)⟩
theorem lw_p61 : lw_okq (⟨"PlainWordsModel", "throwsIf", "(ZI)Z"⟩, 33) := ⟨⟨by decide +kernel, by decide +kernel⟩, List.mem_of_getElem? (i := 1261) (by decide +kernel), List.mem_of_getElem? (i := 1495) (by decide +kernel), List.mem_of_getElem? (i := 1496) (by decide +kernel)⟩
theorem lw_p62 : lw_okq (⟨"PlainWordsModel", "copies", "(II)V"⟩, 33) := ⟨⟨by decide +kernel, by decide +kernel⟩, List.mem_of_getElem? (i := 1261) (by decide +kernel), List.mem_of_getElem? (i := 1499) (by decide +kernel), List.mem_of_getElem? (i := 1500) (by decide +kernel)⟩
theorem lw_p63 : lw_okq (⟨"PlainWordsModel", "renews", "()V"⟩, 33) := ⟨⟨by decide +kernel, by decide +kernel⟩, List.mem_of_getElem? (i := 1261) (by decide +kernel), List.mem_of_getElem? (i := 1503) (by decide +kernel), List.mem_of_getElem? (i := 1504) (by decide +kernel)⟩
def lw_privs_4 : List (MethodName × Nat) := [(⟨"PlainWordsModel", "readItem", "()I"⟩, 33), (⟨"PlainWordsModel", "sign", "(I)Z"⟩, 33), (⟨"PlainWordsModel", "place", "(I)I"⟩, 33), (⟨"PlainWordsModel", "puts", "(II)V"⟩, 33), (⟨"PlainWordsModel", "number", "(II)I"⟩, 33), (⟨"PlainWordsModel", "laysAll", "(II)V"⟩, 33), (⟨"PlainWordsModel", "lays", "(II)V"⟩, 33), (⟨"PlainWordsModel", "size", "(II)I"⟩, 33), (⟨"PlainWordsModel", "laysThose", "(III)V"⟩, 33), (⟨"PlainWordsModel", "readBody", "(I)Z"⟩, 33), (⟨"PlainWordsModel", "readWho", "()I"⟩, 33), (⟨"PlainWordsModel", "readMode", "(I)Z"⟩, 33), (⟨"PlainWordsModel", "readActs", "(IZ)Z"⟩, 33), (⟨"PlainWordsModel", "throwsIf", "(ZI)Z"⟩, 33), (⟨"PlainWordsModel", "copies", "(II)V"⟩, 33), (⟨"PlainWordsModel", "renews", "()V"⟩, 33)]
theorem lw_r4 : ∀ q ∈ lw_privs_4, lw_okq q := List.forall_mem_cons.mpr ⟨lw_p48, List.forall_mem_cons.mpr ⟨lw_p49, List.forall_mem_cons.mpr ⟨lw_p50, List.forall_mem_cons.mpr ⟨lw_p51, List.forall_mem_cons.mpr ⟨lw_p52, List.forall_mem_cons.mpr ⟨lw_p53, List.forall_mem_cons.mpr ⟨lw_p54, List.forall_mem_cons.mpr ⟨lw_p55, List.forall_mem_cons.mpr ⟨lw_p56, List.forall_mem_cons.mpr ⟨lw_p57, List.forall_mem_cons.mpr ⟨lw_p58, List.forall_mem_cons.mpr ⟨lw_p59, List.forall_mem_cons.mpr ⟨lw_p60, List.forall_mem_cons.mpr ⟨lw_p61, List.forall_mem_cons.mpr ⟨lw_p62, List.forall_mem_cons.mpr ⟨lw_p63, fun _ h => absurd h List.not_mem_nil⟩⟩⟩⟩⟩⟩⟩⟩⟩⟩⟩⟩⟩⟩⟩⟩
theorem lw_p64 : lw_okq (⟨"PlainWordsModel", "costOfAll", "(II)I"⟩, 33) := ⟨⟨by decide +kernel, by decide +kernel⟩, List.mem_of_getElem? (i := 1261) (by decide +kernel), List.mem_of_getElem? (i := 1515) (by decide +kernel), List.mem_of_getElem? (i := 1516) (by decide +kernel)⟩
theorem lw_p65 : lw_okq (⟨"PlainWordsModel", "costOf", "(I)I"⟩, 33) := ⟨⟨by decide +kernel, by decide +kernel⟩, List.mem_of_getElem? (i := 1261) (by decide +kernel), List.mem_of_getElem? (i := 1519) (by decide +kernel), List.mem_of_getElem? (i := 1520) (by decide +kernel)⟩
theorem lw_p66 : lw_okq (⟨"PlainWordsModel", "wordsOf", "(I)I"⟩, 33) := ⟨⟨by decide +kernel, by decide +kernel⟩, List.mem_of_getElem? (i := 1261) (by decide +kernel), List.mem_of_getElem? (i := 1523) (by decide +kernel), List.mem_of_getElem? (i := 1524) (by decide +kernel)⟩
theorem lw_p67 : lw_okq (⟨"PlainWordsModel", "putSentence", "(I)V"⟩, 33) := ⟨⟨by decide +kernel, by decide +kernel⟩, List.mem_of_getElem? (i := 1261) (by decide +kernel), List.mem_of_getElem? (i := 1527) (by decide +kernel), List.mem_of_getElem? (i := 1528) (by decide +kernel)⟩
theorem lw_p68 : lw_okq (⟨"PlainWordsModel", "putWord", "(Ljava/lang/String;)V"⟩, 33) := ⟨⟨by decide +kernel, by decide +kernel⟩, List.mem_of_getElem? (i := 1261) (by decide +kernel), List.mem_of_getElem? (i := 1531) (by decide +kernel), List.mem_of_getElem? (i := 1532) (by decide +kernel)⟩
theorem lw_p69 : lw_okq (⟨"PlainWordsModel", "put", "(Ljava/lang/String;Z)V"⟩, 33) := ⟨⟨by decide +kernel, by decide +kernel⟩, List.mem_of_getElem? (i := 1261) (by decide +kernel), List.mem_of_getElem? (i := 1535) (by decide +kernel), List.mem_of_getElem? (i := 1536) (by decide +kernel)⟩
theorem lw_p70 : lw_okq (⟨"PlainWordsModel", "putCond", "(II)V"⟩, 33) := ⟨⟨by decide +kernel, by decide +kernel⟩, List.mem_of_getElem? (i := 1261) (by decide +kernel), List.mem_of_getElem? (i := 1539) (by decide +kernel), List.mem_of_getElem? (i := 1540) (by decide +kernel)⟩
theorem lw_p71 : lw_okq (⟨"PlainWordsModel", "putNumber", "(I)V"⟩, 33) := ⟨⟨by decide +kernel, by decide +kernel⟩, List.mem_of_getElem? (i := 1261) (by decide +kernel), List.mem_of_getElem? (i := 1543) (by decide +kernel), List.mem_of_getElem? (i := 1544) (by decide +kernel)⟩
theorem lw_p72 : lw_okq (⟨"PlainWordsModel", "putOpen", "()V"⟩, 33) := ⟨⟨by decide +kernel, by decide +kernel⟩, List.mem_of_getElem? (i := 1261) (by decide +kernel), List.mem_of_getElem? (i := 1547) (by decide +kernel), List.mem_of_getElem? (i := 1548) (by decide +kernel)⟩
theorem lw_p73 : lw_okq (⟨"PlainWordsModel", "putActs", "(I)V"⟩, 33) := ⟨⟨by decide +kernel, by decide +kernel⟩, List.mem_of_getElem? (i := 1261) (by decide +kernel), List.mem_of_getElem? (i := 1554) (by decide +kernel), List.mem_of_getElem? (i := 1555) (by decide +kernel)⟩
theorem lw_p74 : lw_okq (⟨"PlainWordsModel", "putMode", "(I)V"⟩, 33) := ⟨⟨by decide +kernel, by decide +kernel⟩, List.mem_of_getElem? (i := 1261) (by decide +kernel), List.mem_of_getElem? (i := 1558) (by decide +kernel), List.mem_of_getElem? (i := 1559) (by decide +kernel)⟩
theorem lw_p75 : lw_okq (⟨"PlainWordsModel", "putWho", "(I)V"⟩, 33) := ⟨⟨by decide +kernel, by decide +kernel⟩, List.mem_of_getElem? (i := 1261) (by decide +kernel), List.mem_of_getElem? (i := 1562) (by decide +kernel), List.mem_of_getElem? (i := 1563) (by decide +kernel)⟩
theorem lw_p76 : lw_okq (⟨"PlainWordsModel", "notsOf", "(I)I"⟩, 33) := ⟨⟨by decide +kernel, by decide +kernel⟩, List.mem_of_getElem? (i := 1261) (by decide +kernel), List.mem_of_getElem? (i := 1566) (by decide +kernel), List.mem_of_getElem? (i := 1567) (by decide +kernel)⟩
theorem lw_p77 : lw_okq (⟨"PlainWordsModel", "refuses", "(I)Z"⟩, 33) := ⟨⟨by decide +kernel, by decide +kernel⟩, List.mem_of_getElem? (i := 1261) (by decide +kernel), List.mem_of_getElem? (i := 1586) (by decide +kernel), List.mem_of_getElem? (i := 1587) (by decide +kernel)⟩
theorem lw_p78 : lw_okq (⟨"PlainWordsModel", "noSentence", "(I)Z"⟩, 33) := ⟨⟨by decide +kernel, by decide +kernel⟩, List.mem_of_getElem? (i := 1261) (by decide +kernel), List.mem_of_getElem? (i := 1590) (by decide +kernel), List.mem_of_getElem? (i := 1591) (by decide +kernel)⟩
theorem lw_p79 : lw_okq (⟨"PlainWordsModel", "areAlike", "(II)Z"⟩, 33) := ⟨⟨by decide +kernel, by decide +kernel⟩, List.mem_of_getElem? (i := 1261) (by decide +kernel), List.mem_of_getElem? (i := 1598) (by decide +kernel), List.mem_of_getElem? (i := 1599) (by decide +kernel)⟩
def lw_privs_5 : List (MethodName × Nat) := [(⟨"PlainWordsModel", "costOfAll", "(II)I"⟩, 33), (⟨"PlainWordsModel", "costOf", "(I)I"⟩, 33), (⟨"PlainWordsModel", "wordsOf", "(I)I"⟩, 33), (⟨"PlainWordsModel", "putSentence", "(I)V"⟩, 33), (⟨"PlainWordsModel", "putWord", "(Ljava/lang/String;)V"⟩, 33), (⟨"PlainWordsModel", "put", "(Ljava/lang/String;Z)V"⟩, 33), (⟨"PlainWordsModel", "putCond", "(II)V"⟩, 33), (⟨"PlainWordsModel", "putNumber", "(I)V"⟩, 33), (⟨"PlainWordsModel", "putOpen", "()V"⟩, 33), (⟨"PlainWordsModel", "putActs", "(I)V"⟩, 33), (⟨"PlainWordsModel", "putMode", "(I)V"⟩, 33), (⟨"PlainWordsModel", "putWho", "(I)V"⟩, 33), (⟨"PlainWordsModel", "notsOf", "(I)I"⟩, 33), (⟨"PlainWordsModel", "refuses", "(I)Z"⟩, 33), (⟨"PlainWordsModel", "noSentence", "(I)Z"⟩, 33), (⟨"PlainWordsModel", "areAlike", "(II)Z"⟩, 33)]
theorem lw_r5 : ∀ q ∈ lw_privs_5, lw_okq q := List.forall_mem_cons.mpr ⟨lw_p64, List.forall_mem_cons.mpr ⟨lw_p65, List.forall_mem_cons.mpr ⟨lw_p66, List.forall_mem_cons.mpr ⟨lw_p67, List.forall_mem_cons.mpr ⟨lw_p68, List.forall_mem_cons.mpr ⟨lw_p69, List.forall_mem_cons.mpr ⟨lw_p70, List.forall_mem_cons.mpr ⟨lw_p71, List.forall_mem_cons.mpr ⟨lw_p72, List.forall_mem_cons.mpr ⟨lw_p73, List.forall_mem_cons.mpr ⟨lw_p74, List.forall_mem_cons.mpr ⟨lw_p75, List.forall_mem_cons.mpr ⟨lw_p76, List.forall_mem_cons.mpr ⟨lw_p77, List.forall_mem_cons.mpr ⟨lw_p78, List.forall_mem_cons.mpr ⟨lw_p79, fun _ h => absurd h List.not_mem_nil⟩⟩⟩⟩⟩⟩⟩⟩⟩⟩⟩⟩⟩⟩⟩⟩
theorem lw_p80 : lw_okq (⟨"PlainWordsModel", "turnsRound", "(I)Z"⟩, 33) := ⟨⟨by decide +kernel, by decide +kernel⟩, List.mem_of_getElem? (i := 1261) (by decide +kernel), List.mem_of_getElem? (i := 1606) (by decide +kernel), List.mem_of_getElem? (i := 1607) (by decide +kernel)⟩
theorem lw_p81 : lw_okq (⟨"PlainWordsModel", "eases", "(I)Z"⟩, 33) := ⟨⟨by decide +kernel, by decide +kernel⟩, List.mem_of_getElem? (i := 1261) (by decide +kernel), List.mem_of_getElem? (i := 1614) (by decide +kernel), List.mem_of_getElem? (i := 1615) (by decide +kernel)⟩
theorem lw_p82 : lw_okq (⟨"PlainWordsModel", "treeOf", "(I)I"⟩, 33) := ⟨⟨by decide +kernel, by decide +kernel⟩, List.mem_of_getElem? (i := 1261) (by decide +kernel), List.mem_of_getElem? (i := 1618) (by decide +kernel), List.mem_of_getElem? (i := 1619) (by decide +kernel)⟩
theorem lw_p83 : lw_okq (⟨"PlainWordsModel", "tree", "(I)I"⟩, 33) := ⟨⟨by decide +kernel, by decide +kernel⟩, List.mem_of_getElem? (i := 1261) (by decide +kernel), List.mem_of_getElem? (i := 1622) (by decide +kernel), List.mem_of_getElem? (i := 1623) (by decide +kernel)⟩
theorem lw_p84 : lw_okq (⟨"PlainWordsModel", "eased", "(I)I"⟩, 33) := ⟨⟨by decide +kernel, by decide +kernel⟩, List.mem_of_getElem? (i := 1261) (by decide +kernel), List.mem_of_getElem? (i := 1626) (by decide +kernel), List.mem_of_getElem? (i := 1627) (by decide +kernel)⟩
theorem lw_p85 : lw_okq (⟨"PlainWordsModel", "tries", "(II)I"⟩, 33) := ⟨⟨by decide +kernel, by decide +kernel⟩, List.mem_of_getElem? (i := 1261) (by decide +kernel), List.mem_of_getElem? (i := 1638) (by decide +kernel), List.mem_of_getElem? (i := 1639) (by decide +kernel)⟩
theorem lw_p86 : lw_okq (⟨"PlainWordsModel", "isWithin", "(IIII)Z"⟩, 33) := ⟨⟨by decide +kernel, by decide +kernel⟩, List.mem_of_getElem? (i := 1261) (by decide +kernel), List.mem_of_getElem? (i := 1650) (by decide +kernel), List.mem_of_getElem? (i := 1651) (by decide +kernel)⟩
theorem lw_p87 : lw_okq (⟨"PlainWordsModel", "counts", "(II)Z"⟩, 33) := ⟨⟨by decide +kernel, by decide +kernel⟩, List.mem_of_getElem? (i := 1261) (by decide +kernel), List.mem_of_getElem? (i := 1654) (by decide +kernel), List.mem_of_getElem? (i := 1655) (by decide +kernel)⟩
theorem lw_p88 : lw_okq (⟨"PlainWordsModel", "isSo", "(II)Z"⟩, 33) := ⟨⟨by decide +kernel, by decide +kernel⟩, List.mem_of_getElem? (i := 1261) (by decide +kernel), List.mem_of_getElem? (i := 1658) (by decide +kernel), List.mem_of_getElem? (i := 1659) (by decide +kernel)⟩
theorem lw_p89 : lw_okq (⟨"PlainWordsModel", "asks", "(IIIIIII)Z"⟩, 33) := ⟨⟨by decide +kernel, by decide +kernel⟩, List.mem_of_getElem? (i := 1261) (by decide +kernel), List.mem_of_getElem? (i := 1662) (by decide +kernel), List.mem_of_getElem? (i := 1663) (by decide +kernel)⟩
theorem lw_p90 : lw_okq (⟨"PlainWordsModel", "hasAct", "(II)Z"⟩, 33) := ⟨⟨by decide +kernel, by decide +kernel⟩, List.mem_of_getElem? (i := 1261) (by decide +kernel), List.mem_of_getElem? (i := 1666) (by decide +kernel), List.mem_of_getElem? (i := 1667) (by decide +kernel)⟩
def lw_privs_6 : List (MethodName × Nat) := [(⟨"PlainWordsModel", "turnsRound", "(I)Z"⟩, 33), (⟨"PlainWordsModel", "eases", "(I)Z"⟩, 33), (⟨"PlainWordsModel", "treeOf", "(I)I"⟩, 33), (⟨"PlainWordsModel", "tree", "(I)I"⟩, 33), (⟨"PlainWordsModel", "eased", "(I)I"⟩, 33), (⟨"PlainWordsModel", "tries", "(II)I"⟩, 33), (⟨"PlainWordsModel", "isWithin", "(IIII)Z"⟩, 33), (⟨"PlainWordsModel", "counts", "(II)Z"⟩, 33), (⟨"PlainWordsModel", "isSo", "(II)Z"⟩, 33), (⟨"PlainWordsModel", "asks", "(IIIIIII)Z"⟩, 33), (⟨"PlainWordsModel", "hasAct", "(II)Z"⟩, 33)]
theorem lw_r6 : ∀ q ∈ lw_privs_6, lw_okq q := List.forall_mem_cons.mpr ⟨lw_p80, List.forall_mem_cons.mpr ⟨lw_p81, List.forall_mem_cons.mpr ⟨lw_p82, List.forall_mem_cons.mpr ⟨lw_p83, List.forall_mem_cons.mpr ⟨lw_p84, List.forall_mem_cons.mpr ⟨lw_p85, List.forall_mem_cons.mpr ⟨lw_p86, List.forall_mem_cons.mpr ⟨lw_p87, List.forall_mem_cons.mpr ⟨lw_p88, List.forall_mem_cons.mpr ⟨lw_p89, List.forall_mem_cons.mpr ⟨lw_p90, fun _ h => absurd h List.not_mem_nil⟩⟩⟩⟩⟩⟩⟩⟩⟩⟩⟩
def lw_privs : List (MethodName × Nat) := lw_privs_1 ++ (lw_privs_2 ++ (lw_privs_3 ++ (lw_privs_4 ++ (lw_privs_5 ++ (lw_privs_6)))))
def lw_tbl : List Cond := k2_sels lw_privs ++ tables_1
theorem lw_privs_ok : ∀ q ∈ lw_privs, lw_okq q := by
  show ∀ q ∈ lw_privs_1 ++ (lw_privs_2 ++ (lw_privs_3 ++ (lw_privs_4 ++ (lw_privs_5 ++ (lw_privs_6))))), lw_okq q
  exact List.forall_mem_append.mpr ⟨lw_r1, List.forall_mem_append.mpr ⟨lw_r2, List.forall_mem_append.mpr ⟨lw_r3, List.forall_mem_append.mpr ⟨lw_r4, List.forall_mem_append.mpr ⟨lw_r5, lw_r6⟩⟩⟩⟩⟩
end
section
/-! ===== BEGIN words of one list among another's, by their places ===== -/
theorem goodIn_r {big : List Cond} (ws : List Cond) (ps : List Nat) (hp : ws = ps.filterMap (fun i => big[i]?)) (h : ws.all goodWord = true) : GoodIn big ws := by
  intro w hw
  have h1 := List.all_eq_true.mp h w hw
  rw [hp] at hw
  obtain ⟨i, -, hi⟩ := List.mem_filterMap.mp hw
  have hm : w ∈ big := by first | exact List.mem_of_getElem? hi | exact List.getElem?_mem hi
  exact ⟨hm, good_of_word h1⟩
theorem goodIn_app {big a b : List Cond} (ha : GoodIn big a) (hb : GoodIn big b) : GoodIn big (a ++ b) := fun w h => (List.mem_append.mp h).elim (ha w) (hb w)
theorem goodIn_ca {big a b : List Cond} {c : Cond} (ha : GoodIn big (c :: a)) (hb : GoodIn big b) : GoodIn big (c :: (a ++ b)) := fun w h => (List.mem_cons.mp h).elim (fun e => ha w (List.mem_cons.mpr (Or.inl e))) (fun h => (List.mem_append.mp h).elim (fun h => ha w (List.mem_cons.mpr (Or.inr h))) (hb w))
theorem goodIn_sub {big ws : List Cond} (hm : ∀ w ∈ ws, w ∈ big) (h : ws.all goodWord = true) : GoodIn big ws := fun w hw => ⟨hm w hw, good_of_word (List.all_eq_true.mp h w hw)⟩
/-! ===== END ===== -/
def RX0 : String := "PlainWords$Cond"
def TX0 : u_T := fun k => match k with
  | 0 => ("PlainWords$Cond", "kind", "I", true)
  | 1 => ("PlainWords$Cond", "number", "I", true)
  | 2 => ("PlainWords$Cond", "pieces", "[LPlainWords$Cond;", true)
  | 3 => ("PlainWords$Cond", "truth", "J", true)
  | 4 => ("PlainWords$Cond", "words", "I", true)
  | 5 => ("PlainWords$Cond", "nots", "I", true)
  | _ => ("PlainWords$Cond", "notNot", "Z", true)
def tyX0 : Nat → FieldType := fun k => match k with
  | 0 => .int
  | 1 => .int
  | 2 => .array (.object "PlainWords$Cond")
  | 3 => .long
  | 4 => .int
  | 5 => .int
  | _ => .boolean
abbrev wsX00 : List Cond := u_ws RX0 TX0 7
theorem nmX0 : ∀ a, a < 7 → ∀ b, b < 7 → a ≠ b → (TX0 a).2.1 ≠ (TX0 b).2.1 := by decide +kernel
theorem tyX0_ok : ∀ k, k < 7 → parseFieldDescriptor (TX0 k).2.2.1 = some (tyX0 k) := by decide +kernel
abbrev cX0_init : ByteArray := prog_2_method_1_code
def yX0_init : MethodName := ⟨RX0, "<init>", "(I)V"⟩
abbrev cX0_init_ : ByteArray := prog_2_method_2_code
def yX0_init_ : MethodName := ⟨RX0, "<init>", "(I[LPlainWords$Cond;)V"⟩
abbrev cX0_ofCase : ByteArray := prog_2_method_3_code
def yX0_ofCase : MethodName := ⟨RX0, "ofCase", "(I)LPlainWords$Cond;"⟩
abbrev cX0_negated : ByteArray := prog_2_method_4_code
def yX0_negated : MethodName := ⟨RX0, "negated", "(LPlainWords$Cond;)LPlainWords$Cond;"⟩
abbrev cX0_joined : ByteArray := prog_2_method_5_code
def yX0_joined : MethodName := ⟨RX0, "joined", "(ILPlainWords$Cond;LPlainWords$Cond;)LPlainWords$Cond;"⟩
abbrev cX0_rowOf : ByteArray := prog_2_method_6_code
def yX0_rowOf : MethodName := ⟨RX0, "rowOf", "(I)[LPlainWords$Cond;"⟩
abbrev cX0_eased : ByteArray := prog_2_method_7_code
def yX0_eased : MethodName := ⟨RX0, "eased", "(LPlainWords$Cond;I)LPlainWords$Cond;"⟩
abbrev cX0_alike : ByteArray := prog_2_method_8_code
def yX0_alike : MethodName := ⟨RX0, "alike", "(LPlainWords$Cond;LPlainWords$Cond;I)Z"⟩
def RX1 : String := "PlainWords$Letter"
def TX1 : u_T := fun k => match k with
  | _ => ("PlainWords$Letter", "sentences", "Ljava/util/ArrayList;", true)
def tyX1 : Nat → FieldType := fun k => match k with
  | _ => .object "java/util/ArrayList"
abbrev wsX10 : List Cond := u_ws RX1 TX1 1
theorem nmX1 : ∀ a, a < 1 → ∀ b, b < 1 → a ≠ b → (TX1 a).2.1 ≠ (TX1 b).2.1 := by decide +kernel
theorem tyX1_ok : ∀ k, k < 1 → parseFieldDescriptor (TX1 k).2.2.1 = some (tyX1 k) := by decide +kernel
abbrev cX1_init : ByteArray := prog_3_method_1_code
def yX1_init : MethodName := ⟨RX1, "<init>", "()V"⟩
abbrev cX1_size : ByteArray := prog_3_method_2_code
def yX1_size : MethodName := ⟨RX1, "size", "()I"⟩
abbrev cX1_at : ByteArray := prog_3_method_3_code
def yX1_at : MethodName := ⟨RX1, "at", "(I)LPlainWords$Sentence;"⟩
abbrev cX1_clear : ByteArray := prog_3_method_4_code
def yX1_clear : MethodName := ⟨RX1, "clear", "()V"⟩
abbrev cX1_add : ByteArray := prog_3_method_5_code
def yX1_add : MethodName := ⟨RX1, "add", "(LPlainWords$Sentence;)V"⟩
abbrev cX1_become : ByteArray := prog_3_method_6_code
def yX1_become : MethodName := ⟨RX1, "become", "(LPlainWords$Letter;)V"⟩
abbrev cX1_partAt : ByteArray := prog_3_method_7_code
def yX1_partAt : MethodName := ⟨RX1, "partAt", "(I)Z"⟩
abbrev cX1_meltAt : ByteArray := prog_3_method_8_code
def yX1_meltAt : MethodName := ⟨RX1, "meltAt", "(I)Z"⟩
abbrev cX1_turnAt : ByteArray := prog_3_method_9_code
def yX1_turnAt : MethodName := ⟨RX1, "turnAt", "(I)Z"⟩
abbrev cX1_easeAt : ByteArray := prog_3_method_10_code
def yX1_easeAt : MethodName := ⟨RX1, "easeAt", "(I)Z"⟩
abbrev cX1_price : ByteArray := prog_3_method_11_code
def yX1_price : MethodName := ⟨RX1, "price", "()I"⟩
abbrev cX1_becomePlainest : ByteArray := prog_3_method_12_code
def yX1_becomePlainest : MethodName := ⟨RX1, "becomePlainest", "(LPlainWords$Letter;)V"⟩
abbrev cX1_addPlainest : ByteArray := prog_3_method_13_code
def yX1_addPlainest : MethodName := ⟨RX1, "addPlainest", "(LPlainWords$Sentence;)V"⟩
abbrev cX1_addWhole : ByteArray := prog_3_method_14_code
def yX1_addWhole : MethodName := ⟨RX1, "addWhole", "(LPlainWords$Sentence;Z)V"⟩
abbrev cX1_isWithin : ByteArray := prog_3_method_15_code
def yX1_isWithin : MethodName := ⟨RX1, "isWithin", "(LPlainWords$Letter;)Z"⟩
abbrev cX1_casesAsking : ByteArray := prog_3_method_16_code
def yX1_casesAsking : MethodName := ⟨RX1, "casesAsking", "(LPlainWords$Sentence;I)J"⟩
abbrev cX1_modesAsked : ByteArray := prog_3_method_17_code
def yX1_modesAsked : MethodName := ⟨RX1, "modesAsked", "(III)I"⟩
abbrev cX1_leastDays : ByteArray := prog_3_method_18_code
def yX1_leastDays : MethodName := ⟨RX1, "leastDays", "(III)I"⟩
def RX2 : String := "PlainWords$Reader"
def TX2 : u_T := fun k => match k with
  | 0 => ("PlainWords$Reader", "draft", "LPlainWords$Letter;", true)
  | 1 => ("PlainWords$Reader", "things", "LPlainWords$Things;", true)
  | 2 => ("PlainWords$Reader", "who", "I", false)
  | 3 => ("PlainWords$Reader", "mode", "I", false)
  | 4 => ("PlainWords$Reader", "acts", "[I", true)
  | _ => ("PlainWords$Reader", "actsRead", "I", false)
def tyX2 : Nat → FieldType := fun k => match k with
  | 0 => .object "PlainWords$Letter"
  | 1 => .object "PlainWords$Things"
  | 2 => .int
  | 3 => .int
  | 4 => .array .int
  | _ => .int
abbrev wsX20 : List Cond := u_ws RX2 TX2 6
theorem nmX2 : ∀ a, a < 6 → ∀ b, b < 6 → a ≠ b → (TX2 a).2.1 ≠ (TX2 b).2.1 := by decide +kernel
theorem tyX2_ok : ∀ k, k < 6 → parseFieldDescriptor (TX2 k).2.2.1 = some (tyX2 k) := by decide +kernel
abbrev cX2_init : ByteArray := prog_4_method_1_code
def yX2_init : MethodName := ⟨RX2, "<init>", "()V"⟩
abbrev cX2_read : ByteArray := prog_4_method_2_code
def yX2_read : MethodName := ⟨RX2, "read", "(LPlainWords$Tape;)Z"⟩
abbrev cX2_stoppedAt : ByteArray := prog_4_method_3_code
def yX2_stoppedAt : MethodName := ⟨RX2, "stoppedAt", "()I"⟩
abbrev cX2_readSentence : ByteArray := prog_4_method_4_code
def yX2_readSentence : MethodName := ⟨RX2, "readSentence", "()Z"⟩
abbrev cX2_readActive : ByteArray := prog_4_method_5_code
def yX2_readActive : MethodName := ⟨RX2, "readActive", "()Z"⟩
abbrev cX2_readPassive : ByteArray := prog_4_method_6_code
def yX2_readPassive : MethodName := ⟨RX2, "readPassive", "()Z"⟩
abbrev cX2_readWho : ByteArray := prog_4_method_7_code
def yX2_readWho : MethodName := ⟨RX2, "readWho", "()Z"⟩
abbrev cX2_readMode : ByteArray := prog_4_method_8_code
def yX2_readMode : MethodName := ⟨RX2, "readMode", "()Z"⟩
abbrev cX2_readActs : ByteArray := prog_4_method_9_code
def yX2_readActs : MethodName := ⟨RX2, "readActs", "()Z"⟩
abbrev cX2_readAct : ByteArray := prog_4_method_10_code
def yX2_readAct : MethodName := ⟨RX2, "readAct", "()Z"⟩
abbrev cX2_isTold : ByteArray := prog_4_method_11_code
def yX2_isTold : MethodName := ⟨RX2, "isTold", "(I)Z"⟩
abbrev cX2_actsTold : ByteArray := prog_4_method_12_code
def yX2_actsTold : MethodName := ⟨RX2, "actsTold", "()[I"⟩
abbrev cX2_readCond : ByteArray := prog_4_method_13_code
def yX2_readCond : MethodName := ⟨RX2, "readCond", "(I)LPlainWords$Cond;"⟩
abbrev cX2_readAll : ByteArray := prog_4_method_14_code
def yX2_readAll : MethodName := ⟨RX2, "readAll", "(I)LPlainWords$Cond;"⟩
abbrev cX2_readItem : ByteArray := prog_4_method_15_code
def yX2_readItem : MethodName := ⟨RX2, "readItem", "(I)LPlainWords$Cond;"⟩
def RX3 : String := "PlainWords$Sentence"
def TX3 : u_T := fun k => match k with
  | 0 => ("PlainWords$Sentence", "who", "I", true)
  | 1 => ("PlainWords$Sentence", "mode", "I", true)
  | 2 => ("PlainWords$Sentence", "limit", "I", true)
  | 3 => ("PlainWords$Sentence", "passive", "Z", true)
  | 4 => ("PlainWords$Sentence", "acts", "[I", true)
  | 5 => ("PlainWords$Sentence", "when", "LPlainWords$Cond;", true)
  | _ => ("PlainWords$Sentence", "unless", "LPlainWords$Cond;", true)
def tyX3 : Nat → FieldType := fun k => match k with
  | 0 => .int
  | 1 => .int
  | 2 => .int
  | 3 => .boolean
  | 4 => .array .int
  | 5 => .object "PlainWords$Cond"
  | _ => .object "PlainWords$Cond"
abbrev wsX30 : List Cond := u_ws RX3 TX3 7
theorem nmX3 : ∀ a, a < 7 → ∀ b, b < 7 → a ≠ b → (TX3 a).2.1 ≠ (TX3 b).2.1 := by decide +kernel
theorem tyX3_ok : ∀ k, k < 7 → parseFieldDescriptor (TX3 k).2.2.1 = some (tyX3 k) := by decide +kernel
abbrev cX3_init : ByteArray := prog_5_method_1_code
def yX3_init : MethodName := ⟨RX3, "<init>", "(IIIZ[ILPlainWords$Cond;LPlainWords$Cond;)V"⟩
abbrev cX3_withActs : ByteArray := prog_5_method_2_code
def yX3_withActs : MethodName := ⟨RX3, "withActs", "([I)LPlainWords$Sentence;"⟩
abbrev cX3_withAct : ByteArray := prog_5_method_3_code
def yX3_withAct : MethodName := ⟨RX3, "withAct", "(I)LPlainWords$Sentence;"⟩
abbrev cX3_canTurn : ByteArray := prog_5_method_4_code
def yX3_canTurn : MethodName := ⟨RX3, "canTurn", "()Z"⟩
abbrev cX3_turned : ByteArray := prog_5_method_5_code
def yX3_turned : MethodName := ⟨RX3, "turned", "()LPlainWords$Sentence;"⟩
abbrev cX3_canEase : ByteArray := prog_5_method_6_code
def yX3_canEase : MethodName := ⟨RX3, "canEase", "()Z"⟩
abbrev cX3_eased : ByteArray := prog_5_method_7_code
def yX3_eased : MethodName := ⟨RX3, "eased", "()LPlainWords$Sentence;"⟩
abbrev cX3_canMelt : ByteArray := prog_5_method_8_code
def yX3_canMelt : MethodName := ⟨RX3, "canMelt", "(LPlainWords$Sentence;)Z"⟩
abbrev cX3_melted : ByteArray := prog_5_method_9_code
def yX3_melted : MethodName := ⟨RX3, "melted", "(LPlainWords$Sentence;)LPlainWords$Sentence;"⟩
abbrev cX3_asksLike : ByteArray := prog_5_method_10_code
def yX3_asksLike : MethodName := ⟨RX3, "asksLike", "(LPlainWords$Sentence;)Z"⟩
abbrev cX3_names : ByteArray := prog_5_method_11_code
def yX3_names : MethodName := ⟨RX3, "names", "(I)Z"⟩
abbrev cX3_truth : ByteArray := prog_5_method_12_code
def yX3_truth : MethodName := ⟨RX3, "truth", "()J"⟩
abbrev cX3_asks : ByteArray := prog_5_method_13_code
def yX3_asks : MethodName := ⟨RX3, "asks", "(III)Z"⟩
abbrev cX3_words : ByteArray := prog_5_method_14_code
def yX3_words : MethodName := ⟨RX3, "words", "(I)I"⟩
abbrev cX3_nots : ByteArray := prog_5_method_15_code
def yX3_nots : MethodName := ⟨RX3, "nots", "()I"⟩
abbrev cX3_price : ByteArray := prog_5_method_16_code
def yX3_price : MethodName := ⟨RX3, "price", "(I)I"⟩
abbrev cX3_trait : ByteArray := prog_5_method_17_code
def yX3_trait : MethodName := ⟨RX3, "trait", "(I)I"⟩
def RX4 : String := "PlainWords$Tape"
def TX4 : u_T := fun k => match k with
  | 0 => ("PlainWords$Tape", "bytes", "[B", true)
  | _ => ("PlainWords$Tape", "size", "I", false)
def tyX4 : Nat → FieldType := fun k => match k with
  | 0 => .array .byte
  | _ => .int
abbrev wsX40 : List Cond := u_ws RX4 TX4 2
theorem nmX4 : ∀ a, a < 2 → ∀ b, b < 2 → a ≠ b → (TX4 a).2.1 ≠ (TX4 b).2.1 := by decide +kernel
theorem tyX4_ok : ∀ k, k < 2 → parseFieldDescriptor (TX4 k).2.2.1 = some (tyX4 k) := by decide +kernel
abbrev cX4_init : ByteArray := prog_6_method_1_code
def yX4_init : MethodName := ⟨RX4, "<init>", "()V"⟩
abbrev cX4_at : ByteArray := prog_6_method_2_code
def yX4_at : MethodName := ⟨RX4, "at", "(I)I"⟩
abbrev cX4_addNumber : ByteArray := prog_6_method_3_code
def yX4_addNumber : MethodName := ⟨RX4, "addNumber", "(I)V"⟩
abbrev cX4_cut : ByteArray := prog_6_method_4_code
def yX4_cut : MethodName := ⟨RX4, "cut", "(I)Z"⟩
abbrev cX4_become : ByteArray := prog_6_method_5_code
def yX4_become : MethodName := ⟨RX4, "become", "([BI)V"⟩
def RX5 : String := "PlainWords$Thing"
def TX5 : u_T := fun k => match k with
  | _ => ("", "", "", false)
def tyX5 : Nat → FieldType := fun k => match k with
  | _ => .int
abbrev wsX50 : List Cond := u_ws RX5 TX5 0
theorem nmX5 : ∀ a, a < 0 → ∀ b, b < 0 → a ≠ b → (TX5 a).2.1 ≠ (TX5 b).2.1 := by decide +kernel
theorem tyX5_ok : ∀ k, k < 0 → parseFieldDescriptor (TX5 k).2.2.1 = some (tyX5 k) := by decide +kernel
abbrev cX5_text : ByteArray := prog_7_method_2_code
def yX5_text : MethodName := ⟨RX5, "text", "(I)Ljava/lang/String;"⟩
abbrev cX5_sign : ByteArray := prog_7_method_3_code
def yX5_sign : MethodName := ⟨RX5, "sign", "(I)I"⟩
def RX6 : String := "PlainWords$Things"
def TX6 : u_T := fun k => match k with
  | 0 => ("PlainWords$Things", "kinds", "[I", true)
  | 1 => ("PlainWords$Things", "begins", "[I", true)
  | 2 => ("PlainWords$Things", "values", "[I", true)
  | 3 => ("PlainWords$Things", "size", "I", false)
  | 4 => ("PlainWords$Things", "textLength", "I", false)
  | _ => ("PlainWords$Things", "at", "I", false)
def tyX6 : Nat → FieldType := fun k => match k with
  | 0 => .array .int
  | 1 => .array .int
  | 2 => .array .int
  | 3 => .int
  | 4 => .int
  | _ => .int
abbrev wsX60 : List Cond := u_ws RX6 TX6 6
theorem nmX6 : ∀ a, a < 6 → ∀ b, b < 6 → a ≠ b → (TX6 a).2.1 ≠ (TX6 b).2.1 := by decide +kernel
theorem tyX6_ok : ∀ k, k < 6 → parseFieldDescriptor (TX6 k).2.2.1 = some (tyX6 k) := by decide +kernel
abbrev cX6_init : ByteArray := prog_8_method_1_code
def yX6_init : MethodName := ⟨RX6, "<init>", "()V"⟩
abbrev cX6_sees : ByteArray := prog_8_method_2_code
def yX6_sees : MethodName := ⟨RX6, "sees", "(I)Z"⟩
abbrev cX6_take : ByteArray := prog_8_method_3_code
def yX6_take : MethodName := ⟨RX6, "take", "(I)Z"⟩
abbrev cX6_takeNumber : ByteArray := prog_8_method_4_code
def yX6_takeNumber : MethodName := ⟨RX6, "takeNumber", "(II)I"⟩
abbrev cX6_value : ByteArray := prog_8_method_5_code
def yX6_value : MethodName := ⟨RX6, "value", "()I"⟩
abbrev cX6_begin : ByteArray := prog_8_method_6_code
def yX6_begin : MethodName := ⟨RX6, "begin", "()I"⟩
abbrev cX6_split : ByteArray := prog_8_method_7_code
def yX6_split : MethodName := ⟨RX6, "split", "(LPlainWords$Tape;)V"⟩
abbrev cX6_add : ByteArray := prog_8_method_8_code
def yX6_add : MethodName := ⟨RX6, "add", "(III)V"⟩
abbrev cX6_wordEnd : ByteArray := prog_8_method_9_code
def yX6_wordEnd : MethodName := ⟨RX6, "wordEnd", "(LPlainWords$Tape;I)I"⟩
abbrev cX6_wordIn : ByteArray := prog_8_method_10_code
def yX6_wordIn : MethodName := ⟨RX6, "wordIn", "(LPlainWords$Tape;II)I"⟩
abbrev cX6_stands : ByteArray := prog_8_method_11_code
def yX6_stands : MethodName := ⟨RX6, "stands", "(Ljava/lang/String;LPlainWords$Tape;II)Z"⟩
abbrev cX6_numberEnd : ByteArray := prog_8_method_12_code
def yX6_numberEnd : MethodName := ⟨RX6, "numberEnd", "(LPlainWords$Tape;I)I"⟩
abbrev cX6_numberIn : ByteArray := prog_8_method_13_code
def yX6_numberIn : MethodName := ⟨RX6, "numberIn", "(LPlainWords$Tape;II)I"⟩
abbrev cX6_isLetter : ByteArray := prog_8_method_14_code
def yX6_isLetter : MethodName := ⟨RX6, "isLetter", "(I)Z"⟩
abbrev cX6_isDigit : ByteArray := prog_8_method_15_code
def yX6_isDigit : MethodName := ⟨RX6, "isDigit", "(I)Z"⟩
def RX7 : String := "PlainWords$Writer"
def TX7 : u_T := fun k => match k with
  | 0 => ("PlainWords$Writer", "bytes", "[B", true)
  | 1 => ("PlainWords$Writer", "size", "I", false)
  | _ => ("PlainWords$Writer", "behindOpen", "Z", false)
def tyX7 : Nat → FieldType := fun k => match k with
  | 0 => .array .byte
  | 1 => .int
  | _ => .boolean
abbrev wsX70 : List Cond := u_ws RX7 TX7 3
theorem nmX7 : ∀ a, a < 3 → ∀ b, b < 3 → a ≠ b → (TX7 a).2.1 ≠ (TX7 b).2.1 := by decide +kernel
theorem tyX7_ok : ∀ k, k < 3 → parseFieldDescriptor (TX7 k).2.2.1 = some (tyX7 k) := by decide +kernel
abbrev cX7_init : ByteArray := prog_9_method_1_code
def yX7_init : MethodName := ⟨RX7, "<init>", "()V"⟩
abbrev cX7_writeLetter : ByteArray := prog_9_method_2_code
def yX7_writeLetter : MethodName := ⟨RX7, "writeLetter", "(LPlainWords$Letter;)V"⟩
abbrev cX7_writeSentence : ByteArray := prog_9_method_3_code
def yX7_writeSentence : MethodName := ⟨RX7, "writeSentence", "(LPlainWords$Sentence;)V"⟩
abbrev cX7_writeDone : ByteArray := prog_9_method_4_code
def yX7_writeDone : MethodName := ⟨RX7, "writeDone", "(I)V"⟩
abbrev cX7_writeMode : ByteArray := prog_9_method_5_code
def yX7_writeMode : MethodName := ⟨RX7, "writeMode", "(I)V"⟩
abbrev cX7_writeActs : ByteArray := prog_9_method_6_code
def yX7_writeActs : MethodName := ⟨RX7, "writeActs", "([I)V"⟩
abbrev cX7_writeCond : ByteArray := prog_9_method_7_code
def yX7_writeCond : MethodName := ⟨RX7, "writeCond", "(LPlainWords$Cond;I)V"⟩
abbrev cX7_writePiece : ByteArray := prog_9_method_8_code
def yX7_writePiece : MethodName := ⟨RX7, "writePiece", "(LPlainWords$Cond;II)V"⟩
abbrev cX7_writeWord : ByteArray := prog_9_method_9_code
def yX7_writeWord : MethodName := ⟨RX7, "writeWord", "(I)V"⟩
abbrev cX7_writeNumber : ByteArray := prog_9_method_10_code
def yX7_writeNumber : MethodName := ⟨RX7, "writeNumber", "(I)V"⟩
abbrev cX7_blank : ByteArray := prog_9_method_11_code
def yX7_blank : MethodName := ⟨RX7, "blank", "()V"⟩
abbrev cX7_put : ByteArray := prog_9_method_12_code
def yX7_put : MethodName := ⟨RX7, "put", "(I)V"⟩
def RX8 : String := "PlainWords"
def TX8 : u_T := fun k => match k with
  | 0 => ("PlainWords", "tape", "LPlainWords$Tape;", true)
  | 1 => ("PlainWords", "reader", "LPlainWords$Reader;", true)
  | 2 => ("PlainWords", "writer", "LPlainWords$Writer;", true)
  | 3 => ("PlainWords", "oldLetter", "LPlainWords$Letter;", true)
  | 4 => ("PlainWords", "newLetter", "LPlainWords$Letter;", true)
  | 5 => ("PlainWords", "wrongByte", "I", false)
  | 6 => ("PlainWords", "lettersRead", "I", false)
  | _ => ("PlainWords", "turnsDone", "I", false)
def tyX8 : Nat → FieldType := fun k => match k with
  | 0 => .object "PlainWords$Tape"
  | 1 => .object "PlainWords$Reader"
  | 2 => .object "PlainWords$Writer"
  | 3 => .object "PlainWords$Letter"
  | 4 => .object "PlainWords$Letter"
  | 5 => .int
  | 6 => .int
  | _ => .int
abbrev wsX80 : List Cond := u_ws RX8 TX8 8
theorem nmX8 : ∀ a, a < 8 → ∀ b, b < 8 → a ≠ b → (TX8 a).2.1 ≠ (TX8 b).2.1 := by decide +kernel
theorem tyX8_ok : ∀ k, k < 8 → parseFieldDescriptor (TX8 k).2.2.1 = some (tyX8 k) := by decide +kernel
abbrev cX8_init : ByteArray := prog_1_method_1_code
def yX8_init : MethodName := ⟨RX8, "<init>", "()V"⟩
abbrev cX8_feed : ByteArray := prog_1_method_2_code
def yX8_feed : MethodName := ⟨RX8, "feed", "(IIIII)I"⟩
abbrev cX8_end : ByteArray := prog_1_method_3_code
def yX8_end : MethodName := ⟨RX8, "end", "(I)Z"⟩
abbrev cX8_letter : ByteArray := prog_1_method_4_code
def yX8_letter : MethodName := ⟨RX8, "letter", "()I"⟩
abbrev cX8_fault : ByteArray := prog_1_method_5_code
def yX8_fault : MethodName := ⟨RX8, "fault", "()I"⟩
abbrev cX8_part : ByteArray := prog_1_method_6_code
def yX8_part : MethodName := ⟨RX8, "part", "(I)Z"⟩
abbrev cX8_melt : ByteArray := prog_1_method_7_code
def yX8_melt : MethodName := ⟨RX8, "melt", "(I)Z"⟩
abbrev cX8_turn : ByteArray := prog_1_method_8_code
def yX8_turn : MethodName := ⟨RX8, "turn", "(I)Z"⟩
abbrev cX8_ease : ByteArray := prog_1_method_9_code
def yX8_ease : MethodName := ⟨RX8, "ease", "(I)Z"⟩
abbrev cX8_plainest : ByteArray := prog_1_method_10_code
def yX8_plainest : MethodName := ⟨RX8, "plainest", "()I"⟩
abbrev cX8_again : ByteArray := prog_1_method_11_code
def yX8_again : MethodName := ⟨RX8, "again", "()V"⟩
abbrev cX8_cost : ByteArray := prog_1_method_12_code
def yX8_cost : MethodName := ⟨RX8, "cost", "(Z)I"⟩
abbrev cX8_look : ByteArray := prog_1_method_13_code
def yX8_look : MethodName := ⟨RX8, "look", "(II)I"⟩
abbrev cX8_same : ByteArray := prog_1_method_14_code
def yX8_same : MethodName := ⟨RX8, "same", "()Z"⟩
abbrev cX8_write : ByteArray := prog_1_method_15_code
def yX8_write : MethodName := ⟨RX8, "write", "()I"⟩
abbrev cX8_taped : ByteArray := prog_1_method_16_code
def yX8_taped : MethodName := ⟨RX8, "taped", "(I)I"⟩
abbrev cX8_ask : ByteArray := prog_1_method_17_code
def yX8_ask : MethodName := ⟨RX8, "ask", "(ZIII)I"⟩
abbrev cX8_days : ByteArray := prog_1_method_18_code
def yX8_days : MethodName := ⟨RX8, "days", "(III)I"⟩
abbrev cX8_count : ByteArray := prog_1_method_19_code
def yX8_count : MethodName := ⟨RX8, "count", "(I)I"⟩
abbrev cX8_needLetter : ByteArray := prog_1_method_20_code
def yX8_needLetter : MethodName := ⟨RX8, "needLetter", "()V"⟩
abbrev cX8_needSentence : ByteArray := prog_1_method_21_code
def yX8_needSentence : MethodName := ⟨RX8, "needSentence", "(I)V"⟩
abbrev cX8_chosen : ByteArray := prog_1_method_22_code
def yX8_chosen : MethodName := ⟨RX8, "chosen", "(Z)LPlainWords$Letter;"⟩
abbrev cX8_tallied : ByteArray := prog_1_method_23_code
def yX8_tallied : MethodName := ⟨RX8, "tallied", "(Z)Z"⟩
def RX9 : String := "PlainWordsModel"
def TX9 : u_T := fun k => match k with
  | 0 => ("PlainWordsModel", "thrown", "I", false)
  | 1 => ("PlainWordsModel", "acts", "[I", true)
  | 2 => ("PlainWordsModel", "act", "[I", true)
  | 3 => ("PlainWordsModel", "who", "[I", true)
  | 4 => ("PlainWordsModel", "mode", "[I", true)
  | 5 => ("PlainWordsModel", "days", "[I", true)
  | 6 => ("PlainWordsModel", "isPassive", "[Z", true)
  | 7 => ("PlainWordsModel", "length", "[I", true)
  | 8 => ("PlainWordsModel", "row", "[I", true)
  | 9 => ("PlainWordsModel", "old", "I", false)
  | 10 => ("PlainWordsModel", "fresh", "I", false)
  | 11 => ("PlainWordsModel", "letters", "I", false)
  | 12 => ("PlainWordsModel", "turns", "I", false)
  | 13 => ("PlainWordsModel", "hasLetter", "Z", false)
  | 14 => ("PlainWordsModel", "what", "[I", true)
  | 15 => ("PlainWordsModel", "first", "[I", true)
  | 16 => ("PlainWordsModel", "next", "[I", true)
  | 17 => ("PlainWordsModel", "places", "I", false)
  | 18 => ("PlainWordsModel", "at", "I", false)
  | 19 => ("PlainWordsModel", "laid", "I", false)
  | 20 => ("PlainWordsModel", "tape", "[B", true)
  | 21 => ("PlainWordsModel", "taped", "I", false)
  | 22 => ("PlainWordsModel", "point", "I", false)
  | 23 => ("PlainWordsModel", "end", "I", false)
  | 24 => ("PlainWordsModel", "begin", "I", false)
  | 25 => ("PlainWordsModel", "faultAt", "I", false)
  | 26 => ("PlainWordsModel", "deep", "I", false)
  | 27 => ("PlainWordsModel", "five", "[I", true)
  | 28 => ("PlainWordsModel", "out", "[B", true)
  | 29 => ("PlainWordsModel", "written", "I", false)
  | 30 => ("PlainWordsModel", "words", "I", false)
  | 31 => ("PlainWordsModel", "isOpen", "Z", false)
  | _ => ("PlainWordsModel", "tried", "I", false)
def tyX9 : Nat → FieldType := fun k => match k with
  | 0 => .int
  | 1 => .array .int
  | 2 => .array .int
  | 3 => .array .int
  | 4 => .array .int
  | 5 => .array .int
  | 6 => .array .boolean
  | 7 => .array .int
  | 8 => .array .int
  | 9 => .int
  | 10 => .int
  | 11 => .int
  | 12 => .int
  | 13 => .boolean
  | 14 => .array .int
  | 15 => .array .int
  | 16 => .array .int
  | 17 => .int
  | 18 => .int
  | 19 => .int
  | 20 => .array .byte
  | 21 => .int
  | 22 => .int
  | 23 => .int
  | 24 => .int
  | 25 => .int
  | 26 => .int
  | 27 => .array .int
  | 28 => .array .byte
  | 29 => .int
  | 30 => .int
  | 31 => .boolean
  | _ => .int
abbrev wsX90 : List Cond := u_ws RX9 TX9 33
theorem nmX9 : ∀ a, a < 33 → ∀ b, b < 33 → a ≠ b → (TX9 a).2.1 ≠ (TX9 b).2.1 := by decide +kernel
theorem tyX9_ok : ∀ k, k < 33 → parseFieldDescriptor (TX9 k).2.2.1 = some (tyX9 k) := by decide +kernel
abbrev cX9_init : ByteArray := prog_11_method_1_code
def yX9_init : MethodName := ⟨RX9, "<init>", "()V"⟩
abbrev cX9_thrown : ByteArray := prog_11_method_2_code
def yX9_thrown : MethodName := ⟨RX9, "thrown", "()I"⟩
abbrev cX9_throwsIf : ByteArray := prog_11_method_3_code
def yX9_throwsIf : MethodName := ⟨RX9, "throwsIf", "(ZI)Z"⟩
abbrev cX9_in : ByteArray := prog_11_method_4_code
def yX9_in : MethodName := ⟨RX9, "in", "(III)Z"⟩
abbrev cX9_copies : ByteArray := prog_11_method_5_code
def yX9_copies : MethodName := ⟨RX9, "copies", "(II)V"⟩
abbrev cX9_place : ByteArray := prog_11_method_6_code
def yX9_place : MethodName := ⟨RX9, "place", "(I)I"⟩
abbrev cX9_puts : ByteArray := prog_11_method_7_code
def yX9_puts : MethodName := ⟨RX9, "puts", "(II)V"⟩
abbrev cX9_tree : ByteArray := prog_11_method_8_code
def yX9_tree : MethodName := ⟨RX9, "tree", "(I)I"⟩
abbrev cX9_eased : ByteArray := prog_11_method_9_code
def yX9_eased : MethodName := ⟨RX9, "eased", "(I)I"⟩
abbrev cX9_size : ByteArray := prog_11_method_10_code
def yX9_size : MethodName := ⟨RX9, "size", "(II)I"⟩
abbrev cX9_lays : ByteArray := prog_11_method_11_code
def yX9_lays : MethodName := ⟨RX9, "lays", "(II)V"⟩
abbrev cX9_laysThose : ByteArray := prog_11_method_12_code
def yX9_laysThose : MethodName := ⟨RX9, "laysThose", "(III)V"⟩
abbrev cX9_laysAll : ByteArray := prog_11_method_13_code
def yX9_laysAll : MethodName := ⟨RX9, "laysAll", "(II)V"⟩
abbrev cX9_treeOf : ByteArray := prog_11_method_14_code
def yX9_treeOf : MethodName := ⟨RX9, "treeOf", "(I)I"⟩
abbrev cX9_feed : ByteArray := prog_11_method_15_code
def yX9_feed : MethodName := ⟨RX9, "feed", "(IIIII)I"⟩
abbrev cX9_end : ByteArray := prog_11_method_16_code
def yX9_end : MethodName := ⟨RX9, "end", "(I)Z"⟩
abbrev cX9_isAt : ByteArray := prog_11_method_17_code
def yX9_isAt : MethodName := ⟨RX9, "isAt", "(II)Z"⟩
abbrev cX9_blanks : ByteArray := prog_11_method_18_code
def yX9_blanks : MethodName := ⟨RX9, "blanks", "()V"⟩
abbrev cX9_word : ByteArray := prog_11_method_19_code
def yX9_word : MethodName := ⟨RX9, "word", "()V"⟩
abbrev cX9_isWord : ByteArray := prog_11_method_20_code
def yX9_isWord : MethodName := ⟨RX9, "isWord", "(Ljava/lang/String;)Z"⟩
abbrev cX9_passes : ByteArray := prog_11_method_21_code
def yX9_passes : MethodName := ⟨RX9, "passes", "(Ljava/lang/String;)Z"⟩
abbrev cX9_sign : ByteArray := prog_11_method_22_code
def yX9_sign : MethodName := ⟨RX9, "sign", "(I)Z"⟩
abbrev cX9_number : ByteArray := prog_11_method_23_code
def yX9_number : MethodName := ⟨RX9, "number", "(II)I"⟩
abbrev cX9_readItem : ByteArray := prog_11_method_24_code
def yX9_readItem : MethodName := ⟨RX9, "readItem", "()I"⟩
abbrev cX9_readAllOf : ByteArray := prog_11_method_25_code
def yX9_readAllOf : MethodName := ⟨RX9, "readAllOf", "()I"⟩
abbrev cX9_readCond : ByteArray := prog_11_method_26_code
def yX9_readCond : MethodName := ⟨RX9, "readCond", "()I"⟩
abbrev cX9_readInto : ByteArray := prog_11_method_27_code
def yX9_readInto : MethodName := ⟨RX9, "readInto", "(I)Z"⟩
abbrev cX9_readWho : ByteArray := prog_11_method_28_code
def yX9_readWho : MethodName := ⟨RX9, "readWho", "()I"⟩
abbrev cX9_readMode : ByteArray := prog_11_method_29_code
def yX9_readMode : MethodName := ⟨RX9, "readMode", "(I)Z"⟩
abbrev cX9_readActs : ByteArray := prog_11_method_30_code
def yX9_readActs : MethodName := ⟨RX9, "readActs", "(IZ)Z"⟩
abbrev cX9_readBody : ByteArray := prog_11_method_31_code
def yX9_readBody : MethodName := ⟨RX9, "readBody", "(I)Z"⟩
abbrev cX9_readSentence : ByteArray := prog_11_method_32_code
def yX9_readSentence : MethodName := ⟨RX9, "readSentence", "(I)Z"⟩
abbrev cX9_readAll : ByteArray := prog_11_method_33_code
def yX9_readAll : MethodName := ⟨RX9, "readAll", "()I"⟩
abbrev cX9_letter : ByteArray := prog_11_method_34_code
def yX9_letter : MethodName := ⟨RX9, "letter", "()I"⟩
abbrev cX9_renews : ByteArray := prog_11_method_35_code
def yX9_renews : MethodName := ⟨RX9, "renews", "()V"⟩
abbrev cX9_fault : ByteArray := prog_11_method_36_code
def yX9_fault : MethodName := ⟨RX9, "fault", "()I"⟩
abbrev cX9_put : ByteArray := prog_11_method_37_code
def yX9_put : MethodName := ⟨RX9, "put", "(Ljava/lang/String;Z)V"⟩
abbrev cX9_putWord : ByteArray := prog_11_method_38_code
def yX9_putWord : MethodName := ⟨RX9, "putWord", "(Ljava/lang/String;)V"⟩
abbrev cX9_putNumber : ByteArray := prog_11_method_39_code
def yX9_putNumber : MethodName := ⟨RX9, "putNumber", "(I)V"⟩
abbrev cX9_putOpen : ByteArray := prog_11_method_40_code
def yX9_putOpen : MethodName := ⟨RX9, "putOpen", "()V"⟩
abbrev cX9_putCond : ByteArray := prog_11_method_41_code
def yX9_putCond : MethodName := ⟨RX9, "putCond", "(II)V"⟩
abbrev cX9_putWho : ByteArray := prog_11_method_42_code
def yX9_putWho : MethodName := ⟨RX9, "putWho", "(I)V"⟩
abbrev cX9_putMode : ByteArray := prog_11_method_43_code
def yX9_putMode : MethodName := ⟨RX9, "putMode", "(I)V"⟩
abbrev cX9_putActs : ByteArray := prog_11_method_44_code
def yX9_putActs : MethodName := ⟨RX9, "putActs", "(I)V"⟩
abbrev cX9_putSentence : ByteArray := prog_11_method_45_code
def yX9_putSentence : MethodName := ⟨RX9, "putSentence", "(I)V"⟩
abbrev cX9_wordsOf : ByteArray := prog_11_method_46_code
def yX9_wordsOf : MethodName := ⟨RX9, "wordsOf", "(I)I"⟩
abbrev cX9_notsOf : ByteArray := prog_11_method_47_code
def yX9_notsOf : MethodName := ⟨RX9, "notsOf", "(I)I"⟩
abbrev cX9_costOf : ByteArray := prog_11_method_48_code
def yX9_costOf : MethodName := ⟨RX9, "costOf", "(I)I"⟩
abbrev cX9_costOfAll : ByteArray := prog_11_method_49_code
def yX9_costOfAll : MethodName := ⟨RX9, "costOfAll", "(II)I"⟩
abbrev cX9_cost : ByteArray := prog_11_method_50_code
def yX9_cost : MethodName := ⟨RX9, "cost", "(Z)I"⟩
abbrev cX9_write : ByteArray := prog_11_method_51_code
def yX9_write : MethodName := ⟨RX9, "write", "()I"⟩
abbrev cX9_taped : ByteArray := prog_11_method_52_code
def yX9_taped : MethodName := ⟨RX9, "taped", "(I)I"⟩
abbrev cX9_noSentence : ByteArray := prog_11_method_53_code
def yX9_noSentence : MethodName := ⟨RX9, "noSentence", "(I)Z"⟩
abbrev cX9_refuses : ByteArray := prog_11_method_54_code
def yX9_refuses : MethodName := ⟨RX9, "refuses", "(I)Z"⟩
abbrev cX9_part : ByteArray := prog_11_method_55_code
def yX9_part : MethodName := ⟨RX9, "part", "(I)Z"⟩
abbrev cX9_areAlike : ByteArray := prog_11_method_56_code
def yX9_areAlike : MethodName := ⟨RX9, "areAlike", "(II)Z"⟩
abbrev cX9_melt : ByteArray := prog_11_method_57_code
def yX9_melt : MethodName := ⟨RX9, "melt", "(I)Z"⟩
abbrev cX9_turnsRound : ByteArray := prog_11_method_58_code
def yX9_turnsRound : MethodName := ⟨RX9, "turnsRound", "(I)Z"⟩
abbrev cX9_turn : ByteArray := prog_11_method_59_code
def yX9_turn : MethodName := ⟨RX9, "turn", "(I)Z"⟩
abbrev cX9_eases : ByteArray := prog_11_method_60_code
def yX9_eases : MethodName := ⟨RX9, "eases", "(I)Z"⟩
abbrev cX9_ease : ByteArray := prog_11_method_61_code
def yX9_ease : MethodName := ⟨RX9, "ease", "(I)Z"⟩
abbrev cX9_again : ByteArray := prog_11_method_62_code
def yX9_again : MethodName := ⟨RX9, "again", "()V"⟩
abbrev cX9_tries : ByteArray := prog_11_method_63_code
def yX9_tries : MethodName := ⟨RX9, "tries", "(II)I"⟩
abbrev cX9_plainest : ByteArray := prog_11_method_64_code
def yX9_plainest : MethodName := ⟨RX9, "plainest", "()I"⟩
abbrev cX9_isFewer : ByteArray := prog_11_method_65_code
def yX9_isFewer : MethodName := ⟨RX9, "isFewer", "(II)Z"⟩
abbrev cX9_isSo : ByteArray := prog_11_method_66_code
def yX9_isSo : MethodName := ⟨RX9, "isSo", "(II)Z"⟩
abbrev cX9_counts : ByteArray := prog_11_method_67_code
def yX9_counts : MethodName := ⟨RX9, "counts", "(II)Z"⟩
abbrev cX9_hasAct : ByteArray := prog_11_method_68_code
def yX9_hasAct : MethodName := ⟨RX9, "hasAct", "(II)Z"⟩
abbrev cX9_asks : ByteArray := prog_11_method_69_code
def yX9_asks : MethodName := ⟨RX9, "asks", "(IIIIIII)Z"⟩
abbrev cX9_isWithin : ByteArray := prog_11_method_70_code
def yX9_isWithin : MethodName := ⟨RX9, "isWithin", "(IIII)Z"⟩
abbrev cX9_same : ByteArray := prog_11_method_71_code
def yX9_same : MethodName := ⟨RX9, "same", "()Z"⟩
abbrev cX9_ask : ByteArray := prog_11_method_72_code
def yX9_ask : MethodName := ⟨RX9, "ask", "(ZIII)I"⟩
abbrev cX9_days : ByteArray := prog_11_method_73_code
def yX9_days : MethodName := ⟨RX9, "days", "(III)I"⟩
abbrev cX9_look : ByteArray := prog_11_method_74_code
def yX9_look : MethodName := ⟨RX9, "look", "(II)I"⟩
abbrev cX9_count : ByteArray := prog_11_method_75_code
def yX9_count : MethodName := ⟨RX9, "count", "(I)I"⟩
def RJx145de : String := "java/io/Serializable"
def TJx145de : u_T := fun k => match k with
  | _ => ("", "", "", false)
def tyJx145de : Nat → FieldType := fun k => match k with
  | _ => .int
abbrev wsJx145de0 : List Cond := u_ws RJx145de TJx145de 0
theorem nmJx145de : ∀ a, a < 0 → ∀ b, b < 0 → a ≠ b → (TJx145de a).2.1 ≠ (TJx145de b).2.1 := by decide +kernel
theorem tyJx145de_ok : ∀ k, k < 0 → parseFieldDescriptor (TJx145de k).2.2.1 = some (tyJx145de k) := by decide +kernel
def RJ5 : String := "java/lang/AbstractStringBuilder"
def TJ5 : u_T := fun k => match k with
  | _ => ("", "", "", false)
def tyJ5 : Nat → FieldType := fun k => match k with
  | _ => .int
abbrev wsJ50 : List Cond := u_ws RJ5 TJ5 0
theorem nmJ5 : ∀ a, a < 0 → ∀ b, b < 0 → a ≠ b → (TJ5 a).2.1 ≠ (TJ5 b).2.1 := by decide +kernel
theorem tyJ5_ok : ∀ k, k < 0 → parseFieldDescriptor (TJ5 k).2.2.1 = some (tyJ5 k) := by decide +kernel
abbrev cJ5_init_d00df : ByteArray := prog_13_method_2_code
def yJ5_init_d00df : MethodName := ⟨RJ5, "<init>", "(I)V"⟩
abbrev cJ5_length_8abf5 : ByteArray := prog_13_method_6_code
def yJ5_length_8abf5 : MethodName := ⟨RJ5, "length", "()I"⟩
abbrev cJ5_ensureCapacityInternal_d00df : ByteArray := prog_13_method_9_code
def yJ5_ensureCapacityInternal_d00df : MethodName := ⟨RJ5, "ensureCapacityInternal", "(I)V"⟩
abbrev cJ5_newCapacity_0f7a4 : ByteArray := prog_13_method_10_code
def yJ5_newCapacity_0f7a4 : MethodName := ⟨RJ5, "newCapacity", "(I)I"⟩
abbrev cJ5_inflate_da8c8 : ByteArray := prog_13_method_11_code
def yJ5_inflate_da8c8 : MethodName := ⟨RJ5, "inflate", "()V"⟩
abbrev cJ5_append_cf1ce : ByteArray := prog_13_method_22_code
def yJ5_append_cf1ce : MethodName := ⟨RJ5, "append", "(Ljava/lang/String;)Ljava/lang/AbstractStringBuilder;"⟩
abbrev cJ5_appendNull_278bc : ByteArray := prog_13_method_26_code
def yJ5_appendNull_278bc : MethodName := ⟨RJ5, "appendNull", "()Ljava/lang/AbstractStringBuilder;"⟩
abbrev cJ5_append_c97b9 : ByteArray := prog_13_method_32_code
def yJ5_append_c97b9 : MethodName := ⟨RJ5, "append", "(I)Ljava/lang/AbstractStringBuilder;"⟩
abbrev cJ5_getValue_6d5f1 : ByteArray := prog_13_method_64_code
def yJ5_getValue_6d5f1 : MethodName := ⟨RJ5, "getValue", "()[B"⟩
abbrev cJ5_isLatin1_aae02 : ByteArray := prog_13_method_68_code
def yJ5_isLatin1_aae02 : MethodName := ⟨RJ5, "isLatin1", "()Z"⟩
abbrev cJ5_inflateIfNeededFor_a7421 : ByteArray := prog_13_method_71_code
def yJ5_inflateIfNeededFor_a7421 : MethodName := ⟨RJ5, "inflateIfNeededFor", "(Ljava/lang/String;)V"⟩
abbrev cJ5_putStringAt_47b60 : ByteArray := prog_13_method_73_code
def yJ5_putStringAt_47b60 : MethodName := ⟨RJ5, "putStringAt", "(ILjava/lang/String;)V"⟩
def RJx8e188 : String := "java/lang/Cloneable"
def TJx8e188 : u_T := fun k => match k with
  | _ => ("", "", "", false)
def tyJx8e188 : Nat → FieldType := fun k => match k with
  | _ => .int
abbrev wsJx8e1880 : List Cond := u_ws RJx8e188 TJx8e188 0
theorem nmJx8e188 : ∀ a, a < 0 → ∀ b, b < 0 → a ≠ b → (TJx8e188 a).2.1 ≠ (TJx8e188 b).2.1 := by decide +kernel
theorem tyJx8e188_ok : ∀ k, k < 0 → parseFieldDescriptor (TJx8e188 k).2.2.1 = some (tyJx8e188 k) := by decide +kernel
def RJ6 : String := "java/lang/Integer"
def TJ6 : u_T := fun k => match k with
  | _ => ("", "", "", false)
def tyJ6 : Nat → FieldType := fun k => match k with
  | _ => .int
abbrev wsJ60 : List Cond := u_ws RJ6 TJ6 0
theorem nmJ6 : ∀ a, a < 0 → ∀ b, b < 0 → a ≠ b → (TJ6 a).2.1 ≠ (TJ6 b).2.1 := by decide +kernel
theorem tyJ6_ok : ∀ k, k < 0 → parseFieldDescriptor (TJ6 k).2.2.1 = some (tyJ6 k) := by decide +kernel
abbrev cJ6_getChars_ba4f3 : ByteArray := prog_19_method_12_code
def yJ6_getChars_ba4f3 : MethodName := ⟨RJ6, "getChars", "(II[B)I"⟩
abbrev cJ6_stringSize_0f7a4 : ByteArray := prog_19_method_13_code
def yJ6_stringSize_0f7a4 : MethodName := ⟨RJ6, "stringSize", "(I)I"⟩
abbrev cJ6_bitCount_0f7a4 : ByteArray := prog_19_method_49_code
def yJ6_bitCount_0f7a4 : MethodName := ⟨RJ6, "bitCount", "(I)I"⟩
def RJxab1ab : String := "java/lang/Iterable"
def TJxab1ab : u_T := fun k => match k with
  | _ => ("", "", "", false)
def tyJxab1ab : Nat → FieldType := fun k => match k with
  | _ => .int
abbrev wsJxab1ab0 : List Cond := u_ws RJxab1ab TJxab1ab 0
theorem nmJxab1ab : ∀ a, a < 0 → ∀ b, b < 0 → a ≠ b → (TJxab1ab a).2.1 ≠ (TJxab1ab b).2.1 := by decide +kernel
theorem tyJxab1ab_ok : ∀ k, k < 0 → parseFieldDescriptor (TJxab1ab k).2.2.1 = some (tyJxab1ab k) := by decide +kernel
def RJ9 : String := "java/lang/Math"
def TJ9 : u_T := fun k => match k with
  | _ => ("", "", "", false)
def tyJ9 : Nat → FieldType := fun k => match k with
  | _ => .int
abbrev wsJ90 : List Cond := u_ws RJ9 TJ9 0
theorem nmJ9 : ∀ a, a < 0 → ∀ b, b < 0 → a ≠ b → (TJ9 a).2.1 ≠ (TJ9 b).2.1 := by decide +kernel
theorem tyJ9_ok : ∀ k, k < 0 → parseFieldDescriptor (TJ9 k).2.2.1 = some (tyJ9 k) := by decide +kernel
abbrev cJ9_max_7cf53 : ByteArray := prog_21_method_65_code
def yJ9_max_7cf53 : MethodName := ⟨RJ9, "max", "(II)I"⟩
abbrev cJ9_min_7cf53 : ByteArray := prog_21_method_69_code
def yJ9_min_7cf53 : MethodName := ⟨RJ9, "min", "(II)I"⟩
def RJ0 : String := "java/lang/String"
def TJ0 : u_T := fun k => match k with
  | 0 => ("java/lang/String", "value", "[B", true)
  | 1 => ("java/lang/String", "coder", "B", true)
  | 2 => ("java/lang/String", "hash", "I", false)
  | _ => ("java/lang/String", "hashIsZero", "Z", false)
def tyJ0 : Nat → FieldType := fun k => match k with
  | 0 => .array .byte
  | 1 => .byte
  | 2 => .int
  | _ => .boolean
abbrev wsJ00 : List Cond := u_ws RJ0 TJ0 4
theorem nmJ0 : ∀ a, a < 4 → ∀ b, b < 4 → a ≠ b → (TJ0 a).2.1 ≠ (TJ0 b).2.1 := by decide +kernel
theorem tyJ0_ok : ∀ k, k < 4 → parseFieldDescriptor (TJ0 k).2.2.1 = some (tyJ0 k) := by decide +kernel
abbrev cJ0_init_81219 : ByteArray := prog_23_method_53_code
def yJ0_init_81219 : MethodName := ⟨RJ0, "<init>", "(Ljava/lang/StringBuilder;)V"⟩
abbrev cJ0_length_8abf5 : ByteArray := prog_23_method_54_code
def yJ0_length_8abf5 : MethodName := ⟨RJ0, "length", "()I"⟩
abbrev cJ0_charAt_5068e : ByteArray := prog_23_method_56_code
def yJ0_charAt_5068e : MethodName := ⟨RJ0, "charAt", "(I)C"⟩
abbrev cJ0_getBytes_840e7 : ByteArray := prog_23_method_147_code
def yJ0_getBytes_840e7 : MethodName := ⟨RJ0, "getBytes", "([BIB)V"⟩
abbrev cJ0_init_db425 : ByteArray := prog_23_method_150_code
def yJ0_init_db425 : MethodName := ⟨RJ0, "<init>", "(Ljava/lang/AbstractStringBuilder;Ljava/lang/Void;)V"⟩
abbrev cJ0_coder_7d493 : ByteArray := prog_23_method_152_code
def yJ0_coder_7d493 : MethodName := ⟨RJ0, "coder", "()B"⟩
abbrev cJ0_isLatin1_aae02 : ByteArray := prog_23_method_154_code
def yJ0_isLatin1_aae02 : MethodName := ⟨RJ0, "isLatin1", "()Z"⟩
abbrev cJ0_checkIndex_df160 : ByteArray := prog_23_method_155_code
def yJ0_checkIndex_df160 : MethodName := ⟨RJ0, "checkIndex", "(II)V"⟩
abbrev cJ0_checkBoundsOffCount_cabcc : ByteArray := prog_23_method_157_code
def yJ0_checkBoundsOffCount_cabcc : MethodName := ⟨RJ0, "checkBoundsOffCount", "(III)I"⟩
abbrev cJ0_checkBoundsBeginEnd_23922 : ByteArray := prog_23_method_158_code
def yJ0_checkBoundsBeginEnd_23922 : MethodName := ⟨RJ0, "checkBoundsBeginEnd", "(III)V"⟩
def RJ4 : String := "java/lang/StringBuilder"
def TJ4 : u_T := fun k => match k with
  | 0 => ("java/lang/AbstractStringBuilder", "value", "[B", false)
  | 1 => ("java/lang/AbstractStringBuilder", "coder", "B", false)
  | 2 => ("java/lang/AbstractStringBuilder", "maybeLatin1", "Z", false)
  | _ => ("java/lang/AbstractStringBuilder", "count", "I", false)
def tyJ4 : Nat → FieldType := fun k => match k with
  | 0 => .array .byte
  | 1 => .byte
  | 2 => .boolean
  | _ => .int
abbrev wsJ40 : List Cond := u_ws RJ4 TJ4 4
theorem nmJ4 : ∀ a, a < 4 → ∀ b, b < 4 → a ≠ b → (TJ4 a).2.1 ≠ (TJ4 b).2.1 := by decide +kernel
theorem tyJ4_ok : ∀ k, k < 4 → parseFieldDescriptor (TJ4 k).2.2.1 = some (tyJ4 k) := by decide +kernel
abbrev cJ4_init_da8c8 : ByteArray := prog_24_method_1_code
def yJ4_init_da8c8 : MethodName := ⟨RJ4, "<init>", "()V"⟩
abbrev cJ4_append_15ec4 : ByteArray := prog_24_method_7_code
def yJ4_append_15ec4 : MethodName := ⟨RJ4, "append", "(Ljava/lang/String;)Ljava/lang/StringBuilder;"⟩
abbrev cJ4_append_bf812 : ByteArray := prog_24_method_15_code
def yJ4_append_bf812 : MethodName := ⟨RJ4, "append", "(I)Ljava/lang/StringBuilder;"⟩
abbrev cJ4_toString_0e30d : ByteArray := prog_24_method_42_code
def yJ4_toString_0e30d : MethodName := ⟨RJ4, "toString", "()Ljava/lang/String;"⟩
abbrev cJ4_length_8abf5 : ByteArray := prog_24_method_93_code
def yJ4_length_8abf5 : MethodName := ⟨RJ4, "length", "()I"⟩
def RJ1 : String := "java/lang/StringLatin1"
def TJ1 : u_T := fun k => match k with
  | _ => ("", "", "", false)
def tyJ1 : Nat → FieldType := fun k => match k with
  | _ => .int
abbrev wsJ10 : List Cond := u_ws RJ1 TJ1 0
theorem nmJ1 : ∀ a, a < 0 → ∀ b, b < 0 → a ≠ b → (TJ1 a).2.1 ≠ (TJ1 b).2.1 := by decide +kernel
theorem tyJ1_ok : ∀ k, k < 0 → parseFieldDescriptor (TJ1 k).2.2.1 = some (tyJ1 k) := by decide +kernel
abbrev cJ1_charAt_3b067 : ByteArray := prog_25_method_2_code
def yJ1_charAt_3b067 : MethodName := ⟨RJ1, "charAt", "([BI)C"⟩
abbrev cJ1_inflate_0e8fd : ByteArray := prog_25_method_50_code
def yJ1_inflate_0e8fd : MethodName := ⟨RJ1, "inflate", "([BI[BII)V"⟩
def RJ2 : String := "java/lang/StringUTF16"
def TJ2 : u_T := fun k => match k with
  | _ => ("", "", "", false)
def tyJ2 : Nat → FieldType := fun k => match k with
  | _ => .int
abbrev wsJ20 : List Cond := u_ws RJ2 TJ2 0
theorem nmJ2 : ∀ a, a < 0 → ∀ b, b < 0 → a ≠ b → (TJ2 a).2.1 ≠ (TJ2 b).2.1 := by decide +kernel
theorem tyJ2_ok : ∀ k, k < 0 → parseFieldDescriptor (TJ2 k).2.2.1 = some (tyJ2 k) := by decide +kernel
abbrev cJ2_newBytesFor_77867 : ByteArray := prog_26_method_2_code
def yJ2_newBytesFor_77867 : MethodName := ⟨RJ2, "newBytesFor", "(I)[B"⟩
abbrev cJ2_newBytesLength_0f7a4 : ByteArray := prog_26_method_3_code
def yJ2_newBytesLength_0f7a4 : MethodName := ⟨RJ2, "newBytesLength", "(I)I"⟩
abbrev cJ2_putChar_b72d1 : ByteArray := prog_26_method_4_code
def yJ2_putChar_b72d1 : MethodName := ⟨RJ2, "putChar", "([BII)V"⟩
abbrev cJ2_getChar_3b067 : ByteArray := prog_26_method_5_code
def yJ2_getChar_3b067 : MethodName := ⟨RJ2, "getChar", "([BI)C"⟩
abbrev cJ2_length_9d52b : ByteArray := prog_26_method_6_code
def yJ2_length_9d52b : MethodName := ⟨RJ2, "length", "([B)I"⟩
abbrev cJ2_coderFromArrayLen_85cad : ByteArray := prog_26_method_15_code
def yJ2_coderFromArrayLen_85cad : MethodName := ⟨RJ2, "coderFromArrayLen", "([BI)B"⟩
abbrev cJ2_compress_39247 : ByteArray := prog_26_method_17_code
def yJ2_compress_39247 : MethodName := ⟨RJ2, "compress", "([BII)[B"⟩
abbrev cJ2_compress_5af95 : ByteArray := prog_26_method_22_code
def yJ2_compress_5af95 : MethodName := ⟨RJ2, "compress", "([BI[BII)I"⟩
abbrev cJ2_getChars_46870 : ByteArray := prog_26_method_77_code
def yJ2_getChars_46870 : MethodName := ⟨RJ2, "getChars", "(III[B)I"⟩
abbrev cJ2_putCharsAt_cd4e5 : ByteArray := prog_26_method_81_code
def yJ2_putCharsAt_cd4e5 : MethodName := ⟨RJ2, "putCharsAt", "([BICCCC)I"⟩
abbrev cJ2_charAt_3b067 : ByteArray := prog_26_method_83_code
def yJ2_charAt_3b067 : MethodName := ⟨RJ2, "charAt", "([BI)C"⟩
abbrev cJ2_inflate_0e8fd : ByteArray := prog_26_method_86_code
def yJ2_inflate_0e8fd : MethodName := ⟨RJ2, "inflate", "([BI[BII)V"⟩
abbrev cJ2_getChars_ba4f3 : ByteArray := prog_26_method_89_code
def yJ2_getChars_ba4f3 : MethodName := ⟨RJ2, "getChars", "(II[B)I"⟩
abbrev cJ2_checkIndex_2214a : ByteArray := prog_26_method_91_code
def yJ2_checkIndex_2214a : MethodName := ⟨RJ2, "checkIndex", "(I[B)V"⟩
abbrev cJ2_checkBoundsBeginEnd_d044e : ByteArray := prog_26_method_93_code
def yJ2_checkBoundsBeginEnd_d044e : MethodName := ⟨RJ2, "checkBoundsBeginEnd", "(II[B)V"⟩
abbrev cJ2_checkBoundsOffCount_d044e : ByteArray := prog_26_method_94_code
def yJ2_checkBoundsOffCount_d044e : MethodName := ⟨RJ2, "checkBoundsOffCount", "(II[B)V"⟩
def RJ10 : String := "java/lang/System"
def TJ10 : u_T := fun k => match k with
  | _ => ("", "", "", false)
def tyJ10 : Nat → FieldType := fun k => match k with
  | _ => .int
abbrev wsJ100 : List Cond := u_ws RJ10 TJ10 0
theorem nmJ10 : ∀ a, a < 0 → ∀ b, b < 0 → a ≠ b → (TJ10 a).2.1 ≠ (TJ10 b).2.1 := by decide +kernel
theorem tyJ10_ok : ∀ k, k < 0 → parseFieldDescriptor (TJ10 k).2.2.1 = some (tyJ10 k) := by decide +kernel
def RJxa1e45 : String := "java/util/AbstractCollection"
def TJxa1e45 : u_T := fun k => match k with
  | _ => ("", "", "", false)
def tyJxa1e45 : Nat → FieldType := fun k => match k with
  | _ => .int
abbrev wsJxa1e450 : List Cond := u_ws RJxa1e45 TJxa1e45 0
theorem nmJxa1e45 : ∀ a, a < 0 → ∀ b, b < 0 → a ≠ b → (TJxa1e45 a).2.1 ≠ (TJxa1e45 b).2.1 := by decide +kernel
theorem tyJxa1e45_ok : ∀ k, k < 0 → parseFieldDescriptor (TJxa1e45 k).2.2.1 = some (tyJxa1e45 k) := by decide +kernel
abbrev cJxa1e45_init_da8c8 : ByteArray := prog_29_method_1_code
def yJxa1e45_init_da8c8 : MethodName := ⟨RJxa1e45, "<init>", "()V"⟩
def RJxc12de : String := "java/util/AbstractList"
def TJxc12de : u_T := fun k => match k with
  | _ => ("", "", "", false)
def tyJxc12de : Nat → FieldType := fun k => match k with
  | _ => .int
abbrev wsJxc12de0 : List Cond := u_ws RJxc12de TJxc12de 0
theorem nmJxc12de : ∀ a, a < 0 → ∀ b, b < 0 → a ≠ b → (TJxc12de a).2.1 ≠ (TJxc12de b).2.1 := by decide +kernel
theorem tyJxc12de_ok : ∀ k, k < 0 → parseFieldDescriptor (TJxc12de k).2.2.1 = some (tyJxc12de k) := by decide +kernel
abbrev cJxc12de_init_da8c8 : ByteArray := prog_30_method_1_code
def yJxc12de_init_da8c8 : MethodName := ⟨RJxc12de, "<init>", "()V"⟩
def RJx4a65c : String := "java/util/ArrayList"
def TJx4a65c : u_T := fun k => match k with
  | 0 => ("java/util/AbstractList", "modCount", "I", false)
  | 1 => ("java/util/ArrayList", "elementData", "[Ljava/lang/Object;", false)
  | _ => ("java/util/ArrayList", "size", "I", false)
def tyJx4a65c : Nat → FieldType := fun k => match k with
  | 0 => .int
  | 1 => .array (.object "java/lang/Object")
  | _ => .int
abbrev wsJx4a65c0 : List Cond := u_ws RJx4a65c TJx4a65c 3
theorem nmJx4a65c : ∀ a, a < 3 → ∀ b, b < 3 → a ≠ b → (TJx4a65c a).2.1 ≠ (TJx4a65c b).2.1 := by decide +kernel
theorem tyJx4a65c_ok : ∀ k, k < 3 → parseFieldDescriptor (TJx4a65c k).2.2.1 = some (tyJx4a65c k) := by decide +kernel
abbrev cJx4a65c_init_da8c8 : ByteArray := prog_31_method_2_code
def yJx4a65c_init_da8c8 : MethodName := ⟨RJx4a65c, "<init>", "()V"⟩
abbrev cJx4a65c_grow_92f84 : ByteArray := prog_31_method_6_code
def yJx4a65c_grow_92f84 : MethodName := ⟨RJx4a65c, "grow", "(I)[Ljava/lang/Object;"⟩
abbrev cJx4a65c_grow_d5877 : ByteArray := prog_31_method_7_code
def yJx4a65c_grow_d5877 : MethodName := ⟨RJx4a65c, "grow", "()[Ljava/lang/Object;"⟩
abbrev cJx4a65c_size_8abf5 : ByteArray := prog_31_method_8_code
def yJx4a65c_size_8abf5 : MethodName := ⟨RJx4a65c, "size", "()I"⟩
abbrev cJx4a65c_elementData_915e3 : ByteArray := prog_31_method_18_code
def yJx4a65c_elementData_915e3 : MethodName := ⟨RJx4a65c, "elementData", "(I)Ljava/lang/Object;"⟩
abbrev cJx4a65c_get_915e3 : ByteArray := prog_31_method_20_code
def yJx4a65c_get_915e3 : MethodName := ⟨RJx4a65c, "get", "(I)Ljava/lang/Object;"⟩
abbrev cJx4a65c_set_bcc79 : ByteArray := prog_31_method_23_code
def yJx4a65c_set_bcc79 : MethodName := ⟨RJx4a65c, "set", "(ILjava/lang/Object;)Ljava/lang/Object;"⟩
abbrev cJx4a65c_add_72be8 : ByteArray := prog_31_method_24_code
def yJx4a65c_add_72be8 : MethodName := ⟨RJx4a65c, "add", "(Ljava/lang/Object;[Ljava/lang/Object;I)V"⟩
abbrev cJx4a65c_add_9ea2d : ByteArray := prog_31_method_25_code
def yJx4a65c_add_9ea2d : MethodName := ⟨RJx4a65c, "add", "(Ljava/lang/Object;)Z"⟩
abbrev cJx4a65c_add_7a177 : ByteArray := prog_31_method_26_code
def yJx4a65c_add_7a177 : MethodName := ⟨RJx4a65c, "add", "(ILjava/lang/Object;)V"⟩
abbrev cJx4a65c_remove_915e3 : ByteArray := prog_31_method_29_code
def yJx4a65c_remove_915e3 : MethodName := ⟨RJx4a65c, "remove", "(I)Ljava/lang/Object;"⟩
abbrev cJx4a65c_fastRemove_b59b0 : ByteArray := prog_31_method_39_code
def yJx4a65c_fastRemove_b59b0 : MethodName := ⟨RJx4a65c, "fastRemove", "([Ljava/lang/Object;I)V"⟩
abbrev cJx4a65c_clear_da8c8 : ByteArray := prog_31_method_40_code
def yJx4a65c_clear_da8c8 : MethodName := ⟨RJx4a65c, "clear", "()V"⟩
abbrev cJx4a65c_rangeCheckForAdd_d00df : ByteArray := prog_31_method_45_code
def yJx4a65c_rangeCheckForAdd_d00df : MethodName := ⟨RJx4a65c, "rangeCheckForAdd", "(I)V"⟩
abbrev cJx4a65c_outOfBoundsMsg_b52d3 : ByteArray := prog_31_method_46_code
def yJx4a65c_outOfBoundsMsg_b52d3 : MethodName := ⟨RJx4a65c, "outOfBoundsMsg", "(I)Ljava/lang/String;"⟩
def RJ7 : String := "java/util/Arrays"
def TJ7 : u_T := fun k => match k with
  | _ => ("", "", "", false)
def tyJ7 : Nat → FieldType := fun k => match k with
  | _ => .int
abbrev wsJ70 : List Cond := u_ws RJ7 TJ7 0
theorem nmJ7 : ∀ a, a < 0 → ∀ b, b < 0 → a ≠ b → (TJ7 a).2.1 ≠ (TJ7 b).2.1 := by decide +kernel
theorem tyJ7_ok : ∀ k, k < 0 → parseFieldDescriptor (TJ7 k).2.2.1 = some (tyJ7 k) := by decide +kernel
abbrev cJ7_copyOf_1904c : ByteArray := prog_32_method_119_code
def yJ7_copyOf_1904c : MethodName := ⟨RJ7, "copyOf", "([Ljava/lang/Object;I)[Ljava/lang/Object;"⟩
abbrev cJ7_copyOf_6403c : ByteArray := prog_32_method_120_code
def yJ7_copyOf_6403c : MethodName := ⟨RJ7, "copyOf", "([Ljava/lang/Object;ILjava/lang/Class;)[Ljava/lang/Object;"⟩
abbrev cJ7_copyOf_9075b : ByteArray := prog_32_method_121_code
def yJ7_copyOf_9075b : MethodName := ⟨RJ7, "copyOf", "([BI)[B"⟩
abbrev cJ7_checkLength_df160 : ByteArray := prog_32_method_131_code
def yJ7_checkLength_df160 : MethodName := ⟨RJ7, "checkLength", "(II)V"⟩
abbrev cJ7_copyOfRange_39247 : ByteArray := prog_32_method_132_code
def yJ7_copyOfRange_39247 : MethodName := ⟨RJ7, "copyOfRange", "([BII)[B"⟩
abbrev cJ7_copyOfRangeByte_39247 : ByteArray := prog_32_method_133_code
def yJ7_copyOfRangeByte_39247 : MethodName := ⟨RJ7, "copyOfRangeByte", "([BII)[B"⟩
def RJx5ef63 : String := "java/util/Collection"
def TJx5ef63 : u_T := fun k => match k with
  | _ => ("", "", "", false)
def tyJx5ef63 : Nat → FieldType := fun k => match k with
  | _ => .int
abbrev wsJx5ef630 : List Cond := u_ws RJx5ef63 TJx5ef63 0
theorem nmJx5ef63 : ∀ a, a < 0 → ∀ b, b < 0 → a ≠ b → (TJx5ef63 a).2.1 ≠ (TJx5ef63 b).2.1 := by decide +kernel
theorem tyJx5ef63_ok : ∀ k, k < 0 → parseFieldDescriptor (TJx5ef63 k).2.2.1 = some (tyJx5ef63 k) := by decide +kernel
def RJxbd725 : String := "java/util/List"
def TJxbd725 : u_T := fun k => match k with
  | _ => ("", "", "", false)
def tyJxbd725 : Nat → FieldType := fun k => match k with
  | _ => .int
abbrev wsJxbd7250 : List Cond := u_ws RJxbd725 TJxbd725 0
theorem nmJxbd725 : ∀ a, a < 0 → ∀ b, b < 0 → a ≠ b → (TJxbd725 a).2.1 ≠ (TJxbd725 b).2.1 := by decide +kernel
theorem tyJxbd725_ok : ∀ k, k < 0 → parseFieldDescriptor (TJxbd725 k).2.2.1 = some (tyJxbd725 k) := by decide +kernel
def RJ15 : String := "java/util/Objects"
def TJ15 : u_T := fun k => match k with
  | _ => ("", "", "", false)
def tyJ15 : Nat → FieldType := fun k => match k with
  | _ => .int
abbrev wsJ150 : List Cond := u_ws RJ15 TJ15 0
theorem nmJ15 : ∀ a, a < 0 → ∀ b, b < 0 → a ≠ b → (TJ15 a).2.1 ≠ (TJ15 b).2.1 := by decide +kernel
theorem tyJ15_ok : ∀ k, k < 0 → parseFieldDescriptor (TJ15 k).2.2.1 = some (tyJ15 k) := by decide +kernel
abbrev cJ15_checkIndex_7cf53 : ByteArray := prog_36_method_17_code
def yJ15_checkIndex_7cf53 : MethodName := ⟨RJ15, "checkIndex", "(II)I"⟩
def RJxf0a74 : String := "java/util/RandomAccess"
def TJxf0a74 : u_T := fun k => match k with
  | _ => ("", "", "", false)
def tyJxf0a74 : Nat → FieldType := fun k => match k with
  | _ => .int
abbrev wsJxf0a740 : List Cond := u_ws RJxf0a74 TJxf0a74 0
theorem nmJxf0a74 : ∀ a, a < 0 → ∀ b, b < 0 → a ≠ b → (TJxf0a74 a).2.1 ≠ (TJxf0a74 b).2.1 := by decide +kernel
theorem tyJxf0a74_ok : ∀ k, k < 0 → parseFieldDescriptor (TJxf0a74 k).2.2.1 = some (tyJxf0a74 k) := by decide +kernel
def RJxa66e6 : String := "java/util/SequencedCollection"
def TJxa66e6 : u_T := fun k => match k with
  | _ => ("", "", "", false)
def tyJxa66e6 : Nat → FieldType := fun k => match k with
  | _ => .int
abbrev wsJxa66e60 : List Cond := u_ws RJxa66e6 TJxa66e6 0
theorem nmJxa66e6 : ∀ a, a < 0 → ∀ b, b < 0 → a ≠ b → (TJxa66e6 a).2.1 ≠ (TJxa66e6 b).2.1 := by decide +kernel
theorem tyJxa66e6_ok : ∀ k, k < 0 → parseFieldDescriptor (TJxa66e6 k).2.2.1 = some (tyJxa66e6 k) := by decide +kernel
def RJ8 : String := "jdk/internal/util/ArraysSupport"
def TJ8 : u_T := fun k => match k with
  | _ => ("", "", "", false)
def tyJ8 : Nat → FieldType := fun k => match k with
  | _ => .int
abbrev wsJ80 : List Cond := u_ws RJ8 TJ8 0
theorem nmJ8 : ∀ a, a < 0 → ∀ b, b < 0 → a ≠ b → (TJ8 a).2.1 ≠ (TJ8 b).2.1 := by decide +kernel
theorem tyJ8_ok : ∀ k, k < 0 → parseFieldDescriptor (TJ8 k).2.2.1 = some (tyJ8 k) := by decide +kernel
abbrev cJ8_newLength_cabcc : ByteArray := prog_39_method_27_code
def yJ8_newLength_cabcc : MethodName := ⟨RJ8, "newLength", "(III)I"⟩
abbrev cJ8_hugeLength_7cf53 : ByteArray := prog_39_method_28_code
def yJ8_hugeLength_7cf53 : MethodName := ⟨RJ8, "hugeLength", "(II)I"⟩
def RJ3 : String := "jdk/internal/util/Preconditions"
def TJ3 : u_T := fun k => match k with
  | _ => ("", "", "", false)
def tyJ3 : Nat → FieldType := fun k => match k with
  | _ => .int
abbrev wsJ30 : List Cond := u_ws RJ3 TJ3 0
theorem nmJ3 : ∀ a, a < 0 → ∀ b, b < 0 → a ≠ b → (TJ3 a).2.1 ≠ (TJ3 b).2.1 := by decide +kernel
theorem tyJ3_ok : ∀ k, k < 0 → parseFieldDescriptor (TJ3 k).2.2.1 = some (tyJ3 k) := by decide +kernel
abbrev cJ3_checkIndex_8e157 : ByteArray := prog_40_method_11_code
def yJ3_checkIndex_8e157 : MethodName := ⟨RJ3, "checkIndex", "(IILjava/util/function/BiFunction;)I"⟩
abbrev cJ3_checkFromToIndex_8c36e : ByteArray := prog_40_method_12_code
def yJ3_checkFromToIndex_8c36e : MethodName := ⟨RJ3, "checkFromToIndex", "(IIILjava/util/function/BiFunction;)I"⟩
abbrev cJ3_checkFromIndexSize_8c36e : ByteArray := prog_40_method_13_code
def yJ3_checkFromIndexSize_8c36e : MethodName := ⟨RJ3, "checkFromIndexSize", "(IIILjava/util/function/BiFunction;)I"⟩
def RL : String := "PlainWordsLaw"
abbrev cL_letter : ByteArray := method_3_code
def yL_letter : MethodName := ⟨RL, "letter", "(LPlainWords;[J)I"⟩
abbrev cL_part : ByteArray := method_4_code
def yL_part : MethodName := ⟨RL, "part", "(LPlainWords;I[J)I"⟩
abbrev cL_melt : ByteArray := method_5_code
def yL_melt : MethodName := ⟨RL, "melt", "(LPlainWords;I[J)I"⟩
abbrev cL_turn : ByteArray := method_6_code
def yL_turn : MethodName := ⟨RL, "turn", "(LPlainWords;I[J)I"⟩
abbrev cL_ease : ByteArray := method_7_code
def yL_ease : MethodName := ⟨RL, "ease", "(LPlainWords;I[J)I"⟩
abbrev cL_plainest : ByteArray := method_8_code
def yL_plainest : MethodName := ⟨RL, "plainest", "(LPlainWords;[J)I"⟩
abbrev cL_again : ByteArray := method_9_code
def yL_again : MethodName := ⟨RL, "again", "(LPlainWords;)I"⟩
abbrev cL_cost : ByteArray := method_10_code
def yL_cost : MethodName := ⟨RL, "cost", "(LPlainWords;Z[J)I"⟩
abbrev cL_look : ByteArray := method_11_code
def yL_look : MethodName := ⟨RL, "look", "(LPlainWords;II[J)I"⟩
abbrev cL_same : ByteArray := method_12_code
def yL_same : MethodName := ⟨RL, "same", "(LPlainWords;[J)I"⟩
abbrev cL_write : ByteArray := method_13_code
def yL_write : MethodName := ⟨RL, "write", "(LPlainWords;[J)I"⟩
abbrev cL_ask : ByteArray := method_14_code
def yL_ask : MethodName := ⟨RL, "ask", "(LPlainWords;ZIII[J)I"⟩
abbrev cL_days : ByteArray := method_15_code
def yL_days : MethodName := ⟨RL, "days", "(LPlainWords;III[J)I"⟩
abbrev cL_law : ByteArray := code
def yL_law : MethodName := ⟨RL, "law", "([I)Z"⟩
abbrev vwCl : List vw_C := [(RJ0, TJ0, 4), (RJ4, TJ4, 4), (RJx4a65c, TJx4a65c, 3), (RX0, TX0, 7), (RX1, TX1, 1), (RX2, TX2, 6), (RX3, TX3, 7), (RX4, TX4, 2), (RX6, TX6, 6), (RX7, TX7, 3), (RX8, TX8, 8), (RX9, TX9, 33)]
def wsL_law0_r1 : List Cond := [Cond.classLink RL 8 RX8, Cond.instantiable RX8 8, Cond.initialized RX8, Cond.classLink RL 64 RX9, Cond.instantiable RX9 33, Cond.initialized RX9, Cond.arrayClass .long, Cond.methodLink RL 63 yX8_init, Cond.instanceMethod yX8_init, Cond.code yX8_init cX8_init 1 none, Cond.methodLink RX8 1 objectInit, Cond.instanceMethod objectInit, Cond.code objectInit ⟨#[0xb1]⟩ 1 none, Cond.classLink RX8 7 RX4, Cond.instantiable RX4 2, Cond.initialized RX4, Cond.fieldLink RX8 10 "PlainWords" "tape" "LPlainWords$Tape;", Cond.classLink RX8 16 RX2, Cond.instantiable RX2 6, Cond.initialized RX2, Cond.fieldLink RX8 19 "PlainWords" "reader" "LPlainWords$Reader;", Cond.classLink RX8 23 RX7, Cond.instantiable RX7 3, Cond.initialized RX7]
def wsL_law0_r2 : List Cond := [Cond.fieldLink RX8 26 "PlainWords" "writer" "LPlainWords$Writer;", Cond.classLink RX8 30 RX1, Cond.instantiable RX1 1, Cond.initialized RX1, Cond.fieldLink RX8 33 "PlainWords" "oldLetter" "LPlainWords$Letter;", Cond.fieldLink RX8 37 "PlainWords" "newLetter" "LPlainWords$Letter;", Cond.fieldLink RX8 40 "PlainWords" "wrongByte" "I", Cond.fieldLink RX8 44 "PlainWords" "lettersRead" "I", Cond.fieldLink RX8 47 "PlainWords" "turnsDone" "I", Cond.methodLink RX8 9 yX4_init, Cond.instanceMethod yX4_init, Cond.code yX4_init cX4_init 1 none, Cond.methodLink RX4 3 objectInit, Cond.arrayClass .byte, Cond.fieldLink RX4 11 "PlainWords$Tape" "bytes" "[B", Cond.fieldLink RX4 15 "PlainWords$Tape" "size" "I", Cond.methodLink RX8 18 yX2_init, Cond.instanceMethod yX2_init, Cond.code yX2_init cX2_init 1 none, Cond.methodLink RX2 3 objectInit, Cond.classLink RX2 9 RX1, Cond.fieldLink RX2 12 "PlainWords$Reader" "draft" "LPlainWords$Letter;", Cond.classLink RX2 18 RX6, Cond.instantiable RX6 6]
def wsL_law0_r3 : List Cond := [Cond.initialized RX6, Cond.fieldLink RX2 21 "PlainWords$Reader" "things" "LPlainWords$Things;", Cond.arrayClass .int, Cond.fieldLink RX2 27 "PlainWords$Reader" "acts" "[I", Cond.fieldLink RX2 31 "PlainWords$Reader" "who" "I", Cond.fieldLink RX2 35 "PlainWords$Reader" "mode" "I", Cond.fieldLink RX2 38 "PlainWords$Reader" "actsRead" "I", Cond.methodLink RX2 11 yX1_init, Cond.instanceMethod yX1_init, Cond.code yX1_init cX1_init 1 none, Cond.methodLink RX1 3 objectInit, Cond.classLink RX1 9 RJx4a65c, Cond.instantiable RJx4a65c 3, Cond.initialized RJx4a65c, Cond.fieldLink RX1 12 "PlainWords$Letter" "sentences" "Ljava/util/ArrayList;", Cond.methodLink RX1 11 yJx4a65c_init_da8c8, Cond.instanceMethod yJx4a65c_init_da8c8, Cond.code yJx4a65c_init_da8c8 cJx4a65c_init_da8c8 1 none, Cond.fieldLink RJx4a65c 39 "java/util/ArrayList" "DEFAULTCAPACITY_EMPTY_ELEMENTDATA" "[Ljava/lang/Object;", Cond.fieldLink RJx4a65c 9 "java/util/ArrayList" "elementData" "[Ljava/lang/Object;", Cond.methodLink RJx4a65c 1 yJxc12de_init_da8c8, Cond.instanceMethod yJxc12de_init_da8c8, Cond.initialized RJxc12de, Cond.code yJxc12de_init_da8c8 cJxc12de_init_da8c8 1 none]
def wsL_law0_r4 : List Cond := [Cond.fieldLink RJxc12de 7 "java/util/AbstractList" "modCount" "I", Cond.methodLink RJxc12de 1 yJxa1e45_init_da8c8, Cond.instanceMethod yJxa1e45_init_da8c8, Cond.initialized RJxa1e45, Cond.code yJxa1e45_init_da8c8 cJxa1e45_init_da8c8 1 none, Cond.methodLink RJxa1e45 1 objectInit, Cond.methodLink RX2 20 yX6_init, Cond.instanceMethod yX6_init, Cond.code yX6_init cX6_init 1 none, Cond.methodLink RX6 3 objectInit, Cond.fieldLink RX6 11 "PlainWords$Things" "kinds" "[I", Cond.fieldLink RX6 17 "PlainWords$Things" "begins" "[I", Cond.fieldLink RX6 20 "PlainWords$Things" "values" "[I", Cond.fieldLink RX6 23 "PlainWords$Things" "size" "I", Cond.fieldLink RX6 27 "PlainWords$Things" "textLength" "I", Cond.fieldLink RX6 30 "PlainWords$Things" "at" "I", Cond.methodLink RX8 25 yX7_init, Cond.instanceMethod yX7_init, Cond.code yX7_init cX7_init 1 none, Cond.methodLink RX7 3 objectInit, Cond.fieldLink RX7 11 "PlainWords$Writer" "bytes" "[B", Cond.fieldLink RX7 17 "PlainWords$Writer" "size" "I", Cond.fieldLink RX7 21 "PlainWords$Writer" "behindOpen" "Z", Cond.methodLink RX8 32 yX1_init]
def wsL_law0_r5 : List Cond := [Cond.methodLink RL 66 yX9_init, Cond.instanceMethod yX9_init, Cond.code yX9_init cX9_init 1 none, Cond.methodLink RX9 1 objectInit, Cond.fieldLink RX9 9 "PlainWordsModel" "acts" "[I", Cond.fieldLink RX9 13 "PlainWordsModel" "act" "[I", Cond.fieldLink RX9 16 "PlainWordsModel" "who" "[I", Cond.fieldLink RX9 19 "PlainWordsModel" "mode" "[I", Cond.fieldLink RX9 22 "PlainWordsModel" "days" "[I", Cond.arrayClass .boolean, Cond.fieldLink RX9 25 "PlainWordsModel" "isPassive" "[Z", Cond.fieldLink RX9 29 "PlainWordsModel" "length" "[I", Cond.constant RX9 32 (84000), Cond.fieldLink RX9 33 "PlainWordsModel" "row" "[I", Cond.fieldLink RX9 36 "PlainWordsModel" "what" "[I", Cond.fieldLink RX9 39 "PlainWordsModel" "first" "[I", Cond.fieldLink RX9 42 "PlainWordsModel" "next" "[I", Cond.fieldLink RX9 45 "PlainWordsModel" "tape" "[B", Cond.fieldLink RX9 49 "PlainWordsModel" "faultAt" "I", Cond.fieldLink RX9 53 "PlainWordsModel" "five" "[I", Cond.fieldLink RX9 56 "PlainWordsModel" "out" "[B", Cond.methodLink RL 67 yX8_feed, Cond.instanceMethod yX8_feed, Cond.selects RX8 yX8_feed yX8_feed]
def wsL_law0_r6 : List Cond := [Cond.code yX8_feed cX8_feed 6 (some .int), Cond.fieldLink RX8 50 "PlainWords$Tape" "size" "I", Cond.methodLink RX8 53 yX4_addNumber, Cond.instanceMethod yX4_addNumber, Cond.selects RX4 yX4_addNumber yX4_addNumber, Cond.code yX4_addNumber cX4_addNumber 3 none, Cond.methodLink RL 71 yX9_feed, Cond.instanceMethod yX9_feed, Cond.selects RX9 yX9_feed yX9_feed, Cond.code yX9_feed cX9_feed 7 (some .int), Cond.fieldLink RX9 59 "PlainWordsModel" "thrown" "I", Cond.fieldLink RX9 96 "PlainWordsModel" "taped" "I", Cond.methodLink RL 72 yX8_end, Cond.instanceMethod yX8_end, Cond.selects RX8 yX8_end yX8_end, Cond.code yX8_end cX8_end 2 (some .boolean), Cond.methodLink RX8 57 yX4_cut, Cond.instanceMethod yX4_cut, Cond.selects RX4 yX4_cut yX4_cut, Cond.code yX4_cut cX4_cut 2 (some .boolean), Cond.methodLink RL 75 yX9_end, Cond.instanceMethod yX9_end, Cond.selects RX9 yX9_end yX9_end, Cond.code yX9_end cX9_end 2 (some .boolean)]
def wsL_law0_r7 : List Cond := [Cond.methodLink RL 76 yL_letter, Cond.static yL_letter, Cond.initialized RL, Cond.codeWith yL_letter cL_letter 3 (some .int) [(0, 8, 11, 13)], Cond.classLink RL 13 "java/lang/IllegalArgumentException", Cond.methodLink RL 7 yX8_letter, Cond.instanceMethod yX8_letter, Cond.selects RX8 yX8_letter yX8_letter, Cond.code yX8_letter cX8_letter 2 (some .int), Cond.classLink RX8 69 "java/lang/IllegalArgumentException", Cond.initialized "java/lang/IllegalArgumentException", Cond.fieldLink RX8 76 "PlainWords$Reader" "draft" "LPlainWords$Letter;", Cond.methodLink RX8 61 yX2_read, Cond.instanceMethod yX2_read, Cond.selects RX2 yX2_read yX2_read, Cond.code yX2_read cX2_read 4 (some .boolean), Cond.methodLink RX2 41 yX1_clear, Cond.instanceMethod yX1_clear, Cond.selects RX1 yX1_clear yX1_clear, Cond.code yX1_clear cX1_clear 1 none, Cond.methodLink RX1 28 yJx4a65c_clear_da8c8, Cond.instanceMethod yJx4a65c_clear_da8c8, Cond.selects RJx4a65c yJx4a65c_clear_da8c8 yJx4a65c_clear_da8c8, Cond.code yJx4a65c_clear_da8c8 cJx4a65c_clear_da8c8 4 none]
def wsL_law0_r8 : List Cond := [Cond.fieldLink RJx4a65c 63 "java/util/ArrayList" "modCount" "I", Cond.sameField "java/util/ArrayList" "java/util/AbstractList" "modCount" "I", Cond.fieldLink RJx4a65c 48 "java/util/ArrayList" "size" "I", Cond.methodLink RX2 44 yX6_split, Cond.instanceMethod yX6_split, Cond.selects RX6 yX6_split yX6_split, Cond.code yX6_split cX6_split 6 none, Cond.fieldLink RX6 39 "PlainWords$Tape" "size" "I", Cond.methodLink RX6 40 yX4_at, Cond.instanceMethod yX4_at, Cond.selects RX4 yX4_at yX4_at, Cond.code yX4_at cX4_at 2 (some .int), Cond.methodLink RX6 43 yX6_isLetter, Cond.static yX6_isLetter, Cond.code yX6_isLetter cX6_isLetter 1 (some .boolean), Cond.methodLink RX6 47 yX6_wordEnd, Cond.static yX6_wordEnd, Cond.code yX6_wordEnd cX6_wordEnd 3 (some .int), Cond.methodLink RX6 51 yX6_wordIn, Cond.static yX6_wordIn, Cond.code yX6_wordIn cX6_wordIn 4 (some .int), Cond.methodLink RX6 71 yX5_text, Cond.static yX5_text, Cond.initialized RX5]
def wsL_law0_r9 : List Cond := [Cond.code yX5_text cX5_text 1 (some (.object "java/lang/String")), Cond.methodLink RX6 75 yX6_stands, Cond.static yX6_stands, Cond.code yX6_stands cX6_stands 5 (some .boolean), Cond.methodLink RX6 79 yJ0_length_8abf5, Cond.instanceMethod yJ0_length_8abf5, Cond.selects RJ0 yJ0_length_8abf5 yJ0_length_8abf5, Cond.initialized RJ0, Cond.code yJ0_length_8abf5 cJ0_length_8abf5 1 (some .int), Cond.fieldLink RJ0 9 "java/lang/String" "value" "[B", Cond.methodLink RJ0 335 yJ0_coder_7d493, Cond.instanceMethod yJ0_coder_7d493, Cond.selects RJ0 yJ0_coder_7d493 yJ0_coder_7d493, Cond.code yJ0_coder_7d493 cJ0_coder_7d493 1 (some .byte), Cond.fieldLink RJ0 38 "java/lang/String" "COMPACT_STRINGS" "Z", Cond.fieldLink RJ0 15 "java/lang/String" "coder" "B", Cond.methodLink RX6 84 yJ0_charAt_5068e, Cond.instanceMethod yJ0_charAt_5068e, Cond.selects RJ0 yJ0_charAt_5068e yJ0_charAt_5068e, Cond.code yJ0_charAt_5068e cJ0_charAt_5068e 2 (some .char), Cond.methodLink RJ0 492 yJ0_isLatin1_aae02, Cond.instanceMethod yJ0_isLatin1_aae02, Cond.selects RJ0 yJ0_isLatin1_aae02 yJ0_isLatin1_aae02, Cond.code yJ0_isLatin1_aae02 cJ0_isLatin1_aae02 1 (some .boolean)]
def wsL_law0_r10 : List Cond := [Cond.methodLink RJ0 495 yJ1_charAt_3b067, Cond.static yJ1_charAt_3b067, Cond.initialized RJ1, Cond.code yJ1_charAt_3b067 cJ1_charAt_3b067 2 (some .char), Cond.methodLink RJ1 9 yJ0_checkIndex_df160, Cond.static yJ0_checkIndex_df160, Cond.code yJ0_checkIndex_df160 cJ0_checkIndex_df160 2 none, Cond.fieldLink RJ0 1053 "jdk/internal/util/Preconditions" "SIOOBE_FORMATTER" "Ljava/util/function/BiFunction;", Cond.methodLink RJ0 1059 yJ3_checkIndex_8e157, Cond.static yJ3_checkIndex_8e157, Cond.initialized RJ3, Cond.code yJ3_checkIndex_8e157 cJ3_checkIndex_8e157 3 (some .int), Cond.methodLink RJ0 498 yJ2_charAt_3b067, Cond.static yJ2_charAt_3b067, Cond.initialized RJ2, Cond.code yJ2_charAt_3b067 cJ2_charAt_3b067 2 (some .char), Cond.methodLink RJ2 67 yJ2_checkIndex_2214a, Cond.static yJ2_checkIndex_2214a, Cond.code yJ2_checkIndex_2214a cJ2_checkIndex_2214a 2 none, Cond.methodLink RJ2 48 yJ2_length_9d52b, Cond.static yJ2_length_9d52b, Cond.code yJ2_length_9d52b cJ2_length_9d52b 1 (some .int), Cond.methodLink RJ2 414 yJ0_checkIndex_df160, Cond.methodLink RJ2 71 yJ2_getChar_3b067]
def wsL_law0_r11 : List Cond := [Cond.static yJ2_getChar_3b067, Cond.code yJ2_getChar_3b067 cJ2_getChar_3b067 2 (some .char), Cond.fieldLink RJ2 44 "java/lang/StringUTF16" "$assertionsDisabled" "Z", Cond.fieldLink RJ2 59 "java/lang/StringUTF16" "HI_BYTE_SHIFT" "I", Cond.fieldLink RJ2 63 "java/lang/StringUTF16" "LO_BYTE_SHIFT" "I", Cond.methodLink RX6 55 yX6_add, Cond.instanceMethod yX6_add, Cond.selects RX6 yX6_add yX6_add, Cond.code yX6_add cX6_add 4 none, Cond.methodLink RX6 59 yX6_isDigit, Cond.static yX6_isDigit, Cond.code yX6_isDigit cX6_isDigit 1 (some .boolean), Cond.methodLink RX6 62 yX6_numberEnd, Cond.static yX6_numberEnd, Cond.code yX6_numberEnd cX6_numberEnd 3 (some .int), Cond.methodLink RX6 65 yX6_numberIn, Cond.static yX6_numberIn, Cond.code yX6_numberIn cX6_numberIn 5 (some .int), Cond.methodLink RX6 68 yX5_sign, Cond.static yX5_sign, Cond.code yX5_sign cX5_sign 1 (some .int), Cond.methodLink RX2 48 yX2_readSentence, Cond.instanceMethod yX2_readSentence, Cond.selects RX2 yX2_readSentence yX2_readSentence]
def wsL_law0_r12 : List Cond := [Cond.code yX2_readSentence cX2_readSentence 5 (some .boolean), Cond.classLink RX2 25 RX3, Cond.instantiable RX3 7, Cond.initialized RX3, Cond.methodLink RX2 54 yX6_take, Cond.instanceMethod yX6_take, Cond.selects RX6 yX6_take yX6_take, Cond.code yX6_take cX6_take 3 (some .boolean), Cond.methodLink RX2 65 yX2_readCond, Cond.instanceMethod yX2_readCond, Cond.selects RX2 yX2_readCond yX2_readCond, Cond.code yX2_readCond cX2_readCond 4 (some (.object "PlainWords$Cond")), Cond.methodLink RX2 122 yX2_readAll, Cond.instanceMethod yX2_readAll, Cond.selects RX2 yX2_readAll yX2_readAll, Cond.methodLink RX2 129 yX0_joined, Cond.static yX0_joined, Cond.initialized RX0, Cond.code yX0_joined cX0_joined 7 (some (.object "PlainWords$Cond")), Cond.classLink RX0 9 RX0, Cond.instantiable RX0 7, Cond.methodLink RX0 48 yX0_rowOf, Cond.instanceMethod yX0_rowOf, Cond.selects RX0 yX0_rowOf yX0_rowOf]
def wsL_law0_r13 : List Cond := [Cond.code yX0_rowOf cX0_rowOf 3 (some (.array (.object "PlainWords$Cond"))), Cond.fieldLink RX0 11 "PlainWords$Cond" "kind" "I", Cond.fieldLink RX0 18 "PlainWords$Cond" "pieces" "[LPlainWords$Cond;", Cond.methodLink RX0 45 yX0_init_, Cond.instanceMethod yX0_init_, Cond.code yX0_init_ cX0_init_ 14 none, Cond.methodLink RX0 3 objectInit, Cond.constantLong RX0 40 (-1), Cond.fieldLink RX0 26 "PlainWords$Cond" "truth" "J", Cond.fieldLink RX0 30 "PlainWords$Cond" "words" "I", Cond.fieldLink RX0 33 "PlainWords$Cond" "nots" "I", Cond.fieldLink RX0 36 "PlainWords$Cond" "notNot" "Z", Cond.fieldLink RX0 15 "PlainWords$Cond" "number" "I", Cond.code yX2_readAll cX2_readAll 4 (some (.object "PlainWords$Cond")), Cond.methodLink RX2 133 yX2_readItem, Cond.instanceMethod yX2_readItem, Cond.selects RX2 yX2_readItem yX2_readItem, Cond.code yX2_readItem cX2_readItem 3 (some (.object "PlainWords$Cond")), Cond.methodLink RX2 75 yX6_takeNumber, Cond.instanceMethod yX6_takeNumber, Cond.selects RX6 yX6_takeNumber yX6_takeNumber, Cond.code yX6_takeNumber cX6_takeNumber 4 (some .int), Cond.methodLink RX6 35 yX6_value, Cond.instanceMethod yX6_value]
def wsL_law0_r14 : List Cond := [Cond.selects RX6 yX6_value yX6_value, Cond.code yX6_value cX6_value 1 (some .int), Cond.methodLink RX2 136 yX0_ofCase, Cond.static yX0_ofCase, Cond.code yX0_ofCase cX0_ofCase 1 (some (.object "PlainWords$Cond")), Cond.methodLink RX0 42 yX0_init, Cond.instanceMethod yX0_init, Cond.code yX0_init cX0_init 2 none, Cond.fieldLink RX0 22 "PlainWords$Cond" "TRUTHS" "[J", Cond.methodLink RX2 139 yX0_negated, Cond.static yX0_negated, Cond.code yX0_negated cX0_negated 2 (some (.object "PlainWords$Cond")), Cond.methodLink RX2 58 yX6_sees, Cond.instanceMethod yX6_sees, Cond.selects RX6 yX6_sees yX6_sees, Cond.code yX6_sees cX6_sees 2 (some .boolean), Cond.methodLink RX2 69 yX2_readPassive, Cond.instanceMethod yX2_readPassive, Cond.selects RX2 yX2_readPassive yX2_readPassive, Cond.code yX2_readPassive cX2_readPassive 1 (some .boolean), Cond.methodLink RX2 96 yX2_readActs, Cond.instanceMethod yX2_readActs, Cond.selects RX2 yX2_readActs yX2_readActs, Cond.code yX2_readActs cX2_readActs 3 (some .boolean)]
def wsL_law0_r15 : List Cond := [Cond.methodLink RX2 99 yX2_readAct, Cond.instanceMethod yX2_readAct, Cond.selects RX2 yX2_readAct yX2_readAct, Cond.code yX2_readAct cX2_readAct 2 (some .boolean), Cond.methodLink RX2 102 yX6_value, Cond.methodLink RX2 105 yX2_isTold, Cond.instanceMethod yX2_isTold, Cond.selects RX2 yX2_isTold yX2_isTold, Cond.code yX2_isTold cX2_isTold 3 (some .boolean), Cond.methodLink RX2 93 yX2_readMode, Cond.instanceMethod yX2_readMode, Cond.selects RX2 yX2_readMode yX2_readMode, Cond.code yX2_readMode cX2_readMode 1 (some .boolean), Cond.methodLink RX2 90 yX2_readWho, Cond.instanceMethod yX2_readWho, Cond.selects RX2 yX2_readWho yX2_readWho, Cond.code yX2_readWho cX2_readWho 1 (some .boolean), Cond.methodLink RX2 72 yX2_readActive, Cond.instanceMethod yX2_readActive, Cond.selects RX2 yX2_readActive yX2_readActive, Cond.code yX2_readActive cX2_readActive 1 (some .boolean), Cond.methodLink RX2 79 yX2_actsTold, Cond.instanceMethod yX2_actsTold, Cond.selects RX2 yX2_actsTold yX2_actsTold]
def wsL_law0_r16 : List Cond := [Cond.code yX2_actsTold cX2_actsTold 2 (some (.array .int)), Cond.methodLink RX2 108 Lib.Math.min.name, Cond.static Lib.Math.min.name, Cond.initialized "java/lang/Math", Cond.code Lib.Math.min.name Lib.Math.min.code 2 (some .int), Cond.methodLink RX2 113 Lib.Math.max.name, Cond.static Lib.Math.max.name, Cond.code Lib.Math.max.name Lib.Math.max.code 2 (some .int), Cond.methodLink RX2 116 arraycopyName, Cond.native arraycopyName, Cond.static arraycopyName, Cond.initialized "java/lang/System", Cond.methodLink RX2 83 yX3_init, Cond.instanceMethod yX3_init, Cond.code yX3_init cX3_init 8 none, Cond.methodLink RX3 3 objectInit, Cond.fieldLink RX3 9 "PlainWords$Sentence" "who" "I", Cond.fieldLink RX3 15 "PlainWords$Sentence" "mode" "I", Cond.fieldLink RX3 18 "PlainWords$Sentence" "limit" "I", Cond.fieldLink RX3 21 "PlainWords$Sentence" "passive" "Z", Cond.fieldLink RX3 25 "PlainWords$Sentence" "acts" "[I", Cond.fieldLink RX3 29 "PlainWords$Sentence" "when" "LPlainWords$Cond;", Cond.fieldLink RX3 33 "PlainWords$Sentence" "unless" "LPlainWords$Cond;", Cond.methodLink RX2 86 yX1_add]
def wsL_law0_r17 : List Cond := [Cond.instanceMethod yX1_add, Cond.selects RX1 yX1_add yX1_add, Cond.code yX1_add cX1_add 2 none, Cond.methodLink RX1 18 yJx4a65c_size_8abf5, Cond.instanceMethod yJx4a65c_size_8abf5, Cond.selects RJx4a65c yJx4a65c_size_8abf5 yJx4a65c_size_8abf5, Cond.code yJx4a65c_size_8abf5 cJx4a65c_size_8abf5 1 (some .int), Cond.methodLink RX1 31 yJx4a65c_add_9ea2d, Cond.instanceMethod yJx4a65c_add_9ea2d, Cond.selects RJx4a65c yJx4a65c_add_9ea2d yJx4a65c_add_9ea2d, Cond.code yJx4a65c_add_9ea2d cJx4a65c_add_9ea2d 2 (some .boolean), Cond.methodLink RJx4a65c 131 yJx4a65c_add_72be8, Cond.instanceMethod yJx4a65c_add_72be8, Cond.selects RJx4a65c yJx4a65c_add_72be8 yJx4a65c_add_72be8, Cond.code yJx4a65c_add_72be8 cJx4a65c_add_72be8 4 none, Cond.methodLink RJx4a65c 129 yJx4a65c_grow_d5877, Cond.instanceMethod yJx4a65c_grow_d5877, Cond.selects RJx4a65c yJx4a65c_grow_d5877 yJx4a65c_grow_d5877, Cond.code yJx4a65c_grow_d5877 cJx4a65c_grow_d5877 1 (some (.array (.object "java/lang/Object"))), Cond.methodLink RJx4a65c 69 yJx4a65c_grow_92f84, Cond.instanceMethod yJx4a65c_grow_92f84, Cond.selects RJx4a65c yJx4a65c_grow_92f84 yJx4a65c_grow_92f84, Cond.code yJx4a65c_grow_92f84 cJx4a65c_grow_92f84 4 (some (.array (.object "java/lang/Object"))), Cond.methodLink RJx4a65c 79 Lib.Math.max.name]
def wsL_law0_r18 : List Cond := [Cond.classLink RJx4a65c 7 "java/lang/Object", Cond.methodLink RJx4a65c 73 yJ8_newLength_cabcc, Cond.static yJ8_newLength_cabcc, Cond.initialized RJ8, Cond.code yJ8_newLength_cabcc cJ8_newLength_cabcc 4 (some .int), Cond.methodLink RJ8 194 Lib.Math.max.name, Cond.constant RJ8 200 (2147483639), Cond.methodLink RJ8 201 yJ8_hugeLength_7cf53, Cond.static yJ8_hugeLength_7cf53, Cond.code yJ8_hugeLength_7cf53 cJ8_hugeLength_7cf53 3 (some .int), Cond.methodLink RJx4a65c 66 yJ7_copyOf_1904c, Cond.static yJ7_copyOf_1904c, Cond.initialized RJ7, Cond.code yJ7_copyOf_1904c cJ7_copyOf_1904c 2 (some (.array (.object "java/lang/Object"))), Cond.methodLink RJ7 86 ⟨"java/lang/Object", "getClass", "()Ljava/lang/Class;"⟩, Cond.selects "[Ljava/lang/Object;" ⟨"java/lang/Object", "getClass", "()Ljava/lang/Class;"⟩ ⟨"java/lang/Object", "getClass", "()Ljava/lang/Class;"⟩, Cond.instanceMethod ⟨"java/lang/Object", "getClass", "()Ljava/lang/Class;"⟩, Cond.native ⟨"java/lang/Object", "getClass", "()Ljava/lang/Class;"⟩, Cond.methodLink RJ7 300 yJ7_copyOf_6403c, Cond.static yJ7_copyOf_6403c, Cond.code yJ7_copyOf_6403c cJ7_copyOf_6403c 4 (some (.array (.object "java/lang/Object"))), Cond.classLink RJ7 110 "[Ljava/lang/Object;", Cond.classLink RJ7 2 "java/lang/Object", Cond.methodLink RJ7 304 Lib.Math.min.name]
def wsL_law0_r19 : List Cond := [Cond.methodLink RJ7 150 arraycopyName, Cond.methodLink RX8 65 yX2_stoppedAt, Cond.instanceMethod yX2_stoppedAt, Cond.selects RX2 yX2_stoppedAt yX2_stoppedAt, Cond.code yX2_stoppedAt cX2_stoppedAt 1 (some .int), Cond.methodLink RX2 61 yX6_begin, Cond.instanceMethod yX6_begin, Cond.selects RX6 yX6_begin yX6_begin, Cond.code yX6_begin cX6_begin 1 (some .int), Cond.methodLink RX8 79 yX1_become, Cond.instanceMethod yX1_become, Cond.selects RX1 yX1_become yX1_become, Cond.code yX1_become cX1_become 3 none, Cond.methodLink RX1 35 yX1_size, Cond.instanceMethod yX1_size, Cond.selects RX1 yX1_size yX1_size, Cond.code yX1_size cX1_size 1 (some .int), Cond.methodLink RX1 36 yX1_at, Cond.instanceMethod yX1_at, Cond.selects RX1 yX1_at yX1_at, Cond.code yX1_at cX1_at 2 (some (.object "PlainWords$Sentence")), Cond.classLink RX1 26 "PlainWords$Sentence", Cond.methodLink RX1 22 yJx4a65c_get_915e3, Cond.instanceMethod yJx4a65c_get_915e3]
def wsL_law0_r20 : List Cond := [Cond.selects RJx4a65c yJx4a65c_get_915e3 yJx4a65c_get_915e3, Cond.code yJx4a65c_get_915e3 cJx4a65c_get_915e3 2 (some (.object "java/lang/Object")), Cond.methodLink RJx4a65c 118 yJ15_checkIndex_7cf53, Cond.static yJ15_checkIndex_7cf53, Cond.initialized RJ15, Cond.code yJ15_checkIndex_7cf53 cJ15_checkIndex_7cf53 2 (some .int), Cond.methodLink RJ15 105 yJ3_checkIndex_8e157, Cond.methodLink RJx4a65c 123 yJx4a65c_elementData_915e3, Cond.instanceMethod yJx4a65c_elementData_915e3, Cond.selects RJx4a65c yJx4a65c_elementData_915e3 yJx4a65c_elementData_915e3, Cond.code yJx4a65c_elementData_915e3 cJx4a65c_elementData_915e3 2 (some (.object "java/lang/Object")), Cond.methodLink RX1 40 yX1_add, Cond.methodLink RX8 83 yX1_size, Cond.methodLink RL 81 yX9_letter, Cond.instanceMethod yX9_letter, Cond.selects RX9 yX9_letter yX9_letter, Cond.code yX9_letter cX9_letter 3 (some .int), Cond.fieldLink RX9 102 "PlainWordsModel" "end" "I", Cond.fieldLink RX9 109 "PlainWordsModel" "begin" "I", Cond.fieldLink RX9 216 "PlainWordsModel" "old" "I", Cond.fieldLink RX9 219 "PlainWordsModel" "hasLetter" "Z", Cond.fieldLink RX9 223 "PlainWordsModel" "letters" "I", Cond.fieldLink RX9 226 "PlainWordsModel" "turns" "I", Cond.methodLink RX9 206 yX9_readAll]
def wsL_law0_r21 : List Cond := [Cond.instanceMethod yX9_readAll, Cond.selects RX9 yX9_readAll yX9_readAll, Cond.code yX9_readAll cX9_readAll 2 (some .int), Cond.fieldLink RX9 99 "PlainWordsModel" "point" "I", Cond.methodLink RX9 203 yX9_readSentence, Cond.instanceMethod yX9_readSentence, Cond.selects RX9 yX9_readSentence yX9_readSentence, Cond.code yX9_readSentence cX9_readSentence 2 (some .boolean), Cond.methodLink RX9 143 yX9_passes, Cond.instanceMethod yX9_passes, Cond.selects RX9 yX9_passes yX9_passes, Cond.code yX9_passes cX9_passes 2 (some .boolean), Cond.methodLink RX9 124 yX9_word, Cond.instanceMethod yX9_word, Cond.selects RX9 yX9_word yX9_word, Cond.code yX9_word cX9_word 1 none, Cond.methodLink RX9 112 yX9_blanks, Cond.instanceMethod yX9_blanks, Cond.selects RX9 yX9_blanks yX9_blanks, Cond.code yX9_blanks cX9_blanks 1 none, Cond.methodLink RX9 105 yX9_isAt, Cond.instanceMethod yX9_isAt, Cond.selects RX9 yX9_isAt yX9_isAt, Cond.code yX9_isAt cX9_isAt 3 (some .boolean)]
def wsL_law0_r22 : List Cond := [Cond.methodLink RX9 127 yX9_isWord, Cond.instanceMethod yX9_isWord, Cond.selects RX9 yX9_isWord yX9_isWord, Cond.code yX9_isWord cX9_isWord 4 (some .boolean), Cond.methodLink RX9 115 yJ0_length_8abf5, Cond.methodLink RX9 120 yJ0_charAt_5068e, Cond.methodLink RX9 193 yX9_readInto, Cond.instanceMethod yX9_readInto, Cond.selects RX9 yX9_readInto yX9_readInto, Cond.code yX9_readInto cX9_readInto 3 (some .boolean), Cond.fieldLink RX9 62 "PlainWordsModel" "places" "I", Cond.fieldLink RX9 135 "PlainWordsModel" "deep" "I", Cond.methodLink RX9 138 yX9_readCond, Cond.instanceMethod yX9_readCond, Cond.selects RX9 yX9_readCond yX9_readCond, Cond.code yX9_readCond cX9_readCond 3 (some .int), Cond.methodLink RX9 156 yX9_readAllOf, Cond.instanceMethod yX9_readAllOf, Cond.selects RX9 yX9_readAllOf yX9_readAllOf, Cond.methodLink RX9 68 yX9_place, Cond.instanceMethod yX9_place, Cond.selects RX9 yX9_place yX9_place, Cond.code yX9_place cX9_place 2 (some .int), Cond.methodLink RX9 75 yX9_puts]
def wsL_law0_r23 : List Cond := [Cond.instanceMethod yX9_puts, Cond.selects RX9 yX9_puts yX9_puts, Cond.code yX9_puts cX9_puts 4 none, Cond.code yX9_readAllOf cX9_readAllOf 3 (some .int), Cond.methodLink RX9 146 yX9_readItem, Cond.instanceMethod yX9_readItem, Cond.selects RX9 yX9_readItem yX9_readItem, Cond.code yX9_readItem cX9_readItem 3 (some .int), Cond.methodLink RX9 131 yX9_sign, Cond.instanceMethod yX9_sign, Cond.selects RX9 yX9_sign yX9_sign, Cond.code yX9_sign cX9_sign 2 (some .boolean), Cond.methodLink RX9 151 yX9_number, Cond.instanceMethod yX9_number, Cond.selects RX9 yX9_number yX9_number, Cond.code yX9_number cX9_number 4 (some .int), Cond.methodLink RX9 161 yX9_laysAll, Cond.instanceMethod yX9_laysAll, Cond.selects RX9 yX9_laysAll yX9_laysAll, Cond.code yX9_laysAll cX9_laysAll 3 none, Cond.fieldLink RX9 86 "PlainWordsModel" "laid" "I", Cond.methodLink RX9 89 yX9_lays, Cond.instanceMethod yX9_lays, Cond.selects RX9 yX9_lays yX9_lays]
def wsL_law0_r24 : List Cond := [Cond.code yX9_lays cX9_lays 3 none, Cond.methodLink RX9 82 yX9_size, Cond.instanceMethod yX9_size, Cond.selects RX9 yX9_size yX9_size, Cond.code yX9_size cX9_size 5 (some .int), Cond.methodLink RX9 92 yX9_laysThose, Cond.instanceMethod yX9_laysThose, Cond.selects RX9 yX9_laysThose yX9_laysThose, Cond.code yX9_laysThose cX9_laysThose 5 none, Cond.methodLink RX9 196 yX9_readBody, Cond.instanceMethod yX9_readBody, Cond.selects RX9 yX9_readBody yX9_readBody, Cond.code yX9_readBody cX9_readBody 2 (some .boolean), Cond.methodLink RX9 175 yX9_readWho, Cond.instanceMethod yX9_readWho, Cond.selects RX9 yX9_readWho yX9_readWho, Cond.code yX9_readWho cX9_readWho 1 (some .int), Cond.methodLink RX9 178 yX9_readMode, Cond.instanceMethod yX9_readMode, Cond.selects RX9 yX9_readMode yX9_readMode, Cond.code yX9_readMode cX9_readMode 2 (some .boolean), Cond.methodLink RX9 181 yX9_readActs, Cond.instanceMethod yX9_readActs, Cond.selects RX9 yX9_readActs yX9_readActs]
def wsL_law0_r25 : List Cond := [Cond.code yX9_readActs cX9_readActs 6 (some .boolean), Cond.methodLink RX9 209 yX9_throwsIf, Cond.instanceMethod yX9_throwsIf, Cond.selects RX9 yX9_throwsIf yX9_throwsIf, Cond.code yX9_throwsIf cX9_throwsIf 3 (some .boolean), Cond.methodLink RX9 213 yX9_copies, Cond.instanceMethod yX9_copies, Cond.selects RX9 yX9_copies yX9_copies, Cond.code yX9_copies cX9_copies 5 none, Cond.methodLink RX9 229 yX9_renews, Cond.instanceMethod yX9_renews, Cond.selects RX9 yX9_renews yX9_renews, Cond.code yX9_renews cX9_renews 2 none, Cond.fieldLink RX9 232 "PlainWordsModel" "fresh" "I", Cond.methodLink RL 82 yX9_thrown, Cond.instanceMethod yX9_thrown, Cond.selects RX9 yX9_thrown yX9_thrown, Cond.code yX9_thrown cX9_thrown 1 (some .int), Cond.methodLink RL 85 yX8_fault, Cond.instanceMethod yX8_fault, Cond.selects RX8 yX8_fault yX8_fault, Cond.code yX8_fault cX8_fault 1 (some .int), Cond.methodLink RL 88 yX9_fault, Cond.instanceMethod yX9_fault]
def wsL_law0_r26 : List Cond := [Cond.selects RX9 yX9_fault yX9_fault, Cond.code yX9_fault cX9_fault 1 (some .int), Cond.methodLink RL 89 yL_part, Cond.static yL_part, Cond.codeWith yL_part cL_part 4 (some .int) [(0, 16, 19, 19), (0, 16, 22, 21)], Cond.classLink RL 19 "java/lang/IllegalStateException", Cond.classLink RL 21 "java/lang/IndexOutOfBoundsException", Cond.methodLink RL 15 yX8_part, Cond.instanceMethod yX8_part, Cond.selects RX8 yX8_part yX8_part, Cond.code yX8_part cX8_part 2 (some .boolean), Cond.methodLink RX8 85 yX8_needSentence, Cond.instanceMethod yX8_needSentence, Cond.selects RX8 yX8_needSentence yX8_needSentence, Cond.code yX8_needSentence cX8_needSentence 2 none, Cond.classLink RX8 161 "java/lang/IndexOutOfBoundsException", Cond.initialized "java/lang/IndexOutOfBoundsException", Cond.methodLink RX8 104 yX8_needLetter, Cond.instanceMethod yX8_needLetter, Cond.selects RX8 yX8_needLetter yX8_needLetter, Cond.code yX8_needLetter cX8_needLetter 1 none, Cond.classLink RX8 156 "java/lang/IllegalStateException", Cond.initialized "java/lang/IllegalStateException", Cond.methodLink RX8 88 yX1_partAt]
def wsL_law0_r27 : List Cond := [Cond.instanceMethod yX1_partAt, Cond.selects RX1 yX1_partAt yX1_partAt, Cond.code yX1_partAt cX1_partAt 5 (some .boolean), Cond.fieldLink RX1 43 "PlainWords$Sentence" "acts" "[I", Cond.methodLink RX1 47 yX3_withAct, Cond.instanceMethod yX3_withAct, Cond.selects RX3 yX3_withAct yX3_withAct, Cond.code yX3_withAct cX3_withAct 3 (some (.object "PlainWords$Sentence")), Cond.methodLink RX3 39 yX3_withActs, Cond.instanceMethod yX3_withActs, Cond.selects RX3 yX3_withActs yX3_withActs, Cond.code yX3_withActs cX3_withActs 2 (some (.object "PlainWords$Sentence")), Cond.classLink RX3 10 RX3, Cond.methodLink RX3 36 yX3_init, Cond.methodLink RX1 50 yJx4a65c_set_bcc79, Cond.instanceMethod yJx4a65c_set_bcc79, Cond.selects RJx4a65c yJx4a65c_set_bcc79 yJx4a65c_set_bcc79, Cond.code yJx4a65c_set_bcc79 cJx4a65c_set_bcc79 4 (some (.object "java/lang/Object")), Cond.methodLink RX1 54 yJx4a65c_add_7a177, Cond.instanceMethod yJx4a65c_add_7a177, Cond.selects RJx4a65c yJx4a65c_add_7a177 yJx4a65c_add_7a177, Cond.code yJx4a65c_add_7a177 cJx4a65c_add_7a177 5 none, Cond.methodLink RJx4a65c 112 arraycopyName, Cond.methodLink RJx4a65c 135 yJx4a65c_rangeCheckForAdd_d00df]
def wsL_law0_r28 : List Cond := [Cond.instanceMethod yJx4a65c_rangeCheckForAdd_d00df, Cond.selects RJx4a65c yJx4a65c_rangeCheckForAdd_d00df yJx4a65c_rangeCheckForAdd_d00df, Cond.code yJx4a65c_rangeCheckForAdd_d00df cJx4a65c_rangeCheckForAdd_d00df 2 none, Cond.methodLink RX8 91 yX8_tallied, Cond.instanceMethod yX8_tallied, Cond.selects RX8 yX8_tallied yX8_tallied, Cond.code yX8_tallied cX8_tallied 2 (some .boolean), Cond.methodLink RL 92 yX9_part, Cond.instanceMethod yX9_part, Cond.selects RX9 yX9_part yX9_part, Cond.code yX9_part cX9_part 5 (some .boolean), Cond.methodLink RX9 301 yX9_refuses, Cond.instanceMethod yX9_refuses, Cond.selects RX9 yX9_refuses yX9_refuses, Cond.code yX9_refuses cX9_refuses 2 (some .boolean), Cond.methodLink RX9 298 yX9_noSentence, Cond.instanceMethod yX9_noSentence, Cond.selects RX9 yX9_noSentence yX9_noSentence, Cond.code yX9_noSentence cX9_noSentence 2 (some .boolean), Cond.methodLink RX9 294 yX9_in, Cond.static yX9_in, Cond.code yX9_in cX9_in 3 (some .boolean), Cond.methodLink RL 93 yL_melt, Cond.static yL_melt]
def wsL_law0_r29 : List Cond := [Cond.codeWith yL_melt cL_melt 4 (some .int) [(0, 16, 19, 19), (0, 16, 22, 21)], Cond.methodLink RL 23 yX8_melt, Cond.instanceMethod yX8_melt, Cond.selects RX8 yX8_melt yX8_melt, Cond.code yX8_melt cX8_melt 2 (some .boolean), Cond.methodLink RX8 95 yX1_meltAt, Cond.instanceMethod yX1_meltAt, Cond.selects RX1 yX1_meltAt yX1_meltAt, Cond.code yX1_meltAt cX1_meltAt 2 (some .boolean), Cond.methodLink RX1 57 yX3_canMelt, Cond.instanceMethod yX3_canMelt, Cond.selects RX3 yX3_canMelt yX3_canMelt, Cond.code yX3_canMelt cX3_canMelt 6 (some .boolean), Cond.methodLink RX3 60 yX3_asksLike, Cond.instanceMethod yX3_asksLike, Cond.selects RX3 yX3_asksLike yX3_asksLike, Cond.code yX3_asksLike cX3_asksLike 2 (some .boolean), Cond.methodLink RX3 64 yX3_names, Cond.instanceMethod yX3_names, Cond.selects RX3 yX3_names yX3_names, Cond.code yX3_names cX3_names 6 (some .boolean), Cond.static yX0_alike, Cond.code yX0_alike cX0_alike 4 (some .boolean), Cond.methodLink RX0 64 yX0_alike]
def wsL_law0_r30 : List Cond := [Cond.methodLink RX1 61 yX3_melted, Cond.instanceMethod yX3_melted, Cond.selects RX3 yX3_melted yX3_melted, Cond.code yX3_melted cX3_melted 3 (some (.object "PlainWords$Sentence")), Cond.methodLink RX3 72 arraycopyName, Cond.methodLink RX1 65 yJx4a65c_remove_915e3, Cond.instanceMethod yJx4a65c_remove_915e3, Cond.selects RJx4a65c yJx4a65c_remove_915e3 yJx4a65c_remove_915e3, Cond.code yJx4a65c_remove_915e3 cJx4a65c_remove_915e3 4 (some (.object "java/lang/Object")), Cond.methodLink RJx4a65c 144 yJx4a65c_fastRemove_b59b0, Cond.instanceMethod yJx4a65c_fastRemove_b59b0, Cond.selects RJx4a65c yJx4a65c_fastRemove_b59b0 yJx4a65c_fastRemove_b59b0, Cond.code yJx4a65c_fastRemove_b59b0 cJx4a65c_fastRemove_b59b0 4 none, Cond.methodLink RL 95 yX9_melt, Cond.instanceMethod yX9_melt, Cond.selects RX9 yX9_melt yX9_melt, Cond.code yX9_melt cX9_melt 6 (some .boolean), Cond.methodLink RX9 304 yX9_areAlike, Cond.instanceMethod yX9_areAlike, Cond.selects RX9 yX9_areAlike yX9_areAlike, Cond.code yX9_areAlike cX9_areAlike 6 (some .boolean), Cond.methodLink RL 96 yL_turn, Cond.static yL_turn, Cond.codeWith yL_turn cL_turn 4 (some .int) [(0, 16, 19, 19), (0, 16, 22, 21)]]
def wsL_law0_r31 : List Cond := [Cond.methodLink RL 26 yX8_turn, Cond.instanceMethod yX8_turn, Cond.selects RX8 yX8_turn yX8_turn, Cond.code yX8_turn cX8_turn 2 (some .boolean), Cond.methodLink RX8 98 yX1_turnAt, Cond.instanceMethod yX1_turnAt, Cond.selects RX1 yX1_turnAt yX1_turnAt, Cond.code yX1_turnAt cX1_turnAt 3 (some .boolean), Cond.methodLink RX1 68 yX3_canTurn, Cond.instanceMethod yX3_canTurn, Cond.selects RX3 yX3_canTurn yX3_canTurn, Cond.code yX3_canTurn cX3_canTurn 1 (some .boolean), Cond.methodLink RX1 72 yX3_turned, Cond.instanceMethod yX3_turned, Cond.selects RX3 yX3_turned yX3_turned, Cond.code yX3_turned cX3_turned 1 (some (.object "PlainWords$Sentence")), Cond.methodLink RL 98 yX9_turn, Cond.instanceMethod yX9_turn, Cond.selects RX9 yX9_turn yX9_turn, Cond.code yX9_turn cX9_turn 2 (some .boolean), Cond.methodLink RX9 307 yX9_turnsRound, Cond.instanceMethod yX9_turnsRound, Cond.selects RX9 yX9_turnsRound yX9_turnsRound, Cond.code yX9_turnsRound cX9_turnsRound 2 (some .boolean)]
def wsL_law0_r32 : List Cond := [Cond.methodLink RL 99 yL_ease, Cond.static yL_ease, Cond.codeWith yL_ease cL_ease 4 (some .int) [(0, 16, 19, 19), (0, 16, 22, 21)], Cond.methodLink RL 29 yX8_ease, Cond.instanceMethod yX8_ease, Cond.selects RX8 yX8_ease yX8_ease, Cond.code yX8_ease cX8_ease 2 (some .boolean), Cond.methodLink RX8 101 yX1_easeAt, Cond.instanceMethod yX1_easeAt, Cond.selects RX1 yX1_easeAt yX1_easeAt, Cond.code yX1_easeAt cX1_easeAt 3 (some .boolean), Cond.methodLink RX1 76 yX3_canEase, Cond.instanceMethod yX3_canEase, Cond.selects RX3 yX3_canEase yX3_canEase, Cond.code yX3_canEase cX3_canEase 1 (some .boolean), Cond.fieldLink RX3 43 "PlainWords$Cond" "notNot" "Z", Cond.methodLink RX1 79 yX3_eased, Cond.instanceMethod yX3_eased, Cond.selects RX3 yX3_eased yX3_eased, Cond.code yX3_eased cX3_eased 3 (some (.object "PlainWords$Sentence")), Cond.methodLink RX3 48 yX0_negated, Cond.methodLink RX3 52 yX0_joined, Cond.static yX0_eased, Cond.code yX0_eased cX0_eased 5 (some (.object "PlainWords$Cond"))]
def wsL_law0_r33 : List Cond := [Cond.methodLink RX0 52 yX0_eased, Cond.methodLink RX0 56 yX0_negated, Cond.methodLink RX0 60 yX0_joined, Cond.methodLink RL 101 yX9_ease, Cond.instanceMethod yX9_ease, Cond.selects RX9 yX9_ease yX9_ease, Cond.code yX9_ease cX9_ease 2 (some .boolean), Cond.methodLink RX9 313 yX9_eases, Cond.instanceMethod yX9_eases, Cond.selects RX9 yX9_eases yX9_eases, Cond.code yX9_eases cX9_eases 7 (some .boolean), Cond.methodLink RX9 283 yX9_notsOf, Cond.instanceMethod yX9_notsOf, Cond.selects RX9 yX9_notsOf yX9_notsOf, Cond.code yX9_notsOf cX9_notsOf 5 (some .int), Cond.methodLink RX9 310 yX9_treeOf, Cond.instanceMethod yX9_treeOf, Cond.selects RX9 yX9_treeOf yX9_treeOf, Cond.code yX9_treeOf cX9_treeOf 2 (some .int), Cond.fieldLink RX9 65 "PlainWordsModel" "at" "I", Cond.methodLink RX9 72 yX9_tree, Cond.instanceMethod yX9_tree, Cond.selects RX9 yX9_tree yX9_tree, Cond.code yX9_tree cX9_tree 6 (some .int)]
def wsL_law0_r34 : List Cond := [Cond.methodLink RX9 79 yX9_eased, Cond.instanceMethod yX9_eased, Cond.selects RX9 yX9_eased yX9_eased, Cond.code yX9_eased cX9_eased 4 (some .int), Cond.methodLink RL 102 yL_plainest, Cond.static yL_plainest, Cond.codeWith yL_plainest cL_plainest 3 (some .int) [(0, 8, 11, 19)], Cond.methodLink RL 32 yX8_plainest, Cond.instanceMethod yX8_plainest, Cond.selects RX8 yX8_plainest yX8_plainest, Cond.code yX8_plainest cX8_plainest 1 (some .int), Cond.methodLink RX8 107 yX1_becomePlainest, Cond.instanceMethod yX1_becomePlainest, Cond.selects RX1 yX1_becomePlainest yX1_becomePlainest, Cond.code yX1_becomePlainest cX1_becomePlainest 3 none, Cond.methodLink RX1 86 yX1_addPlainest, Cond.instanceMethod yX1_addPlainest, Cond.selects RX1 yX1_addPlainest yX1_addPlainest, Cond.code yX1_addPlainest cX1_addPlainest 12 none, Cond.methodLink RX1 82 yX3_price, Cond.instanceMethod yX3_price, Cond.selects RX3 yX3_price yX3_price, Cond.code yX3_price cX3_price 3 (some .int), Cond.methodLink RX3 99 Lib.Math.max.name]
def wsL_law0_r35 : List Cond := [Cond.methodLink RX3 93 yX3_words, Cond.instanceMethod yX3_words, Cond.selects RX3 yX3_words yX3_words, Cond.code yX3_words cX3_words 3 (some .int), Cond.fieldLink RX3 87 "PlainWords$Cond" "words" "I", Cond.methodLink RX3 96 yX3_nots, Cond.instanceMethod yX3_nots, Cond.selects RX3 yX3_nots yX3_nots, Cond.code yX3_nots cX3_nots 1 (some .int), Cond.fieldLink RX3 90 "PlainWords$Cond" "nots" "I", Cond.methodLink RX1 89 yJ6_bitCount_0f7a4, Cond.static yJ6_bitCount_0f7a4, Cond.initialized RJ6, Cond.code yJ6_bitCount_0f7a4 cJ6_bitCount_0f7a4 1 (some .int), Cond.constant RJ6 265 (1431655765), Cond.constant RJ6 266 (858993459), Cond.constant RJ6 267 (252645135), Cond.methodLink RX1 94 yX1_addWhole, Cond.instanceMethod yX1_addWhole, Cond.selects RX1 yX1_addWhole yX1_addWhole, Cond.code yX1_addWhole cX1_addWhole 4 none, Cond.methodLink RX8 110 yX1_price, Cond.instanceMethod yX1_price, Cond.selects RX1 yX1_price yX1_price]
def wsL_law0_r36 : List Cond := [Cond.code yX1_price cX1_price 4 (some .int), Cond.methodLink RL 104 yX9_plainest, Cond.instanceMethod yX9_plainest, Cond.selects RX9 yX9_plainest yX9_plainest, Cond.code yX9_plainest cX9_plainest 6 (some .int), Cond.fieldLink RX9 316 "PlainWordsModel" "tried" "I", Cond.methodLink RX9 319 yX9_tries, Cond.instanceMethod yX9_tries, Cond.selects RX9 yX9_tries yX9_tries, Cond.code yX9_tries cX9_tries 5 (some .int), Cond.methodLink RX9 289 yX9_costOfAll, Cond.instanceMethod yX9_costOfAll, Cond.selects RX9 yX9_costOfAll yX9_costOfAll, Cond.code yX9_costOfAll cX9_costOfAll 5 (some .int), Cond.methodLink RX9 286 yX9_costOf, Cond.instanceMethod yX9_costOf, Cond.selects RX9 yX9_costOf yX9_costOf, Cond.code yX9_costOf cX9_costOf 3 (some .int), Cond.methodLink RX9 280 yX9_wordsOf, Cond.instanceMethod yX9_wordsOf, Cond.selects RX9 yX9_wordsOf yX9_wordsOf, Cond.code yX9_wordsOf cX9_wordsOf 2 (some .int), Cond.fieldLink RX9 235 "PlainWordsModel" "written" "I", Cond.fieldLink RX9 245 "PlainWordsModel" "words" "I"]
def wsL_law0_r37 : List Cond := [Cond.methodLink RX9 277 yX9_putSentence, Cond.instanceMethod yX9_putSentence, Cond.selects RX9 yX9_putSentence yX9_putSentence, Cond.code yX9_putSentence cX9_putSentence 2 none, Cond.fieldLink RX9 238 "PlainWordsModel" "isOpen" "Z", Cond.methodLink RX9 250 yX9_putWord, Cond.instanceMethod yX9_putWord, Cond.selects RX9 yX9_putWord yX9_putWord, Cond.code yX9_putWord cX9_putWord 2 none, Cond.methodLink RX9 241 yX9_put, Cond.instanceMethod yX9_put, Cond.selects RX9 yX9_put yX9_put, Cond.code yX9_put cX9_put 4 none, Cond.methodLink RX9 258 yX9_putCond, Cond.instanceMethod yX9_putCond, Cond.selects RX9 yX9_putCond yX9_putCond, Cond.code yX9_putCond cX9_putCond 7 none, Cond.methodLink RX9 254 yX9_putNumber, Cond.instanceMethod yX9_putNumber, Cond.selects RX9 yX9_putNumber yX9_putNumber, Cond.code yX9_putNumber cX9_putNumber 3 none, Cond.methodLink RX9 261 yX9_putOpen, Cond.instanceMethod yX9_putOpen, Cond.selects RX9 yX9_putOpen yX9_putOpen]
def wsL_law0_r38 : List Cond := [Cond.code yX9_putOpen cX9_putOpen 1 none, Cond.methodLink RX9 268 yX9_putActs, Cond.instanceMethod yX9_putActs, Cond.selects RX9 yX9_putActs yX9_putActs, Cond.code yX9_putActs cX9_putActs 3 none, Cond.methodLink RX9 271 yX9_putMode, Cond.instanceMethod yX9_putMode, Cond.selects RX9 yX9_putMode yX9_putMode, Cond.code yX9_putMode cX9_putMode 2 none, Cond.methodLink RX9 274 yX9_putWho, Cond.instanceMethod yX9_putWho, Cond.selects RX9 yX9_putWho yX9_putWho, Cond.code yX9_putWho cX9_putWho 2 none, Cond.methodLink RX9 322 yX9_isFewer, Cond.static yX9_isFewer, Cond.code yX9_isFewer cX9_isFewer 3 (some .boolean), Cond.methodLink RX9 325 yJ6_bitCount_0f7a4, Cond.methodLink RL 105 yL_again, Cond.static yL_again, Cond.codeWith yL_again cL_again 2 (some .int) [(0, 4, 7, 19)], Cond.methodLink RL 35 yX8_again, Cond.instanceMethod yX8_again, Cond.selects RX8 yX8_again yX8_again, Cond.code yX8_again cX8_again 1 none]
def wsL_law0_r39 : List Cond := [Cond.methodLink RL 108 yX9_again, Cond.instanceMethod yX9_again, Cond.selects RX9 yX9_again yX9_again, Cond.code yX9_again cX9_again 1 none, Cond.methodLink RL 109 yL_cost, Cond.static yL_cost, Cond.codeWith yL_cost cL_cost 4 (some .int) [(0, 9, 12, 19)], Cond.methodLink RL 38 yX8_cost, Cond.instanceMethod yX8_cost, Cond.selects RX8 yX8_cost yX8_cost, Cond.code yX8_cost cX8_cost 2 (some .int), Cond.methodLink RX8 113 yX8_chosen, Cond.instanceMethod yX8_chosen, Cond.selects RX8 yX8_chosen yX8_chosen, Cond.code yX8_chosen cX8_chosen 2 (some (.object "PlainWords$Letter")), Cond.methodLink RL 112 yX9_cost, Cond.instanceMethod yX9_cost, Cond.selects RX9 yX9_cost yX9_cost, Cond.code yX9_cost cX9_cost 2 (some .int), Cond.methodLink RL 113 yL_look, Cond.static yL_look, Cond.codeWith yL_look cL_look 5 (some .int) [(0, 10, 13, 19), (0, 10, 17, 21), (0, 10, 21, 46)], Cond.classLink RL 46 "java/util/NoSuchElementException", Cond.methodLink RL 42 yX8_look]
def wsL_law0_r40 : List Cond := [Cond.instanceMethod yX8_look, Cond.selects RX8 yX8_look yX8_look, Cond.code yX8_look cX8_look 3 (some .int), Cond.classLink RX8 117 "java/util/NoSuchElementException", Cond.initialized "java/util/NoSuchElementException", Cond.methodLink RX8 122 yX1_at, Cond.methodLink RX8 126 yX3_trait, Cond.instanceMethod yX3_trait, Cond.selects RX3 yX3_trait yX3_trait, Cond.code yX3_trait cX3_trait 2 (some .int), Cond.methodLink RX3 105 yX3_price, Cond.methodLink RL 116 yX9_look, Cond.instanceMethod yX9_look, Cond.selects RX9 yX9_look yX9_look, Cond.code yX9_look cX9_look 4 (some .int), Cond.methodLink RL 117 yL_same, Cond.static yL_same, Cond.codeWith yL_same cL_same 3 (some .int) [(0, 15, 18, 19)], Cond.methodLink RL 48 yX8_same, Cond.instanceMethod yX8_same, Cond.selects RX8 yX8_same yX8_same, Cond.code yX8_same cX8_same 1 (some .boolean), Cond.methodLink RX8 132 yX1_isWithin, Cond.instanceMethod yX1_isWithin]
def wsL_law0_r41 : List Cond := [Cond.selects RX1 yX1_isWithin yX1_isWithin, Cond.code yX1_isWithin cX1_isWithin 8 (some .boolean), Cond.constantLong RX1 102 (-1), Cond.methodLink RX1 98 yX1_casesAsking, Cond.instanceMethod yX1_casesAsking, Cond.selects RX1 yX1_casesAsking yX1_casesAsking, Cond.code yX1_casesAsking cX1_casesAsking 7 (some .long), Cond.methodLink RX1 104 yX3_asksLike, Cond.methodLink RX1 107 yX3_names, Cond.methodLink RX1 111 yX3_truth, Cond.instanceMethod yX3_truth, Cond.selects RX3 yX3_truth yX3_truth, Cond.code yX3_truth cX3_truth 3 (some .long), Cond.constantLong RX3 78 (-1), Cond.fieldLink RX3 80 "PlainWords$Cond" "truth" "J", Cond.methodLink RL 119 yX9_same, Cond.instanceMethod yX9_same, Cond.selects RX9 yX9_same yX9_same, Cond.code yX9_same cX9_same 1 (some .boolean), Cond.methodLink RX9 343 yX9_isWithin, Cond.instanceMethod yX9_isWithin, Cond.selects RX9 yX9_isWithin yX9_isWithin, Cond.code yX9_isWithin cX9_isWithin 8 (some .boolean), Cond.methodLink RX9 336 yX9_counts]
def wsL_law0_r42 : List Cond := [Cond.instanceMethod yX9_counts, Cond.selects RX9 yX9_counts yX9_counts, Cond.code yX9_counts cX9_counts 3 (some .boolean), Cond.methodLink RX9 330 yX9_isSo, Cond.instanceMethod yX9_isSo, Cond.selects RX9 yX9_isSo yX9_isSo, Cond.code yX9_isSo cX9_isSo 9 (some .boolean), Cond.methodLink RX9 339 yX9_asks, Cond.instanceMethod yX9_asks, Cond.selects RX9 yX9_asks yX9_asks, Cond.code yX9_asks cX9_asks 9 (some .boolean), Cond.methodLink RX9 333 yX9_hasAct, Cond.instanceMethod yX9_hasAct, Cond.selects RX9 yX9_hasAct yX9_hasAct, Cond.code yX9_hasAct cX9_hasAct 5 (some .boolean), Cond.methodLink RL 120 yL_write, Cond.static yL_write, Cond.codeWith yL_write cL_write 3 (some .int) [(0, 8, 11, 19)], Cond.methodLink RL 52 yX8_write, Cond.instanceMethod yX8_write, Cond.selects RX8 yX8_write yX8_write, Cond.code yX8_write cX8_write 1 (some .int), Cond.fieldLink RX8 139 "PlainWords$Writer" "size" "I", Cond.fieldLink RX8 140 "PlainWords$Writer" "bytes" "[B"]
def wsL_law0_r43 : List Cond := [Cond.methodLink RX8 136 yX7_writeLetter, Cond.instanceMethod yX7_writeLetter, Cond.selects RX7 yX7_writeLetter yX7_writeLetter, Cond.code yX7_writeLetter cX7_writeLetter 3 none, Cond.methodLink RX7 25 yX1_size, Cond.methodLink RX7 30 yX7_put, Cond.instanceMethod yX7_put, Cond.selects RX7 yX7_put yX7_put, Cond.code yX7_put cX7_put 2 none, Cond.methodLink RX7 34 yX1_at, Cond.methodLink RX7 38 yX7_writeSentence, Cond.instanceMethod yX7_writeSentence, Cond.selects RX7 yX7_writeSentence yX7_writeSentence, Cond.code yX7_writeSentence cX7_writeSentence 2 none, Cond.fieldLink RX7 42 "PlainWords$Sentence" "when" "LPlainWords$Cond;", Cond.fieldLink RX7 57 "PlainWords$Sentence" "passive" "Z", Cond.fieldLink RX7 60 "PlainWords$Sentence" "acts" "[I", Cond.fieldLink RX7 68 "PlainWords$Sentence" "mode" "I", Cond.fieldLink RX7 74 "PlainWords$Sentence" "who" "I", Cond.fieldLink RX7 80 "PlainWords$Sentence" "unless" "LPlainWords$Cond;", Cond.fieldLink RX7 83 "PlainWords$Sentence" "limit" "I", Cond.methodLink RX7 50 yX7_writeWord, Cond.instanceMethod yX7_writeWord, Cond.selects RX7 yX7_writeWord yX7_writeWord]
def wsL_law0_r44 : List Cond := [Cond.code yX7_writeWord cX7_writeWord 4 none, Cond.methodLink RX7 105 yX7_blank, Cond.instanceMethod yX7_blank, Cond.selects RX7 yX7_blank yX7_blank, Cond.code yX7_blank cX7_blank 1 none, Cond.methodLink RX7 108 yX5_text, Cond.methodLink RX7 112 yJ0_length_8abf5, Cond.methodLink RX7 117 yJ0_charAt_5068e, Cond.methodLink RX7 53 yX7_writeCond, Cond.instanceMethod yX7_writeCond, Cond.selects RX7 yX7_writeCond yX7_writeCond, Cond.code yX7_writeCond cX7_writeCond 4 none, Cond.fieldLink RX7 89 "PlainWords$Cond" "kind" "I", Cond.fieldLink RX7 94 "PlainWords$Cond" "number" "I", Cond.fieldLink RX7 97 "PlainWords$Cond" "pieces" "[LPlainWords$Cond;", Cond.methodLink RX7 86 yX7_writeNumber, Cond.instanceMethod yX7_writeNumber, Cond.selects RX7 yX7_writeNumber yX7_writeNumber, Cond.code yX7_writeNumber cX7_writeNumber 2 none, Cond.methodLink RX7 101 yX7_writePiece, Cond.instanceMethod yX7_writePiece, Cond.selects RX7 yX7_writePiece yX7_writePiece, Cond.code yX7_writePiece cX7_writePiece 5 none, Cond.methodLink RX7 64 yX7_writeActs]
def wsL_law0_r45 : List Cond := [Cond.instanceMethod yX7_writeActs, Cond.selects RX7 yX7_writeActs yX7_writeActs, Cond.code yX7_writeActs cX7_writeActs 3 none, Cond.methodLink RX7 71 yX7_writeMode, Cond.instanceMethod yX7_writeMode, Cond.selects RX7 yX7_writeMode yX7_writeMode, Cond.code yX7_writeMode cX7_writeMode 2 none, Cond.methodLink RX7 77 yX7_writeDone, Cond.instanceMethod yX7_writeDone, Cond.selects RX7 yX7_writeDone yX7_writeDone, Cond.code yX7_writeDone cX7_writeDone 2 none, Cond.methodLink RX8 144 yX4_become, Cond.instanceMethod yX4_become, Cond.selects RX4 yX4_become yX4_become, Cond.code yX4_become cX4_become 3 none, Cond.methodLink RX4 19 arraycopyName, Cond.methodLink RL 122 yX9_write, Cond.instanceMethod yX9_write, Cond.selects RX9 yX9_write yX9_write, Cond.code yX9_write cX9_write 2 (some .int), Cond.methodLink RL 123 yX8_taped, Cond.instanceMethod yX8_taped, Cond.selects RX8 yX8_taped yX8_taped, Cond.code yX8_taped cX8_taped 2 (some .int)]
def wsL_law0_r46 : List Cond := [Cond.methodLink RX8 147 yX4_at, Cond.methodLink RL 127 yX9_taped, Cond.instanceMethod yX9_taped, Cond.selects RX9 yX9_taped yX9_taped, Cond.code yX9_taped cX9_taped 2 (some .int), Cond.methodLink RL 128 yL_ask, Cond.static yL_ask, Cond.codeWith yL_ask cL_ask 7 (some .int) [(0, 14, 17, 19)], Cond.methodLink RL 55 yX8_ask, Cond.instanceMethod yX8_ask, Cond.selects RX8 yX8_ask yX8_ask, Cond.code yX8_ask cX8_ask 5 (some .int), Cond.methodLink RX8 149 yX1_modesAsked, Cond.instanceMethod yX1_modesAsked, Cond.selects RX1 yX1_modesAsked yX1_modesAsked, Cond.code yX1_modesAsked cX1_modesAsked 7 (some .int), Cond.fieldLink RX1 119 "PlainWords$Sentence" "mode" "I", Cond.methodLink RX1 115 yX3_asks, Cond.instanceMethod yX3_asks, Cond.selects RX3 yX3_asks yX3_asks, Cond.code yX3_asks cX3_asks 4 (some .boolean), Cond.methodLink RX3 84 yX3_truth, Cond.methodLink RL 131 yX9_ask, Cond.instanceMethod yX9_ask]
def wsL_law0_r47 : List Cond := [Cond.selects RX9 yX9_ask yX9_ask, Cond.code yX9_ask cX9_ask 8 (some .int), Cond.methodLink RL 132 yL_days, Cond.static yL_days, Cond.codeWith yL_days cL_days 6 (some .int) [(0, 12, 15, 19)], Cond.methodLink RL 59 yX8_days, Cond.instanceMethod yX8_days, Cond.selects RX8 yX8_days yX8_days, Cond.code yX8_days cX8_days 4 (some .int), Cond.methodLink RX8 153 yX1_leastDays, Cond.instanceMethod yX1_leastDays, Cond.selects RX1 yX1_leastDays yX1_leastDays, Cond.code yX1_leastDays cX1_leastDays 7 (some .int), Cond.fieldLink RX1 123 "PlainWords$Sentence" "limit" "I", Cond.methodLink RX1 126 Lib.Math.min.name, Cond.methodLink RL 135 yX9_days, Cond.instanceMethod yX9_days, Cond.selects RX9 yX9_days yX9_days, Cond.code yX9_days cX9_days 6 (some .int), Cond.methodLink RX9 347 Lib.Math.min.name, Cond.methodLink RL 136 yX8_count, Cond.instanceMethod yX8_count, Cond.selects RX8 yX8_count yX8_count, Cond.code yX8_count cX8_count 2 (some .int)]
def wsL_law0_r48 : List Cond := [Cond.methodLink RL 139 yX9_count, Cond.instanceMethod yX9_count, Cond.selects RX9 yX9_count yX9_count, Cond.code yX9_count cX9_count 2 (some .int)]
def wsL_law0 : List Cond := (wsL_law0_r1 ++ (wsL_law0_r2 ++ (wsL_law0_r3 ++ (wsL_law0_r4 ++ (wsL_law0_r5 ++ (wsL_law0_r6 ++ (wsL_law0_r7 ++ (wsL_law0_r8 ++ (wsL_law0_r9 ++ (wsL_law0_r10 ++ (wsL_law0_r11 ++ (wsL_law0_r12 ++ (wsL_law0_r13 ++ (wsL_law0_r14 ++ (wsL_law0_r15 ++ (wsL_law0_r16 ++ (wsL_law0_r17 ++ (wsL_law0_r18 ++ (wsL_law0_r19 ++ (wsL_law0_r20 ++ (wsL_law0_r21 ++ (wsL_law0_r22 ++ (wsL_law0_r23 ++ (wsL_law0_r24 ++ (wsL_law0_r25 ++ (wsL_law0_r26 ++ (wsL_law0_r27 ++ (wsL_law0_r28 ++ (wsL_law0_r29 ++ (wsL_law0_r30 ++ (wsL_law0_r31 ++ (wsL_law0_r32 ++ (wsL_law0_r33 ++ (wsL_law0_r34 ++ (wsL_law0_r35 ++ (wsL_law0_r36 ++ (wsL_law0_r37 ++ (wsL_law0_r38 ++ (wsL_law0_r39 ++ (wsL_law0_r40 ++ (wsL_law0_r41 ++ (wsL_law0_r42 ++ (wsL_law0_r43 ++ (wsL_law0_r44 ++ (wsL_law0_r45 ++ (wsL_law0_r46 ++ (wsL_law0_r47 ++ wsL_law0_r48))))))))))))))))))))))))))))))))))))))))))))))) ++ wsX80 ++ wsX90 ++ wsX40 ++ wsX20 ++ wsX70 ++ wsX10 ++ wsX60 ++ wsJx4a65c0 ++ wsJ00 ++ wsX30 ++ wsX00 ++ ([] : List Cond)
end
section
theorem dX0_init_0 : decode cX0_init 0 = .ok (.aload_n 0, 1) := by decide +kernel
theorem dX0_init_1 : decode cX0_init 1 = .ok (.invokespecial 3, 3) := by decide +kernel
theorem dX0_init_4 : decode cX0_init 4 = .ok (.aload_n 0, 1) := by decide +kernel
theorem dX0_init_5 : decode cX0_init 5 = .ok (.iconst 3, 1) := by decide +kernel
theorem dX0_init_6 : decode cX0_init 6 = .ok (.putfield 11, 3) := by decide +kernel
theorem dX0_init_9 : decode cX0_init 9 = .ok (.aload_n 0, 1) := by decide +kernel
theorem dX0_init_10 : decode cX0_init 10 = .ok (.iload_n 1, 1) := by decide +kernel
theorem dX0_init_11 : decode cX0_init 11 = .ok (.putfield 15, 3) := by decide +kernel
theorem dX0_init_14 : decode cX0_init 14 = .ok (.aload_n 0, 1) := by decide +kernel
theorem dX0_init_15 : decode cX0_init 15 = .ok (.iconst 0, 1) := by decide +kernel
theorem dX0_init_16 : decode cX0_init 16 = .ok (.anewarray 9, 3) := by decide +kernel
theorem dX0_init_19 : decode cX0_init 19 = .ok (.putfield 18, 3) := by decide +kernel
theorem dX0_init_22 : decode cX0_init 22 = .ok (.aload_n 0, 1) := by decide +kernel
theorem dX0_init_23 : decode cX0_init 23 = .ok (.iload_n 1, 1) := by decide +kernel
theorem dX0_init_24 : decode cX0_init 24 = .ok (.ifCond .lt 19, 3) := by decide +kernel
theorem dX0_init_27 : decode cX0_init 27 = .ok (.iload_n 1, 1) := by decide +kernel
theorem dX0_init_28 : decode cX0_init 28 = .ok (.getstatic 22, 3) := by decide +kernel
theorem dX0_init_31 : decode cX0_init 31 = .ok (.arraylength, 1) := by decide +kernel
theorem dX0_init_32 : decode cX0_init 32 = .ok (.if_icmp .ge 11, 3) := by decide +kernel
theorem dX0_init_35 : decode cX0_init 35 = .ok (.getstatic 22, 3) := by decide +kernel
theorem dX0_init_38 : decode cX0_init 38 = .ok (.iload_n 1, 1) := by decide +kernel
theorem dX0_init_39 : decode cX0_init 39 = .ok (.laload, 1) := by decide +kernel
theorem dX0_init_40 : decode cX0_init 40 = .ok (.goto 4, 3) := by decide +kernel
theorem dX0_init_43 : decode cX0_init 43 = .ok (.lconst 0, 1) := by decide +kernel
theorem dX0_init_44 : decode cX0_init 44 = .ok (.putfield 26, 3) := by decide +kernel
theorem dX0_init_47 : decode cX0_init 47 = .ok (.aload_n 0, 1) := by decide +kernel
theorem dX0_init_48 : decode cX0_init 48 = .ok (.iconst 2, 1) := by decide +kernel
theorem dX0_init_49 : decode cX0_init 49 = .ok (.putfield 30, 3) := by decide +kernel
theorem dX0_init_52 : decode cX0_init 52 = .ok (.aload_n 0, 1) := by decide +kernel
theorem dX0_init_53 : decode cX0_init 53 = .ok (.iconst 0, 1) := by decide +kernel
theorem dX0_init_54 : decode cX0_init 54 = .ok (.putfield 33, 3) := by decide +kernel
theorem dX0_init_57 : decode cX0_init 57 = .ok (.aload_n 0, 1) := by decide +kernel
theorem dX0_init_58 : decode cX0_init 58 = .ok (.iconst 0, 1) := by decide +kernel
theorem dX0_init_59 : decode cX0_init 59 = .ok (.putfield 36, 3) := by decide +kernel
theorem dX0_init_62 : decode cX0_init 62 = .ok (.return_, 1) := by decide +kernel
theorem dX0_init__0 : decode cX0_init_ 0 = .ok (.aload_n 0, 1) := by decide +kernel
theorem dX0_init__1 : decode cX0_init_ 1 = .ok (.invokespecial 3, 3) := by decide +kernel
theorem dX0_init__4 : decode cX0_init_ 4 = .ok (.ldc2_w 40, 3) := by decide +kernel
theorem dX0_init__7 : decode cX0_init_ 7 = .ok (.lstore_n 3, 1) := by decide +kernel
theorem dX0_init__8 : decode cX0_init_ 8 = .ok (.lconst 0, 1) := by decide +kernel
theorem dX0_init__9 : decode cX0_init_ 9 = .ok (.lstore 5, 2) := by decide +kernel
theorem dX0_init__11 : decode cX0_init_ 11 = .ok (.iconst 0, 1) := by decide +kernel
theorem dX0_init__12 : decode cX0_init_ 12 = .ok (.istore 7, 2) := by decide +kernel
theorem dX0_init__14 : decode cX0_init_ 14 = .ok (.iconst 0, 1) := by decide +kernel
theorem dX0_init__15 : decode cX0_init_ 15 = .ok (.istore 8, 2) := by decide +kernel
theorem dX0_init__17 : decode cX0_init_ 17 = .ok (.iconst 0, 1) := by decide +kernel
theorem dX0_init__18 : decode cX0_init_ 18 = .ok (.istore 9, 2) := by decide +kernel
theorem dX0_init__20 : decode cX0_init_ 20 = .ok (.aload_n 2, 1) := by decide +kernel
theorem dX0_init__21 : decode cX0_init_ 21 = .ok (.astore 10, 2) := by decide +kernel
theorem dX0_init__23 : decode cX0_init_ 23 = .ok (.aload 10, 2) := by decide +kernel
theorem dX0_init__25 : decode cX0_init_ 25 = .ok (.arraylength, 1) := by decide +kernel
theorem dX0_init__26 : decode cX0_init_ 26 = .ok (.istore 11, 2) := by decide +kernel
theorem dX0_init__28 : decode cX0_init_ 28 = .ok (.iconst 0, 1) := by decide +kernel
theorem dX0_init__29 : decode cX0_init_ 29 = .ok (.istore 12, 2) := by decide +kernel
theorem dX0_init__31 : decode cX0_init_ 31 = .ok (.iload 12, 2) := by decide +kernel
theorem dX0_init__33 : decode cX0_init_ 33 = .ok (.iload 11, 2) := by decide +kernel
theorem dX0_init__35 : decode cX0_init_ 35 = .ok (.if_icmp .ge 88, 3) := by decide +kernel
theorem dX0_init__38 : decode cX0_init_ 38 = .ok (.aload 10, 2) := by decide +kernel
theorem dX0_init__40 : decode cX0_init_ 40 = .ok (.iload 12, 2) := by decide +kernel
theorem dX0_init__42 : decode cX0_init_ 42 = .ok (.aaload, 1) := by decide +kernel
theorem dX0_init__43 : decode cX0_init_ 43 = .ok (.astore 13, 2) := by decide +kernel
theorem dX0_init__45 : decode cX0_init_ 45 = .ok (.lload_n 3, 1) := by decide +kernel
theorem dX0_init__46 : decode cX0_init_ 46 = .ok (.aload 13, 2) := by decide +kernel
theorem dX0_init__48 : decode cX0_init_ 48 = .ok (.getfield 26, 3) := by decide +kernel
theorem dX0_init__51 : decode cX0_init_ 51 = .ok (.land, 1) := by decide +kernel
theorem dX0_init__52 : decode cX0_init_ 52 = .ok (.lstore_n 3, 1) := by decide +kernel
theorem dX0_init__53 : decode cX0_init_ 53 = .ok (.lload 5, 2) := by decide +kernel
theorem dX0_init__55 : decode cX0_init_ 55 = .ok (.aload 13, 2) := by decide +kernel
theorem dX0_init__57 : decode cX0_init_ 57 = .ok (.getfield 26, 3) := by decide +kernel
theorem dX0_init__60 : decode cX0_init_ 60 = .ok (.lor, 1) := by decide +kernel
theorem dX0_init__61 : decode cX0_init_ 61 = .ok (.lstore 5, 2) := by decide +kernel
theorem dX0_init__63 : decode cX0_init_ 63 = .ok (.iload 7, 2) := by decide +kernel
theorem dX0_init__65 : decode cX0_init_ 65 = .ok (.aload 13, 2) := by decide +kernel
theorem dX0_init__67 : decode cX0_init_ 67 = .ok (.getfield 30, 3) := by decide +kernel
theorem dX0_init__70 : decode cX0_init_ 70 = .ok (.iadd, 1) := by decide +kernel
theorem dX0_init__71 : decode cX0_init_ 71 = .ok (.istore 7, 2) := by decide +kernel
theorem dX0_init__73 : decode cX0_init_ 73 = .ok (.iload 8, 2) := by decide +kernel
theorem dX0_init__75 : decode cX0_init_ 75 = .ok (.aload 13, 2) := by decide +kernel
theorem dX0_init__77 : decode cX0_init_ 77 = .ok (.getfield 33, 3) := by decide +kernel
theorem dX0_init__80 : decode cX0_init_ 80 = .ok (.iadd, 1) := by decide +kernel
theorem dX0_init__81 : decode cX0_init_ 81 = .ok (.istore 8, 2) := by decide +kernel
theorem dX0_init__83 : decode cX0_init_ 83 = .ok (.iload 9, 2) := by decide +kernel
theorem dX0_init__85 : decode cX0_init_ 85 = .ok (.ifCond .ne 25, 3) := by decide +kernel
theorem dX0_init__88 : decode cX0_init_ 88 = .ok (.aload 13, 2) := by decide +kernel
theorem dX0_init__90 : decode cX0_init_ 90 = .ok (.getfield 36, 3) := by decide +kernel
theorem dX0_init__93 : decode cX0_init_ 93 = .ok (.ifCond .ne 17, 3) := by decide +kernel
theorem dX0_init__96 : decode cX0_init_ 96 = .ok (.iload_n 1, 1) := by decide +kernel
theorem dX0_init__97 : decode cX0_init_ 97 = .ok (.iconst 2, 1) := by decide +kernel
theorem dX0_init__98 : decode cX0_init_ 98 = .ok (.if_icmp .ne 16, 3) := by decide +kernel
theorem dX0_init__101 : decode cX0_init_ 101 = .ok (.aload 13, 2) := by decide +kernel
theorem dX0_init__103 : decode cX0_init_ 103 = .ok (.getfield 11, 3) := by decide +kernel
theorem dX0_init__106 : decode cX0_init_ 106 = .ok (.iconst 2, 1) := by decide +kernel
theorem dX0_init__107 : decode cX0_init_ 107 = .ok (.if_icmp .ne 7, 3) := by decide +kernel
theorem dX0_init__110 : decode cX0_init_ 110 = .ok (.iconst 1, 1) := by decide +kernel
theorem dX0_init__111 : decode cX0_init_ 111 = .ok (.goto 4, 3) := by decide +kernel
theorem dX0_init__114 : decode cX0_init_ 114 = .ok (.iconst 0, 1) := by decide +kernel
theorem dX0_init__115 : decode cX0_init_ 115 = .ok (.istore 9, 2) := by decide +kernel
theorem dX0_init__117 : decode cX0_init_ 117 = .ok (.iinc 12 1, 3) := by decide +kernel
theorem dX0_init__120 : decode cX0_init_ 120 = .ok (.goto (-89), 3) := by decide +kernel
theorem dX0_init__123 : decode cX0_init_ 123 = .ok (.aload_n 0, 1) := by decide +kernel
theorem dX0_init__124 : decode cX0_init_ 124 = .ok (.iload_n 1, 1) := by decide +kernel
theorem dX0_init__125 : decode cX0_init_ 125 = .ok (.putfield 11, 3) := by decide +kernel
theorem dX0_init__128 : decode cX0_init_ 128 = .ok (.aload_n 0, 1) := by decide +kernel
theorem dX0_init__129 : decode cX0_init_ 129 = .ok (.iconst (-1), 1) := by decide +kernel
theorem dX0_init__130 : decode cX0_init_ 130 = .ok (.putfield 15, 3) := by decide +kernel
theorem dX0_init__133 : decode cX0_init_ 133 = .ok (.aload_n 0, 1) := by decide +kernel
theorem dX0_init__134 : decode cX0_init_ 134 = .ok (.aload_n 2, 1) := by decide +kernel
theorem dX0_init__135 : decode cX0_init_ 135 = .ok (.putfield 18, 3) := by decide +kernel
theorem dX0_init__138 : decode cX0_init_ 138 = .ok (.aload_n 0, 1) := by decide +kernel
theorem dX0_init__139 : decode cX0_init_ 139 = .ok (.iload_n 1, 1) := by decide +kernel
theorem dX0_init__140 : decode cX0_init_ 140 = .ok (.iconst 2, 1) := by decide +kernel
theorem dX0_init__141 : decode cX0_init_ 141 = .ok (.if_icmp .ne 12, 3) := by decide +kernel
theorem dX0_init__144 : decode cX0_init_ 144 = .ok (.lload 5, 2) := by decide +kernel
theorem dX0_init__146 : decode cX0_init_ 146 = .ok (.ldc2_w 40, 3) := by decide +kernel
theorem dX0_init__149 : decode cX0_init_ 149 = .ok (.lxor, 1) := by decide +kernel
theorem dX0_init__150 : decode cX0_init_ 150 = .ok (.goto 14, 3) := by decide +kernel
theorem dX0_init__153 : decode cX0_init_ 153 = .ok (.iload_n 1, 1) := by decide +kernel
theorem dX0_init__154 : decode cX0_init_ 154 = .ok (.iconst 1, 1) := by decide +kernel
theorem dX0_init__155 : decode cX0_init_ 155 = .ok (.if_icmp .ne 7, 3) := by decide +kernel
theorem dX0_init__158 : decode cX0_init_ 158 = .ok (.lload_n 3, 1) := by decide +kernel
theorem dX0_init__159 : decode cX0_init_ 159 = .ok (.goto 5, 3) := by decide +kernel
theorem dX0_init__162 : decode cX0_init_ 162 = .ok (.lload 5, 2) := by decide +kernel
theorem dX0_init__164 : decode cX0_init_ 164 = .ok (.putfield 26, 3) := by decide +kernel
theorem dX0_init__167 : decode cX0_init_ 167 = .ok (.aload_n 0, 1) := by decide +kernel
theorem dX0_init__168 : decode cX0_init_ 168 = .ok (.iload_n 1, 1) := by decide +kernel
theorem dX0_init__169 : decode cX0_init_ 169 = .ok (.iconst 2, 1) := by decide +kernel
theorem dX0_init__170 : decode cX0_init_ 170 = .ok (.if_icmp .ne 10, 3) := by decide +kernel
theorem dX0_init__173 : decode cX0_init_ 173 = .ok (.iload 7, 2) := by decide +kernel
theorem dX0_init__175 : decode cX0_init_ 175 = .ok (.iconst 1, 1) := by decide +kernel
theorem dX0_init__176 : decode cX0_init_ 176 = .ok (.iadd, 1) := by decide +kernel
theorem dX0_init__177 : decode cX0_init_ 177 = .ok (.goto 10, 3) := by decide +kernel
theorem dX0_init__180 : decode cX0_init_ 180 = .ok (.iload 7, 2) := by decide +kernel
theorem dX0_init__182 : decode cX0_init_ 182 = .ok (.aload_n 2, 1) := by decide +kernel
theorem dX0_init__183 : decode cX0_init_ 183 = .ok (.arraylength, 1) := by decide +kernel
theorem dX0_init__184 : decode cX0_init_ 184 = .ok (.iadd, 1) := by decide +kernel
theorem dX0_init__185 : decode cX0_init_ 185 = .ok (.iconst 1, 1) := by decide +kernel
theorem dX0_init__186 : decode cX0_init_ 186 = .ok (.isub, 1) := by decide +kernel
theorem dX0_init__187 : decode cX0_init_ 187 = .ok (.putfield 30, 3) := by decide +kernel
theorem dX0_init__190 : decode cX0_init_ 190 = .ok (.aload_n 0, 1) := by decide +kernel
theorem dX0_init__191 : decode cX0_init_ 191 = .ok (.iload_n 1, 1) := by decide +kernel
theorem dX0_init__192 : decode cX0_init_ 192 = .ok (.iconst 2, 1) := by decide +kernel
theorem dX0_init__193 : decode cX0_init_ 193 = .ok (.if_icmp .ne 10, 3) := by decide +kernel
theorem dX0_init__196 : decode cX0_init_ 196 = .ok (.iload 8, 2) := by decide +kernel
theorem dX0_init__198 : decode cX0_init_ 198 = .ok (.iconst 1, 1) := by decide +kernel
theorem dX0_init__199 : decode cX0_init_ 199 = .ok (.iadd, 1) := by decide +kernel
theorem dX0_init__200 : decode cX0_init_ 200 = .ok (.goto 5, 3) := by decide +kernel
theorem dX0_init__203 : decode cX0_init_ 203 = .ok (.iload 8, 2) := by decide +kernel
theorem dX0_init__205 : decode cX0_init_ 205 = .ok (.putfield 33, 3) := by decide +kernel
theorem dX0_init__208 : decode cX0_init_ 208 = .ok (.aload_n 0, 1) := by decide +kernel
theorem dX0_init__209 : decode cX0_init_ 209 = .ok (.iload 9, 2) := by decide +kernel
theorem dX0_init__211 : decode cX0_init_ 211 = .ok (.putfield 36, 3) := by decide +kernel
theorem dX0_init__214 : decode cX0_init_ 214 = .ok (.return_, 1) := by decide +kernel
theorem dX0_ofCase_0 : decode cX0_ofCase 0 = .ok (.iload_n 0, 1) := by decide +kernel
theorem dX0_ofCase_1 : decode cX0_ofCase 1 = .ok (.iconst (-1), 1) := by decide +kernel
theorem dX0_ofCase_2 : decode cX0_ofCase 2 = .ok (.if_icmp .ne 7, 3) := by decide +kernel
theorem dX0_ofCase_5 : decode cX0_ofCase 5 = .ok (.aconst_null, 1) := by decide +kernel
theorem dX0_ofCase_6 : decode cX0_ofCase 6 = .ok (.goto 11, 3) := by decide +kernel
theorem dX0_ofCase_9 : decode cX0_ofCase 9 = .ok (.new 9, 3) := by decide +kernel
theorem dX0_ofCase_12 : decode cX0_ofCase 12 = .ok (.dup, 1) := by decide +kernel
theorem dX0_ofCase_13 : decode cX0_ofCase 13 = .ok (.iload_n 0, 1) := by decide +kernel
theorem dX0_ofCase_14 : decode cX0_ofCase 14 = .ok (.invokespecial 42, 3) := by decide +kernel
theorem dX0_ofCase_17 : decode cX0_ofCase 17 = .ok (.areturn, 1) := by decide +kernel
theorem dX0_negated_0 : decode cX0_negated 0 = .ok (.aload_n 0, 1) := by decide +kernel
theorem dX0_negated_1 : decode cX0_negated 1 = .ok (.ifnonnull 5, 3) := by decide +kernel
theorem dX0_negated_4 : decode cX0_negated 4 = .ok (.aconst_null, 1) := by decide +kernel
theorem dX0_negated_5 : decode cX0_negated 5 = .ok (.areturn, 1) := by decide +kernel
theorem dX0_negated_6 : decode cX0_negated 6 = .ok (.iconst 1, 1) := by decide +kernel
theorem dX0_negated_7 : decode cX0_negated 7 = .ok (.anewarray 9, 3) := by decide +kernel
theorem dX0_negated_10 : decode cX0_negated 10 = .ok (.dup, 1) := by decide +kernel
theorem dX0_negated_11 : decode cX0_negated 11 = .ok (.iconst 0, 1) := by decide +kernel
theorem dX0_negated_12 : decode cX0_negated 12 = .ok (.aload_n 0, 1) := by decide +kernel
theorem dX0_negated_13 : decode cX0_negated 13 = .ok (.aastore, 1) := by decide +kernel
theorem dX0_negated_14 : decode cX0_negated 14 = .ok (.astore_n 1, 1) := by decide +kernel
theorem dX0_negated_15 : decode cX0_negated 15 = .ok (.new 9, 3) := by decide +kernel
theorem dX0_negated_18 : decode cX0_negated 18 = .ok (.dup, 1) := by decide +kernel
theorem dX0_negated_19 : decode cX0_negated 19 = .ok (.iconst 2, 1) := by decide +kernel
theorem dX0_negated_20 : decode cX0_negated 20 = .ok (.aload_n 1, 1) := by decide +kernel
theorem dX0_negated_21 : decode cX0_negated 21 = .ok (.invokespecial 45, 3) := by decide +kernel
theorem dX0_negated_24 : decode cX0_negated 24 = .ok (.areturn, 1) := by decide +kernel
theorem dX0_joined_0 : decode cX0_joined 0 = .ok (.aload_n 1, 1) := by decide +kernel
theorem dX0_joined_1 : decode cX0_joined 1 = .ok (.ifnull 7, 3) := by decide +kernel
theorem dX0_joined_4 : decode cX0_joined 4 = .ok (.aload_n 2, 1) := by decide +kernel
theorem dX0_joined_5 : decode cX0_joined 5 = .ok (.ifnonnull 5, 3) := by decide +kernel
theorem dX0_joined_8 : decode cX0_joined 8 = .ok (.aconst_null, 1) := by decide +kernel
theorem dX0_joined_9 : decode cX0_joined 9 = .ok (.areturn, 1) := by decide +kernel
theorem dX0_joined_10 : decode cX0_joined 10 = .ok (.aload_n 1, 1) := by decide +kernel
theorem dX0_joined_11 : decode cX0_joined 11 = .ok (.iload_n 0, 1) := by decide +kernel
theorem dX0_joined_12 : decode cX0_joined 12 = .ok (.invokevirtual 48, 3) := by decide +kernel
theorem dX0_joined_15 : decode cX0_joined 15 = .ok (.astore_n 3, 1) := by decide +kernel
theorem dX0_joined_16 : decode cX0_joined 16 = .ok (.aload_n 2, 1) := by decide +kernel
theorem dX0_joined_17 : decode cX0_joined 17 = .ok (.iload_n 0, 1) := by decide +kernel
theorem dX0_joined_18 : decode cX0_joined 18 = .ok (.invokevirtual 48, 3) := by decide +kernel
theorem dX0_joined_21 : decode cX0_joined 21 = .ok (.astore 4, 2) := by decide +kernel
theorem dX0_joined_23 : decode cX0_joined 23 = .ok (.aload_n 3, 1) := by decide +kernel
theorem dX0_joined_24 : decode cX0_joined 24 = .ok (.arraylength, 1) := by decide +kernel
theorem dX0_joined_25 : decode cX0_joined 25 = .ok (.aload 4, 2) := by decide +kernel
theorem dX0_joined_27 : decode cX0_joined 27 = .ok (.arraylength, 1) := by decide +kernel
theorem dX0_joined_28 : decode cX0_joined 28 = .ok (.iadd, 1) := by decide +kernel
theorem dX0_joined_29 : decode cX0_joined 29 = .ok (.anewarray 9, 3) := by decide +kernel
theorem dX0_joined_32 : decode cX0_joined 32 = .ok (.astore 5, 2) := by decide +kernel
theorem dX0_joined_34 : decode cX0_joined 34 = .ok (.iconst 0, 1) := by decide +kernel
theorem dX0_joined_35 : decode cX0_joined 35 = .ok (.istore 6, 2) := by decide +kernel
theorem dX0_joined_37 : decode cX0_joined 37 = .ok (.iload 6, 2) := by decide +kernel
theorem dX0_joined_39 : decode cX0_joined 39 = .ok (.aload 5, 2) := by decide +kernel
theorem dX0_joined_41 : decode cX0_joined 41 = .ok (.arraylength, 1) := by decide +kernel
theorem dX0_joined_42 : decode cX0_joined 42 = .ok (.if_icmp .ge 36, 3) := by decide +kernel
theorem dX0_joined_45 : decode cX0_joined 45 = .ok (.aload 5, 2) := by decide +kernel
theorem dX0_joined_47 : decode cX0_joined 47 = .ok (.iload 6, 2) := by decide +kernel
theorem dX0_joined_49 : decode cX0_joined 49 = .ok (.iload 6, 2) := by decide +kernel
theorem dX0_joined_51 : decode cX0_joined 51 = .ok (.aload_n 3, 1) := by decide +kernel
theorem dX0_joined_52 : decode cX0_joined 52 = .ok (.arraylength, 1) := by decide +kernel
theorem dX0_joined_53 : decode cX0_joined 53 = .ok (.if_icmp .ge 10, 3) := by decide +kernel
theorem dX0_joined_56 : decode cX0_joined 56 = .ok (.aload_n 3, 1) := by decide +kernel
theorem dX0_joined_57 : decode cX0_joined 57 = .ok (.iload 6, 2) := by decide +kernel
theorem dX0_joined_59 : decode cX0_joined 59 = .ok (.aaload, 1) := by decide +kernel
theorem dX0_joined_60 : decode cX0_joined 60 = .ok (.goto 11, 3) := by decide +kernel
theorem dX0_joined_63 : decode cX0_joined 63 = .ok (.aload 4, 2) := by decide +kernel
theorem dX0_joined_65 : decode cX0_joined 65 = .ok (.iload 6, 2) := by decide +kernel
theorem dX0_joined_67 : decode cX0_joined 67 = .ok (.aload_n 3, 1) := by decide +kernel
theorem dX0_joined_68 : decode cX0_joined 68 = .ok (.arraylength, 1) := by decide +kernel
theorem dX0_joined_69 : decode cX0_joined 69 = .ok (.isub, 1) := by decide +kernel
theorem dX0_joined_70 : decode cX0_joined 70 = .ok (.aaload, 1) := by decide +kernel
theorem dX0_joined_71 : decode cX0_joined 71 = .ok (.aastore, 1) := by decide +kernel
theorem dX0_joined_72 : decode cX0_joined 72 = .ok (.iinc 6 1, 3) := by decide +kernel
theorem dX0_joined_75 : decode cX0_joined 75 = .ok (.goto (-38), 3) := by decide +kernel
theorem dX0_joined_78 : decode cX0_joined 78 = .ok (.new 9, 3) := by decide +kernel
theorem dX0_joined_81 : decode cX0_joined 81 = .ok (.dup, 1) := by decide +kernel
theorem dX0_joined_82 : decode cX0_joined 82 = .ok (.iload_n 0, 1) := by decide +kernel
theorem dX0_joined_83 : decode cX0_joined 83 = .ok (.aload 5, 2) := by decide +kernel
theorem dX0_joined_85 : decode cX0_joined 85 = .ok (.invokespecial 45, 3) := by decide +kernel
theorem dX0_joined_88 : decode cX0_joined 88 = .ok (.areturn, 1) := by decide +kernel
theorem dX0_rowOf_0 : decode cX0_rowOf 0 = .ok (.aload_n 0, 1) := by decide +kernel
theorem dX0_rowOf_1 : decode cX0_rowOf 1 = .ok (.getfield 11, 3) := by decide +kernel
theorem dX0_rowOf_4 : decode cX0_rowOf 4 = .ok (.iload_n 1, 1) := by decide +kernel
theorem dX0_rowOf_5 : decode cX0_rowOf 5 = .ok (.if_icmp .ne 8, 3) := by decide +kernel
theorem dX0_rowOf_8 : decode cX0_rowOf 8 = .ok (.aload_n 0, 1) := by decide +kernel
theorem dX0_rowOf_9 : decode cX0_rowOf 9 = .ok (.getfield 18, 3) := by decide +kernel
theorem dX0_rowOf_12 : decode cX0_rowOf 12 = .ok (.areturn, 1) := by decide +kernel
theorem dX0_rowOf_13 : decode cX0_rowOf 13 = .ok (.iconst 1, 1) := by decide +kernel
theorem dX0_rowOf_14 : decode cX0_rowOf 14 = .ok (.anewarray 9, 3) := by decide +kernel
theorem dX0_rowOf_17 : decode cX0_rowOf 17 = .ok (.dup, 1) := by decide +kernel
theorem dX0_rowOf_18 : decode cX0_rowOf 18 = .ok (.iconst 0, 1) := by decide +kernel
theorem dX0_rowOf_19 : decode cX0_rowOf 19 = .ok (.aload_n 0, 1) := by decide +kernel
theorem dX0_rowOf_20 : decode cX0_rowOf 20 = .ok (.aastore, 1) := by decide +kernel
theorem dX0_rowOf_21 : decode cX0_rowOf 21 = .ok (.astore_n 2, 1) := by decide +kernel
theorem dX0_rowOf_22 : decode cX0_rowOf 22 = .ok (.aload_n 2, 1) := by decide +kernel
theorem dX0_rowOf_23 : decode cX0_rowOf 23 = .ok (.areturn, 1) := by decide +kernel
theorem dX0_eased_0 : decode cX0_eased 0 = .ok (.aload_n 0, 1) := by decide +kernel
theorem dX0_eased_1 : decode cX0_eased 1 = .ok (.getfield 36, 3) := by decide +kernel
theorem dX0_eased_4 : decode cX0_eased 4 = .ok (.ifCond .eq 17, 3) := by decide +kernel
theorem dX0_eased_7 : decode cX0_eased 7 = .ok (.aload_n 0, 1) := by decide +kernel
theorem dX0_eased_8 : decode cX0_eased 8 = .ok (.getfield 18, 3) := by decide +kernel
theorem dX0_eased_11 : decode cX0_eased 11 = .ok (.arraylength, 1) := by decide +kernel
theorem dX0_eased_12 : decode cX0_eased 12 = .ok (.ifCond .eq 9, 3) := by decide +kernel
theorem dX0_eased_15 : decode cX0_eased 15 = .ok (.iload_n 1, 1) := by decide +kernel
theorem dX0_eased_16 : decode cX0_eased 16 = .ok (.bipush 40, 2) := by decide +kernel
theorem dX0_eased_18 : decode cX0_eased 18 = .ok (.if_icmp .le 5, 3) := by decide +kernel
theorem dX0_eased_21 : decode cX0_eased 21 = .ok (.aload_n 0, 1) := by decide +kernel
theorem dX0_eased_22 : decode cX0_eased 22 = .ok (.areturn, 1) := by decide +kernel
theorem dX0_eased_23 : decode cX0_eased 23 = .ok (.aload_n 0, 1) := by decide +kernel
theorem dX0_eased_24 : decode cX0_eased 24 = .ok (.getfield 18, 3) := by decide +kernel
theorem dX0_eased_27 : decode cX0_eased 27 = .ok (.iconst 0, 1) := by decide +kernel
theorem dX0_eased_28 : decode cX0_eased 28 = .ok (.aaload, 1) := by decide +kernel
theorem dX0_eased_29 : decode cX0_eased 29 = .ok (.astore_n 2, 1) := by decide +kernel
theorem dX0_eased_30 : decode cX0_eased 30 = .ok (.aload_n 0, 1) := by decide +kernel
theorem dX0_eased_31 : decode cX0_eased 31 = .ok (.getfield 11, 3) := by decide +kernel
theorem dX0_eased_34 : decode cX0_eased 34 = .ok (.iconst 2, 1) := by decide +kernel
theorem dX0_eased_35 : decode cX0_eased 35 = .ok (.if_icmp .ne 55, 3) := by decide +kernel
theorem dX0_eased_38 : decode cX0_eased 38 = .ok (.aload_n 2, 1) := by decide +kernel
theorem dX0_eased_39 : decode cX0_eased 39 = .ok (.getfield 11, 3) := by decide +kernel
theorem dX0_eased_42 : decode cX0_eased 42 = .ok (.iconst 2, 1) := by decide +kernel
theorem dX0_eased_43 : decode cX0_eased 43 = .ok (.if_icmp .ne 15, 3) := by decide +kernel
theorem dX0_eased_46 : decode cX0_eased 46 = .ok (.aload_n 2, 1) := by decide +kernel
theorem dX0_eased_47 : decode cX0_eased 47 = .ok (.getfield 18, 3) := by decide +kernel
theorem dX0_eased_50 : decode cX0_eased 50 = .ok (.arraylength, 1) := by decide +kernel
theorem dX0_eased_51 : decode cX0_eased 51 = .ok (.ifCond .le 7, 3) := by decide +kernel
theorem dX0_eased_54 : decode cX0_eased 54 = .ok (.iconst 1, 1) := by decide +kernel
theorem dX0_eased_55 : decode cX0_eased 55 = .ok (.goto 4, 3) := by decide +kernel
theorem dX0_eased_58 : decode cX0_eased 58 = .ok (.iconst 0, 1) := by decide +kernel
theorem dX0_eased_59 : decode cX0_eased 59 = .ok (.istore_n 3, 1) := by decide +kernel
theorem dX0_eased_60 : decode cX0_eased 60 = .ok (.iload_n 3, 1) := by decide +kernel
theorem dX0_eased_61 : decode cX0_eased 61 = .ok (.ifCond .eq 18, 3) := by decide +kernel
theorem dX0_eased_64 : decode cX0_eased 64 = .ok (.aload_n 2, 1) := by decide +kernel
theorem dX0_eased_65 : decode cX0_eased 65 = .ok (.getfield 18, 3) := by decide +kernel
theorem dX0_eased_68 : decode cX0_eased 68 = .ok (.iconst 0, 1) := by decide +kernel
theorem dX0_eased_69 : decode cX0_eased 69 = .ok (.aaload, 1) := by decide +kernel
theorem dX0_eased_70 : decode cX0_eased 70 = .ok (.iload_n 1, 1) := by decide +kernel
theorem dX0_eased_71 : decode cX0_eased 71 = .ok (.iconst 1, 1) := by decide +kernel
theorem dX0_eased_72 : decode cX0_eased 72 = .ok (.iadd, 1) := by decide +kernel
theorem dX0_eased_73 : decode cX0_eased 73 = .ok (.invokestatic 52, 3) := by decide +kernel
theorem dX0_eased_76 : decode cX0_eased 76 = .ok (.goto 13, 3) := by decide +kernel
theorem dX0_eased_79 : decode cX0_eased 79 = .ok (.aload_n 2, 1) := by decide +kernel
theorem dX0_eased_80 : decode cX0_eased 80 = .ok (.iload_n 1, 1) := by decide +kernel
theorem dX0_eased_81 : decode cX0_eased 81 = .ok (.iconst 1, 1) := by decide +kernel
theorem dX0_eased_82 : decode cX0_eased 82 = .ok (.iadd, 1) := by decide +kernel
theorem dX0_eased_83 : decode cX0_eased 83 = .ok (.invokestatic 52, 3) := by decide +kernel
theorem dX0_eased_86 : decode cX0_eased 86 = .ok (.invokestatic 56, 3) := by decide +kernel
theorem dX0_eased_89 : decode cX0_eased 89 = .ok (.areturn, 1) := by decide +kernel
theorem dX0_eased_90 : decode cX0_eased 90 = .ok (.aload_n 2, 1) := by decide +kernel
theorem dX0_eased_91 : decode cX0_eased 91 = .ok (.iload_n 1, 1) := by decide +kernel
theorem dX0_eased_92 : decode cX0_eased 92 = .ok (.iconst 1, 1) := by decide +kernel
theorem dX0_eased_93 : decode cX0_eased 93 = .ok (.iadd, 1) := by decide +kernel
theorem dX0_eased_94 : decode cX0_eased 94 = .ok (.invokestatic 52, 3) := by decide +kernel
theorem dX0_eased_97 : decode cX0_eased 97 = .ok (.astore_n 3, 1) := by decide +kernel
theorem dX0_eased_98 : decode cX0_eased 98 = .ok (.iconst 1, 1) := by decide +kernel
theorem dX0_eased_99 : decode cX0_eased 99 = .ok (.istore 4, 2) := by decide +kernel
theorem dX0_eased_101 : decode cX0_eased 101 = .ok (.iload 4, 2) := by decide +kernel
theorem dX0_eased_103 : decode cX0_eased 103 = .ok (.aload_n 0, 1) := by decide +kernel
theorem dX0_eased_104 : decode cX0_eased 104 = .ok (.getfield 18, 3) := by decide +kernel
theorem dX0_eased_107 : decode cX0_eased 107 = .ok (.arraylength, 1) := by decide +kernel
theorem dX0_eased_108 : decode cX0_eased 108 = .ok (.if_icmp .ge 31, 3) := by decide +kernel
theorem dX0_eased_111 : decode cX0_eased 111 = .ok (.aload_n 0, 1) := by decide +kernel
theorem dX0_eased_112 : decode cX0_eased 112 = .ok (.getfield 11, 3) := by decide +kernel
theorem dX0_eased_115 : decode cX0_eased 115 = .ok (.aload_n 3, 1) := by decide +kernel
theorem dX0_eased_116 : decode cX0_eased 116 = .ok (.aload_n 0, 1) := by decide +kernel
theorem dX0_eased_117 : decode cX0_eased 117 = .ok (.getfield 18, 3) := by decide +kernel
theorem dX0_eased_120 : decode cX0_eased 120 = .ok (.iload 4, 2) := by decide +kernel
theorem dX0_eased_122 : decode cX0_eased 122 = .ok (.aaload, 1) := by decide +kernel
theorem dX0_eased_123 : decode cX0_eased 123 = .ok (.iload_n 1, 1) := by decide +kernel
theorem dX0_eased_124 : decode cX0_eased 124 = .ok (.iconst 1, 1) := by decide +kernel
theorem dX0_eased_125 : decode cX0_eased 125 = .ok (.iadd, 1) := by decide +kernel
theorem dX0_eased_126 : decode cX0_eased 126 = .ok (.invokestatic 52, 3) := by decide +kernel
theorem dX0_eased_129 : decode cX0_eased 129 = .ok (.invokestatic 60, 3) := by decide +kernel
theorem dX0_eased_132 : decode cX0_eased 132 = .ok (.astore_n 3, 1) := by decide +kernel
theorem dX0_eased_133 : decode cX0_eased 133 = .ok (.iinc 4 1, 3) := by decide +kernel
theorem dX0_eased_136 : decode cX0_eased 136 = .ok (.goto (-35), 3) := by decide +kernel
theorem dX0_eased_139 : decode cX0_eased 139 = .ok (.aload_n 3, 1) := by decide +kernel
theorem dX0_eased_140 : decode cX0_eased 140 = .ok (.areturn, 1) := by decide +kernel
theorem dX0_alike_0 : decode cX0_alike 0 = .ok (.aload_n 0, 1) := by decide +kernel
theorem dX0_alike_1 : decode cX0_alike 1 = .ok (.ifnull 7, 3) := by decide +kernel
theorem dX0_alike_4 : decode cX0_alike 4 = .ok (.aload_n 1, 1) := by decide +kernel
theorem dX0_alike_5 : decode cX0_alike 5 = .ok (.ifnonnull 17, 3) := by decide +kernel
theorem dX0_alike_8 : decode cX0_alike 8 = .ok (.aload_n 0, 1) := by decide +kernel
theorem dX0_alike_9 : decode cX0_alike 9 = .ok (.ifnonnull 11, 3) := by decide +kernel
theorem dX0_alike_12 : decode cX0_alike 12 = .ok (.aload_n 1, 1) := by decide +kernel
theorem dX0_alike_13 : decode cX0_alike 13 = .ok (.ifnonnull 7, 3) := by decide +kernel
theorem dX0_alike_16 : decode cX0_alike 16 = .ok (.iconst 1, 1) := by decide +kernel
theorem dX0_alike_17 : decode cX0_alike 17 = .ok (.goto 4, 3) := by decide +kernel
theorem dX0_alike_20 : decode cX0_alike 20 = .ok (.iconst 0, 1) := by decide +kernel
theorem dX0_alike_21 : decode cX0_alike 21 = .ok (.ireturn, 1) := by decide +kernel
theorem dX0_alike_22 : decode cX0_alike 22 = .ok (.aload_n 0, 1) := by decide +kernel
theorem dX0_alike_23 : decode cX0_alike 23 = .ok (.getfield 11, 3) := by decide +kernel
theorem dX0_alike_26 : decode cX0_alike 26 = .ok (.aload_n 1, 1) := by decide +kernel
theorem dX0_alike_27 : decode cX0_alike 27 = .ok (.getfield 11, 3) := by decide +kernel
theorem dX0_alike_30 : decode cX0_alike 30 = .ok (.if_icmp .ne 33, 3) := by decide +kernel
theorem dX0_alike_33 : decode cX0_alike 33 = .ok (.aload_n 0, 1) := by decide +kernel
theorem dX0_alike_34 : decode cX0_alike 34 = .ok (.getfield 15, 3) := by decide +kernel
theorem dX0_alike_37 : decode cX0_alike 37 = .ok (.aload_n 1, 1) := by decide +kernel
theorem dX0_alike_38 : decode cX0_alike 38 = .ok (.getfield 15, 3) := by decide +kernel
theorem dX0_alike_41 : decode cX0_alike 41 = .ok (.if_icmp .ne 22, 3) := by decide +kernel
theorem dX0_alike_44 : decode cX0_alike 44 = .ok (.aload_n 0, 1) := by decide +kernel
theorem dX0_alike_45 : decode cX0_alike 45 = .ok (.getfield 18, 3) := by decide +kernel
theorem dX0_alike_48 : decode cX0_alike 48 = .ok (.arraylength, 1) := by decide +kernel
theorem dX0_alike_49 : decode cX0_alike 49 = .ok (.aload_n 1, 1) := by decide +kernel
theorem dX0_alike_50 : decode cX0_alike 50 = .ok (.getfield 18, 3) := by decide +kernel
theorem dX0_alike_53 : decode cX0_alike 53 = .ok (.arraylength, 1) := by decide +kernel
theorem dX0_alike_54 : decode cX0_alike 54 = .ok (.if_icmp .ne 9, 3) := by decide +kernel
theorem dX0_alike_57 : decode cX0_alike 57 = .ok (.iload_n 2, 1) := by decide +kernel
theorem dX0_alike_58 : decode cX0_alike 58 = .ok (.bipush 40, 2) := by decide +kernel
theorem dX0_alike_60 : decode cX0_alike 60 = .ok (.if_icmp .le 5, 3) := by decide +kernel
theorem dX0_alike_63 : decode cX0_alike 63 = .ok (.iconst 0, 1) := by decide +kernel
theorem dX0_alike_64 : decode cX0_alike 64 = .ok (.ireturn, 1) := by decide +kernel
theorem dX0_alike_65 : decode cX0_alike 65 = .ok (.iconst 0, 1) := by decide +kernel
theorem dX0_alike_66 : decode cX0_alike 66 = .ok (.istore_n 3, 1) := by decide +kernel
theorem dX0_alike_67 : decode cX0_alike 67 = .ok (.iload_n 3, 1) := by decide +kernel
theorem dX0_alike_68 : decode cX0_alike 68 = .ok (.aload_n 0, 1) := by decide +kernel
theorem dX0_alike_69 : decode cX0_alike 69 = .ok (.getfield 18, 3) := by decide +kernel
theorem dX0_alike_72 : decode cX0_alike 72 = .ok (.arraylength, 1) := by decide +kernel
theorem dX0_alike_73 : decode cX0_alike 73 = .ok (.if_icmp .ge 32, 3) := by decide +kernel
theorem dX0_alike_76 : decode cX0_alike 76 = .ok (.aload_n 0, 1) := by decide +kernel
theorem dX0_alike_77 : decode cX0_alike 77 = .ok (.getfield 18, 3) := by decide +kernel
theorem dX0_alike_80 : decode cX0_alike 80 = .ok (.iload_n 3, 1) := by decide +kernel
theorem dX0_alike_81 : decode cX0_alike 81 = .ok (.aaload, 1) := by decide +kernel
theorem dX0_alike_82 : decode cX0_alike 82 = .ok (.aload_n 1, 1) := by decide +kernel
theorem dX0_alike_83 : decode cX0_alike 83 = .ok (.getfield 18, 3) := by decide +kernel
theorem dX0_alike_86 : decode cX0_alike 86 = .ok (.iload_n 3, 1) := by decide +kernel
theorem dX0_alike_87 : decode cX0_alike 87 = .ok (.aaload, 1) := by decide +kernel
theorem dX0_alike_88 : decode cX0_alike 88 = .ok (.iload_n 2, 1) := by decide +kernel
theorem dX0_alike_89 : decode cX0_alike 89 = .ok (.iconst 1, 1) := by decide +kernel
theorem dX0_alike_90 : decode cX0_alike 90 = .ok (.iadd, 1) := by decide +kernel
theorem dX0_alike_91 : decode cX0_alike 91 = .ok (.invokestatic 64, 3) := by decide +kernel
theorem dX0_alike_94 : decode cX0_alike 94 = .ok (.ifCond .ne 5, 3) := by decide +kernel
theorem dX0_alike_97 : decode cX0_alike 97 = .ok (.iconst 0, 1) := by decide +kernel
theorem dX0_alike_98 : decode cX0_alike 98 = .ok (.ireturn, 1) := by decide +kernel
theorem dX0_alike_99 : decode cX0_alike 99 = .ok (.iinc 3 1, 3) := by decide +kernel
theorem dX0_alike_102 : decode cX0_alike 102 = .ok (.goto (-35), 3) := by decide +kernel
theorem dX0_alike_105 : decode cX0_alike 105 = .ok (.iconst 1, 1) := by decide +kernel
theorem dX0_alike_106 : decode cX0_alike 106 = .ok (.ireturn, 1) := by decide +kernel
theorem dX1_init_0 : decode cX1_init 0 = .ok (.aload_n 0, 1) := by decide +kernel
theorem dX1_init_1 : decode cX1_init 1 = .ok (.invokespecial 3, 3) := by decide +kernel
theorem dX1_init_4 : decode cX1_init 4 = .ok (.aload_n 0, 1) := by decide +kernel
theorem dX1_init_5 : decode cX1_init 5 = .ok (.new 9, 3) := by decide +kernel
theorem dX1_init_8 : decode cX1_init 8 = .ok (.dup, 1) := by decide +kernel
theorem dX1_init_9 : decode cX1_init 9 = .ok (.invokespecial 11, 3) := by decide +kernel
theorem dX1_init_12 : decode cX1_init 12 = .ok (.putfield 12, 3) := by decide +kernel
theorem dX1_init_15 : decode cX1_init 15 = .ok (.return_, 1) := by decide +kernel
theorem dX1_size_0 : decode cX1_size 0 = .ok (.aload_n 0, 1) := by decide +kernel
theorem dX1_size_1 : decode cX1_size 1 = .ok (.getfield 12, 3) := by decide +kernel
theorem dX1_size_4 : decode cX1_size 4 = .ok (.invokevirtual 18, 3) := by decide +kernel
theorem dX1_size_7 : decode cX1_size 7 = .ok (.ireturn, 1) := by decide +kernel
theorem dX1_at_0 : decode cX1_at 0 = .ok (.aload_n 0, 1) := by decide +kernel
theorem dX1_at_1 : decode cX1_at 1 = .ok (.getfield 12, 3) := by decide +kernel
theorem dX1_at_4 : decode cX1_at 4 = .ok (.iload_n 1, 1) := by decide +kernel
theorem dX1_at_5 : decode cX1_at 5 = .ok (.invokevirtual 22, 3) := by decide +kernel
theorem dX1_at_8 : decode cX1_at 8 = .ok (.checkcast 26, 3) := by decide +kernel
theorem dX1_at_11 : decode cX1_at 11 = .ok (.areturn, 1) := by decide +kernel
theorem dX1_clear_0 : decode cX1_clear 0 = .ok (.aload_n 0, 1) := by decide +kernel
theorem dX1_clear_1 : decode cX1_clear 1 = .ok (.getfield 12, 3) := by decide +kernel
theorem dX1_clear_4 : decode cX1_clear 4 = .ok (.invokevirtual 28, 3) := by decide +kernel
theorem dX1_clear_7 : decode cX1_clear 7 = .ok (.return_, 1) := by decide +kernel
theorem dX1_add_0 : decode cX1_add 0 = .ok (.aload_n 0, 1) := by decide +kernel
theorem dX1_add_1 : decode cX1_add 1 = .ok (.getfield 12, 3) := by decide +kernel
theorem dX1_add_4 : decode cX1_add 4 = .ok (.invokevirtual 18, 3) := by decide +kernel
theorem dX1_add_7 : decode cX1_add 7 = .ok (.bipush 24, 2) := by decide +kernel
theorem dX1_add_9 : decode cX1_add 9 = .ok (.if_icmp .ge 12, 3) := by decide +kernel
theorem dX1_add_12 : decode cX1_add 12 = .ok (.aload_n 0, 1) := by decide +kernel
theorem dX1_add_13 : decode cX1_add 13 = .ok (.getfield 12, 3) := by decide +kernel
theorem dX1_add_16 : decode cX1_add 16 = .ok (.aload_n 1, 1) := by decide +kernel
theorem dX1_add_17 : decode cX1_add 17 = .ok (.invokevirtual 31, 3) := by decide +kernel
theorem dX1_add_20 : decode cX1_add 20 = .ok (.pop, 1) := by decide +kernel
theorem dX1_add_21 : decode cX1_add 21 = .ok (.return_, 1) := by decide +kernel
theorem dX1_become_0 : decode cX1_become 0 = .ok (.aload_n 0, 1) := by decide +kernel
theorem dX1_become_1 : decode cX1_become 1 = .ok (.getfield 12, 3) := by decide +kernel
theorem dX1_become_4 : decode cX1_become 4 = .ok (.invokevirtual 28, 3) := by decide +kernel
theorem dX1_become_7 : decode cX1_become 7 = .ok (.iconst 0, 1) := by decide +kernel
theorem dX1_become_8 : decode cX1_become 8 = .ok (.istore_n 2, 1) := by decide +kernel
theorem dX1_become_9 : decode cX1_become 9 = .ok (.iload_n 2, 1) := by decide +kernel
theorem dX1_become_10 : decode cX1_become 10 = .ok (.aload_n 1, 1) := by decide +kernel
theorem dX1_become_11 : decode cX1_become 11 = .ok (.invokevirtual 35, 3) := by decide +kernel
theorem dX1_become_14 : decode cX1_become 14 = .ok (.if_icmp .ge 18, 3) := by decide +kernel
theorem dX1_become_17 : decode cX1_become 17 = .ok (.aload_n 0, 1) := by decide +kernel
theorem dX1_become_18 : decode cX1_become 18 = .ok (.aload_n 1, 1) := by decide +kernel
theorem dX1_become_19 : decode cX1_become 19 = .ok (.iload_n 2, 1) := by decide +kernel
theorem dX1_become_20 : decode cX1_become 20 = .ok (.invokevirtual 36, 3) := by decide +kernel
theorem dX1_become_23 : decode cX1_become 23 = .ok (.invokevirtual 40, 3) := by decide +kernel
theorem dX1_become_26 : decode cX1_become 26 = .ok (.iinc 2 1, 3) := by decide +kernel
theorem dX1_become_29 : decode cX1_become 29 = .ok (.goto (-20), 3) := by decide +kernel
theorem dX1_become_32 : decode cX1_become 32 = .ok (.return_, 1) := by decide +kernel
theorem dX1_partAt_0 : decode cX1_partAt 0 = .ok (.aload_n 0, 1) := by decide +kernel
theorem dX1_partAt_1 : decode cX1_partAt 1 = .ok (.iload_n 1, 1) := by decide +kernel
theorem dX1_partAt_2 : decode cX1_partAt 2 = .ok (.invokevirtual 36, 3) := by decide +kernel
theorem dX1_partAt_5 : decode cX1_partAt 5 = .ok (.astore_n 2, 1) := by decide +kernel
theorem dX1_partAt_6 : decode cX1_partAt 6 = .ok (.aload_n 2, 1) := by decide +kernel
theorem dX1_partAt_7 : decode cX1_partAt 7 = .ok (.getfield 43, 3) := by decide +kernel
theorem dX1_partAt_10 : decode cX1_partAt 10 = .ok (.arraylength, 1) := by decide +kernel
theorem dX1_partAt_11 : decode cX1_partAt 11 = .ok (.istore_n 3, 1) := by decide +kernel
theorem dX1_partAt_12 : decode cX1_partAt 12 = .ok (.iload_n 3, 1) := by decide +kernel
theorem dX1_partAt_13 : decode cX1_partAt 13 = .ok (.iconst 2, 1) := by decide +kernel
theorem dX1_partAt_14 : decode cX1_partAt 14 = .ok (.if_icmp .lt 19, 3) := by decide +kernel
theorem dX1_partAt_17 : decode cX1_partAt 17 = .ok (.aload_n 0, 1) := by decide +kernel
theorem dX1_partAt_18 : decode cX1_partAt 18 = .ok (.getfield 12, 3) := by decide +kernel
theorem dX1_partAt_21 : decode cX1_partAt 21 = .ok (.invokevirtual 18, 3) := by decide +kernel
theorem dX1_partAt_24 : decode cX1_partAt 24 = .ok (.iconst 1, 1) := by decide +kernel
theorem dX1_partAt_25 : decode cX1_partAt 25 = .ok (.isub, 1) := by decide +kernel
theorem dX1_partAt_26 : decode cX1_partAt 26 = .ok (.iload_n 3, 1) := by decide +kernel
theorem dX1_partAt_27 : decode cX1_partAt 27 = .ok (.iadd, 1) := by decide +kernel
theorem dX1_partAt_28 : decode cX1_partAt 28 = .ok (.bipush 24, 2) := by decide +kernel
theorem dX1_partAt_30 : decode cX1_partAt 30 = .ok (.if_icmp .le 5, 3) := by decide +kernel
theorem dX1_partAt_33 : decode cX1_partAt 33 = .ok (.iconst 0, 1) := by decide +kernel
theorem dX1_partAt_34 : decode cX1_partAt 34 = .ok (.ireturn, 1) := by decide +kernel
theorem dX1_partAt_35 : decode cX1_partAt 35 = .ok (.aload_n 0, 1) := by decide +kernel
theorem dX1_partAt_36 : decode cX1_partAt 36 = .ok (.getfield 12, 3) := by decide +kernel
theorem dX1_partAt_39 : decode cX1_partAt 39 = .ok (.iload_n 1, 1) := by decide +kernel
theorem dX1_partAt_40 : decode cX1_partAt 40 = .ok (.aload_n 2, 1) := by decide +kernel
theorem dX1_partAt_41 : decode cX1_partAt 41 = .ok (.iconst 0, 1) := by decide +kernel
theorem dX1_partAt_42 : decode cX1_partAt 42 = .ok (.invokevirtual 47, 3) := by decide +kernel
theorem dX1_partAt_45 : decode cX1_partAt 45 = .ok (.invokevirtual 50, 3) := by decide +kernel
theorem dX1_partAt_48 : decode cX1_partAt 48 = .ok (.pop, 1) := by decide +kernel
theorem dX1_partAt_49 : decode cX1_partAt 49 = .ok (.iconst 1, 1) := by decide +kernel
theorem dX1_partAt_50 : decode cX1_partAt 50 = .ok (.istore 4, 2) := by decide +kernel
theorem dX1_partAt_52 : decode cX1_partAt 52 = .ok (.iload 4, 2) := by decide +kernel
theorem dX1_partAt_54 : decode cX1_partAt 54 = .ok (.iload_n 3, 1) := by decide +kernel
theorem dX1_partAt_55 : decode cX1_partAt 55 = .ok (.if_icmp .ge 26, 3) := by decide +kernel
theorem dX1_partAt_58 : decode cX1_partAt 58 = .ok (.aload_n 0, 1) := by decide +kernel
theorem dX1_partAt_59 : decode cX1_partAt 59 = .ok (.getfield 12, 3) := by decide +kernel
theorem dX1_partAt_62 : decode cX1_partAt 62 = .ok (.iload_n 1, 1) := by decide +kernel
theorem dX1_partAt_63 : decode cX1_partAt 63 = .ok (.iload 4, 2) := by decide +kernel
theorem dX1_partAt_65 : decode cX1_partAt 65 = .ok (.iadd, 1) := by decide +kernel
theorem dX1_partAt_66 : decode cX1_partAt 66 = .ok (.aload_n 2, 1) := by decide +kernel
theorem dX1_partAt_67 : decode cX1_partAt 67 = .ok (.iload 4, 2) := by decide +kernel
theorem dX1_partAt_69 : decode cX1_partAt 69 = .ok (.invokevirtual 47, 3) := by decide +kernel
theorem dX1_partAt_72 : decode cX1_partAt 72 = .ok (.invokevirtual 54, 3) := by decide +kernel
theorem dX1_partAt_75 : decode cX1_partAt 75 = .ok (.iinc 4 1, 3) := by decide +kernel
theorem dX1_partAt_78 : decode cX1_partAt 78 = .ok (.goto (-26), 3) := by decide +kernel
theorem dX1_partAt_81 : decode cX1_partAt 81 = .ok (.iconst 1, 1) := by decide +kernel
theorem dX1_partAt_82 : decode cX1_partAt 82 = .ok (.ireturn, 1) := by decide +kernel
theorem dX1_meltAt_0 : decode cX1_meltAt 0 = .ok (.iload_n 1, 1) := by decide +kernel
theorem dX1_meltAt_1 : decode cX1_meltAt 1 = .ok (.iconst 1, 1) := by decide +kernel
theorem dX1_meltAt_2 : decode cX1_meltAt 2 = .ok (.iadd, 1) := by decide +kernel
theorem dX1_meltAt_3 : decode cX1_meltAt 3 = .ok (.aload_n 0, 1) := by decide +kernel
theorem dX1_meltAt_4 : decode cX1_meltAt 4 = .ok (.getfield 12, 3) := by decide +kernel
theorem dX1_meltAt_7 : decode cX1_meltAt 7 = .ok (.invokevirtual 18, 3) := by decide +kernel
theorem dX1_meltAt_10 : decode cX1_meltAt 10 = .ok (.if_icmp .ge 21, 3) := by decide +kernel
theorem dX1_meltAt_13 : decode cX1_meltAt 13 = .ok (.aload_n 0, 1) := by decide +kernel
theorem dX1_meltAt_14 : decode cX1_meltAt 14 = .ok (.iload_n 1, 1) := by decide +kernel
theorem dX1_meltAt_15 : decode cX1_meltAt 15 = .ok (.invokevirtual 36, 3) := by decide +kernel
theorem dX1_meltAt_18 : decode cX1_meltAt 18 = .ok (.aload_n 0, 1) := by decide +kernel
theorem dX1_meltAt_19 : decode cX1_meltAt 19 = .ok (.iload_n 1, 1) := by decide +kernel
theorem dX1_meltAt_20 : decode cX1_meltAt 20 = .ok (.iconst 1, 1) := by decide +kernel
theorem dX1_meltAt_21 : decode cX1_meltAt 21 = .ok (.iadd, 1) := by decide +kernel
theorem dX1_meltAt_22 : decode cX1_meltAt 22 = .ok (.invokevirtual 36, 3) := by decide +kernel
theorem dX1_meltAt_25 : decode cX1_meltAt 25 = .ok (.invokevirtual 57, 3) := by decide +kernel
theorem dX1_meltAt_28 : decode cX1_meltAt 28 = .ok (.ifCond .ne 5, 3) := by decide +kernel
theorem dX1_meltAt_31 : decode cX1_meltAt 31 = .ok (.iconst 0, 1) := by decide +kernel
theorem dX1_meltAt_32 : decode cX1_meltAt 32 = .ok (.ireturn, 1) := by decide +kernel
theorem dX1_meltAt_33 : decode cX1_meltAt 33 = .ok (.aload_n 0, 1) := by decide +kernel
theorem dX1_meltAt_34 : decode cX1_meltAt 34 = .ok (.getfield 12, 3) := by decide +kernel
theorem dX1_meltAt_37 : decode cX1_meltAt 37 = .ok (.iload_n 1, 1) := by decide +kernel
theorem dX1_meltAt_38 : decode cX1_meltAt 38 = .ok (.aload_n 0, 1) := by decide +kernel
theorem dX1_meltAt_39 : decode cX1_meltAt 39 = .ok (.iload_n 1, 1) := by decide +kernel
theorem dX1_meltAt_40 : decode cX1_meltAt 40 = .ok (.invokevirtual 36, 3) := by decide +kernel
theorem dX1_meltAt_43 : decode cX1_meltAt 43 = .ok (.aload_n 0, 1) := by decide +kernel
theorem dX1_meltAt_44 : decode cX1_meltAt 44 = .ok (.iload_n 1, 1) := by decide +kernel
theorem dX1_meltAt_45 : decode cX1_meltAt 45 = .ok (.iconst 1, 1) := by decide +kernel
theorem dX1_meltAt_46 : decode cX1_meltAt 46 = .ok (.iadd, 1) := by decide +kernel
theorem dX1_meltAt_47 : decode cX1_meltAt 47 = .ok (.invokevirtual 36, 3) := by decide +kernel
theorem dX1_meltAt_50 : decode cX1_meltAt 50 = .ok (.invokevirtual 61, 3) := by decide +kernel
theorem dX1_meltAt_53 : decode cX1_meltAt 53 = .ok (.invokevirtual 50, 3) := by decide +kernel
theorem dX1_meltAt_56 : decode cX1_meltAt 56 = .ok (.pop, 1) := by decide +kernel
theorem dX1_meltAt_57 : decode cX1_meltAt 57 = .ok (.aload_n 0, 1) := by decide +kernel
theorem dX1_meltAt_58 : decode cX1_meltAt 58 = .ok (.getfield 12, 3) := by decide +kernel
theorem dX1_meltAt_61 : decode cX1_meltAt 61 = .ok (.iload_n 1, 1) := by decide +kernel
theorem dX1_meltAt_62 : decode cX1_meltAt 62 = .ok (.iconst 1, 1) := by decide +kernel
theorem dX1_meltAt_63 : decode cX1_meltAt 63 = .ok (.iadd, 1) := by decide +kernel
theorem dX1_meltAt_64 : decode cX1_meltAt 64 = .ok (.invokevirtual 65, 3) := by decide +kernel
theorem dX1_meltAt_67 : decode cX1_meltAt 67 = .ok (.pop, 1) := by decide +kernel
theorem dX1_meltAt_68 : decode cX1_meltAt 68 = .ok (.iconst 1, 1) := by decide +kernel
theorem dX1_meltAt_69 : decode cX1_meltAt 69 = .ok (.ireturn, 1) := by decide +kernel
theorem dX1_turnAt_0 : decode cX1_turnAt 0 = .ok (.aload_n 0, 1) := by decide +kernel
theorem dX1_turnAt_1 : decode cX1_turnAt 1 = .ok (.iload_n 1, 1) := by decide +kernel
theorem dX1_turnAt_2 : decode cX1_turnAt 2 = .ok (.invokevirtual 36, 3) := by decide +kernel
theorem dX1_turnAt_5 : decode cX1_turnAt 5 = .ok (.invokevirtual 68, 3) := by decide +kernel
theorem dX1_turnAt_8 : decode cX1_turnAt 8 = .ok (.istore_n 2, 1) := by decide +kernel
theorem dX1_turnAt_9 : decode cX1_turnAt 9 = .ok (.iload_n 2, 1) := by decide +kernel
theorem dX1_turnAt_10 : decode cX1_turnAt 10 = .ok (.ifCond .eq 20, 3) := by decide +kernel
theorem dX1_turnAt_13 : decode cX1_turnAt 13 = .ok (.aload_n 0, 1) := by decide +kernel
theorem dX1_turnAt_14 : decode cX1_turnAt 14 = .ok (.getfield 12, 3) := by decide +kernel
theorem dX1_turnAt_17 : decode cX1_turnAt 17 = .ok (.iload_n 1, 1) := by decide +kernel
theorem dX1_turnAt_18 : decode cX1_turnAt 18 = .ok (.aload_n 0, 1) := by decide +kernel
theorem dX1_turnAt_19 : decode cX1_turnAt 19 = .ok (.iload_n 1, 1) := by decide +kernel
theorem dX1_turnAt_20 : decode cX1_turnAt 20 = .ok (.invokevirtual 36, 3) := by decide +kernel
theorem dX1_turnAt_23 : decode cX1_turnAt 23 = .ok (.invokevirtual 72, 3) := by decide +kernel
theorem dX1_turnAt_26 : decode cX1_turnAt 26 = .ok (.invokevirtual 50, 3) := by decide +kernel
theorem dX1_turnAt_29 : decode cX1_turnAt 29 = .ok (.pop, 1) := by decide +kernel
theorem dX1_turnAt_30 : decode cX1_turnAt 30 = .ok (.iload_n 2, 1) := by decide +kernel
theorem dX1_turnAt_31 : decode cX1_turnAt 31 = .ok (.ireturn, 1) := by decide +kernel
theorem dX1_easeAt_0 : decode cX1_easeAt 0 = .ok (.aload_n 0, 1) := by decide +kernel
theorem dX1_easeAt_1 : decode cX1_easeAt 1 = .ok (.iload_n 1, 1) := by decide +kernel
theorem dX1_easeAt_2 : decode cX1_easeAt 2 = .ok (.invokevirtual 36, 3) := by decide +kernel
theorem dX1_easeAt_5 : decode cX1_easeAt 5 = .ok (.invokevirtual 76, 3) := by decide +kernel
theorem dX1_easeAt_8 : decode cX1_easeAt 8 = .ok (.istore_n 2, 1) := by decide +kernel
theorem dX1_easeAt_9 : decode cX1_easeAt 9 = .ok (.iload_n 2, 1) := by decide +kernel
theorem dX1_easeAt_10 : decode cX1_easeAt 10 = .ok (.ifCond .eq 20, 3) := by decide +kernel
theorem dX1_easeAt_13 : decode cX1_easeAt 13 = .ok (.aload_n 0, 1) := by decide +kernel
theorem dX1_easeAt_14 : decode cX1_easeAt 14 = .ok (.getfield 12, 3) := by decide +kernel
theorem dX1_easeAt_17 : decode cX1_easeAt 17 = .ok (.iload_n 1, 1) := by decide +kernel
theorem dX1_easeAt_18 : decode cX1_easeAt 18 = .ok (.aload_n 0, 1) := by decide +kernel
theorem dX1_easeAt_19 : decode cX1_easeAt 19 = .ok (.iload_n 1, 1) := by decide +kernel
theorem dX1_easeAt_20 : decode cX1_easeAt 20 = .ok (.invokevirtual 36, 3) := by decide +kernel
theorem dX1_easeAt_23 : decode cX1_easeAt 23 = .ok (.invokevirtual 79, 3) := by decide +kernel
theorem dX1_easeAt_26 : decode cX1_easeAt 26 = .ok (.invokevirtual 50, 3) := by decide +kernel
theorem dX1_easeAt_29 : decode cX1_easeAt 29 = .ok (.pop, 1) := by decide +kernel
theorem dX1_easeAt_30 : decode cX1_easeAt 30 = .ok (.iload_n 2, 1) := by decide +kernel
theorem dX1_easeAt_31 : decode cX1_easeAt 31 = .ok (.ireturn, 1) := by decide +kernel
theorem dX1_price_0 : decode cX1_price 0 = .ok (.iconst 0, 1) := by decide +kernel
theorem dX1_price_1 : decode cX1_price 1 = .ok (.istore_n 1, 1) := by decide +kernel
theorem dX1_price_2 : decode cX1_price 2 = .ok (.iconst 0, 1) := by decide +kernel
theorem dX1_price_3 : decode cX1_price 3 = .ok (.istore_n 2, 1) := by decide +kernel
theorem dX1_price_4 : decode cX1_price 4 = .ok (.iload_n 2, 1) := by decide +kernel
theorem dX1_price_5 : decode cX1_price 5 = .ok (.aload_n 0, 1) := by decide +kernel
theorem dX1_price_6 : decode cX1_price 6 = .ok (.getfield 12, 3) := by decide +kernel
theorem dX1_price_9 : decode cX1_price 9 = .ok (.invokevirtual 18, 3) := by decide +kernel
theorem dX1_price_12 : decode cX1_price 12 = .ok (.if_icmp .ge 27, 3) := by decide +kernel
theorem dX1_price_15 : decode cX1_price 15 = .ok (.aload_n 0, 1) := by decide +kernel
theorem dX1_price_16 : decode cX1_price 16 = .ok (.iload_n 2, 1) := by decide +kernel
theorem dX1_price_17 : decode cX1_price 17 = .ok (.invokevirtual 36, 3) := by decide +kernel
theorem dX1_price_20 : decode cX1_price 20 = .ok (.astore_n 3, 1) := by decide +kernel
theorem dX1_price_21 : decode cX1_price 21 = .ok (.iload_n 1, 1) := by decide +kernel
theorem dX1_price_22 : decode cX1_price 22 = .ok (.aload_n 3, 1) := by decide +kernel
theorem dX1_price_23 : decode cX1_price 23 = .ok (.aload_n 3, 1) := by decide +kernel
theorem dX1_price_24 : decode cX1_price 24 = .ok (.getfield 43, 3) := by decide +kernel
theorem dX1_price_27 : decode cX1_price 27 = .ok (.arraylength, 1) := by decide +kernel
theorem dX1_price_28 : decode cX1_price 28 = .ok (.invokevirtual 82, 3) := by decide +kernel
theorem dX1_price_31 : decode cX1_price 31 = .ok (.iadd, 1) := by decide +kernel
theorem dX1_price_32 : decode cX1_price 32 = .ok (.istore_n 1, 1) := by decide +kernel
theorem dX1_price_33 : decode cX1_price 33 = .ok (.iinc 2 1, 3) := by decide +kernel
theorem dX1_price_36 : decode cX1_price 36 = .ok (.goto (-32), 3) := by decide +kernel
theorem dX1_price_39 : decode cX1_price 39 = .ok (.iload_n 1, 1) := by decide +kernel
theorem dX1_price_40 : decode cX1_price 40 = .ok (.ireturn, 1) := by decide +kernel
theorem dX1_becomePlainest_0 : decode cX1_becomePlainest 0 = .ok (.aload_n 0, 1) := by decide +kernel
theorem dX1_becomePlainest_1 : decode cX1_becomePlainest 1 = .ok (.getfield 12, 3) := by decide +kernel
theorem dX1_becomePlainest_4 : decode cX1_becomePlainest 4 = .ok (.invokevirtual 28, 3) := by decide +kernel
theorem dX1_becomePlainest_7 : decode cX1_becomePlainest 7 = .ok (.iconst 0, 1) := by decide +kernel
theorem dX1_becomePlainest_8 : decode cX1_becomePlainest 8 = .ok (.istore_n 2, 1) := by decide +kernel
theorem dX1_becomePlainest_9 : decode cX1_becomePlainest 9 = .ok (.iload_n 2, 1) := by decide +kernel
theorem dX1_becomePlainest_10 : decode cX1_becomePlainest 10 = .ok (.aload_n 1, 1) := by decide +kernel
theorem dX1_becomePlainest_11 : decode cX1_becomePlainest 11 = .ok (.invokevirtual 35, 3) := by decide +kernel
theorem dX1_becomePlainest_14 : decode cX1_becomePlainest 14 = .ok (.if_icmp .ge 18, 3) := by decide +kernel
theorem dX1_becomePlainest_17 : decode cX1_becomePlainest 17 = .ok (.aload_n 0, 1) := by decide +kernel
theorem dX1_becomePlainest_18 : decode cX1_becomePlainest 18 = .ok (.aload_n 1, 1) := by decide +kernel
theorem dX1_becomePlainest_19 : decode cX1_becomePlainest 19 = .ok (.iload_n 2, 1) := by decide +kernel
theorem dX1_becomePlainest_20 : decode cX1_becomePlainest 20 = .ok (.invokevirtual 36, 3) := by decide +kernel
theorem dX1_becomePlainest_23 : decode cX1_becomePlainest 23 = .ok (.invokevirtual 86, 3) := by decide +kernel
theorem dX1_becomePlainest_26 : decode cX1_becomePlainest 26 = .ok (.iinc 2 1, 3) := by decide +kernel
theorem dX1_becomePlainest_29 : decode cX1_becomePlainest 29 = .ok (.goto (-20), 3) := by decide +kernel
theorem dX1_becomePlainest_32 : decode cX1_becomePlainest 32 = .ok (.return_, 1) := by decide +kernel
theorem dX1_addPlainest_0 : decode cX1_addPlainest 0 = .ok (.aload_n 1, 1) := by decide +kernel
theorem dX1_addPlainest_1 : decode cX1_addPlainest 1 = .ok (.invokevirtual 76, 3) := by decide +kernel
theorem dX1_addPlainest_4 : decode cX1_addPlainest 4 = .ok (.ifCond .eq 10, 3) := by decide +kernel
theorem dX1_addPlainest_7 : decode cX1_addPlainest 7 = .ok (.aload_n 1, 1) := by decide +kernel
theorem dX1_addPlainest_8 : decode cX1_addPlainest 8 = .ok (.invokevirtual 79, 3) := by decide +kernel
theorem dX1_addPlainest_11 : decode cX1_addPlainest 11 = .ok (.goto 4, 3) := by decide +kernel
theorem dX1_addPlainest_14 : decode cX1_addPlainest 14 = .ok (.aload_n 1, 1) := by decide +kernel
theorem dX1_addPlainest_15 : decode cX1_addPlainest 15 = .ok (.astore_n 2, 1) := by decide +kernel
theorem dX1_addPlainest_16 : decode cX1_addPlainest 16 = .ok (.aload_n 1, 1) := by decide +kernel
theorem dX1_addPlainest_17 : decode cX1_addPlainest 17 = .ok (.astore_n 3, 1) := by decide +kernel
theorem dX1_addPlainest_18 : decode cX1_addPlainest 18 = .ok (.iconst 0, 1) := by decide +kernel
theorem dX1_addPlainest_19 : decode cX1_addPlainest 19 = .ok (.istore 4, 2) := by decide +kernel
theorem dX1_addPlainest_21 : decode cX1_addPlainest 21 = .ok (.aload_n 1, 1) := by decide +kernel
theorem dX1_addPlainest_22 : decode cX1_addPlainest 22 = .ok (.aload_n 1, 1) := by decide +kernel
theorem dX1_addPlainest_23 : decode cX1_addPlainest 23 = .ok (.getfield 43, 3) := by decide +kernel
theorem dX1_addPlainest_26 : decode cX1_addPlainest 26 = .ok (.arraylength, 1) := by decide +kernel
theorem dX1_addPlainest_27 : decode cX1_addPlainest 27 = .ok (.invokevirtual 82, 3) := by decide +kernel
theorem dX1_addPlainest_30 : decode cX1_addPlainest 30 = .ok (.istore 5, 2) := by decide +kernel
theorem dX1_addPlainest_32 : decode cX1_addPlainest 32 = .ok (.iconst 1, 1) := by decide +kernel
theorem dX1_addPlainest_33 : decode cX1_addPlainest 33 = .ok (.istore 6, 2) := by decide +kernel
theorem dX1_addPlainest_35 : decode cX1_addPlainest 35 = .ok (.iload 6, 2) := by decide +kernel
theorem dX1_addPlainest_37 : decode cX1_addPlainest 37 = .ok (.bipush 8, 2) := by decide +kernel
theorem dX1_addPlainest_39 : decode cX1_addPlainest 39 = .ok (.if_icmp .ge 192, 3) := by decide +kernel
theorem dX1_addPlainest_42 : decode cX1_addPlainest 42 = .ok (.iload 6, 2) := by decide +kernel
theorem dX1_addPlainest_44 : decode cX1_addPlainest 44 = .ok (.iconst 4, 1) := by decide +kernel
theorem dX1_addPlainest_45 : decode cX1_addPlainest 45 = .ok (.iand, 1) := by decide +kernel
theorem dX1_addPlainest_46 : decode cX1_addPlainest 46 = .ok (.ifCond .eq 7, 3) := by decide +kernel
theorem dX1_addPlainest_49 : decode cX1_addPlainest 49 = .ok (.iconst 1, 1) := by decide +kernel
theorem dX1_addPlainest_50 : decode cX1_addPlainest 50 = .ok (.goto 4, 3) := by decide +kernel
theorem dX1_addPlainest_53 : decode cX1_addPlainest 53 = .ok (.iconst 0, 1) := by decide +kernel
theorem dX1_addPlainest_54 : decode cX1_addPlainest 54 = .ok (.istore 7, 2) := by decide +kernel
theorem dX1_addPlainest_56 : decode cX1_addPlainest 56 = .ok (.iload 6, 2) := by decide +kernel
theorem dX1_addPlainest_58 : decode cX1_addPlainest 58 = .ok (.iconst 2, 1) := by decide +kernel
theorem dX1_addPlainest_59 : decode cX1_addPlainest 59 = .ok (.iand, 1) := by decide +kernel
theorem dX1_addPlainest_60 : decode cX1_addPlainest 60 = .ok (.ifCond .eq 7, 3) := by decide +kernel
theorem dX1_addPlainest_63 : decode cX1_addPlainest 63 = .ok (.iconst 1, 1) := by decide +kernel
theorem dX1_addPlainest_64 : decode cX1_addPlainest 64 = .ok (.goto 4, 3) := by decide +kernel
theorem dX1_addPlainest_67 : decode cX1_addPlainest 67 = .ok (.iconst 0, 1) := by decide +kernel
theorem dX1_addPlainest_68 : decode cX1_addPlainest 68 = .ok (.istore 8, 2) := by decide +kernel
theorem dX1_addPlainest_70 : decode cX1_addPlainest 70 = .ok (.iload 6, 2) := by decide +kernel
theorem dX1_addPlainest_72 : decode cX1_addPlainest 72 = .ok (.iconst 1, 1) := by decide +kernel
theorem dX1_addPlainest_73 : decode cX1_addPlainest 73 = .ok (.iand, 1) := by decide +kernel
theorem dX1_addPlainest_74 : decode cX1_addPlainest 74 = .ok (.ifCond .eq 7, 3) := by decide +kernel
theorem dX1_addPlainest_77 : decode cX1_addPlainest 77 = .ok (.iconst 1, 1) := by decide +kernel
theorem dX1_addPlainest_78 : decode cX1_addPlainest 78 = .ok (.goto 4, 3) := by decide +kernel
theorem dX1_addPlainest_81 : decode cX1_addPlainest 81 = .ok (.iconst 0, 1) := by decide +kernel
theorem dX1_addPlainest_82 : decode cX1_addPlainest 82 = .ok (.istore 9, 2) := by decide +kernel
theorem dX1_addPlainest_84 : decode cX1_addPlainest 84 = .ok (.iload 7, 2) := by decide +kernel
theorem dX1_addPlainest_86 : decode cX1_addPlainest 86 = .ok (.ifCond .eq 12, 3) := by decide +kernel
theorem dX1_addPlainest_89 : decode cX1_addPlainest 89 = .ok (.aload_n 1, 1) := by decide +kernel
theorem dX1_addPlainest_90 : decode cX1_addPlainest 90 = .ok (.getfield 43, 3) := by decide +kernel
theorem dX1_addPlainest_93 : decode cX1_addPlainest 93 = .ok (.arraylength, 1) := by decide +kernel
theorem dX1_addPlainest_94 : decode cX1_addPlainest 94 = .ok (.iconst 2, 1) := by decide +kernel
theorem dX1_addPlainest_95 : decode cX1_addPlainest 95 = .ok (.if_icmp .lt 130, 3) := by decide +kernel
theorem dX1_addPlainest_98 : decode cX1_addPlainest 98 = .ok (.iload 8, 2) := by decide +kernel
theorem dX1_addPlainest_100 : decode cX1_addPlainest 100 = .ok (.ifCond .eq 10, 3) := by decide +kernel
theorem dX1_addPlainest_103 : decode cX1_addPlainest 103 = .ok (.aload_n 1, 1) := by decide +kernel
theorem dX1_addPlainest_104 : decode cX1_addPlainest 104 = .ok (.invokevirtual 68, 3) := by decide +kernel
theorem dX1_addPlainest_107 : decode cX1_addPlainest 107 = .ok (.ifCond .eq 118, 3) := by decide +kernel
theorem dX1_addPlainest_110 : decode cX1_addPlainest 110 = .ok (.iload 9, 2) := by decide +kernel
theorem dX1_addPlainest_112 : decode cX1_addPlainest 112 = .ok (.ifCond .eq 13, 3) := by decide +kernel
theorem dX1_addPlainest_115 : decode cX1_addPlainest 115 = .ok (.aload_n 1, 1) := by decide +kernel
theorem dX1_addPlainest_116 : decode cX1_addPlainest 116 = .ok (.invokevirtual 76, 3) := by decide +kernel
theorem dX1_addPlainest_119 : decode cX1_addPlainest 119 = .ok (.ifCond .ne 6, 3) := by decide +kernel
theorem dX1_addPlainest_122 : decode cX1_addPlainest 122 = .ok (.goto 103, 3) := by decide +kernel
theorem dX1_addPlainest_125 : decode cX1_addPlainest 125 = .ok (.iload 9, 2) := by decide +kernel
theorem dX1_addPlainest_127 : decode cX1_addPlainest 127 = .ok (.ifCond .eq 7, 3) := by decide +kernel
theorem dX1_addPlainest_130 : decode cX1_addPlainest 130 = .ok (.aload_n 2, 1) := by decide +kernel
theorem dX1_addPlainest_131 : decode cX1_addPlainest 131 = .ok (.goto 4, 3) := by decide +kernel
theorem dX1_addPlainest_134 : decode cX1_addPlainest 134 = .ok (.aload_n 1, 1) := by decide +kernel
theorem dX1_addPlainest_135 : decode cX1_addPlainest 135 = .ok (.astore 10, 2) := by decide +kernel
theorem dX1_addPlainest_137 : decode cX1_addPlainest 137 = .ok (.iload 8, 2) := by decide +kernel
theorem dX1_addPlainest_139 : decode cX1_addPlainest 139 = .ok (.ifCond .eq 11, 3) := by decide +kernel
theorem dX1_addPlainest_142 : decode cX1_addPlainest 142 = .ok (.aload 10, 2) := by decide +kernel
theorem dX1_addPlainest_144 : decode cX1_addPlainest 144 = .ok (.invokevirtual 72, 3) := by decide +kernel
theorem dX1_addPlainest_147 : decode cX1_addPlainest 147 = .ok (.goto 5, 3) := by decide +kernel
theorem dX1_addPlainest_150 : decode cX1_addPlainest 150 = .ok (.aload 10, 2) := by decide +kernel
theorem dX1_addPlainest_152 : decode cX1_addPlainest 152 = .ok (.astore 10, 2) := by decide +kernel
theorem dX1_addPlainest_154 : decode cX1_addPlainest 154 = .ok (.iload 7, 2) := by decide +kernel
theorem dX1_addPlainest_156 : decode cX1_addPlainest 156 = .ok (.ifCond .eq 18, 3) := by decide +kernel
theorem dX1_addPlainest_159 : decode cX1_addPlainest 159 = .ok (.aload_n 1, 1) := by decide +kernel
theorem dX1_addPlainest_160 : decode cX1_addPlainest 160 = .ok (.getfield 43, 3) := by decide +kernel
theorem dX1_addPlainest_163 : decode cX1_addPlainest 163 = .ok (.arraylength, 1) := by decide +kernel
theorem dX1_addPlainest_164 : decode cX1_addPlainest 164 = .ok (.aload 10, 2) := by decide +kernel
theorem dX1_addPlainest_166 : decode cX1_addPlainest 166 = .ok (.iconst 1, 1) := by decide +kernel
theorem dX1_addPlainest_167 : decode cX1_addPlainest 167 = .ok (.invokevirtual 82, 3) := by decide +kernel
theorem dX1_addPlainest_170 : decode cX1_addPlainest 170 = .ok (.imul, 1) := by decide +kernel
theorem dX1_addPlainest_171 : decode cX1_addPlainest 171 = .ok (.goto 14, 3) := by decide +kernel
theorem dX1_addPlainest_174 : decode cX1_addPlainest 174 = .ok (.aload 10, 2) := by decide +kernel
theorem dX1_addPlainest_176 : decode cX1_addPlainest 176 = .ok (.aload 10, 2) := by decide +kernel
theorem dX1_addPlainest_178 : decode cX1_addPlainest 178 = .ok (.getfield 43, 3) := by decide +kernel
theorem dX1_addPlainest_181 : decode cX1_addPlainest 181 = .ok (.arraylength, 1) := by decide +kernel
theorem dX1_addPlainest_182 : decode cX1_addPlainest 182 = .ok (.invokevirtual 82, 3) := by decide +kernel
theorem dX1_addPlainest_185 : decode cX1_addPlainest 185 = .ok (.istore 11, 2) := by decide +kernel
theorem dX1_addPlainest_187 : decode cX1_addPlainest 187 = .ok (.iload 11, 2) := by decide +kernel
theorem dX1_addPlainest_189 : decode cX1_addPlainest 189 = .ok (.iload 5, 2) := by decide +kernel
theorem dX1_addPlainest_191 : decode cX1_addPlainest 191 = .ok (.if_icmp .lt 23, 3) := by decide +kernel
theorem dX1_addPlainest_194 : decode cX1_addPlainest 194 = .ok (.iload 11, 2) := by decide +kernel
theorem dX1_addPlainest_196 : decode cX1_addPlainest 196 = .ok (.iload 5, 2) := by decide +kernel
theorem dX1_addPlainest_198 : decode cX1_addPlainest 198 = .ok (.if_icmp .ne 27, 3) := by decide +kernel
theorem dX1_addPlainest_201 : decode cX1_addPlainest 201 = .ok (.iload 6, 2) := by decide +kernel
theorem dX1_addPlainest_203 : decode cX1_addPlainest 203 = .ok (.invokestatic 89, 3) := by decide +kernel
theorem dX1_addPlainest_206 : decode cX1_addPlainest 206 = .ok (.iload 4, 2) := by decide +kernel
theorem dX1_addPlainest_208 : decode cX1_addPlainest 208 = .ok (.invokestatic 89, 3) := by decide +kernel
theorem dX1_addPlainest_211 : decode cX1_addPlainest 211 = .ok (.if_icmp .ge 14, 3) := by decide +kernel
theorem dX1_addPlainest_214 : decode cX1_addPlainest 214 = .ok (.aload 10, 2) := by decide +kernel
theorem dX1_addPlainest_216 : decode cX1_addPlainest 216 = .ok (.astore_n 3, 1) := by decide +kernel
theorem dX1_addPlainest_217 : decode cX1_addPlainest 217 = .ok (.iload 6, 2) := by decide +kernel
theorem dX1_addPlainest_219 : decode cX1_addPlainest 219 = .ok (.istore 4, 2) := by decide +kernel
theorem dX1_addPlainest_221 : decode cX1_addPlainest 221 = .ok (.iload 11, 2) := by decide +kernel
theorem dX1_addPlainest_223 : decode cX1_addPlainest 223 = .ok (.istore 5, 2) := by decide +kernel
theorem dX1_addPlainest_225 : decode cX1_addPlainest 225 = .ok (.iinc 6 1, 3) := by decide +kernel
theorem dX1_addPlainest_228 : decode cX1_addPlainest 228 = .ok (.goto (-193), 3) := by decide +kernel
theorem dX1_addPlainest_231 : decode cX1_addPlainest 231 = .ok (.aload_n 0, 1) := by decide +kernel
theorem dX1_addPlainest_232 : decode cX1_addPlainest 232 = .ok (.aload_n 3, 1) := by decide +kernel
theorem dX1_addPlainest_233 : decode cX1_addPlainest 233 = .ok (.iload 4, 2) := by decide +kernel
theorem dX1_addPlainest_235 : decode cX1_addPlainest 235 = .ok (.iconst 4, 1) := by decide +kernel
theorem dX1_addPlainest_236 : decode cX1_addPlainest 236 = .ok (.iand, 1) := by decide +kernel
theorem dX1_addPlainest_237 : decode cX1_addPlainest 237 = .ok (.ifCond .eq 7, 3) := by decide +kernel
theorem dX1_addPlainest_240 : decode cX1_addPlainest 240 = .ok (.iconst 1, 1) := by decide +kernel
theorem dX1_addPlainest_241 : decode cX1_addPlainest 241 = .ok (.goto 4, 3) := by decide +kernel
theorem dX1_addPlainest_244 : decode cX1_addPlainest 244 = .ok (.iconst 0, 1) := by decide +kernel
theorem dX1_addPlainest_245 : decode cX1_addPlainest 245 = .ok (.invokevirtual 94, 3) := by decide +kernel
theorem dX1_addPlainest_248 : decode cX1_addPlainest 248 = .ok (.return_, 1) := by decide +kernel
theorem dX1_addWhole_0 : decode cX1_addWhole 0 = .ok (.iload_n 2, 1) := by decide +kernel
theorem dX1_addWhole_1 : decode cX1_addWhole 1 = .ok (.ifCond .ne 9, 3) := by decide +kernel
theorem dX1_addWhole_4 : decode cX1_addWhole 4 = .ok (.aload_n 0, 1) := by decide +kernel
theorem dX1_addWhole_5 : decode cX1_addWhole 5 = .ok (.aload_n 1, 1) := by decide +kernel
theorem dX1_addWhole_6 : decode cX1_addWhole 6 = .ok (.invokevirtual 40, 3) := by decide +kernel
theorem dX1_addWhole_9 : decode cX1_addWhole 9 = .ok (.return_, 1) := by decide +kernel
theorem dX1_addWhole_10 : decode cX1_addWhole 10 = .ok (.iconst 0, 1) := by decide +kernel
theorem dX1_addWhole_11 : decode cX1_addWhole 11 = .ok (.istore_n 3, 1) := by decide +kernel
theorem dX1_addWhole_12 : decode cX1_addWhole 12 = .ok (.iload_n 3, 1) := by decide +kernel
theorem dX1_addWhole_13 : decode cX1_addWhole 13 = .ok (.aload_n 1, 1) := by decide +kernel
theorem dX1_addWhole_14 : decode cX1_addWhole 14 = .ok (.getfield 43, 3) := by decide +kernel
theorem dX1_addWhole_17 : decode cX1_addWhole 17 = .ok (.arraylength, 1) := by decide +kernel
theorem dX1_addWhole_18 : decode cX1_addWhole 18 = .ok (.if_icmp .ge 18, 3) := by decide +kernel
theorem dX1_addWhole_21 : decode cX1_addWhole 21 = .ok (.aload_n 0, 1) := by decide +kernel
theorem dX1_addWhole_22 : decode cX1_addWhole 22 = .ok (.aload_n 1, 1) := by decide +kernel
theorem dX1_addWhole_23 : decode cX1_addWhole 23 = .ok (.iload_n 3, 1) := by decide +kernel
theorem dX1_addWhole_24 : decode cX1_addWhole 24 = .ok (.invokevirtual 47, 3) := by decide +kernel
theorem dX1_addWhole_27 : decode cX1_addWhole 27 = .ok (.invokevirtual 40, 3) := by decide +kernel
theorem dX1_addWhole_30 : decode cX1_addWhole 30 = .ok (.iinc 3 1, 3) := by decide +kernel
theorem dX1_addWhole_33 : decode cX1_addWhole 33 = .ok (.goto (-21), 3) := by decide +kernel
theorem dX1_addWhole_36 : decode cX1_addWhole 36 = .ok (.return_, 1) := by decide +kernel
theorem dX1_isWithin_0 : decode cX1_isWithin 0 = .ok (.iconst 0, 1) := by decide +kernel
theorem dX1_isWithin_1 : decode cX1_isWithin 1 = .ok (.istore_n 2, 1) := by decide +kernel
theorem dX1_isWithin_2 : decode cX1_isWithin 2 = .ok (.iload_n 2, 1) := by decide +kernel
theorem dX1_isWithin_3 : decode cX1_isWithin 3 = .ok (.aload_n 0, 1) := by decide +kernel
theorem dX1_isWithin_4 : decode cX1_isWithin 4 = .ok (.getfield 12, 3) := by decide +kernel
theorem dX1_isWithin_7 : decode cX1_isWithin 7 = .ok (.invokevirtual 18, 3) := by decide +kernel
theorem dX1_isWithin_10 : decode cX1_isWithin 10 = .ok (.if_icmp .ge 75, 3) := by decide +kernel
theorem dX1_isWithin_13 : decode cX1_isWithin 13 = .ok (.aload_n 0, 1) := by decide +kernel
theorem dX1_isWithin_14 : decode cX1_isWithin 14 = .ok (.iload_n 2, 1) := by decide +kernel
theorem dX1_isWithin_15 : decode cX1_isWithin 15 = .ok (.invokevirtual 36, 3) := by decide +kernel
theorem dX1_isWithin_18 : decode cX1_isWithin 18 = .ok (.astore_n 3, 1) := by decide +kernel
theorem dX1_isWithin_19 : decode cX1_isWithin 19 = .ok (.aload_n 3, 1) := by decide +kernel
theorem dX1_isWithin_20 : decode cX1_isWithin 20 = .ok (.getfield 43, 3) := by decide +kernel
theorem dX1_isWithin_23 : decode cX1_isWithin 23 = .ok (.astore 4, 2) := by decide +kernel
theorem dX1_isWithin_25 : decode cX1_isWithin 25 = .ok (.aload 4, 2) := by decide +kernel
theorem dX1_isWithin_27 : decode cX1_isWithin 27 = .ok (.arraylength, 1) := by decide +kernel
theorem dX1_isWithin_28 : decode cX1_isWithin 28 = .ok (.istore 5, 2) := by decide +kernel
theorem dX1_isWithin_30 : decode cX1_isWithin 30 = .ok (.iconst 0, 1) := by decide +kernel
theorem dX1_isWithin_31 : decode cX1_isWithin 31 = .ok (.istore 6, 2) := by decide +kernel
theorem dX1_isWithin_33 : decode cX1_isWithin 33 = .ok (.iload 6, 2) := by decide +kernel
theorem dX1_isWithin_35 : decode cX1_isWithin 35 = .ok (.iload 5, 2) := by decide +kernel
theorem dX1_isWithin_37 : decode cX1_isWithin 37 = .ok (.if_icmp .ge 42, 3) := by decide +kernel
theorem dX1_isWithin_40 : decode cX1_isWithin 40 = .ok (.aload 4, 2) := by decide +kernel
theorem dX1_isWithin_42 : decode cX1_isWithin 42 = .ok (.iload 6, 2) := by decide +kernel
theorem dX1_isWithin_44 : decode cX1_isWithin 44 = .ok (.iaload, 1) := by decide +kernel
theorem dX1_isWithin_45 : decode cX1_isWithin 45 = .ok (.istore 7, 2) := by decide +kernel
theorem dX1_isWithin_47 : decode cX1_isWithin 47 = .ok (.aload_n 0, 1) := by decide +kernel
theorem dX1_isWithin_48 : decode cX1_isWithin 48 = .ok (.aload_n 3, 1) := by decide +kernel
theorem dX1_isWithin_49 : decode cX1_isWithin 49 = .ok (.iload 7, 2) := by decide +kernel
theorem dX1_isWithin_51 : decode cX1_isWithin 51 = .ok (.invokevirtual 98, 3) := by decide +kernel
theorem dX1_isWithin_54 : decode cX1_isWithin 54 = .ok (.aload_n 1, 1) := by decide +kernel
theorem dX1_isWithin_55 : decode cX1_isWithin 55 = .ok (.aload_n 3, 1) := by decide +kernel
theorem dX1_isWithin_56 : decode cX1_isWithin 56 = .ok (.iload 7, 2) := by decide +kernel
theorem dX1_isWithin_58 : decode cX1_isWithin 58 = .ok (.invokevirtual 98, 3) := by decide +kernel
theorem dX1_isWithin_61 : decode cX1_isWithin 61 = .ok (.ldc2_w 102, 3) := by decide +kernel
theorem dX1_isWithin_64 : decode cX1_isWithin 64 = .ok (.lxor, 1) := by decide +kernel
theorem dX1_isWithin_65 : decode cX1_isWithin 65 = .ok (.land, 1) := by decide +kernel
theorem dX1_isWithin_66 : decode cX1_isWithin 66 = .ok (.lconst 0, 1) := by decide +kernel
theorem dX1_isWithin_67 : decode cX1_isWithin 67 = .ok (.lcmp, 1) := by decide +kernel
theorem dX1_isWithin_68 : decode cX1_isWithin 68 = .ok (.ifCond .eq 5, 3) := by decide +kernel
theorem dX1_isWithin_71 : decode cX1_isWithin 71 = .ok (.iconst 0, 1) := by decide +kernel
theorem dX1_isWithin_72 : decode cX1_isWithin 72 = .ok (.ireturn, 1) := by decide +kernel
theorem dX1_isWithin_73 : decode cX1_isWithin 73 = .ok (.iinc 6 1, 3) := by decide +kernel
theorem dX1_isWithin_76 : decode cX1_isWithin 76 = .ok (.goto (-43), 3) := by decide +kernel
theorem dX1_isWithin_79 : decode cX1_isWithin 79 = .ok (.iinc 2 1, 3) := by decide +kernel
theorem dX1_isWithin_82 : decode cX1_isWithin 82 = .ok (.goto (-80), 3) := by decide +kernel
theorem dX1_isWithin_85 : decode cX1_isWithin 85 = .ok (.iconst 1, 1) := by decide +kernel
theorem dX1_isWithin_86 : decode cX1_isWithin 86 = .ok (.ireturn, 1) := by decide +kernel
theorem dX1_casesAsking_0 : decode cX1_casesAsking 0 = .ok (.lconst 0, 1) := by decide +kernel
theorem dX1_casesAsking_1 : decode cX1_casesAsking 1 = .ok (.lstore_n 3, 1) := by decide +kernel
theorem dX1_casesAsking_2 : decode cX1_casesAsking 2 = .ok (.iconst 0, 1) := by decide +kernel
theorem dX1_casesAsking_3 : decode cX1_casesAsking 3 = .ok (.istore 5, 2) := by decide +kernel
theorem dX1_casesAsking_5 : decode cX1_casesAsking 5 = .ok (.iload 5, 2) := by decide +kernel
theorem dX1_casesAsking_7 : decode cX1_casesAsking 7 = .ok (.aload_n 0, 1) := by decide +kernel
theorem dX1_casesAsking_8 : decode cX1_casesAsking 8 = .ok (.getfield 12, 3) := by decide +kernel
theorem dX1_casesAsking_11 : decode cX1_casesAsking 11 = .ok (.invokevirtual 18, 3) := by decide +kernel
theorem dX1_casesAsking_14 : decode cX1_casesAsking 14 = .ok (.if_icmp .ge 43, 3) := by decide +kernel
theorem dX1_casesAsking_17 : decode cX1_casesAsking 17 = .ok (.aload_n 0, 1) := by decide +kernel
theorem dX1_casesAsking_18 : decode cX1_casesAsking 18 = .ok (.iload 5, 2) := by decide +kernel
theorem dX1_casesAsking_20 : decode cX1_casesAsking 20 = .ok (.invokevirtual 36, 3) := by decide +kernel
theorem dX1_casesAsking_23 : decode cX1_casesAsking 23 = .ok (.astore 6, 2) := by decide +kernel
theorem dX1_casesAsking_25 : decode cX1_casesAsking 25 = .ok (.aload 6, 2) := by decide +kernel
theorem dX1_casesAsking_27 : decode cX1_casesAsking 27 = .ok (.aload_n 1, 1) := by decide +kernel
theorem dX1_casesAsking_28 : decode cX1_casesAsking 28 = .ok (.invokevirtual 104, 3) := by decide +kernel
theorem dX1_casesAsking_31 : decode cX1_casesAsking 31 = .ok (.ifCond .eq 20, 3) := by decide +kernel
theorem dX1_casesAsking_34 : decode cX1_casesAsking 34 = .ok (.aload 6, 2) := by decide +kernel
theorem dX1_casesAsking_36 : decode cX1_casesAsking 36 = .ok (.iload_n 2, 1) := by decide +kernel
theorem dX1_casesAsking_37 : decode cX1_casesAsking 37 = .ok (.invokevirtual 107, 3) := by decide +kernel
theorem dX1_casesAsking_40 : decode cX1_casesAsking 40 = .ok (.ifCond .eq 11, 3) := by decide +kernel
theorem dX1_casesAsking_43 : decode cX1_casesAsking 43 = .ok (.lload_n 3, 1) := by decide +kernel
theorem dX1_casesAsking_44 : decode cX1_casesAsking 44 = .ok (.aload 6, 2) := by decide +kernel
theorem dX1_casesAsking_46 : decode cX1_casesAsking 46 = .ok (.invokevirtual 111, 3) := by decide +kernel
theorem dX1_casesAsking_49 : decode cX1_casesAsking 49 = .ok (.lor, 1) := by decide +kernel
theorem dX1_casesAsking_50 : decode cX1_casesAsking 50 = .ok (.lstore_n 3, 1) := by decide +kernel
theorem dX1_casesAsking_51 : decode cX1_casesAsking 51 = .ok (.iinc 5 1, 3) := by decide +kernel
theorem dX1_casesAsking_54 : decode cX1_casesAsking 54 = .ok (.goto (-49), 3) := by decide +kernel
theorem dX1_casesAsking_57 : decode cX1_casesAsking 57 = .ok (.lload_n 3, 1) := by decide +kernel
theorem dX1_casesAsking_58 : decode cX1_casesAsking 58 = .ok (.lreturn, 1) := by decide +kernel
theorem dX1_modesAsked_0 : decode cX1_modesAsked 0 = .ok (.iconst 0, 1) := by decide +kernel
theorem dX1_modesAsked_1 : decode cX1_modesAsked 1 = .ok (.istore 4, 2) := by decide +kernel
theorem dX1_modesAsked_3 : decode cX1_modesAsked 3 = .ok (.iconst 0, 1) := by decide +kernel
theorem dX1_modesAsked_4 : decode cX1_modesAsked 4 = .ok (.istore 5, 2) := by decide +kernel
theorem dX1_modesAsked_6 : decode cX1_modesAsked 6 = .ok (.iload 5, 2) := by decide +kernel
theorem dX1_modesAsked_8 : decode cX1_modesAsked 8 = .ok (.aload_n 0, 1) := by decide +kernel
theorem dX1_modesAsked_9 : decode cX1_modesAsked 9 = .ok (.getfield 12, 3) := by decide +kernel
theorem dX1_modesAsked_12 : decode cX1_modesAsked 12 = .ok (.invokevirtual 18, 3) := by decide +kernel
theorem dX1_modesAsked_15 : decode cX1_modesAsked 15 = .ok (.if_icmp .ge 40, 3) := by decide +kernel
theorem dX1_modesAsked_18 : decode cX1_modesAsked 18 = .ok (.aload_n 0, 1) := by decide +kernel
theorem dX1_modesAsked_19 : decode cX1_modesAsked 19 = .ok (.iload 5, 2) := by decide +kernel
theorem dX1_modesAsked_21 : decode cX1_modesAsked 21 = .ok (.invokevirtual 36, 3) := by decide +kernel
theorem dX1_modesAsked_24 : decode cX1_modesAsked 24 = .ok (.astore 6, 2) := by decide +kernel
theorem dX1_modesAsked_26 : decode cX1_modesAsked 26 = .ok (.aload 6, 2) := by decide +kernel
theorem dX1_modesAsked_28 : decode cX1_modesAsked 28 = .ok (.iload_n 1, 1) := by decide +kernel
theorem dX1_modesAsked_29 : decode cX1_modesAsked 29 = .ok (.iload_n 2, 1) := by decide +kernel
theorem dX1_modesAsked_30 : decode cX1_modesAsked 30 = .ok (.iload_n 3, 1) := by decide +kernel
theorem dX1_modesAsked_31 : decode cX1_modesAsked 31 = .ok (.invokevirtual 115, 3) := by decide +kernel
theorem dX1_modesAsked_34 : decode cX1_modesAsked 34 = .ok (.ifCond .eq 15, 3) := by decide +kernel
theorem dX1_modesAsked_37 : decode cX1_modesAsked 37 = .ok (.iload 4, 2) := by decide +kernel
theorem dX1_modesAsked_39 : decode cX1_modesAsked 39 = .ok (.iconst 1, 1) := by decide +kernel
theorem dX1_modesAsked_40 : decode cX1_modesAsked 40 = .ok (.aload 6, 2) := by decide +kernel
theorem dX1_modesAsked_42 : decode cX1_modesAsked 42 = .ok (.getfield 119, 3) := by decide +kernel
theorem dX1_modesAsked_45 : decode cX1_modesAsked 45 = .ok (.ishl, 1) := by decide +kernel
theorem dX1_modesAsked_46 : decode cX1_modesAsked 46 = .ok (.ior, 1) := by decide +kernel
theorem dX1_modesAsked_47 : decode cX1_modesAsked 47 = .ok (.istore 4, 2) := by decide +kernel
theorem dX1_modesAsked_49 : decode cX1_modesAsked 49 = .ok (.iinc 5 1, 3) := by decide +kernel
theorem dX1_modesAsked_52 : decode cX1_modesAsked 52 = .ok (.goto (-46), 3) := by decide +kernel
theorem dX1_modesAsked_55 : decode cX1_modesAsked 55 = .ok (.iload 4, 2) := by decide +kernel
theorem dX1_modesAsked_57 : decode cX1_modesAsked 57 = .ok (.ireturn, 1) := by decide +kernel
theorem dX1_leastDays_0 : decode cX1_leastDays 0 = .ok (.iconst (-1), 1) := by decide +kernel
theorem dX1_leastDays_1 : decode cX1_leastDays 1 = .ok (.istore 4, 2) := by decide +kernel
theorem dX1_leastDays_3 : decode cX1_leastDays 3 = .ok (.iconst 0, 1) := by decide +kernel
theorem dX1_leastDays_4 : decode cX1_leastDays 4 = .ok (.istore 5, 2) := by decide +kernel
theorem dX1_leastDays_6 : decode cX1_leastDays 6 = .ok (.iload 5, 2) := by decide +kernel
theorem dX1_leastDays_8 : decode cX1_leastDays 8 = .ok (.aload_n 0, 1) := by decide +kernel
theorem dX1_leastDays_9 : decode cX1_leastDays 9 = .ok (.getfield 12, 3) := by decide +kernel
theorem dX1_leastDays_12 : decode cX1_leastDays 12 = .ok (.invokevirtual 18, 3) := by decide +kernel
theorem dX1_leastDays_15 : decode cX1_leastDays 15 = .ok (.if_icmp .ge 71, 3) := by decide +kernel
theorem dX1_leastDays_18 : decode cX1_leastDays 18 = .ok (.aload_n 0, 1) := by decide +kernel
theorem dX1_leastDays_19 : decode cX1_leastDays 19 = .ok (.iload 5, 2) := by decide +kernel
theorem dX1_leastDays_21 : decode cX1_leastDays 21 = .ok (.invokevirtual 36, 3) := by decide +kernel
theorem dX1_leastDays_24 : decode cX1_leastDays 24 = .ok (.astore 6, 2) := by decide +kernel
theorem dX1_leastDays_26 : decode cX1_leastDays 26 = .ok (.aload 6, 2) := by decide +kernel
theorem dX1_leastDays_28 : decode cX1_leastDays 28 = .ok (.getfield 119, 3) := by decide +kernel
theorem dX1_leastDays_31 : decode cX1_leastDays 31 = .ok (.ifCond .ne 49, 3) := by decide +kernel
theorem dX1_leastDays_34 : decode cX1_leastDays 34 = .ok (.aload 6, 2) := by decide +kernel
theorem dX1_leastDays_36 : decode cX1_leastDays 36 = .ok (.getfield 123, 3) := by decide +kernel
theorem dX1_leastDays_39 : decode cX1_leastDays 39 = .ok (.iconst (-1), 1) := by decide +kernel
theorem dX1_leastDays_40 : decode cX1_leastDays 40 = .ok (.if_icmp .eq 40, 3) := by decide +kernel
theorem dX1_leastDays_43 : decode cX1_leastDays 43 = .ok (.aload 6, 2) := by decide +kernel
theorem dX1_leastDays_45 : decode cX1_leastDays 45 = .ok (.iload_n 1, 1) := by decide +kernel
theorem dX1_leastDays_46 : decode cX1_leastDays 46 = .ok (.iload_n 2, 1) := by decide +kernel
theorem dX1_leastDays_47 : decode cX1_leastDays 47 = .ok (.iload_n 3, 1) := by decide +kernel
theorem dX1_leastDays_48 : decode cX1_leastDays 48 = .ok (.invokevirtual 115, 3) := by decide +kernel
theorem dX1_leastDays_51 : decode cX1_leastDays 51 = .ok (.ifCond .eq 29, 3) := by decide +kernel
theorem dX1_leastDays_54 : decode cX1_leastDays 54 = .ok (.iload 4, 2) := by decide +kernel
theorem dX1_leastDays_56 : decode cX1_leastDays 56 = .ok (.iconst (-1), 1) := by decide +kernel
theorem dX1_leastDays_57 : decode cX1_leastDays 57 = .ok (.if_icmp .ne 11, 3) := by decide +kernel
theorem dX1_leastDays_60 : decode cX1_leastDays 60 = .ok (.aload 6, 2) := by decide +kernel
theorem dX1_leastDays_62 : decode cX1_leastDays 62 = .ok (.getfield 123, 3) := by decide +kernel
theorem dX1_leastDays_65 : decode cX1_leastDays 65 = .ok (.goto 13, 3) := by decide +kernel
theorem dX1_leastDays_68 : decode cX1_leastDays 68 = .ok (.iload 4, 2) := by decide +kernel
theorem dX1_leastDays_70 : decode cX1_leastDays 70 = .ok (.aload 6, 2) := by decide +kernel
theorem dX1_leastDays_72 : decode cX1_leastDays 72 = .ok (.getfield 123, 3) := by decide +kernel
theorem dX1_leastDays_75 : decode cX1_leastDays 75 = .ok (.invokestatic 126, 3) := by decide +kernel
theorem dX1_leastDays_78 : decode cX1_leastDays 78 = .ok (.istore 4, 2) := by decide +kernel
theorem dX1_leastDays_80 : decode cX1_leastDays 80 = .ok (.iinc 5 1, 3) := by decide +kernel
theorem dX1_leastDays_83 : decode cX1_leastDays 83 = .ok (.goto (-77), 3) := by decide +kernel
theorem dX1_leastDays_86 : decode cX1_leastDays 86 = .ok (.iload 4, 2) := by decide +kernel
theorem dX1_leastDays_88 : decode cX1_leastDays 88 = .ok (.ireturn, 1) := by decide +kernel
theorem dX2_init_0 : decode cX2_init 0 = .ok (.aload_n 0, 1) := by decide +kernel
theorem dX2_init_1 : decode cX2_init 1 = .ok (.invokespecial 3, 3) := by decide +kernel
theorem dX2_init_4 : decode cX2_init 4 = .ok (.aload_n 0, 1) := by decide +kernel
theorem dX2_init_5 : decode cX2_init 5 = .ok (.new 9, 3) := by decide +kernel
theorem dX2_init_8 : decode cX2_init 8 = .ok (.dup, 1) := by decide +kernel
theorem dX2_init_9 : decode cX2_init 9 = .ok (.invokespecial 11, 3) := by decide +kernel
theorem dX2_init_12 : decode cX2_init 12 = .ok (.putfield 12, 3) := by decide +kernel
theorem dX2_init_15 : decode cX2_init 15 = .ok (.aload_n 0, 1) := by decide +kernel
theorem dX2_init_16 : decode cX2_init 16 = .ok (.new 18, 3) := by decide +kernel
theorem dX2_init_19 : decode cX2_init 19 = .ok (.dup, 1) := by decide +kernel
theorem dX2_init_20 : decode cX2_init 20 = .ok (.invokespecial 20, 3) := by decide +kernel
theorem dX2_init_23 : decode cX2_init 23 = .ok (.putfield 21, 3) := by decide +kernel
theorem dX2_init_26 : decode cX2_init 26 = .ok (.aload_n 0, 1) := by decide +kernel
theorem dX2_init_27 : decode cX2_init 27 = .ok (.iconst 3, 1) := by decide +kernel
theorem dX2_init_28 : decode cX2_init 28 = .ok (.newarray .int, 2) := by decide +kernel
theorem dX2_init_30 : decode cX2_init 30 = .ok (.putfield 27, 3) := by decide +kernel
theorem dX2_init_33 : decode cX2_init 33 = .ok (.aload_n 0, 1) := by decide +kernel
theorem dX2_init_34 : decode cX2_init 34 = .ok (.iconst 3, 1) := by decide +kernel
theorem dX2_init_35 : decode cX2_init 35 = .ok (.putfield 31, 3) := by decide +kernel
theorem dX2_init_38 : decode cX2_init 38 = .ok (.aload_n 0, 1) := by decide +kernel
theorem dX2_init_39 : decode cX2_init 39 = .ok (.iconst 0, 1) := by decide +kernel
theorem dX2_init_40 : decode cX2_init 40 = .ok (.putfield 35, 3) := by decide +kernel
theorem dX2_init_43 : decode cX2_init 43 = .ok (.aload_n 0, 1) := by decide +kernel
theorem dX2_init_44 : decode cX2_init 44 = .ok (.iconst 0, 1) := by decide +kernel
theorem dX2_init_45 : decode cX2_init 45 = .ok (.putfield 38, 3) := by decide +kernel
theorem dX2_init_48 : decode cX2_init 48 = .ok (.return_, 1) := by decide +kernel
theorem dX2_read_0 : decode cX2_read 0 = .ok (.aload_n 0, 1) := by decide +kernel
theorem dX2_read_1 : decode cX2_read 1 = .ok (.getfield 12, 3) := by decide +kernel
theorem dX2_read_4 : decode cX2_read 4 = .ok (.invokevirtual 41, 3) := by decide +kernel
theorem dX2_read_7 : decode cX2_read 7 = .ok (.aload_n 0, 1) := by decide +kernel
theorem dX2_read_8 : decode cX2_read 8 = .ok (.getfield 21, 3) := by decide +kernel
theorem dX2_read_11 : decode cX2_read 11 = .ok (.aload_n 1, 1) := by decide +kernel
theorem dX2_read_12 : decode cX2_read 12 = .ok (.invokevirtual 44, 3) := by decide +kernel
theorem dX2_read_15 : decode cX2_read 15 = .ok (.aload_n 0, 1) := by decide +kernel
theorem dX2_read_16 : decode cX2_read 16 = .ok (.invokevirtual 48, 3) := by decide +kernel
theorem dX2_read_19 : decode cX2_read 19 = .ok (.istore_n 2, 1) := by decide +kernel
theorem dX2_read_20 : decode cX2_read 20 = .ok (.iconst 1, 1) := by decide +kernel
theorem dX2_read_21 : decode cX2_read 21 = .ok (.istore_n 3, 1) := by decide +kernel
theorem dX2_read_22 : decode cX2_read 22 = .ok (.iload_n 3, 1) := by decide +kernel
theorem dX2_read_23 : decode cX2_read 23 = .ok (.bipush 8, 2) := by decide +kernel
theorem dX2_read_25 : decode cX2_read 25 = .ok (.if_icmp .ge 30, 3) := by decide +kernel
theorem dX2_read_28 : decode cX2_read 28 = .ok (.iload_n 2, 1) := by decide +kernel
theorem dX2_read_29 : decode cX2_read 29 = .ok (.ifCond .eq 26, 3) := by decide +kernel
theorem dX2_read_32 : decode cX2_read 32 = .ok (.aload_n 0, 1) := by decide +kernel
theorem dX2_read_33 : decode cX2_read 33 = .ok (.getfield 21, 3) := by decide +kernel
theorem dX2_read_36 : decode cX2_read 36 = .ok (.bipush 21, 2) := by decide +kernel
theorem dX2_read_38 : decode cX2_read 38 = .ok (.invokevirtual 54, 3) := by decide +kernel
theorem dX2_read_41 : decode cX2_read 41 = .ok (.ifCond .eq 14, 3) := by decide +kernel
theorem dX2_read_44 : decode cX2_read 44 = .ok (.aload_n 0, 1) := by decide +kernel
theorem dX2_read_45 : decode cX2_read 45 = .ok (.invokevirtual 48, 3) := by decide +kernel
theorem dX2_read_48 : decode cX2_read 48 = .ok (.istore_n 2, 1) := by decide +kernel
theorem dX2_read_49 : decode cX2_read 49 = .ok (.iinc 3 1, 3) := by decide +kernel
theorem dX2_read_52 : decode cX2_read 52 = .ok (.goto (-30), 3) := by decide +kernel
theorem dX2_read_55 : decode cX2_read 55 = .ok (.iload_n 2, 1) := by decide +kernel
theorem dX2_read_56 : decode cX2_read 56 = .ok (.ifCond .eq 19, 3) := by decide +kernel
theorem dX2_read_59 : decode cX2_read 59 = .ok (.aload_n 0, 1) := by decide +kernel
theorem dX2_read_60 : decode cX2_read 60 = .ok (.getfield 21, 3) := by decide +kernel
theorem dX2_read_63 : decode cX2_read 63 = .ok (.bipush 22, 2) := by decide +kernel
theorem dX2_read_65 : decode cX2_read 65 = .ok (.invokevirtual 58, 3) := by decide +kernel
theorem dX2_read_68 : decode cX2_read 68 = .ok (.ifCond .eq 7, 3) := by decide +kernel
theorem dX2_read_71 : decode cX2_read 71 = .ok (.iconst 1, 1) := by decide +kernel
theorem dX2_read_72 : decode cX2_read 72 = .ok (.goto 4, 3) := by decide +kernel
theorem dX2_read_75 : decode cX2_read 75 = .ok (.iconst 0, 1) := by decide +kernel
theorem dX2_read_76 : decode cX2_read 76 = .ok (.ireturn, 1) := by decide +kernel
theorem dX2_stoppedAt_0 : decode cX2_stoppedAt 0 = .ok (.aload_n 0, 1) := by decide +kernel
theorem dX2_stoppedAt_1 : decode cX2_stoppedAt 1 = .ok (.getfield 21, 3) := by decide +kernel
theorem dX2_stoppedAt_4 : decode cX2_stoppedAt 4 = .ok (.invokevirtual 61, 3) := by decide +kernel
theorem dX2_stoppedAt_7 : decode cX2_stoppedAt 7 = .ok (.ireturn, 1) := by decide +kernel
theorem dX2_readSentence_0 : decode cX2_readSentence 0 = .ok (.aconst_null, 1) := by decide +kernel
theorem dX2_readSentence_1 : decode cX2_readSentence 1 = .ok (.astore_n 1, 1) := by decide +kernel
theorem dX2_readSentence_2 : decode cX2_readSentence 2 = .ok (.aload_n 0, 1) := by decide +kernel
theorem dX2_readSentence_3 : decode cX2_readSentence 3 = .ok (.getfield 21, 3) := by decide +kernel
theorem dX2_readSentence_6 : decode cX2_readSentence 6 = .ok (.bipush 12, 2) := by decide +kernel
theorem dX2_readSentence_8 : decode cX2_readSentence 8 = .ok (.invokevirtual 54, 3) := by decide +kernel
theorem dX2_readSentence_11 : decode cX2_readSentence 11 = .ok (.ifCond .eq 27, 3) := by decide +kernel
theorem dX2_readSentence_14 : decode cX2_readSentence 14 = .ok (.aload_n 0, 1) := by decide +kernel
theorem dX2_readSentence_15 : decode cX2_readSentence 15 = .ok (.iconst 0, 1) := by decide +kernel
theorem dX2_readSentence_16 : decode cX2_readSentence 16 = .ok (.invokevirtual 65, 3) := by decide +kernel
theorem dX2_readSentence_19 : decode cX2_readSentence 19 = .ok (.astore_n 1, 1) := by decide +kernel
theorem dX2_readSentence_20 : decode cX2_readSentence 20 = .ok (.aload_n 1, 1) := by decide +kernel
theorem dX2_readSentence_21 : decode cX2_readSentence 21 = .ok (.ifnull 15, 3) := by decide +kernel
theorem dX2_readSentence_24 : decode cX2_readSentence 24 = .ok (.aload_n 0, 1) := by decide +kernel
theorem dX2_readSentence_25 : decode cX2_readSentence 25 = .ok (.getfield 21, 3) := by decide +kernel
theorem dX2_readSentence_28 : decode cX2_readSentence 28 = .ok (.bipush 20, 2) := by decide +kernel
theorem dX2_readSentence_30 : decode cX2_readSentence 30 = .ok (.invokevirtual 54, 3) := by decide +kernel
theorem dX2_readSentence_33 : decode cX2_readSentence 33 = .ok (.ifCond .ne 5, 3) := by decide +kernel
theorem dX2_readSentence_36 : decode cX2_readSentence 36 = .ok (.iconst 0, 1) := by decide +kernel
theorem dX2_readSentence_37 : decode cX2_readSentence 37 = .ok (.ireturn, 1) := by decide +kernel
theorem dX2_readSentence_38 : decode cX2_readSentence 38 = .ok (.aload_n 0, 1) := by decide +kernel
theorem dX2_readSentence_39 : decode cX2_readSentence 39 = .ok (.getfield 21, 3) := by decide +kernel
theorem dX2_readSentence_42 : decode cX2_readSentence 42 = .ok (.bipush 6, 2) := by decide +kernel
theorem dX2_readSentence_44 : decode cX2_readSentence 44 = .ok (.invokevirtual 58, 3) := by decide +kernel
theorem dX2_readSentence_47 : decode cX2_readSentence 47 = .ok (.istore_n 2, 1) := by decide +kernel
theorem dX2_readSentence_48 : decode cX2_readSentence 48 = .ok (.iload_n 2, 1) := by decide +kernel
theorem dX2_readSentence_49 : decode cX2_readSentence 49 = .ok (.ifCond .eq 13, 3) := by decide +kernel
theorem dX2_readSentence_52 : decode cX2_readSentence 52 = .ok (.aload_n 0, 1) := by decide +kernel
theorem dX2_readSentence_53 : decode cX2_readSentence 53 = .ok (.invokevirtual 69, 3) := by decide +kernel
theorem dX2_readSentence_56 : decode cX2_readSentence 56 = .ok (.ifCond .eq 13, 3) := by decide +kernel
theorem dX2_readSentence_59 : decode cX2_readSentence 59 = .ok (.goto 12, 3) := by decide +kernel
theorem dX2_readSentence_62 : decode cX2_readSentence 62 = .ok (.aload_n 0, 1) := by decide +kernel
theorem dX2_readSentence_63 : decode cX2_readSentence 63 = .ok (.invokevirtual 72, 3) := by decide +kernel
theorem dX2_readSentence_66 : decode cX2_readSentence 66 = .ok (.ifCond .ne 5, 3) := by decide +kernel
theorem dX2_readSentence_69 : decode cX2_readSentence 69 = .ok (.iconst 0, 1) := by decide +kernel
theorem dX2_readSentence_70 : decode cX2_readSentence 70 = .ok (.ireturn, 1) := by decide +kernel
theorem dX2_readSentence_71 : decode cX2_readSentence 71 = .ok (.aconst_null, 1) := by decide +kernel
theorem dX2_readSentence_72 : decode cX2_readSentence 72 = .ok (.astore_n 3, 1) := by decide +kernel
theorem dX2_readSentence_73 : decode cX2_readSentence 73 = .ok (.aload_n 0, 1) := by decide +kernel
theorem dX2_readSentence_74 : decode cX2_readSentence 74 = .ok (.getfield 21, 3) := by decide +kernel
theorem dX2_readSentence_77 : decode cX2_readSentence 77 = .ok (.bipush 13, 2) := by decide +kernel
theorem dX2_readSentence_79 : decode cX2_readSentence 79 = .ok (.invokevirtual 54, 3) := by decide +kernel
theorem dX2_readSentence_82 : decode cX2_readSentence 82 = .ok (.ifCond .eq 15, 3) := by decide +kernel
theorem dX2_readSentence_85 : decode cX2_readSentence 85 = .ok (.aload_n 0, 1) := by decide +kernel
theorem dX2_readSentence_86 : decode cX2_readSentence 86 = .ok (.iconst 0, 1) := by decide +kernel
theorem dX2_readSentence_87 : decode cX2_readSentence 87 = .ok (.invokevirtual 65, 3) := by decide +kernel
theorem dX2_readSentence_90 : decode cX2_readSentence 90 = .ok (.astore_n 3, 1) := by decide +kernel
theorem dX2_readSentence_91 : decode cX2_readSentence 91 = .ok (.aload_n 3, 1) := by decide +kernel
theorem dX2_readSentence_92 : decode cX2_readSentence 92 = .ok (.ifnonnull 5, 3) := by decide +kernel
theorem dX2_readSentence_95 : decode cX2_readSentence 95 = .ok (.iconst 0, 1) := by decide +kernel
theorem dX2_readSentence_96 : decode cX2_readSentence 96 = .ok (.ireturn, 1) := by decide +kernel
theorem dX2_readSentence_97 : decode cX2_readSentence 97 = .ok (.iconst (-1), 1) := by decide +kernel
theorem dX2_readSentence_98 : decode cX2_readSentence 98 = .ok (.istore 4, 2) := by decide +kernel
theorem dX2_readSentence_100 : decode cX2_readSentence 100 = .ok (.aload_n 0, 1) := by decide +kernel
theorem dX2_readSentence_101 : decode cX2_readSentence 101 = .ok (.getfield 21, 3) := by decide +kernel
theorem dX2_readSentence_104 : decode cX2_readSentence 104 = .ok (.bipush 14, 2) := by decide +kernel
theorem dX2_readSentence_106 : decode cX2_readSentence 106 = .ok (.invokevirtual 54, 3) := by decide +kernel
theorem dX2_readSentence_109 : decode cX2_readSentence 109 = .ok (.ifCond .eq 24, 3) := by decide +kernel
theorem dX2_readSentence_112 : decode cX2_readSentence 112 = .ok (.aload_n 0, 1) := by decide +kernel
theorem dX2_readSentence_113 : decode cX2_readSentence 113 = .ok (.getfield 21, 3) := by decide +kernel
theorem dX2_readSentence_116 : decode cX2_readSentence 116 = .ok (.iconst 1, 1) := by decide +kernel
theorem dX2_readSentence_117 : decode cX2_readSentence 117 = .ok (.sipush 365, 3) := by decide +kernel
theorem dX2_readSentence_120 : decode cX2_readSentence 120 = .ok (.invokevirtual 75, 3) := by decide +kernel
theorem dX2_readSentence_123 : decode cX2_readSentence 123 = .ok (.istore 4, 2) := by decide +kernel
theorem dX2_readSentence_125 : decode cX2_readSentence 125 = .ok (.iload 4, 2) := by decide +kernel
theorem dX2_readSentence_127 : decode cX2_readSentence 127 = .ok (.iconst (-1), 1) := by decide +kernel
theorem dX2_readSentence_128 : decode cX2_readSentence 128 = .ok (.if_icmp .ne 5, 3) := by decide +kernel
theorem dX2_readSentence_131 : decode cX2_readSentence 131 = .ok (.iconst 0, 1) := by decide +kernel
theorem dX2_readSentence_132 : decode cX2_readSentence 132 = .ok (.ireturn, 1) := by decide +kernel
theorem dX2_readSentence_133 : decode cX2_readSentence 133 = .ok (.aload_n 0, 1) := by decide +kernel
theorem dX2_readSentence_134 : decode cX2_readSentence 134 = .ok (.getfield 12, 3) := by decide +kernel
theorem dX2_readSentence_137 : decode cX2_readSentence 137 = .ok (.new 25, 3) := by decide +kernel
theorem dX2_readSentence_140 : decode cX2_readSentence 140 = .ok (.dup, 1) := by decide +kernel
theorem dX2_readSentence_141 : decode cX2_readSentence 141 = .ok (.aload_n 0, 1) := by decide +kernel
theorem dX2_readSentence_142 : decode cX2_readSentence 142 = .ok (.getfield 31, 3) := by decide +kernel
theorem dX2_readSentence_145 : decode cX2_readSentence 145 = .ok (.aload_n 0, 1) := by decide +kernel
theorem dX2_readSentence_146 : decode cX2_readSentence 146 = .ok (.getfield 35, 3) := by decide +kernel
theorem dX2_readSentence_149 : decode cX2_readSentence 149 = .ok (.iload 4, 2) := by decide +kernel
theorem dX2_readSentence_151 : decode cX2_readSentence 151 = .ok (.iload_n 2, 1) := by decide +kernel
theorem dX2_readSentence_152 : decode cX2_readSentence 152 = .ok (.aload_n 0, 1) := by decide +kernel
theorem dX2_readSentence_153 : decode cX2_readSentence 153 = .ok (.invokevirtual 79, 3) := by decide +kernel
theorem dX2_readSentence_156 : decode cX2_readSentence 156 = .ok (.aload_n 1, 1) := by decide +kernel
theorem dX2_readSentence_157 : decode cX2_readSentence 157 = .ok (.aload_n 3, 1) := by decide +kernel
theorem dX2_readSentence_158 : decode cX2_readSentence 158 = .ok (.invokespecial 83, 3) := by decide +kernel
theorem dX2_readSentence_161 : decode cX2_readSentence 161 = .ok (.invokevirtual 86, 3) := by decide +kernel
theorem dX2_readSentence_164 : decode cX2_readSentence 164 = .ok (.iconst 1, 1) := by decide +kernel
theorem dX2_readSentence_165 : decode cX2_readSentence 165 = .ok (.ireturn, 1) := by decide +kernel
theorem dX2_readActive_0 : decode cX2_readActive 0 = .ok (.aload_n 0, 1) := by decide +kernel
theorem dX2_readActive_1 : decode cX2_readActive 1 = .ok (.invokevirtual 90, 3) := by decide +kernel
theorem dX2_readActive_4 : decode cX2_readActive 4 = .ok (.ifCond .eq 21, 3) := by decide +kernel
theorem dX2_readActive_7 : decode cX2_readActive 7 = .ok (.aload_n 0, 1) := by decide +kernel
theorem dX2_readActive_8 : decode cX2_readActive 8 = .ok (.invokevirtual 93, 3) := by decide +kernel
theorem dX2_readActive_11 : decode cX2_readActive 11 = .ok (.ifCond .eq 14, 3) := by decide +kernel
theorem dX2_readActive_14 : decode cX2_readActive 14 = .ok (.aload_n 0, 1) := by decide +kernel
theorem dX2_readActive_15 : decode cX2_readActive 15 = .ok (.invokevirtual 96, 3) := by decide +kernel
theorem dX2_readActive_18 : decode cX2_readActive 18 = .ok (.ifCond .eq 7, 3) := by decide +kernel
theorem dX2_readActive_21 : decode cX2_readActive 21 = .ok (.iconst 1, 1) := by decide +kernel
theorem dX2_readActive_22 : decode cX2_readActive 22 = .ok (.goto 4, 3) := by decide +kernel
theorem dX2_readActive_25 : decode cX2_readActive 25 = .ok (.iconst 0, 1) := by decide +kernel
theorem dX2_readActive_26 : decode cX2_readActive 26 = .ok (.ireturn, 1) := by decide +kernel
theorem dX2_readPassive_0 : decode cX2_readPassive 0 = .ok (.aload_n 0, 1) := by decide +kernel
theorem dX2_readPassive_1 : decode cX2_readPassive 1 = .ok (.invokevirtual 96, 3) := by decide +kernel
theorem dX2_readPassive_4 : decode cX2_readPassive 4 = .ok (.ifCond .eq 34, 3) := by decide +kernel
theorem dX2_readPassive_7 : decode cX2_readPassive 7 = .ok (.aload_n 0, 1) := by decide +kernel
theorem dX2_readPassive_8 : decode cX2_readPassive 8 = .ok (.invokevirtual 93, 3) := by decide +kernel
theorem dX2_readPassive_11 : decode cX2_readPassive 11 = .ok (.ifCond .eq 27, 3) := by decide +kernel
theorem dX2_readPassive_14 : decode cX2_readPassive 14 = .ok (.aload_n 0, 1) := by decide +kernel
theorem dX2_readPassive_15 : decode cX2_readPassive 15 = .ok (.getfield 21, 3) := by decide +kernel
theorem dX2_readPassive_18 : decode cX2_readPassive 18 = .ok (.bipush 9, 2) := by decide +kernel
theorem dX2_readPassive_20 : decode cX2_readPassive 20 = .ok (.invokevirtual 54, 3) := by decide +kernel
theorem dX2_readPassive_23 : decode cX2_readPassive 23 = .ok (.ifCond .eq 15, 3) := by decide +kernel
theorem dX2_readPassive_26 : decode cX2_readPassive 26 = .ok (.aload_n 0, 1) := by decide +kernel
theorem dX2_readPassive_27 : decode cX2_readPassive 27 = .ok (.getfield 21, 3) := by decide +kernel
theorem dX2_readPassive_30 : decode cX2_readPassive 30 = .ok (.bipush 10, 2) := by decide +kernel
theorem dX2_readPassive_32 : decode cX2_readPassive 32 = .ok (.invokevirtual 54, 3) := by decide +kernel
theorem dX2_readPassive_35 : decode cX2_readPassive 35 = .ok (.ifCond .ne 5, 3) := by decide +kernel
theorem dX2_readPassive_38 : decode cX2_readPassive 38 = .ok (.iconst 0, 1) := by decide +kernel
theorem dX2_readPassive_39 : decode cX2_readPassive 39 = .ok (.ireturn, 1) := by decide +kernel
theorem dX2_readPassive_40 : decode cX2_readPassive 40 = .ok (.aload_n 0, 1) := by decide +kernel
theorem dX2_readPassive_41 : decode cX2_readPassive 41 = .ok (.iconst 3, 1) := by decide +kernel
theorem dX2_readPassive_42 : decode cX2_readPassive 42 = .ok (.putfield 31, 3) := by decide +kernel
theorem dX2_readPassive_45 : decode cX2_readPassive 45 = .ok (.aload_n 0, 1) := by decide +kernel
theorem dX2_readPassive_46 : decode cX2_readPassive 46 = .ok (.getfield 21, 3) := by decide +kernel
theorem dX2_readPassive_49 : decode cX2_readPassive 49 = .ok (.bipush 11, 2) := by decide +kernel
theorem dX2_readPassive_51 : decode cX2_readPassive 51 = .ok (.invokevirtual 54, 3) := by decide +kernel
theorem dX2_readPassive_54 : decode cX2_readPassive 54 = .ok (.ifCond .eq 10, 3) := by decide +kernel
theorem dX2_readPassive_57 : decode cX2_readPassive 57 = .ok (.aload_n 0, 1) := by decide +kernel
theorem dX2_readPassive_58 : decode cX2_readPassive 58 = .ok (.invokevirtual 90, 3) := by decide +kernel
theorem dX2_readPassive_61 : decode cX2_readPassive 61 = .ok (.ifCond .eq 7, 3) := by decide +kernel
theorem dX2_readPassive_64 : decode cX2_readPassive 64 = .ok (.iconst 1, 1) := by decide +kernel
theorem dX2_readPassive_65 : decode cX2_readPassive 65 = .ok (.goto 4, 3) := by decide +kernel
theorem dX2_readPassive_68 : decode cX2_readPassive 68 = .ok (.iconst 0, 1) := by decide +kernel
theorem dX2_readPassive_69 : decode cX2_readPassive 69 = .ok (.ireturn, 1) := by decide +kernel
theorem dX2_readWho_0 : decode cX2_readWho 0 = .ok (.aload_n 0, 1) := by decide +kernel
theorem dX2_readWho_1 : decode cX2_readWho 1 = .ok (.getfield 21, 3) := by decide +kernel
theorem dX2_readWho_4 : decode cX2_readWho 4 = .ok (.iconst 0, 1) := by decide +kernel
theorem dX2_readWho_5 : decode cX2_readWho 5 = .ok (.invokevirtual 54, 3) := by decide +kernel
theorem dX2_readWho_8 : decode cX2_readWho 8 = .ok (.ifCond .eq 11, 3) := by decide +kernel
theorem dX2_readWho_11 : decode cX2_readWho 11 = .ok (.aload_n 0, 1) := by decide +kernel
theorem dX2_readWho_12 : decode cX2_readWho 12 = .ok (.iconst 0, 1) := by decide +kernel
theorem dX2_readWho_13 : decode cX2_readWho 13 = .ok (.putfield 31, 3) := by decide +kernel
theorem dX2_readWho_16 : decode cX2_readWho 16 = .ok (.goto 36, 3) := by decide +kernel
theorem dX2_readWho_19 : decode cX2_readWho 19 = .ok (.aload_n 0, 1) := by decide +kernel
theorem dX2_readWho_20 : decode cX2_readWho 20 = .ok (.getfield 21, 3) := by decide +kernel
theorem dX2_readWho_23 : decode cX2_readWho 23 = .ok (.iconst 1, 1) := by decide +kernel
theorem dX2_readWho_24 : decode cX2_readWho 24 = .ok (.invokevirtual 54, 3) := by decide +kernel
theorem dX2_readWho_27 : decode cX2_readWho 27 = .ok (.ifCond .eq 11, 3) := by decide +kernel
theorem dX2_readWho_30 : decode cX2_readWho 30 = .ok (.aload_n 0, 1) := by decide +kernel
theorem dX2_readWho_31 : decode cX2_readWho 31 = .ok (.iconst 1, 1) := by decide +kernel
theorem dX2_readWho_32 : decode cX2_readWho 32 = .ok (.putfield 31, 3) := by decide +kernel
theorem dX2_readWho_35 : decode cX2_readWho 35 = .ok (.goto 17, 3) := by decide +kernel
theorem dX2_readWho_38 : decode cX2_readWho 38 = .ok (.aload_n 0, 1) := by decide +kernel
theorem dX2_readWho_39 : decode cX2_readWho 39 = .ok (.iconst 2, 1) := by decide +kernel
theorem dX2_readWho_40 : decode cX2_readWho 40 = .ok (.putfield 31, 3) := by decide +kernel
theorem dX2_readWho_43 : decode cX2_readWho 43 = .ok (.aload_n 0, 1) := by decide +kernel
theorem dX2_readWho_44 : decode cX2_readWho 44 = .ok (.getfield 21, 3) := by decide +kernel
theorem dX2_readWho_47 : decode cX2_readWho 47 = .ok (.iconst 2, 1) := by decide +kernel
theorem dX2_readWho_48 : decode cX2_readWho 48 = .ok (.invokevirtual 54, 3) := by decide +kernel
theorem dX2_readWho_51 : decode cX2_readWho 51 = .ok (.ireturn, 1) := by decide +kernel
theorem dX2_readWho_52 : decode cX2_readWho 52 = .ok (.iconst 1, 1) := by decide +kernel
theorem dX2_readWho_53 : decode cX2_readWho 53 = .ok (.ireturn, 1) := by decide +kernel
theorem dX2_readMode_0 : decode cX2_readMode 0 = .ok (.aload_n 0, 1) := by decide +kernel
theorem dX2_readMode_1 : decode cX2_readMode 1 = .ok (.getfield 21, 3) := by decide +kernel
theorem dX2_readMode_4 : decode cX2_readMode 4 = .ok (.iconst 5, 1) := by decide +kernel
theorem dX2_readMode_5 : decode cX2_readMode 5 = .ok (.invokevirtual 54, 3) := by decide +kernel
theorem dX2_readMode_8 : decode cX2_readMode 8 = .ok (.ifCond .eq 10, 3) := by decide +kernel
theorem dX2_readMode_11 : decode cX2_readMode 11 = .ok (.aload_n 0, 1) := by decide +kernel
theorem dX2_readMode_12 : decode cX2_readMode 12 = .ok (.iconst 2, 1) := by decide +kernel
theorem dX2_readMode_13 : decode cX2_readMode 13 = .ok (.putfield 35, 3) := by decide +kernel
theorem dX2_readMode_16 : decode cX2_readMode 16 = .ok (.iconst 1, 1) := by decide +kernel
theorem dX2_readMode_17 : decode cX2_readMode 17 = .ok (.ireturn, 1) := by decide +kernel
theorem dX2_readMode_18 : decode cX2_readMode 18 = .ok (.aload_n 0, 1) := by decide +kernel
theorem dX2_readMode_19 : decode cX2_readMode 19 = .ok (.getfield 21, 3) := by decide +kernel
theorem dX2_readMode_22 : decode cX2_readMode 22 = .ok (.iconst 3, 1) := by decide +kernel
theorem dX2_readMode_23 : decode cX2_readMode 23 = .ok (.invokevirtual 54, 3) := by decide +kernel
theorem dX2_readMode_26 : decode cX2_readMode 26 = .ok (.ifCond .ne 5, 3) := by decide +kernel
theorem dX2_readMode_29 : decode cX2_readMode 29 = .ok (.iconst 0, 1) := by decide +kernel
theorem dX2_readMode_30 : decode cX2_readMode 30 = .ok (.ireturn, 1) := by decide +kernel
theorem dX2_readMode_31 : decode cX2_readMode 31 = .ok (.aload_n 0, 1) := by decide +kernel
theorem dX2_readMode_32 : decode cX2_readMode 32 = .ok (.aload_n 0, 1) := by decide +kernel
theorem dX2_readMode_33 : decode cX2_readMode 33 = .ok (.getfield 21, 3) := by decide +kernel
theorem dX2_readMode_36 : decode cX2_readMode 36 = .ok (.iconst 4, 1) := by decide +kernel
theorem dX2_readMode_37 : decode cX2_readMode 37 = .ok (.invokevirtual 54, 3) := by decide +kernel
theorem dX2_readMode_40 : decode cX2_readMode 40 = .ok (.ifCond .eq 7, 3) := by decide +kernel
theorem dX2_readMode_43 : decode cX2_readMode 43 = .ok (.iconst 1, 1) := by decide +kernel
theorem dX2_readMode_44 : decode cX2_readMode 44 = .ok (.goto 4, 3) := by decide +kernel
theorem dX2_readMode_47 : decode cX2_readMode 47 = .ok (.iconst 0, 1) := by decide +kernel
theorem dX2_readMode_48 : decode cX2_readMode 48 = .ok (.putfield 35, 3) := by decide +kernel
theorem dX2_readMode_51 : decode cX2_readMode 51 = .ok (.iconst 1, 1) := by decide +kernel
theorem dX2_readMode_52 : decode cX2_readMode 52 = .ok (.ireturn, 1) := by decide +kernel
theorem dX2_readActs_0 : decode cX2_readActs 0 = .ok (.aload_n 0, 1) := by decide +kernel
theorem dX2_readActs_1 : decode cX2_readActs 1 = .ok (.iconst 0, 1) := by decide +kernel
theorem dX2_readActs_2 : decode cX2_readActs 2 = .ok (.putfield 38, 3) := by decide +kernel
theorem dX2_readActs_5 : decode cX2_readActs 5 = .ok (.aload_n 0, 1) := by decide +kernel
theorem dX2_readActs_6 : decode cX2_readActs 6 = .ok (.invokevirtual 99, 3) := by decide +kernel
theorem dX2_readActs_9 : decode cX2_readActs 9 = .ok (.istore_n 1, 1) := by decide +kernel
theorem dX2_readActs_10 : decode cX2_readActs 10 = .ok (.iconst 1, 1) := by decide +kernel
theorem dX2_readActs_11 : decode cX2_readActs 11 = .ok (.istore_n 2, 1) := by decide +kernel
theorem dX2_readActs_12 : decode cX2_readActs 12 = .ok (.iload_n 2, 1) := by decide +kernel
theorem dX2_readActs_13 : decode cX2_readActs 13 = .ok (.iconst 3, 1) := by decide +kernel
theorem dX2_readActs_14 : decode cX2_readActs 14 = .ok (.if_icmp .ge 30, 3) := by decide +kernel
theorem dX2_readActs_17 : decode cX2_readActs 17 = .ok (.iload_n 1, 1) := by decide +kernel
theorem dX2_readActs_18 : decode cX2_readActs 18 = .ok (.ifCond .eq 26, 3) := by decide +kernel
theorem dX2_readActs_21 : decode cX2_readActs 21 = .ok (.aload_n 0, 1) := by decide +kernel
theorem dX2_readActs_22 : decode cX2_readActs 22 = .ok (.getfield 21, 3) := by decide +kernel
theorem dX2_readActs_25 : decode cX2_readActs 25 = .ok (.bipush 7, 2) := by decide +kernel
theorem dX2_readActs_27 : decode cX2_readActs 27 = .ok (.invokevirtual 54, 3) := by decide +kernel
theorem dX2_readActs_30 : decode cX2_readActs 30 = .ok (.ifCond .eq 14, 3) := by decide +kernel
theorem dX2_readActs_33 : decode cX2_readActs 33 = .ok (.aload_n 0, 1) := by decide +kernel
theorem dX2_readActs_34 : decode cX2_readActs 34 = .ok (.invokevirtual 99, 3) := by decide +kernel
theorem dX2_readActs_37 : decode cX2_readActs 37 = .ok (.istore_n 1, 1) := by decide +kernel
theorem dX2_readActs_38 : decode cX2_readActs 38 = .ok (.iinc 2 1, 3) := by decide +kernel
theorem dX2_readActs_41 : decode cX2_readActs 41 = .ok (.goto (-29), 3) := by decide +kernel
theorem dX2_readActs_44 : decode cX2_readActs 44 = .ok (.iload_n 1, 1) := by decide +kernel
theorem dX2_readActs_45 : decode cX2_readActs 45 = .ok (.ireturn, 1) := by decide +kernel
theorem dX2_readAct_0 : decode cX2_readAct 0 = .ok (.aload_n 0, 1) := by decide +kernel
theorem dX2_readAct_1 : decode cX2_readAct 1 = .ok (.getfield 21, 3) := by decide +kernel
theorem dX2_readAct_4 : decode cX2_readAct 4 = .ok (.bipush 6, 2) := by decide +kernel
theorem dX2_readAct_6 : decode cX2_readAct 6 = .ok (.invokevirtual 54, 3) := by decide +kernel
theorem dX2_readAct_9 : decode cX2_readAct 9 = .ok (.ifCond .eq 17, 3) := by decide +kernel
theorem dX2_readAct_12 : decode cX2_readAct 12 = .ok (.aload_n 0, 1) := by decide +kernel
theorem dX2_readAct_13 : decode cX2_readAct 13 = .ok (.aload_n 0, 1) := by decide +kernel
theorem dX2_readAct_14 : decode cX2_readAct 14 = .ok (.getfield 21, 3) := by decide +kernel
theorem dX2_readAct_17 : decode cX2_readAct 17 = .ok (.invokevirtual 102, 3) := by decide +kernel
theorem dX2_readAct_20 : decode cX2_readAct 20 = .ok (.invokevirtual 105, 3) := by decide +kernel
theorem dX2_readAct_23 : decode cX2_readAct 23 = .ok (.ifCond .eq 5, 3) := by decide +kernel
theorem dX2_readAct_26 : decode cX2_readAct 26 = .ok (.iconst 0, 1) := by decide +kernel
theorem dX2_readAct_27 : decode cX2_readAct 27 = .ok (.ireturn, 1) := by decide +kernel
theorem dX2_readAct_28 : decode cX2_readAct 28 = .ok (.aload_n 0, 1) := by decide +kernel
theorem dX2_readAct_29 : decode cX2_readAct 29 = .ok (.getfield 21, 3) := by decide +kernel
theorem dX2_readAct_32 : decode cX2_readAct 32 = .ok (.iconst 0, 1) := by decide +kernel
theorem dX2_readAct_33 : decode cX2_readAct 33 = .ok (.bipush 9, 2) := by decide +kernel
theorem dX2_readAct_35 : decode cX2_readAct 35 = .ok (.invokevirtual 75, 3) := by decide +kernel
theorem dX2_readAct_38 : decode cX2_readAct 38 = .ok (.istore_n 1, 1) := by decide +kernel
theorem dX2_readAct_39 : decode cX2_readAct 39 = .ok (.iload_n 1, 1) := by decide +kernel
theorem dX2_readAct_40 : decode cX2_readAct 40 = .ok (.iconst (-1), 1) := by decide +kernel
theorem dX2_readAct_41 : decode cX2_readAct 41 = .ok (.if_icmp .eq 15, 3) := by decide +kernel
theorem dX2_readAct_44 : decode cX2_readAct 44 = .ok (.aload_n 0, 1) := by decide +kernel
theorem dX2_readAct_45 : decode cX2_readAct 45 = .ok (.getfield 38, 3) := by decide +kernel
theorem dX2_readAct_48 : decode cX2_readAct 48 = .ok (.aload_n 0, 1) := by decide +kernel
theorem dX2_readAct_49 : decode cX2_readAct 49 = .ok (.getfield 27, 3) := by decide +kernel
theorem dX2_readAct_52 : decode cX2_readAct 52 = .ok (.arraylength, 1) := by decide +kernel
theorem dX2_readAct_53 : decode cX2_readAct 53 = .ok (.if_icmp .lt 5, 3) := by decide +kernel
theorem dX2_readAct_56 : decode cX2_readAct 56 = .ok (.iconst 0, 1) := by decide +kernel
theorem dX2_readAct_57 : decode cX2_readAct 57 = .ok (.ireturn, 1) := by decide +kernel
theorem dX2_readAct_58 : decode cX2_readAct 58 = .ok (.aload_n 0, 1) := by decide +kernel
theorem dX2_readAct_59 : decode cX2_readAct 59 = .ok (.getfield 27, 3) := by decide +kernel
theorem dX2_readAct_62 : decode cX2_readAct 62 = .ok (.aload_n 0, 1) := by decide +kernel
theorem dX2_readAct_63 : decode cX2_readAct 63 = .ok (.getfield 38, 3) := by decide +kernel
theorem dX2_readAct_66 : decode cX2_readAct 66 = .ok (.iload_n 1, 1) := by decide +kernel
theorem dX2_readAct_67 : decode cX2_readAct 67 = .ok (.iastore, 1) := by decide +kernel
theorem dX2_readAct_68 : decode cX2_readAct 68 = .ok (.aload_n 0, 1) := by decide +kernel
theorem dX2_readAct_69 : decode cX2_readAct 69 = .ok (.dup, 1) := by decide +kernel
theorem dX2_readAct_70 : decode cX2_readAct 70 = .ok (.getfield 38, 3) := by decide +kernel
theorem dX2_readAct_73 : decode cX2_readAct 73 = .ok (.iconst 1, 1) := by decide +kernel
theorem dX2_readAct_74 : decode cX2_readAct 74 = .ok (.iadd, 1) := by decide +kernel
theorem dX2_readAct_75 : decode cX2_readAct 75 = .ok (.putfield 38, 3) := by decide +kernel
theorem dX2_readAct_78 : decode cX2_readAct 78 = .ok (.iconst 1, 1) := by decide +kernel
theorem dX2_readAct_79 : decode cX2_readAct 79 = .ok (.ireturn, 1) := by decide +kernel
theorem dX2_isTold_0 : decode cX2_isTold 0 = .ok (.iconst 0, 1) := by decide +kernel
theorem dX2_isTold_1 : decode cX2_isTold 1 = .ok (.istore_n 2, 1) := by decide +kernel
theorem dX2_isTold_2 : decode cX2_isTold 2 = .ok (.iload_n 2, 1) := by decide +kernel
theorem dX2_isTold_3 : decode cX2_isTold 3 = .ok (.aload_n 0, 1) := by decide +kernel
theorem dX2_isTold_4 : decode cX2_isTold 4 = .ok (.getfield 38, 3) := by decide +kernel
theorem dX2_isTold_7 : decode cX2_isTold 7 = .ok (.if_icmp .ge 30, 3) := by decide +kernel
theorem dX2_isTold_10 : decode cX2_isTold 10 = .ok (.iload_n 2, 1) := by decide +kernel
theorem dX2_isTold_11 : decode cX2_isTold 11 = .ok (.aload_n 0, 1) := by decide +kernel
theorem dX2_isTold_12 : decode cX2_isTold 12 = .ok (.getfield 27, 3) := by decide +kernel
theorem dX2_isTold_15 : decode cX2_isTold 15 = .ok (.arraylength, 1) := by decide +kernel
theorem dX2_isTold_16 : decode cX2_isTold 16 = .ok (.if_icmp .ge 21, 3) := by decide +kernel
theorem dX2_isTold_19 : decode cX2_isTold 19 = .ok (.aload_n 0, 1) := by decide +kernel
theorem dX2_isTold_20 : decode cX2_isTold 20 = .ok (.getfield 27, 3) := by decide +kernel
theorem dX2_isTold_23 : decode cX2_isTold 23 = .ok (.iload_n 2, 1) := by decide +kernel
theorem dX2_isTold_24 : decode cX2_isTold 24 = .ok (.iaload, 1) := by decide +kernel
theorem dX2_isTold_25 : decode cX2_isTold 25 = .ok (.iload_n 1, 1) := by decide +kernel
theorem dX2_isTold_26 : decode cX2_isTold 26 = .ok (.if_icmp .ne 5, 3) := by decide +kernel
theorem dX2_isTold_29 : decode cX2_isTold 29 = .ok (.iconst 1, 1) := by decide +kernel
theorem dX2_isTold_30 : decode cX2_isTold 30 = .ok (.ireturn, 1) := by decide +kernel
theorem dX2_isTold_31 : decode cX2_isTold 31 = .ok (.iinc 2 1, 3) := by decide +kernel
theorem dX2_isTold_34 : decode cX2_isTold 34 = .ok (.goto (-32), 3) := by decide +kernel
theorem dX2_isTold_37 : decode cX2_isTold 37 = .ok (.iconst 0, 1) := by decide +kernel
theorem dX2_isTold_38 : decode cX2_isTold 38 = .ok (.ireturn, 1) := by decide +kernel
theorem dX2_actsTold_0 : decode cX2_actsTold 0 = .ok (.iconst 0, 1) := by decide +kernel
theorem dX2_actsTold_1 : decode cX2_actsTold 1 = .ok (.aload_n 0, 1) := by decide +kernel
theorem dX2_actsTold_2 : decode cX2_actsTold 2 = .ok (.getfield 38, 3) := by decide +kernel
theorem dX2_actsTold_5 : decode cX2_actsTold 5 = .ok (.aload_n 0, 1) := by decide +kernel
theorem dX2_actsTold_6 : decode cX2_actsTold 6 = .ok (.getfield 27, 3) := by decide +kernel
theorem dX2_actsTold_9 : decode cX2_actsTold 9 = .ok (.arraylength, 1) := by decide +kernel
theorem dX2_actsTold_10 : decode cX2_actsTold 10 = .ok (.invokestatic 108, 3) := by decide +kernel
theorem dX2_actsTold_13 : decode cX2_actsTold 13 = .ok (.invokestatic 113, 3) := by decide +kernel
theorem dX2_actsTold_16 : decode cX2_actsTold 16 = .ok (.newarray .int, 2) := by decide +kernel
theorem dX2_actsTold_18 : decode cX2_actsTold 18 = .ok (.astore_n 1, 1) := by decide +kernel
theorem dX2_actsTold_19 : decode cX2_actsTold 19 = .ok (.aload_n 0, 1) := by decide +kernel
theorem dX2_actsTold_20 : decode cX2_actsTold 20 = .ok (.getfield 27, 3) := by decide +kernel
theorem dX2_actsTold_23 : decode cX2_actsTold 23 = .ok (.iconst 0, 1) := by decide +kernel
theorem dX2_actsTold_24 : decode cX2_actsTold 24 = .ok (.aload_n 1, 1) := by decide +kernel
theorem dX2_actsTold_25 : decode cX2_actsTold 25 = .ok (.iconst 0, 1) := by decide +kernel
theorem dX2_actsTold_26 : decode cX2_actsTold 26 = .ok (.aload_n 1, 1) := by decide +kernel
theorem dX2_actsTold_27 : decode cX2_actsTold 27 = .ok (.arraylength, 1) := by decide +kernel
theorem dX2_actsTold_28 : decode cX2_actsTold 28 = .ok (.invokestatic 116, 3) := by decide +kernel
theorem dX2_actsTold_31 : decode cX2_actsTold 31 = .ok (.aload_n 1, 1) := by decide +kernel
theorem dX2_actsTold_32 : decode cX2_actsTold 32 = .ok (.areturn, 1) := by decide +kernel
theorem dX2_readCond_0 : decode cX2_readCond 0 = .ok (.aload_n 0, 1) := by decide +kernel
theorem dX2_readCond_1 : decode cX2_readCond 1 = .ok (.iload_n 1, 1) := by decide +kernel
theorem dX2_readCond_2 : decode cX2_readCond 2 = .ok (.invokevirtual 122, 3) := by decide +kernel
theorem dX2_readCond_5 : decode cX2_readCond 5 = .ok (.astore_n 2, 1) := by decide +kernel
theorem dX2_readCond_6 : decode cX2_readCond 6 = .ok (.iconst 0, 1) := by decide +kernel
theorem dX2_readCond_7 : decode cX2_readCond 7 = .ok (.istore_n 3, 1) := by decide +kernel
theorem dX2_readCond_8 : decode cX2_readCond 8 = .ok (.iload_n 3, 1) := by decide +kernel
theorem dX2_readCond_9 : decode cX2_readCond 9 = .ok (.sipush 400, 3) := by decide +kernel
theorem dX2_readCond_12 : decode cX2_readCond 12 = .ok (.if_icmp .ge 36, 3) := by decide +kernel
theorem dX2_readCond_15 : decode cX2_readCond 15 = .ok (.aload_n 2, 1) := by decide +kernel
theorem dX2_readCond_16 : decode cX2_readCond 16 = .ok (.ifnull 32, 3) := by decide +kernel
theorem dX2_readCond_19 : decode cX2_readCond 19 = .ok (.aload_n 0, 1) := by decide +kernel
theorem dX2_readCond_20 : decode cX2_readCond 20 = .ok (.getfield 21, 3) := by decide +kernel
theorem dX2_readCond_23 : decode cX2_readCond 23 = .ok (.bipush 8, 2) := by decide +kernel
theorem dX2_readCond_25 : decode cX2_readCond 25 = .ok (.invokevirtual 54, 3) := by decide +kernel
theorem dX2_readCond_28 : decode cX2_readCond 28 = .ok (.ifCond .eq 20, 3) := by decide +kernel
theorem dX2_readCond_31 : decode cX2_readCond 31 = .ok (.iconst 0, 1) := by decide +kernel
theorem dX2_readCond_32 : decode cX2_readCond 32 = .ok (.aload_n 2, 1) := by decide +kernel
theorem dX2_readCond_33 : decode cX2_readCond 33 = .ok (.aload_n 0, 1) := by decide +kernel
theorem dX2_readCond_34 : decode cX2_readCond 34 = .ok (.iload_n 1, 1) := by decide +kernel
theorem dX2_readCond_35 : decode cX2_readCond 35 = .ok (.invokevirtual 122, 3) := by decide +kernel
theorem dX2_readCond_38 : decode cX2_readCond 38 = .ok (.invokestatic 129, 3) := by decide +kernel
theorem dX2_readCond_41 : decode cX2_readCond 41 = .ok (.astore_n 2, 1) := by decide +kernel
theorem dX2_readCond_42 : decode cX2_readCond 42 = .ok (.iinc 3 1, 3) := by decide +kernel
theorem dX2_readCond_45 : decode cX2_readCond 45 = .ok (.goto (-37), 3) := by decide +kernel
theorem dX2_readCond_48 : decode cX2_readCond 48 = .ok (.aload_n 2, 1) := by decide +kernel
theorem dX2_readCond_49 : decode cX2_readCond 49 = .ok (.areturn, 1) := by decide +kernel
theorem dX2_readAll_0 : decode cX2_readAll 0 = .ok (.aload_n 0, 1) := by decide +kernel
theorem dX2_readAll_1 : decode cX2_readAll 1 = .ok (.iload_n 1, 1) := by decide +kernel
theorem dX2_readAll_2 : decode cX2_readAll 2 = .ok (.invokevirtual 133, 3) := by decide +kernel
theorem dX2_readAll_5 : decode cX2_readAll 5 = .ok (.astore_n 2, 1) := by decide +kernel
theorem dX2_readAll_6 : decode cX2_readAll 6 = .ok (.iconst 0, 1) := by decide +kernel
theorem dX2_readAll_7 : decode cX2_readAll 7 = .ok (.istore_n 3, 1) := by decide +kernel
theorem dX2_readAll_8 : decode cX2_readAll 8 = .ok (.iload_n 3, 1) := by decide +kernel
theorem dX2_readAll_9 : decode cX2_readAll 9 = .ok (.sipush 400, 3) := by decide +kernel
theorem dX2_readAll_12 : decode cX2_readAll 12 = .ok (.if_icmp .ge 36, 3) := by decide +kernel
theorem dX2_readAll_15 : decode cX2_readAll 15 = .ok (.aload_n 2, 1) := by decide +kernel
theorem dX2_readAll_16 : decode cX2_readAll 16 = .ok (.ifnull 32, 3) := by decide +kernel
theorem dX2_readAll_19 : decode cX2_readAll 19 = .ok (.aload_n 0, 1) := by decide +kernel
theorem dX2_readAll_20 : decode cX2_readAll 20 = .ok (.getfield 21, 3) := by decide +kernel
theorem dX2_readAll_23 : decode cX2_readAll 23 = .ok (.bipush 7, 2) := by decide +kernel
theorem dX2_readAll_25 : decode cX2_readAll 25 = .ok (.invokevirtual 54, 3) := by decide +kernel
theorem dX2_readAll_28 : decode cX2_readAll 28 = .ok (.ifCond .eq 20, 3) := by decide +kernel
theorem dX2_readAll_31 : decode cX2_readAll 31 = .ok (.iconst 1, 1) := by decide +kernel
theorem dX2_readAll_32 : decode cX2_readAll 32 = .ok (.aload_n 2, 1) := by decide +kernel
theorem dX2_readAll_33 : decode cX2_readAll 33 = .ok (.aload_n 0, 1) := by decide +kernel
theorem dX2_readAll_34 : decode cX2_readAll 34 = .ok (.iload_n 1, 1) := by decide +kernel
theorem dX2_readAll_35 : decode cX2_readAll 35 = .ok (.invokevirtual 133, 3) := by decide +kernel
theorem dX2_readAll_38 : decode cX2_readAll 38 = .ok (.invokestatic 129, 3) := by decide +kernel
theorem dX2_readAll_41 : decode cX2_readAll 41 = .ok (.astore_n 2, 1) := by decide +kernel
theorem dX2_readAll_42 : decode cX2_readAll 42 = .ok (.iinc 3 1, 3) := by decide +kernel
theorem dX2_readAll_45 : decode cX2_readAll 45 = .ok (.goto (-37), 3) := by decide +kernel
theorem dX2_readAll_48 : decode cX2_readAll 48 = .ok (.aload_n 2, 1) := by decide +kernel
theorem dX2_readAll_49 : decode cX2_readAll 49 = .ok (.areturn, 1) := by decide +kernel
theorem dX2_readItem_0 : decode cX2_readItem 0 = .ok (.aload_n 0, 1) := by decide +kernel
theorem dX2_readItem_1 : decode cX2_readItem 1 = .ok (.getfield 21, 3) := by decide +kernel
theorem dX2_readItem_4 : decode cX2_readItem 4 = .ok (.bipush 15, 2) := by decide +kernel
theorem dX2_readItem_6 : decode cX2_readItem 6 = .ok (.invokevirtual 54, 3) := by decide +kernel
theorem dX2_readItem_9 : decode cX2_readItem 9 = .ok (.ifCond .eq 16, 3) := by decide +kernel
theorem dX2_readItem_12 : decode cX2_readItem 12 = .ok (.aload_n 0, 1) := by decide +kernel
theorem dX2_readItem_13 : decode cX2_readItem 13 = .ok (.getfield 21, 3) := by decide +kernel
theorem dX2_readItem_16 : decode cX2_readItem 16 = .ok (.iconst 0, 1) := by decide +kernel
theorem dX2_readItem_17 : decode cX2_readItem 17 = .ok (.iconst 5, 1) := by decide +kernel
theorem dX2_readItem_18 : decode cX2_readItem 18 = .ok (.invokevirtual 75, 3) := by decide +kernel
theorem dX2_readItem_21 : decode cX2_readItem 21 = .ok (.invokestatic 136, 3) := by decide +kernel
theorem dX2_readItem_24 : decode cX2_readItem 24 = .ok (.areturn, 1) := by decide +kernel
theorem dX2_readItem_25 : decode cX2_readItem 25 = .ok (.iload_n 1, 1) := by decide +kernel
theorem dX2_readItem_26 : decode cX2_readItem 26 = .ok (.bipush 12, 2) := by decide +kernel
theorem dX2_readItem_28 : decode cX2_readItem 28 = .ok (.if_icmp .lt 5, 3) := by decide +kernel
theorem dX2_readItem_31 : decode cX2_readItem 31 = .ok (.aconst_null, 1) := by decide +kernel
theorem dX2_readItem_32 : decode cX2_readItem 32 = .ok (.areturn, 1) := by decide +kernel
theorem dX2_readItem_33 : decode cX2_readItem 33 = .ok (.aload_n 0, 1) := by decide +kernel
theorem dX2_readItem_34 : decode cX2_readItem 34 = .ok (.getfield 21, 3) := by decide +kernel
theorem dX2_readItem_37 : decode cX2_readItem 37 = .ok (.iconst 4, 1) := by decide +kernel
theorem dX2_readItem_38 : decode cX2_readItem 38 = .ok (.invokevirtual 54, 3) := by decide +kernel
theorem dX2_readItem_41 : decode cX2_readItem 41 = .ok (.ifCond .eq 14, 3) := by decide +kernel
theorem dX2_readItem_44 : decode cX2_readItem 44 = .ok (.aload_n 0, 1) := by decide +kernel
theorem dX2_readItem_45 : decode cX2_readItem 45 = .ok (.iload_n 1, 1) := by decide +kernel
theorem dX2_readItem_46 : decode cX2_readItem 46 = .ok (.iconst 1, 1) := by decide +kernel
theorem dX2_readItem_47 : decode cX2_readItem 47 = .ok (.iadd, 1) := by decide +kernel
theorem dX2_readItem_48 : decode cX2_readItem 48 = .ok (.invokevirtual 133, 3) := by decide +kernel
theorem dX2_readItem_51 : decode cX2_readItem 51 = .ok (.invokestatic 139, 3) := by decide +kernel
theorem dX2_readItem_54 : decode cX2_readItem 54 = .ok (.areturn, 1) := by decide +kernel
theorem dX2_readItem_55 : decode cX2_readItem 55 = .ok (.aload_n 0, 1) := by decide +kernel
theorem dX2_readItem_56 : decode cX2_readItem 56 = .ok (.getfield 21, 3) := by decide +kernel
theorem dX2_readItem_59 : decode cX2_readItem 59 = .ok (.bipush 18, 2) := by decide +kernel
theorem dX2_readItem_61 : decode cX2_readItem 61 = .ok (.invokevirtual 54, 3) := by decide +kernel
theorem dX2_readItem_64 : decode cX2_readItem 64 = .ok (.ifCond .ne 5, 3) := by decide +kernel
theorem dX2_readItem_67 : decode cX2_readItem 67 = .ok (.aconst_null, 1) := by decide +kernel
theorem dX2_readItem_68 : decode cX2_readItem 68 = .ok (.areturn, 1) := by decide +kernel
theorem dX2_readItem_69 : decode cX2_readItem 69 = .ok (.aload_n 0, 1) := by decide +kernel
theorem dX2_readItem_70 : decode cX2_readItem 70 = .ok (.iload_n 1, 1) := by decide +kernel
theorem dX2_readItem_71 : decode cX2_readItem 71 = .ok (.iconst 1, 1) := by decide +kernel
theorem dX2_readItem_72 : decode cX2_readItem 72 = .ok (.iadd, 1) := by decide +kernel
theorem dX2_readItem_73 : decode cX2_readItem 73 = .ok (.invokevirtual 65, 3) := by decide +kernel
theorem dX2_readItem_76 : decode cX2_readItem 76 = .ok (.astore_n 2, 1) := by decide +kernel
theorem dX2_readItem_77 : decode cX2_readItem 77 = .ok (.aload_n 2, 1) := by decide +kernel
theorem dX2_readItem_78 : decode cX2_readItem 78 = .ok (.ifnull 19, 3) := by decide +kernel
theorem dX2_readItem_81 : decode cX2_readItem 81 = .ok (.aload_n 0, 1) := by decide +kernel
theorem dX2_readItem_82 : decode cX2_readItem 82 = .ok (.getfield 21, 3) := by decide +kernel
theorem dX2_readItem_85 : decode cX2_readItem 85 = .ok (.bipush 19, 2) := by decide +kernel
theorem dX2_readItem_87 : decode cX2_readItem 87 = .ok (.invokevirtual 54, 3) := by decide +kernel
theorem dX2_readItem_90 : decode cX2_readItem 90 = .ok (.ifCond .eq 7, 3) := by decide +kernel
theorem dX2_readItem_93 : decode cX2_readItem 93 = .ok (.aload_n 2, 1) := by decide +kernel
theorem dX2_readItem_94 : decode cX2_readItem 94 = .ok (.goto 4, 3) := by decide +kernel
theorem dX2_readItem_97 : decode cX2_readItem 97 = .ok (.aconst_null, 1) := by decide +kernel
theorem dX2_readItem_98 : decode cX2_readItem 98 = .ok (.areturn, 1) := by decide +kernel
theorem dX3_init_0 : decode cX3_init 0 = .ok (.aload_n 0, 1) := by decide +kernel
theorem dX3_init_1 : decode cX3_init 1 = .ok (.invokespecial 3, 3) := by decide +kernel
theorem dX3_init_4 : decode cX3_init 4 = .ok (.aload_n 0, 1) := by decide +kernel
theorem dX3_init_5 : decode cX3_init 5 = .ok (.iload_n 1, 1) := by decide +kernel
theorem dX3_init_6 : decode cX3_init 6 = .ok (.putfield 9, 3) := by decide +kernel
theorem dX3_init_9 : decode cX3_init 9 = .ok (.aload_n 0, 1) := by decide +kernel
theorem dX3_init_10 : decode cX3_init 10 = .ok (.iload_n 2, 1) := by decide +kernel
theorem dX3_init_11 : decode cX3_init 11 = .ok (.putfield 15, 3) := by decide +kernel
theorem dX3_init_14 : decode cX3_init 14 = .ok (.aload_n 0, 1) := by decide +kernel
theorem dX3_init_15 : decode cX3_init 15 = .ok (.iload_n 3, 1) := by decide +kernel
theorem dX3_init_16 : decode cX3_init 16 = .ok (.putfield 18, 3) := by decide +kernel
theorem dX3_init_19 : decode cX3_init 19 = .ok (.aload_n 0, 1) := by decide +kernel
theorem dX3_init_20 : decode cX3_init 20 = .ok (.iload 4, 2) := by decide +kernel
theorem dX3_init_22 : decode cX3_init 22 = .ok (.putfield 21, 3) := by decide +kernel
theorem dX3_init_25 : decode cX3_init 25 = .ok (.aload_n 0, 1) := by decide +kernel
theorem dX3_init_26 : decode cX3_init 26 = .ok (.aload 5, 2) := by decide +kernel
theorem dX3_init_28 : decode cX3_init 28 = .ok (.putfield 25, 3) := by decide +kernel
theorem dX3_init_31 : decode cX3_init 31 = .ok (.aload_n 0, 1) := by decide +kernel
theorem dX3_init_32 : decode cX3_init 32 = .ok (.aload 6, 2) := by decide +kernel
theorem dX3_init_34 : decode cX3_init 34 = .ok (.putfield 29, 3) := by decide +kernel
theorem dX3_init_37 : decode cX3_init 37 = .ok (.aload_n 0, 1) := by decide +kernel
theorem dX3_init_38 : decode cX3_init 38 = .ok (.aload 7, 2) := by decide +kernel
theorem dX3_init_40 : decode cX3_init 40 = .ok (.putfield 33, 3) := by decide +kernel
theorem dX3_init_43 : decode cX3_init 43 = .ok (.return_, 1) := by decide +kernel
theorem dX3_withActs_0 : decode cX3_withActs 0 = .ok (.new 10, 3) := by decide +kernel
theorem dX3_withActs_3 : decode cX3_withActs 3 = .ok (.dup, 1) := by decide +kernel
theorem dX3_withActs_4 : decode cX3_withActs 4 = .ok (.aload_n 0, 1) := by decide +kernel
theorem dX3_withActs_5 : decode cX3_withActs 5 = .ok (.getfield 9, 3) := by decide +kernel
theorem dX3_withActs_8 : decode cX3_withActs 8 = .ok (.aload_n 0, 1) := by decide +kernel
theorem dX3_withActs_9 : decode cX3_withActs 9 = .ok (.getfield 15, 3) := by decide +kernel
theorem dX3_withActs_12 : decode cX3_withActs 12 = .ok (.aload_n 0, 1) := by decide +kernel
theorem dX3_withActs_13 : decode cX3_withActs 13 = .ok (.getfield 18, 3) := by decide +kernel
theorem dX3_withActs_16 : decode cX3_withActs 16 = .ok (.aload_n 0, 1) := by decide +kernel
theorem dX3_withActs_17 : decode cX3_withActs 17 = .ok (.getfield 21, 3) := by decide +kernel
theorem dX3_withActs_20 : decode cX3_withActs 20 = .ok (.aload_n 1, 1) := by decide +kernel
theorem dX3_withActs_21 : decode cX3_withActs 21 = .ok (.aload_n 0, 1) := by decide +kernel
theorem dX3_withActs_22 : decode cX3_withActs 22 = .ok (.getfield 29, 3) := by decide +kernel
theorem dX3_withActs_25 : decode cX3_withActs 25 = .ok (.aload_n 0, 1) := by decide +kernel
theorem dX3_withActs_26 : decode cX3_withActs 26 = .ok (.getfield 33, 3) := by decide +kernel
theorem dX3_withActs_29 : decode cX3_withActs 29 = .ok (.invokespecial 36, 3) := by decide +kernel
theorem dX3_withActs_32 : decode cX3_withActs 32 = .ok (.areturn, 1) := by decide +kernel
theorem dX3_withAct_0 : decode cX3_withAct 0 = .ok (.iconst 1, 1) := by decide +kernel
theorem dX3_withAct_1 : decode cX3_withAct 1 = .ok (.newarray .int, 2) := by decide +kernel
theorem dX3_withAct_3 : decode cX3_withAct 3 = .ok (.dup, 1) := by decide +kernel
theorem dX3_withAct_4 : decode cX3_withAct 4 = .ok (.iconst 0, 1) := by decide +kernel
theorem dX3_withAct_5 : decode cX3_withAct 5 = .ok (.iload_n 1, 1) := by decide +kernel
theorem dX3_withAct_6 : decode cX3_withAct 6 = .ok (.ifCond .lt 21, 3) := by decide +kernel
theorem dX3_withAct_9 : decode cX3_withAct 9 = .ok (.iload_n 1, 1) := by decide +kernel
theorem dX3_withAct_10 : decode cX3_withAct 10 = .ok (.aload_n 0, 1) := by decide +kernel
theorem dX3_withAct_11 : decode cX3_withAct 11 = .ok (.getfield 25, 3) := by decide +kernel
theorem dX3_withAct_14 : decode cX3_withAct 14 = .ok (.arraylength, 1) := by decide +kernel
theorem dX3_withAct_15 : decode cX3_withAct 15 = .ok (.if_icmp .ge 12, 3) := by decide +kernel
theorem dX3_withAct_18 : decode cX3_withAct 18 = .ok (.aload_n 0, 1) := by decide +kernel
theorem dX3_withAct_19 : decode cX3_withAct 19 = .ok (.getfield 25, 3) := by decide +kernel
theorem dX3_withAct_22 : decode cX3_withAct 22 = .ok (.iload_n 1, 1) := by decide +kernel
theorem dX3_withAct_23 : decode cX3_withAct 23 = .ok (.iaload, 1) := by decide +kernel
theorem dX3_withAct_24 : decode cX3_withAct 24 = .ok (.goto 4, 3) := by decide +kernel
theorem dX3_withAct_27 : decode cX3_withAct 27 = .ok (.iconst (-1), 1) := by decide +kernel
theorem dX3_withAct_28 : decode cX3_withAct 28 = .ok (.iastore, 1) := by decide +kernel
theorem dX3_withAct_29 : decode cX3_withAct 29 = .ok (.astore_n 2, 1) := by decide +kernel
theorem dX3_withAct_30 : decode cX3_withAct 30 = .ok (.aload_n 0, 1) := by decide +kernel
theorem dX3_withAct_31 : decode cX3_withAct 31 = .ok (.aload_n 2, 1) := by decide +kernel
theorem dX3_withAct_32 : decode cX3_withAct 32 = .ok (.invokevirtual 39, 3) := by decide +kernel
theorem dX3_withAct_35 : decode cX3_withAct 35 = .ok (.areturn, 1) := by decide +kernel
theorem dX3_canTurn_0 : decode cX3_canTurn 0 = .ok (.aload_n 0, 1) := by decide +kernel
theorem dX3_canTurn_1 : decode cX3_canTurn 1 = .ok (.getfield 21, 3) := by decide +kernel
theorem dX3_canTurn_4 : decode cX3_canTurn 4 = .ok (.ifCond .eq 15, 3) := by decide +kernel
theorem dX3_canTurn_7 : decode cX3_canTurn 7 = .ok (.aload_n 0, 1) := by decide +kernel
theorem dX3_canTurn_8 : decode cX3_canTurn 8 = .ok (.getfield 9, 3) := by decide +kernel
theorem dX3_canTurn_11 : decode cX3_canTurn 11 = .ok (.iconst 3, 1) := by decide +kernel
theorem dX3_canTurn_12 : decode cX3_canTurn 12 = .ok (.if_icmp .eq 7, 3) := by decide +kernel
theorem dX3_canTurn_15 : decode cX3_canTurn 15 = .ok (.iconst 1, 1) := by decide +kernel
theorem dX3_canTurn_16 : decode cX3_canTurn 16 = .ok (.goto 4, 3) := by decide +kernel
theorem dX3_canTurn_19 : decode cX3_canTurn 19 = .ok (.iconst 0, 1) := by decide +kernel
theorem dX3_canTurn_20 : decode cX3_canTurn 20 = .ok (.ireturn, 1) := by decide +kernel
theorem dX3_turned_0 : decode cX3_turned 0 = .ok (.new 10, 3) := by decide +kernel
theorem dX3_turned_3 : decode cX3_turned 3 = .ok (.dup, 1) := by decide +kernel
theorem dX3_turned_4 : decode cX3_turned 4 = .ok (.aload_n 0, 1) := by decide +kernel
theorem dX3_turned_5 : decode cX3_turned 5 = .ok (.getfield 9, 3) := by decide +kernel
theorem dX3_turned_8 : decode cX3_turned 8 = .ok (.aload_n 0, 1) := by decide +kernel
theorem dX3_turned_9 : decode cX3_turned 9 = .ok (.getfield 15, 3) := by decide +kernel
theorem dX3_turned_12 : decode cX3_turned 12 = .ok (.aload_n 0, 1) := by decide +kernel
theorem dX3_turned_13 : decode cX3_turned 13 = .ok (.getfield 18, 3) := by decide +kernel
theorem dX3_turned_16 : decode cX3_turned 16 = .ok (.iconst 0, 1) := by decide +kernel
theorem dX3_turned_17 : decode cX3_turned 17 = .ok (.aload_n 0, 1) := by decide +kernel
theorem dX3_turned_18 : decode cX3_turned 18 = .ok (.getfield 25, 3) := by decide +kernel
theorem dX3_turned_21 : decode cX3_turned 21 = .ok (.aload_n 0, 1) := by decide +kernel
theorem dX3_turned_22 : decode cX3_turned 22 = .ok (.getfield 29, 3) := by decide +kernel
theorem dX3_turned_25 : decode cX3_turned 25 = .ok (.aload_n 0, 1) := by decide +kernel
theorem dX3_turned_26 : decode cX3_turned 26 = .ok (.getfield 33, 3) := by decide +kernel
theorem dX3_turned_29 : decode cX3_turned 29 = .ok (.invokespecial 36, 3) := by decide +kernel
theorem dX3_turned_32 : decode cX3_turned 32 = .ok (.areturn, 1) := by decide +kernel
theorem dX3_canEase_0 : decode cX3_canEase 0 = .ok (.aload_n 0, 1) := by decide +kernel
theorem dX3_canEase_1 : decode cX3_canEase 1 = .ok (.getfield 33, 3) := by decide +kernel
theorem dX3_canEase_4 : decode cX3_canEase 4 = .ok (.ifnonnull 20, 3) := by decide +kernel
theorem dX3_canEase_7 : decode cX3_canEase 7 = .ok (.aload_n 0, 1) := by decide +kernel
theorem dX3_canEase_8 : decode cX3_canEase 8 = .ok (.getfield 29, 3) := by decide +kernel
theorem dX3_canEase_11 : decode cX3_canEase 11 = .ok (.ifnull 17, 3) := by decide +kernel
theorem dX3_canEase_14 : decode cX3_canEase 14 = .ok (.aload_n 0, 1) := by decide +kernel
theorem dX3_canEase_15 : decode cX3_canEase 15 = .ok (.getfield 29, 3) := by decide +kernel
theorem dX3_canEase_18 : decode cX3_canEase 18 = .ok (.getfield 43, 3) := by decide +kernel
theorem dX3_canEase_21 : decode cX3_canEase 21 = .ok (.ifCond .eq 7, 3) := by decide +kernel
theorem dX3_canEase_24 : decode cX3_canEase 24 = .ok (.iconst 1, 1) := by decide +kernel
theorem dX3_canEase_25 : decode cX3_canEase 25 = .ok (.goto 4, 3) := by decide +kernel
theorem dX3_canEase_28 : decode cX3_canEase 28 = .ok (.iconst 0, 1) := by decide +kernel
theorem dX3_canEase_29 : decode cX3_canEase 29 = .ok (.ireturn, 1) := by decide +kernel
theorem dX3_eased_0 : decode cX3_eased 0 = .ok (.aload_n 0, 1) := by decide +kernel
theorem dX3_eased_1 : decode cX3_eased 1 = .ok (.getfield 29, 3) := by decide +kernel
theorem dX3_eased_4 : decode cX3_eased 4 = .ok (.astore_n 1, 1) := by decide +kernel
theorem dX3_eased_5 : decode cX3_eased 5 = .ok (.aload_n 0, 1) := by decide +kernel
theorem dX3_eased_6 : decode cX3_eased 6 = .ok (.getfield 33, 3) := by decide +kernel
theorem dX3_eased_9 : decode cX3_eased 9 = .ok (.ifnull 32, 3) := by decide +kernel
theorem dX3_eased_12 : decode cX3_eased 12 = .ok (.aload_n 0, 1) := by decide +kernel
theorem dX3_eased_13 : decode cX3_eased 13 = .ok (.getfield 33, 3) := by decide +kernel
theorem dX3_eased_16 : decode cX3_eased 16 = .ok (.invokestatic 48, 3) := by decide +kernel
theorem dX3_eased_19 : decode cX3_eased 19 = .ok (.astore_n 2, 1) := by decide +kernel
theorem dX3_eased_20 : decode cX3_eased 20 = .ok (.aload_n 0, 1) := by decide +kernel
theorem dX3_eased_21 : decode cX3_eased 21 = .ok (.getfield 29, 3) := by decide +kernel
theorem dX3_eased_24 : decode cX3_eased 24 = .ok (.ifnonnull 7, 3) := by decide +kernel
theorem dX3_eased_27 : decode cX3_eased 27 = .ok (.aload_n 2, 1) := by decide +kernel
theorem dX3_eased_28 : decode cX3_eased 28 = .ok (.goto 12, 3) := by decide +kernel
theorem dX3_eased_31 : decode cX3_eased 31 = .ok (.iconst 1, 1) := by decide +kernel
theorem dX3_eased_32 : decode cX3_eased 32 = .ok (.aload_n 0, 1) := by decide +kernel
theorem dX3_eased_33 : decode cX3_eased 33 = .ok (.getfield 29, 3) := by decide +kernel
theorem dX3_eased_36 : decode cX3_eased 36 = .ok (.aload_n 2, 1) := by decide +kernel
theorem dX3_eased_37 : decode cX3_eased 37 = .ok (.invokestatic 52, 3) := by decide +kernel
theorem dX3_eased_40 : decode cX3_eased 40 = .ok (.astore_n 1, 1) := by decide +kernel
theorem dX3_eased_41 : decode cX3_eased 41 = .ok (.aload_n 1, 1) := by decide +kernel
theorem dX3_eased_42 : decode cX3_eased 42 = .ok (.ifnonnull 7, 3) := by decide +kernel
theorem dX3_eased_45 : decode cX3_eased 45 = .ok (.aconst_null, 1) := by decide +kernel
theorem dX3_eased_46 : decode cX3_eased 46 = .ok (.goto 8, 3) := by decide +kernel
theorem dX3_eased_49 : decode cX3_eased 49 = .ok (.aload_n 1, 1) := by decide +kernel
theorem dX3_eased_50 : decode cX3_eased 50 = .ok (.iconst 0, 1) := by decide +kernel
theorem dX3_eased_51 : decode cX3_eased 51 = .ok (.invokestatic 56, 3) := by decide +kernel
theorem dX3_eased_54 : decode cX3_eased 54 = .ok (.astore_n 2, 1) := by decide +kernel
theorem dX3_eased_55 : decode cX3_eased 55 = .ok (.new 10, 3) := by decide +kernel
theorem dX3_eased_58 : decode cX3_eased 58 = .ok (.dup, 1) := by decide +kernel
theorem dX3_eased_59 : decode cX3_eased 59 = .ok (.aload_n 0, 1) := by decide +kernel
theorem dX3_eased_60 : decode cX3_eased 60 = .ok (.getfield 9, 3) := by decide +kernel
theorem dX3_eased_63 : decode cX3_eased 63 = .ok (.aload_n 0, 1) := by decide +kernel
theorem dX3_eased_64 : decode cX3_eased 64 = .ok (.getfield 15, 3) := by decide +kernel
theorem dX3_eased_67 : decode cX3_eased 67 = .ok (.aload_n 0, 1) := by decide +kernel
theorem dX3_eased_68 : decode cX3_eased 68 = .ok (.getfield 18, 3) := by decide +kernel
theorem dX3_eased_71 : decode cX3_eased 71 = .ok (.aload_n 0, 1) := by decide +kernel
theorem dX3_eased_72 : decode cX3_eased 72 = .ok (.getfield 21, 3) := by decide +kernel
theorem dX3_eased_75 : decode cX3_eased 75 = .ok (.aload_n 0, 1) := by decide +kernel
theorem dX3_eased_76 : decode cX3_eased 76 = .ok (.getfield 25, 3) := by decide +kernel
theorem dX3_eased_79 : decode cX3_eased 79 = .ok (.aload_n 2, 1) := by decide +kernel
theorem dX3_eased_80 : decode cX3_eased 80 = .ok (.aconst_null, 1) := by decide +kernel
theorem dX3_eased_81 : decode cX3_eased 81 = .ok (.invokespecial 36, 3) := by decide +kernel
theorem dX3_eased_84 : decode cX3_eased 84 = .ok (.areturn, 1) := by decide +kernel
theorem dX3_canMelt_0 : decode cX3_canMelt 0 = .ok (.aload_n 0, 1) := by decide +kernel
theorem dX3_canMelt_1 : decode cX3_canMelt 1 = .ok (.getfield 25, 3) := by decide +kernel
theorem dX3_canMelt_4 : decode cX3_canMelt 4 = .ok (.arraylength, 1) := by decide +kernel
theorem dX3_canMelt_5 : decode cX3_canMelt 5 = .ok (.aload_n 1, 1) := by decide +kernel
theorem dX3_canMelt_6 : decode cX3_canMelt 6 = .ok (.getfield 25, 3) := by decide +kernel
theorem dX3_canMelt_9 : decode cX3_canMelt 9 = .ok (.arraylength, 1) := by decide +kernel
theorem dX3_canMelt_10 : decode cX3_canMelt 10 = .ok (.iadd, 1) := by decide +kernel
theorem dX3_canMelt_11 : decode cX3_canMelt 11 = .ok (.iconst 3, 1) := by decide +kernel
theorem dX3_canMelt_12 : decode cX3_canMelt 12 = .ok (.if_icmp .gt 22, 3) := by decide +kernel
theorem dX3_canMelt_15 : decode cX3_canMelt 15 = .ok (.aload_n 0, 1) := by decide +kernel
theorem dX3_canMelt_16 : decode cX3_canMelt 16 = .ok (.aload_n 1, 1) := by decide +kernel
theorem dX3_canMelt_17 : decode cX3_canMelt 17 = .ok (.invokevirtual 60, 3) := by decide +kernel
theorem dX3_canMelt_20 : decode cX3_canMelt 20 = .ok (.ifCond .eq 14, 3) := by decide +kernel
theorem dX3_canMelt_23 : decode cX3_canMelt 23 = .ok (.aload_n 0, 1) := by decide +kernel
theorem dX3_canMelt_24 : decode cX3_canMelt 24 = .ok (.getfield 21, 3) := by decide +kernel
theorem dX3_canMelt_27 : decode cX3_canMelt 27 = .ok (.aload_n 1, 1) := by decide +kernel
theorem dX3_canMelt_28 : decode cX3_canMelt 28 = .ok (.getfield 21, 3) := by decide +kernel
theorem dX3_canMelt_31 : decode cX3_canMelt 31 = .ok (.if_icmp .eq 5, 3) := by decide +kernel
theorem dX3_canMelt_34 : decode cX3_canMelt 34 = .ok (.iconst 0, 1) := by decide +kernel
theorem dX3_canMelt_35 : decode cX3_canMelt 35 = .ok (.ireturn, 1) := by decide +kernel
theorem dX3_canMelt_36 : decode cX3_canMelt 36 = .ok (.aload_n 1, 1) := by decide +kernel
theorem dX3_canMelt_37 : decode cX3_canMelt 37 = .ok (.getfield 25, 3) := by decide +kernel
theorem dX3_canMelt_40 : decode cX3_canMelt 40 = .ok (.astore_n 2, 1) := by decide +kernel
theorem dX3_canMelt_41 : decode cX3_canMelt 41 = .ok (.aload_n 2, 1) := by decide +kernel
theorem dX3_canMelt_42 : decode cX3_canMelt 42 = .ok (.arraylength, 1) := by decide +kernel
theorem dX3_canMelt_43 : decode cX3_canMelt 43 = .ok (.istore_n 3, 1) := by decide +kernel
theorem dX3_canMelt_44 : decode cX3_canMelt 44 = .ok (.iconst 0, 1) := by decide +kernel
theorem dX3_canMelt_45 : decode cX3_canMelt 45 = .ok (.istore 4, 2) := by decide +kernel
theorem dX3_canMelt_47 : decode cX3_canMelt 47 = .ok (.iload 4, 2) := by decide +kernel
theorem dX3_canMelt_49 : decode cX3_canMelt 49 = .ok (.iload_n 3, 1) := by decide +kernel
theorem dX3_canMelt_50 : decode cX3_canMelt 50 = .ok (.if_icmp .ge 26, 3) := by decide +kernel
theorem dX3_canMelt_53 : decode cX3_canMelt 53 = .ok (.aload_n 2, 1) := by decide +kernel
theorem dX3_canMelt_54 : decode cX3_canMelt 54 = .ok (.iload 4, 2) := by decide +kernel
theorem dX3_canMelt_56 : decode cX3_canMelt 56 = .ok (.iaload, 1) := by decide +kernel
theorem dX3_canMelt_57 : decode cX3_canMelt 57 = .ok (.istore 5, 2) := by decide +kernel
theorem dX3_canMelt_59 : decode cX3_canMelt 59 = .ok (.aload_n 0, 1) := by decide +kernel
theorem dX3_canMelt_60 : decode cX3_canMelt 60 = .ok (.iload 5, 2) := by decide +kernel
theorem dX3_canMelt_62 : decode cX3_canMelt 62 = .ok (.invokevirtual 64, 3) := by decide +kernel
theorem dX3_canMelt_65 : decode cX3_canMelt 65 = .ok (.ifCond .eq 5, 3) := by decide +kernel
theorem dX3_canMelt_68 : decode cX3_canMelt 68 = .ok (.iconst 0, 1) := by decide +kernel
theorem dX3_canMelt_69 : decode cX3_canMelt 69 = .ok (.ireturn, 1) := by decide +kernel
theorem dX3_canMelt_70 : decode cX3_canMelt 70 = .ok (.iinc 4 1, 3) := by decide +kernel
theorem dX3_canMelt_73 : decode cX3_canMelt 73 = .ok (.goto (-26), 3) := by decide +kernel
theorem dX3_canMelt_76 : decode cX3_canMelt 76 = .ok (.aload_n 0, 1) := by decide +kernel
theorem dX3_canMelt_77 : decode cX3_canMelt 77 = .ok (.getfield 29, 3) := by decide +kernel
theorem dX3_canMelt_80 : decode cX3_canMelt 80 = .ok (.aload_n 1, 1) := by decide +kernel
theorem dX3_canMelt_81 : decode cX3_canMelt 81 = .ok (.getfield 29, 3) := by decide +kernel
theorem dX3_canMelt_84 : decode cX3_canMelt 84 = .ok (.iconst 0, 1) := by decide +kernel
theorem dX3_canMelt_85 : decode cX3_canMelt 85 = .ok (.invokestatic 68, 3) := by decide +kernel
theorem dX3_canMelt_88 : decode cX3_canMelt 88 = .ok (.ifCond .eq 22, 3) := by decide +kernel
theorem dX3_canMelt_91 : decode cX3_canMelt 91 = .ok (.aload_n 0, 1) := by decide +kernel
theorem dX3_canMelt_92 : decode cX3_canMelt 92 = .ok (.getfield 33, 3) := by decide +kernel
theorem dX3_canMelt_95 : decode cX3_canMelt 95 = .ok (.aload_n 1, 1) := by decide +kernel
theorem dX3_canMelt_96 : decode cX3_canMelt 96 = .ok (.getfield 33, 3) := by decide +kernel
theorem dX3_canMelt_99 : decode cX3_canMelt 99 = .ok (.iconst 0, 1) := by decide +kernel
theorem dX3_canMelt_100 : decode cX3_canMelt 100 = .ok (.invokestatic 68, 3) := by decide +kernel
theorem dX3_canMelt_103 : decode cX3_canMelt 103 = .ok (.ifCond .eq 7, 3) := by decide +kernel
theorem dX3_canMelt_106 : decode cX3_canMelt 106 = .ok (.iconst 1, 1) := by decide +kernel
theorem dX3_canMelt_107 : decode cX3_canMelt 107 = .ok (.goto 4, 3) := by decide +kernel
theorem dX3_canMelt_110 : decode cX3_canMelt 110 = .ok (.iconst 0, 1) := by decide +kernel
theorem dX3_canMelt_111 : decode cX3_canMelt 111 = .ok (.ireturn, 1) := by decide +kernel
theorem dX3_melted_0 : decode cX3_melted 0 = .ok (.aload_n 0, 1) := by decide +kernel
theorem dX3_melted_1 : decode cX3_melted 1 = .ok (.getfield 25, 3) := by decide +kernel
theorem dX3_melted_4 : decode cX3_melted 4 = .ok (.arraylength, 1) := by decide +kernel
theorem dX3_melted_5 : decode cX3_melted 5 = .ok (.aload_n 1, 1) := by decide +kernel
theorem dX3_melted_6 : decode cX3_melted 6 = .ok (.getfield 25, 3) := by decide +kernel
theorem dX3_melted_9 : decode cX3_melted 9 = .ok (.arraylength, 1) := by decide +kernel
theorem dX3_melted_10 : decode cX3_melted 10 = .ok (.iadd, 1) := by decide +kernel
theorem dX3_melted_11 : decode cX3_melted 11 = .ok (.newarray .int, 2) := by decide +kernel
theorem dX3_melted_13 : decode cX3_melted 13 = .ok (.astore_n 2, 1) := by decide +kernel
theorem dX3_melted_14 : decode cX3_melted 14 = .ok (.aload_n 0, 1) := by decide +kernel
theorem dX3_melted_15 : decode cX3_melted 15 = .ok (.getfield 25, 3) := by decide +kernel
theorem dX3_melted_18 : decode cX3_melted 18 = .ok (.iconst 0, 1) := by decide +kernel
theorem dX3_melted_19 : decode cX3_melted 19 = .ok (.aload_n 2, 1) := by decide +kernel
theorem dX3_melted_20 : decode cX3_melted 20 = .ok (.iconst 0, 1) := by decide +kernel
theorem dX3_melted_21 : decode cX3_melted 21 = .ok (.aload_n 0, 1) := by decide +kernel
theorem dX3_melted_22 : decode cX3_melted 22 = .ok (.getfield 25, 3) := by decide +kernel
theorem dX3_melted_25 : decode cX3_melted 25 = .ok (.arraylength, 1) := by decide +kernel
theorem dX3_melted_26 : decode cX3_melted 26 = .ok (.invokestatic 72, 3) := by decide +kernel
theorem dX3_melted_29 : decode cX3_melted 29 = .ok (.aload_n 1, 1) := by decide +kernel
theorem dX3_melted_30 : decode cX3_melted 30 = .ok (.getfield 25, 3) := by decide +kernel
theorem dX3_melted_33 : decode cX3_melted 33 = .ok (.iconst 0, 1) := by decide +kernel
theorem dX3_melted_34 : decode cX3_melted 34 = .ok (.aload_n 2, 1) := by decide +kernel
theorem dX3_melted_35 : decode cX3_melted 35 = .ok (.aload_n 0, 1) := by decide +kernel
theorem dX3_melted_36 : decode cX3_melted 36 = .ok (.getfield 25, 3) := by decide +kernel
theorem dX3_melted_39 : decode cX3_melted 39 = .ok (.arraylength, 1) := by decide +kernel
theorem dX3_melted_40 : decode cX3_melted 40 = .ok (.aload_n 1, 1) := by decide +kernel
theorem dX3_melted_41 : decode cX3_melted 41 = .ok (.getfield 25, 3) := by decide +kernel
theorem dX3_melted_44 : decode cX3_melted 44 = .ok (.arraylength, 1) := by decide +kernel
theorem dX3_melted_45 : decode cX3_melted 45 = .ok (.invokestatic 72, 3) := by decide +kernel
theorem dX3_melted_48 : decode cX3_melted 48 = .ok (.aload_n 0, 1) := by decide +kernel
theorem dX3_melted_49 : decode cX3_melted 49 = .ok (.aload_n 2, 1) := by decide +kernel
theorem dX3_melted_50 : decode cX3_melted 50 = .ok (.invokevirtual 39, 3) := by decide +kernel
theorem dX3_melted_53 : decode cX3_melted 53 = .ok (.areturn, 1) := by decide +kernel
theorem dX3_asksLike_0 : decode cX3_asksLike 0 = .ok (.aload_n 0, 1) := by decide +kernel
theorem dX3_asksLike_1 : decode cX3_asksLike 1 = .ok (.getfield 9, 3) := by decide +kernel
theorem dX3_asksLike_4 : decode cX3_asksLike 4 = .ok (.aload_n 1, 1) := by decide +kernel
theorem dX3_asksLike_5 : decode cX3_asksLike 5 = .ok (.getfield 9, 3) := by decide +kernel
theorem dX3_asksLike_8 : decode cX3_asksLike 8 = .ok (.if_icmp .ne 29, 3) := by decide +kernel
theorem dX3_asksLike_11 : decode cX3_asksLike 11 = .ok (.aload_n 0, 1) := by decide +kernel
theorem dX3_asksLike_12 : decode cX3_asksLike 12 = .ok (.getfield 15, 3) := by decide +kernel
theorem dX3_asksLike_15 : decode cX3_asksLike 15 = .ok (.aload_n 1, 1) := by decide +kernel
theorem dX3_asksLike_16 : decode cX3_asksLike 16 = .ok (.getfield 15, 3) := by decide +kernel
theorem dX3_asksLike_19 : decode cX3_asksLike 19 = .ok (.if_icmp .ne 18, 3) := by decide +kernel
theorem dX3_asksLike_22 : decode cX3_asksLike 22 = .ok (.aload_n 0, 1) := by decide +kernel
theorem dX3_asksLike_23 : decode cX3_asksLike 23 = .ok (.getfield 18, 3) := by decide +kernel
theorem dX3_asksLike_26 : decode cX3_asksLike 26 = .ok (.aload_n 1, 1) := by decide +kernel
theorem dX3_asksLike_27 : decode cX3_asksLike 27 = .ok (.getfield 18, 3) := by decide +kernel
theorem dX3_asksLike_30 : decode cX3_asksLike 30 = .ok (.if_icmp .ne 7, 3) := by decide +kernel
theorem dX3_asksLike_33 : decode cX3_asksLike 33 = .ok (.iconst 1, 1) := by decide +kernel
theorem dX3_asksLike_34 : decode cX3_asksLike 34 = .ok (.goto 4, 3) := by decide +kernel
theorem dX3_asksLike_37 : decode cX3_asksLike 37 = .ok (.iconst 0, 1) := by decide +kernel
theorem dX3_asksLike_38 : decode cX3_asksLike 38 = .ok (.ireturn, 1) := by decide +kernel
theorem dX3_names_0 : decode cX3_names 0 = .ok (.aload_n 0, 1) := by decide +kernel
theorem dX3_names_1 : decode cX3_names 1 = .ok (.getfield 25, 3) := by decide +kernel
theorem dX3_names_4 : decode cX3_names 4 = .ok (.astore_n 2, 1) := by decide +kernel
theorem dX3_names_5 : decode cX3_names 5 = .ok (.aload_n 2, 1) := by decide +kernel
theorem dX3_names_6 : decode cX3_names 6 = .ok (.arraylength, 1) := by decide +kernel
theorem dX3_names_7 : decode cX3_names 7 = .ok (.istore_n 3, 1) := by decide +kernel
theorem dX3_names_8 : decode cX3_names 8 = .ok (.iconst 0, 1) := by decide +kernel
theorem dX3_names_9 : decode cX3_names 9 = .ok (.istore 4, 2) := by decide +kernel
theorem dX3_names_11 : decode cX3_names 11 = .ok (.iload 4, 2) := by decide +kernel
theorem dX3_names_13 : decode cX3_names 13 = .ok (.iload_n 3, 1) := by decide +kernel
theorem dX3_names_14 : decode cX3_names 14 = .ok (.if_icmp .ge 23, 3) := by decide +kernel
theorem dX3_names_17 : decode cX3_names 17 = .ok (.aload_n 2, 1) := by decide +kernel
theorem dX3_names_18 : decode cX3_names 18 = .ok (.iload 4, 2) := by decide +kernel
theorem dX3_names_20 : decode cX3_names 20 = .ok (.iaload, 1) := by decide +kernel
theorem dX3_names_21 : decode cX3_names 21 = .ok (.istore 5, 2) := by decide +kernel
theorem dX3_names_23 : decode cX3_names 23 = .ok (.iload 5, 2) := by decide +kernel
theorem dX3_names_25 : decode cX3_names 25 = .ok (.iload_n 1, 1) := by decide +kernel
theorem dX3_names_26 : decode cX3_names 26 = .ok (.if_icmp .ne 5, 3) := by decide +kernel
theorem dX3_names_29 : decode cX3_names 29 = .ok (.iconst 1, 1) := by decide +kernel
theorem dX3_names_30 : decode cX3_names 30 = .ok (.ireturn, 1) := by decide +kernel
theorem dX3_names_31 : decode cX3_names 31 = .ok (.iinc 4 1, 3) := by decide +kernel
theorem dX3_names_34 : decode cX3_names 34 = .ok (.goto (-23), 3) := by decide +kernel
theorem dX3_names_37 : decode cX3_names 37 = .ok (.iconst 0, 1) := by decide +kernel
theorem dX3_names_38 : decode cX3_names 38 = .ok (.ireturn, 1) := by decide +kernel
theorem dX3_truth_0 : decode cX3_truth 0 = .ok (.aload_n 0, 1) := by decide +kernel
theorem dX3_truth_1 : decode cX3_truth 1 = .ok (.getfield 29, 3) := by decide +kernel
theorem dX3_truth_4 : decode cX3_truth 4 = .ok (.ifnonnull 9, 3) := by decide +kernel
theorem dX3_truth_7 : decode cX3_truth 7 = .ok (.ldc2_w 78, 3) := by decide +kernel
theorem dX3_truth_10 : decode cX3_truth 10 = .ok (.goto 10, 3) := by decide +kernel
theorem dX3_truth_13 : decode cX3_truth 13 = .ok (.aload_n 0, 1) := by decide +kernel
theorem dX3_truth_14 : decode cX3_truth 14 = .ok (.getfield 29, 3) := by decide +kernel
theorem dX3_truth_17 : decode cX3_truth 17 = .ok (.getfield 80, 3) := by decide +kernel
theorem dX3_truth_20 : decode cX3_truth 20 = .ok (.lstore_n 1, 1) := by decide +kernel
theorem dX3_truth_21 : decode cX3_truth 21 = .ok (.aload_n 0, 1) := by decide +kernel
theorem dX3_truth_22 : decode cX3_truth 22 = .ok (.getfield 33, 3) := by decide +kernel
theorem dX3_truth_25 : decode cX3_truth 25 = .ok (.ifnonnull 7, 3) := by decide +kernel
theorem dX3_truth_28 : decode cX3_truth 28 = .ok (.lload_n 1, 1) := by decide +kernel
theorem dX3_truth_29 : decode cX3_truth 29 = .ok (.goto 16, 3) := by decide +kernel
theorem dX3_truth_32 : decode cX3_truth 32 = .ok (.lload_n 1, 1) := by decide +kernel
theorem dX3_truth_33 : decode cX3_truth 33 = .ok (.aload_n 0, 1) := by decide +kernel
theorem dX3_truth_34 : decode cX3_truth 34 = .ok (.getfield 33, 3) := by decide +kernel
theorem dX3_truth_37 : decode cX3_truth 37 = .ok (.getfield 80, 3) := by decide +kernel
theorem dX3_truth_40 : decode cX3_truth 40 = .ok (.ldc2_w 78, 3) := by decide +kernel
theorem dX3_truth_43 : decode cX3_truth 43 = .ok (.lxor, 1) := by decide +kernel
theorem dX3_truth_44 : decode cX3_truth 44 = .ok (.land, 1) := by decide +kernel
theorem dX3_truth_45 : decode cX3_truth 45 = .ok (.lreturn, 1) := by decide +kernel
theorem dX3_asks_0 : decode cX3_asks 0 = .ok (.aload_n 0, 1) := by decide +kernel
theorem dX3_asks_1 : decode cX3_asks 1 = .ok (.getfield 9, 3) := by decide +kernel
theorem dX3_asks_4 : decode cX3_asks 4 = .ok (.iload_n 1, 1) := by decide +kernel
theorem dX3_asks_5 : decode cX3_asks 5 = .ok (.if_icmp .ne 31, 3) := by decide +kernel
theorem dX3_asks_8 : decode cX3_asks 8 = .ok (.aload_n 0, 1) := by decide +kernel
theorem dX3_asks_9 : decode cX3_asks 9 = .ok (.iload_n 2, 1) := by decide +kernel
theorem dX3_asks_10 : decode cX3_asks 10 = .ok (.invokevirtual 64, 3) := by decide +kernel
theorem dX3_asks_13 : decode cX3_asks 13 = .ok (.ifCond .eq 23, 3) := by decide +kernel
theorem dX3_asks_16 : decode cX3_asks 16 = .ok (.aload_n 0, 1) := by decide +kernel
theorem dX3_asks_17 : decode cX3_asks 17 = .ok (.invokevirtual 84, 3) := by decide +kernel
theorem dX3_asks_20 : decode cX3_asks 20 = .ok (.iload_n 3, 1) := by decide +kernel
theorem dX3_asks_21 : decode cX3_asks 21 = .ok (.bipush 63, 2) := by decide +kernel
theorem dX3_asks_23 : decode cX3_asks 23 = .ok (.iand, 1) := by decide +kernel
theorem dX3_asks_24 : decode cX3_asks 24 = .ok (.lushr, 1) := by decide +kernel
theorem dX3_asks_25 : decode cX3_asks 25 = .ok (.lconst 1, 1) := by decide +kernel
theorem dX3_asks_26 : decode cX3_asks 26 = .ok (.land, 1) := by decide +kernel
theorem dX3_asks_27 : decode cX3_asks 27 = .ok (.lconst 0, 1) := by decide +kernel
theorem dX3_asks_28 : decode cX3_asks 28 = .ok (.lcmp, 1) := by decide +kernel
theorem dX3_asks_29 : decode cX3_asks 29 = .ok (.ifCond .eq 7, 3) := by decide +kernel
theorem dX3_asks_32 : decode cX3_asks 32 = .ok (.iconst 1, 1) := by decide +kernel
theorem dX3_asks_33 : decode cX3_asks 33 = .ok (.goto 4, 3) := by decide +kernel
theorem dX3_asks_36 : decode cX3_asks 36 = .ok (.iconst 0, 1) := by decide +kernel
theorem dX3_asks_37 : decode cX3_asks 37 = .ok (.ireturn, 1) := by decide +kernel
theorem dX3_words_0 : decode cX3_words 0 = .ok (.iconst 3, 1) := by decide +kernel
theorem dX3_words_1 : decode cX3_words 1 = .ok (.iload_n 1, 1) := by decide +kernel
theorem dX3_words_2 : decode cX3_words 2 = .ok (.imul, 1) := by decide +kernel
theorem dX3_words_3 : decode cX3_words 3 = .ok (.iconst 1, 1) := by decide +kernel
theorem dX3_words_4 : decode cX3_words 4 = .ok (.isub, 1) := by decide +kernel
theorem dX3_words_5 : decode cX3_words 5 = .ok (.istore_n 2, 1) := by decide +kernel
theorem dX3_words_6 : decode cX3_words 6 = .ok (.iload_n 2, 1) := by decide +kernel
theorem dX3_words_7 : decode cX3_words 7 = .ok (.aload_n 0, 1) := by decide +kernel
theorem dX3_words_8 : decode cX3_words 8 = .ok (.getfield 15, 3) := by decide +kernel
theorem dX3_words_11 : decode cX3_words 11 = .ok (.iconst 1, 1) := by decide +kernel
theorem dX3_words_12 : decode cX3_words 12 = .ok (.if_icmp .ne 7, 3) := by decide +kernel
theorem dX3_words_15 : decode cX3_words 15 = .ok (.iconst 2, 1) := by decide +kernel
theorem dX3_words_16 : decode cX3_words 16 = .ok (.goto 4, 3) := by decide +kernel
theorem dX3_words_19 : decode cX3_words 19 = .ok (.iconst 1, 1) := by decide +kernel
theorem dX3_words_20 : decode cX3_words 20 = .ok (.iadd, 1) := by decide +kernel
theorem dX3_words_21 : decode cX3_words 21 = .ok (.istore_n 2, 1) := by decide +kernel
theorem dX3_words_22 : decode cX3_words 22 = .ok (.iload_n 2, 1) := by decide +kernel
theorem dX3_words_23 : decode cX3_words 23 = .ok (.aload_n 0, 1) := by decide +kernel
theorem dX3_words_24 : decode cX3_words 24 = .ok (.getfield 21, 3) := by decide +kernel
theorem dX3_words_27 : decode cX3_words 27 = .ok (.ifCond .eq 7, 3) := by decide +kernel
theorem dX3_words_30 : decode cX3_words 30 = .ok (.iconst 2, 1) := by decide +kernel
theorem dX3_words_31 : decode cX3_words 31 = .ok (.goto 4, 3) := by decide +kernel
theorem dX3_words_34 : decode cX3_words 34 = .ok (.iconst 0, 1) := by decide +kernel
theorem dX3_words_35 : decode cX3_words 35 = .ok (.iadd, 1) := by decide +kernel
theorem dX3_words_36 : decode cX3_words 36 = .ok (.istore_n 2, 1) := by decide +kernel
theorem dX3_words_37 : decode cX3_words 37 = .ok (.iload_n 2, 1) := by decide +kernel
theorem dX3_words_38 : decode cX3_words 38 = .ok (.aload_n 0, 1) := by decide +kernel
theorem dX3_words_39 : decode cX3_words 39 = .ok (.getfield 9, 3) := by decide +kernel
theorem dX3_words_42 : decode cX3_words 42 = .ok (.iconst 3, 1) := by decide +kernel
theorem dX3_words_43 : decode cX3_words 43 = .ok (.if_icmp .ne 7, 3) := by decide +kernel
theorem dX3_words_46 : decode cX3_words 46 = .ok (.iconst 0, 1) := by decide +kernel
theorem dX3_words_47 : decode cX3_words 47 = .ok (.goto 15, 3) := by decide +kernel
theorem dX3_words_50 : decode cX3_words 50 = .ok (.aload_n 0, 1) := by decide +kernel
theorem dX3_words_51 : decode cX3_words 51 = .ok (.getfield 21, 3) := by decide +kernel
theorem dX3_words_54 : decode cX3_words 54 = .ok (.ifCond .eq 7, 3) := by decide +kernel
theorem dX3_words_57 : decode cX3_words 57 = .ok (.iconst 2, 1) := by decide +kernel
theorem dX3_words_58 : decode cX3_words 58 = .ok (.goto 4, 3) := by decide +kernel
theorem dX3_words_61 : decode cX3_words 61 = .ok (.iconst 1, 1) := by decide +kernel
theorem dX3_words_62 : decode cX3_words 62 = .ok (.iadd, 1) := by decide +kernel
theorem dX3_words_63 : decode cX3_words 63 = .ok (.istore_n 2, 1) := by decide +kernel
theorem dX3_words_64 : decode cX3_words 64 = .ok (.iload_n 2, 1) := by decide +kernel
theorem dX3_words_65 : decode cX3_words 65 = .ok (.aload_n 0, 1) := by decide +kernel
theorem dX3_words_66 : decode cX3_words 66 = .ok (.getfield 29, 3) := by decide +kernel
theorem dX3_words_69 : decode cX3_words 69 = .ok (.ifnonnull 7, 3) := by decide +kernel
theorem dX3_words_72 : decode cX3_words 72 = .ok (.iconst 0, 1) := by decide +kernel
theorem dX3_words_73 : decode cX3_words 73 = .ok (.goto 12, 3) := by decide +kernel
theorem dX3_words_76 : decode cX3_words 76 = .ok (.iconst 1, 1) := by decide +kernel
theorem dX3_words_77 : decode cX3_words 77 = .ok (.aload_n 0, 1) := by decide +kernel
theorem dX3_words_78 : decode cX3_words 78 = .ok (.getfield 29, 3) := by decide +kernel
theorem dX3_words_81 : decode cX3_words 81 = .ok (.getfield 87, 3) := by decide +kernel
theorem dX3_words_84 : decode cX3_words 84 = .ok (.iadd, 1) := by decide +kernel
theorem dX3_words_85 : decode cX3_words 85 = .ok (.iadd, 1) := by decide +kernel
theorem dX3_words_86 : decode cX3_words 86 = .ok (.istore_n 2, 1) := by decide +kernel
theorem dX3_words_87 : decode cX3_words 87 = .ok (.iload_n 2, 1) := by decide +kernel
theorem dX3_words_88 : decode cX3_words 88 = .ok (.aload_n 0, 1) := by decide +kernel
theorem dX3_words_89 : decode cX3_words 89 = .ok (.getfield 33, 3) := by decide +kernel
theorem dX3_words_92 : decode cX3_words 92 = .ok (.ifnonnull 7, 3) := by decide +kernel
theorem dX3_words_95 : decode cX3_words 95 = .ok (.iconst 0, 1) := by decide +kernel
theorem dX3_words_96 : decode cX3_words 96 = .ok (.goto 12, 3) := by decide +kernel
theorem dX3_words_99 : decode cX3_words 99 = .ok (.iconst 1, 1) := by decide +kernel
theorem dX3_words_100 : decode cX3_words 100 = .ok (.aload_n 0, 1) := by decide +kernel
theorem dX3_words_101 : decode cX3_words 101 = .ok (.getfield 33, 3) := by decide +kernel
theorem dX3_words_104 : decode cX3_words 104 = .ok (.getfield 87, 3) := by decide +kernel
theorem dX3_words_107 : decode cX3_words 107 = .ok (.iadd, 1) := by decide +kernel
theorem dX3_words_108 : decode cX3_words 108 = .ok (.iadd, 1) := by decide +kernel
theorem dX3_words_109 : decode cX3_words 109 = .ok (.istore_n 2, 1) := by decide +kernel
theorem dX3_words_110 : decode cX3_words 110 = .ok (.aload_n 0, 1) := by decide +kernel
theorem dX3_words_111 : decode cX3_words 111 = .ok (.getfield 18, 3) := by decide +kernel
theorem dX3_words_114 : decode cX3_words 114 = .ok (.iconst (-1), 1) := by decide +kernel
theorem dX3_words_115 : decode cX3_words 115 = .ok (.if_icmp .ne 7, 3) := by decide +kernel
theorem dX3_words_118 : decode cX3_words 118 = .ok (.iload_n 2, 1) := by decide +kernel
theorem dX3_words_119 : decode cX3_words 119 = .ok (.goto 6, 3) := by decide +kernel
theorem dX3_words_122 : decode cX3_words 122 = .ok (.iload_n 2, 1) := by decide +kernel
theorem dX3_words_123 : decode cX3_words 123 = .ok (.iconst 2, 1) := by decide +kernel
theorem dX3_words_124 : decode cX3_words 124 = .ok (.iadd, 1) := by decide +kernel
theorem dX3_words_125 : decode cX3_words 125 = .ok (.ireturn, 1) := by decide +kernel
theorem dX3_nots_0 : decode cX3_nots 0 = .ok (.aload_n 0, 1) := by decide +kernel
theorem dX3_nots_1 : decode cX3_nots 1 = .ok (.getfield 29, 3) := by decide +kernel
theorem dX3_nots_4 : decode cX3_nots 4 = .ok (.ifnonnull 7, 3) := by decide +kernel
theorem dX3_nots_7 : decode cX3_nots 7 = .ok (.iconst 0, 1) := by decide +kernel
theorem dX3_nots_8 : decode cX3_nots 8 = .ok (.goto 10, 3) := by decide +kernel
theorem dX3_nots_11 : decode cX3_nots 11 = .ok (.aload_n 0, 1) := by decide +kernel
theorem dX3_nots_12 : decode cX3_nots 12 = .ok (.getfield 29, 3) := by decide +kernel
theorem dX3_nots_15 : decode cX3_nots 15 = .ok (.getfield 90, 3) := by decide +kernel
theorem dX3_nots_18 : decode cX3_nots 18 = .ok (.aload_n 0, 1) := by decide +kernel
theorem dX3_nots_19 : decode cX3_nots 19 = .ok (.getfield 33, 3) := by decide +kernel
theorem dX3_nots_22 : decode cX3_nots 22 = .ok (.ifnonnull 7, 3) := by decide +kernel
theorem dX3_nots_25 : decode cX3_nots 25 = .ok (.iconst 0, 1) := by decide +kernel
theorem dX3_nots_26 : decode cX3_nots 26 = .ok (.goto 10, 3) := by decide +kernel
theorem dX3_nots_29 : decode cX3_nots 29 = .ok (.aload_n 0, 1) := by decide +kernel
theorem dX3_nots_30 : decode cX3_nots 30 = .ok (.getfield 33, 3) := by decide +kernel
theorem dX3_nots_33 : decode cX3_nots 33 = .ok (.getfield 90, 3) := by decide +kernel
theorem dX3_nots_36 : decode cX3_nots 36 = .ok (.iadd, 1) := by decide +kernel
theorem dX3_nots_37 : decode cX3_nots 37 = .ok (.ireturn, 1) := by decide +kernel
theorem dX3_price_0 : decode cX3_price 0 = .ok (.aload_n 0, 1) := by decide +kernel
theorem dX3_price_1 : decode cX3_price 1 = .ok (.iload_n 1, 1) := by decide +kernel
theorem dX3_price_2 : decode cX3_price 2 = .ok (.invokevirtual 93, 3) := by decide +kernel
theorem dX3_price_5 : decode cX3_price 5 = .ok (.istore_n 2, 1) := by decide +kernel
theorem dX3_price_6 : decode cX3_price 6 = .ok (.iload_n 2, 1) := by decide +kernel
theorem dX3_price_7 : decode cX3_price 7 = .ok (.aload_n 0, 1) := by decide +kernel
theorem dX3_price_8 : decode cX3_price 8 = .ok (.getfield 21, 3) := by decide +kernel
theorem dX3_price_11 : decode cX3_price 11 = .ok (.ifCond .eq 7, 3) := by decide +kernel
theorem dX3_price_14 : decode cX3_price 14 = .ok (.iconst 3, 1) := by decide +kernel
theorem dX3_price_15 : decode cX3_price 15 = .ok (.goto 4, 3) := by decide +kernel
theorem dX3_price_18 : decode cX3_price 18 = .ok (.iconst 0, 1) := by decide +kernel
theorem dX3_price_19 : decode cX3_price 19 = .ok (.iadd, 1) := by decide +kernel
theorem dX3_price_20 : decode cX3_price 20 = .ok (.iconst 2, 1) := by decide +kernel
theorem dX3_price_21 : decode cX3_price 21 = .ok (.aload_n 0, 1) := by decide +kernel
theorem dX3_price_22 : decode cX3_price 22 = .ok (.invokevirtual 96, 3) := by decide +kernel
theorem dX3_price_25 : decode cX3_price 25 = .ok (.imul, 1) := by decide +kernel
theorem dX3_price_26 : decode cX3_price 26 = .ok (.iadd, 1) := by decide +kernel
theorem dX3_price_27 : decode cX3_price 27 = .ok (.aload_n 0, 1) := by decide +kernel
theorem dX3_price_28 : decode cX3_price 28 = .ok (.getfield 33, 3) := by decide +kernel
theorem dX3_price_31 : decode cX3_price 31 = .ok (.ifnonnull 7, 3) := by decide +kernel
theorem dX3_price_34 : decode cX3_price 34 = .ok (.iconst 0, 1) := by decide +kernel
theorem dX3_price_35 : decode cX3_price 35 = .ok (.goto 4, 3) := by decide +kernel
theorem dX3_price_38 : decode cX3_price 38 = .ok (.iconst 4, 1) := by decide +kernel
theorem dX3_price_39 : decode cX3_price 39 = .ok (.iadd, 1) := by decide +kernel
theorem dX3_price_40 : decode cX3_price 40 = .ok (.iconst 2, 1) := by decide +kernel
theorem dX3_price_41 : decode cX3_price 41 = .ok (.iconst 0, 1) := by decide +kernel
theorem dX3_price_42 : decode cX3_price 42 = .ok (.iload_n 2, 1) := by decide +kernel
theorem dX3_price_43 : decode cX3_price 43 = .ok (.bipush 10, 2) := by decide +kernel
theorem dX3_price_45 : decode cX3_price 45 = .ok (.isub, 1) := by decide +kernel
theorem dX3_price_46 : decode cX3_price 46 = .ok (.invokestatic 99, 3) := by decide +kernel
theorem dX3_price_49 : decode cX3_price 49 = .ok (.imul, 1) := by decide +kernel
theorem dX3_price_50 : decode cX3_price 50 = .ok (.iadd, 1) := by decide +kernel
theorem dX3_price_51 : decode cX3_price 51 = .ok (.iconst 5, 1) := by decide +kernel
theorem dX3_price_52 : decode cX3_price 52 = .ok (.iadd, 1) := by decide +kernel
theorem dX3_price_53 : decode cX3_price 53 = .ok (.ireturn, 1) := by decide +kernel
theorem dX3_trait_0 : decode cX3_trait 0 = .ok (.iload_n 1, 1) := by decide +kernel
theorem dX3_trait_1 : decode cX3_trait 1 = .ok (.tableswitch 123 0 8 #[51, 57, 62, 67, 72, 85, 95, 105, 110], 51) := by decide +kernel
theorem dX3_trait_52 : decode cX3_trait 52 = .ok (.aload_n 0, 1) := by decide +kernel
theorem dX3_trait_53 : decode cX3_trait 53 = .ok (.getfield 25, 3) := by decide +kernel
theorem dX3_trait_56 : decode cX3_trait 56 = .ok (.arraylength, 1) := by decide +kernel
theorem dX3_trait_57 : decode cX3_trait 57 = .ok (.ireturn, 1) := by decide +kernel
theorem dX3_trait_58 : decode cX3_trait 58 = .ok (.aload_n 0, 1) := by decide +kernel
theorem dX3_trait_59 : decode cX3_trait 59 = .ok (.getfield 9, 3) := by decide +kernel
theorem dX3_trait_62 : decode cX3_trait 62 = .ok (.ireturn, 1) := by decide +kernel
theorem dX3_trait_63 : decode cX3_trait 63 = .ok (.aload_n 0, 1) := by decide +kernel
theorem dX3_trait_64 : decode cX3_trait 64 = .ok (.getfield 15, 3) := by decide +kernel
theorem dX3_trait_67 : decode cX3_trait 67 = .ok (.ireturn, 1) := by decide +kernel
theorem dX3_trait_68 : decode cX3_trait 68 = .ok (.aload_n 0, 1) := by decide +kernel
theorem dX3_trait_69 : decode cX3_trait 69 = .ok (.getfield 18, 3) := by decide +kernel
theorem dX3_trait_72 : decode cX3_trait 72 = .ok (.ireturn, 1) := by decide +kernel
theorem dX3_trait_73 : decode cX3_trait 73 = .ok (.aload_n 0, 1) := by decide +kernel
theorem dX3_trait_74 : decode cX3_trait 74 = .ok (.getfield 21, 3) := by decide +kernel
theorem dX3_trait_77 : decode cX3_trait 77 = .ok (.ifCond .eq 7, 3) := by decide +kernel
theorem dX3_trait_80 : decode cX3_trait 80 = .ok (.iconst 1, 1) := by decide +kernel
theorem dX3_trait_81 : decode cX3_trait 81 = .ok (.goto 4, 3) := by decide +kernel
theorem dX3_trait_84 : decode cX3_trait 84 = .ok (.iconst 0, 1) := by decide +kernel
theorem dX3_trait_85 : decode cX3_trait 85 = .ok (.ireturn, 1) := by decide +kernel
theorem dX3_trait_86 : decode cX3_trait 86 = .ok (.aload_n 0, 1) := by decide +kernel
theorem dX3_trait_87 : decode cX3_trait 87 = .ok (.aload_n 0, 1) := by decide +kernel
theorem dX3_trait_88 : decode cX3_trait 88 = .ok (.getfield 25, 3) := by decide +kernel
theorem dX3_trait_91 : decode cX3_trait 91 = .ok (.arraylength, 1) := by decide +kernel
theorem dX3_trait_92 : decode cX3_trait 92 = .ok (.invokevirtual 93, 3) := by decide +kernel
theorem dX3_trait_95 : decode cX3_trait 95 = .ok (.ireturn, 1) := by decide +kernel
theorem dX3_trait_96 : decode cX3_trait 96 = .ok (.aload_n 0, 1) := by decide +kernel
theorem dX3_trait_97 : decode cX3_trait 97 = .ok (.aload_n 0, 1) := by decide +kernel
theorem dX3_trait_98 : decode cX3_trait 98 = .ok (.getfield 25, 3) := by decide +kernel
theorem dX3_trait_101 : decode cX3_trait 101 = .ok (.arraylength, 1) := by decide +kernel
theorem dX3_trait_102 : decode cX3_trait 102 = .ok (.invokevirtual 105, 3) := by decide +kernel
theorem dX3_trait_105 : decode cX3_trait 105 = .ok (.ireturn, 1) := by decide +kernel
theorem dX3_trait_106 : decode cX3_trait 106 = .ok (.aload_n 0, 1) := by decide +kernel
theorem dX3_trait_107 : decode cX3_trait 107 = .ok (.invokevirtual 96, 3) := by decide +kernel
theorem dX3_trait_110 : decode cX3_trait 110 = .ok (.ireturn, 1) := by decide +kernel
theorem dX3_trait_111 : decode cX3_trait 111 = .ok (.aload_n 0, 1) := by decide +kernel
theorem dX3_trait_112 : decode cX3_trait 112 = .ok (.getfield 33, 3) := by decide +kernel
theorem dX3_trait_115 : decode cX3_trait 115 = .ok (.ifnonnull 7, 3) := by decide +kernel
theorem dX3_trait_118 : decode cX3_trait 118 = .ok (.iconst 0, 1) := by decide +kernel
theorem dX3_trait_119 : decode cX3_trait 119 = .ok (.goto 4, 3) := by decide +kernel
theorem dX3_trait_122 : decode cX3_trait 122 = .ok (.iconst 1, 1) := by decide +kernel
theorem dX3_trait_123 : decode cX3_trait 123 = .ok (.ireturn, 1) := by decide +kernel
theorem dX3_trait_124 : decode cX3_trait 124 = .ok (.iconst (-1), 1) := by decide +kernel
theorem dX3_trait_125 : decode cX3_trait 125 = .ok (.ireturn, 1) := by decide +kernel
theorem dX4_init_0 : decode cX4_init 0 = .ok (.aload_n 0, 1) := by decide +kernel
theorem dX4_init_1 : decode cX4_init 1 = .ok (.invokespecial 3, 3) := by decide +kernel
theorem dX4_init_4 : decode cX4_init 4 = .ok (.aload_n 0, 1) := by decide +kernel
theorem dX4_init_5 : decode cX4_init 5 = .ok (.sipush 400, 3) := by decide +kernel
theorem dX4_init_8 : decode cX4_init 8 = .ok (.newarray .byte, 2) := by decide +kernel
theorem dX4_init_10 : decode cX4_init 10 = .ok (.putfield 11, 3) := by decide +kernel
theorem dX4_init_13 : decode cX4_init 13 = .ok (.aload_n 0, 1) := by decide +kernel
theorem dX4_init_14 : decode cX4_init 14 = .ok (.iconst 0, 1) := by decide +kernel
theorem dX4_init_15 : decode cX4_init 15 = .ok (.putfield 15, 3) := by decide +kernel
theorem dX4_init_18 : decode cX4_init 18 = .ok (.return_, 1) := by decide +kernel
theorem dX4_at_0 : decode cX4_at 0 = .ok (.iload_n 1, 1) := by decide +kernel
theorem dX4_at_1 : decode cX4_at 1 = .ok (.ifCond .lt 33, 3) := by decide +kernel
theorem dX4_at_4 : decode cX4_at 4 = .ok (.iload_n 1, 1) := by decide +kernel
theorem dX4_at_5 : decode cX4_at 5 = .ok (.aload_n 0, 1) := by decide +kernel
theorem dX4_at_6 : decode cX4_at 6 = .ok (.getfield 15, 3) := by decide +kernel
theorem dX4_at_9 : decode cX4_at 9 = .ok (.if_icmp .ge 25, 3) := by decide +kernel
theorem dX4_at_12 : decode cX4_at 12 = .ok (.iload_n 1, 1) := by decide +kernel
theorem dX4_at_13 : decode cX4_at 13 = .ok (.aload_n 0, 1) := by decide +kernel
theorem dX4_at_14 : decode cX4_at 14 = .ok (.getfield 11, 3) := by decide +kernel
theorem dX4_at_17 : decode cX4_at 17 = .ok (.arraylength, 1) := by decide +kernel
theorem dX4_at_18 : decode cX4_at 18 = .ok (.if_icmp .ge 16, 3) := by decide +kernel
theorem dX4_at_21 : decode cX4_at 21 = .ok (.aload_n 0, 1) := by decide +kernel
theorem dX4_at_22 : decode cX4_at 22 = .ok (.getfield 11, 3) := by decide +kernel
theorem dX4_at_25 : decode cX4_at 25 = .ok (.iload_n 1, 1) := by decide +kernel
theorem dX4_at_26 : decode cX4_at 26 = .ok (.baload, 1) := by decide +kernel
theorem dX4_at_27 : decode cX4_at 27 = .ok (.sipush 255, 3) := by decide +kernel
theorem dX4_at_30 : decode cX4_at 30 = .ok (.iand, 1) := by decide +kernel
theorem dX4_at_31 : decode cX4_at 31 = .ok (.goto 4, 3) := by decide +kernel
theorem dX4_at_34 : decode cX4_at 34 = .ok (.iconst (-1), 1) := by decide +kernel
theorem dX4_at_35 : decode cX4_at 35 = .ok (.ireturn, 1) := by decide +kernel
theorem dX4_addNumber_0 : decode cX4_addNumber 0 = .ok (.bipush 24, 2) := by decide +kernel
theorem dX4_addNumber_2 : decode cX4_addNumber 2 = .ok (.istore_n 2, 1) := by decide +kernel
theorem dX4_addNumber_3 : decode cX4_addNumber 3 = .ok (.iload_n 2, 1) := by decide +kernel
theorem dX4_addNumber_4 : decode cX4_addNumber 4 = .ok (.ifCond .lt 44, 3) := by decide +kernel
theorem dX4_addNumber_7 : decode cX4_addNumber 7 = .ok (.aload_n 0, 1) := by decide +kernel
theorem dX4_addNumber_8 : decode cX4_addNumber 8 = .ok (.getfield 15, 3) := by decide +kernel
theorem dX4_addNumber_11 : decode cX4_addNumber 11 = .ok (.aload_n 0, 1) := by decide +kernel
theorem dX4_addNumber_12 : decode cX4_addNumber 12 = .ok (.getfield 11, 3) := by decide +kernel
theorem dX4_addNumber_15 : decode cX4_addNumber 15 = .ok (.arraylength, 1) := by decide +kernel
theorem dX4_addNumber_16 : decode cX4_addNumber 16 = .ok (.if_icmp .ge 26, 3) := by decide +kernel
theorem dX4_addNumber_19 : decode cX4_addNumber 19 = .ok (.aload_n 0, 1) := by decide +kernel
theorem dX4_addNumber_20 : decode cX4_addNumber 20 = .ok (.getfield 11, 3) := by decide +kernel
theorem dX4_addNumber_23 : decode cX4_addNumber 23 = .ok (.aload_n 0, 1) := by decide +kernel
theorem dX4_addNumber_24 : decode cX4_addNumber 24 = .ok (.getfield 15, 3) := by decide +kernel
theorem dX4_addNumber_27 : decode cX4_addNumber 27 = .ok (.iload_n 1, 1) := by decide +kernel
theorem dX4_addNumber_28 : decode cX4_addNumber 28 = .ok (.iload_n 2, 1) := by decide +kernel
theorem dX4_addNumber_29 : decode cX4_addNumber 29 = .ok (.ishr, 1) := by decide +kernel
theorem dX4_addNumber_30 : decode cX4_addNumber 30 = .ok (.i2b, 1) := by decide +kernel
theorem dX4_addNumber_31 : decode cX4_addNumber 31 = .ok (.bastore, 1) := by decide +kernel
theorem dX4_addNumber_32 : decode cX4_addNumber 32 = .ok (.aload_n 0, 1) := by decide +kernel
theorem dX4_addNumber_33 : decode cX4_addNumber 33 = .ok (.dup, 1) := by decide +kernel
theorem dX4_addNumber_34 : decode cX4_addNumber 34 = .ok (.getfield 15, 3) := by decide +kernel
theorem dX4_addNumber_37 : decode cX4_addNumber 37 = .ok (.iconst 1, 1) := by decide +kernel
theorem dX4_addNumber_38 : decode cX4_addNumber 38 = .ok (.iadd, 1) := by decide +kernel
theorem dX4_addNumber_39 : decode cX4_addNumber 39 = .ok (.putfield 15, 3) := by decide +kernel
theorem dX4_addNumber_42 : decode cX4_addNumber 42 = .ok (.iinc 2 (-8), 3) := by decide +kernel
theorem dX4_addNumber_45 : decode cX4_addNumber 45 = .ok (.goto (-42), 3) := by decide +kernel
theorem dX4_addNumber_48 : decode cX4_addNumber 48 = .ok (.return_, 1) := by decide +kernel
theorem dX4_cut_0 : decode cX4_cut 0 = .ok (.iload_n 1, 1) := by decide +kernel
theorem dX4_cut_1 : decode cX4_cut 1 = .ok (.ifCond .lt 11, 3) := by decide +kernel
theorem dX4_cut_4 : decode cX4_cut 4 = .ok (.iload_n 1, 1) := by decide +kernel
theorem dX4_cut_5 : decode cX4_cut 5 = .ok (.aload_n 0, 1) := by decide +kernel
theorem dX4_cut_6 : decode cX4_cut 6 = .ok (.getfield 15, 3) := by decide +kernel
theorem dX4_cut_9 : decode cX4_cut 9 = .ok (.if_icmp .le 5, 3) := by decide +kernel
theorem dX4_cut_12 : decode cX4_cut 12 = .ok (.iconst 0, 1) := by decide +kernel
theorem dX4_cut_13 : decode cX4_cut 13 = .ok (.ireturn, 1) := by decide +kernel
theorem dX4_cut_14 : decode cX4_cut 14 = .ok (.aload_n 0, 1) := by decide +kernel
theorem dX4_cut_15 : decode cX4_cut 15 = .ok (.iload_n 1, 1) := by decide +kernel
theorem dX4_cut_16 : decode cX4_cut 16 = .ok (.putfield 15, 3) := by decide +kernel
theorem dX4_cut_19 : decode cX4_cut 19 = .ok (.iconst 1, 1) := by decide +kernel
theorem dX4_cut_20 : decode cX4_cut 20 = .ok (.ireturn, 1) := by decide +kernel
theorem dX4_become_0 : decode cX4_become 0 = .ok (.iload_n 2, 1) := by decide +kernel
theorem dX4_become_1 : decode cX4_become 1 = .ok (.ifCond .lt 34, 3) := by decide +kernel
theorem dX4_become_4 : decode cX4_become 4 = .ok (.iload_n 2, 1) := by decide +kernel
theorem dX4_become_5 : decode cX4_become 5 = .ok (.aload_n 1, 1) := by decide +kernel
theorem dX4_become_6 : decode cX4_become 6 = .ok (.arraylength, 1) := by decide +kernel
theorem dX4_become_7 : decode cX4_become 7 = .ok (.if_icmp .gt 28, 3) := by decide +kernel
theorem dX4_become_10 : decode cX4_become 10 = .ok (.iload_n 2, 1) := by decide +kernel
theorem dX4_become_11 : decode cX4_become 11 = .ok (.aload_n 0, 1) := by decide +kernel
theorem dX4_become_12 : decode cX4_become 12 = .ok (.getfield 11, 3) := by decide +kernel
theorem dX4_become_15 : decode cX4_become 15 = .ok (.arraylength, 1) := by decide +kernel
theorem dX4_become_16 : decode cX4_become 16 = .ok (.if_icmp .gt 19, 3) := by decide +kernel
theorem dX4_become_19 : decode cX4_become 19 = .ok (.aload_n 1, 1) := by decide +kernel
theorem dX4_become_20 : decode cX4_become 20 = .ok (.iconst 0, 1) := by decide +kernel
theorem dX4_become_21 : decode cX4_become 21 = .ok (.aload_n 0, 1) := by decide +kernel
theorem dX4_become_22 : decode cX4_become 22 = .ok (.getfield 11, 3) := by decide +kernel
theorem dX4_become_25 : decode cX4_become 25 = .ok (.iconst 0, 1) := by decide +kernel
theorem dX4_become_26 : decode cX4_become 26 = .ok (.iload_n 2, 1) := by decide +kernel
theorem dX4_become_27 : decode cX4_become 27 = .ok (.invokestatic 19, 3) := by decide +kernel
theorem dX4_become_30 : decode cX4_become 30 = .ok (.aload_n 0, 1) := by decide +kernel
theorem dX4_become_31 : decode cX4_become 31 = .ok (.iload_n 2, 1) := by decide +kernel
theorem dX4_become_32 : decode cX4_become 32 = .ok (.putfield 15, 3) := by decide +kernel
theorem dX4_become_35 : decode cX4_become 35 = .ok (.return_, 1) := by decide +kernel
theorem dX5_text_0 : decode cX5_text 0 = .ok (.iload_n 0, 1) := by decide +kernel
theorem dX5_text_1 : decode cX5_text 1 = .ok (.tableswitch 127 0 15 #[79, 82, 85, 88, 91, 94, 97, 100, 103, 106, 109, 112, 115, 118, 121, 124], 79) := by decide +kernel
theorem dX5_text_80 : decode cX5_text 80 = .ok (.ldc 7, 2) := by decide +kernel
theorem dX5_text_82 : decode cX5_text 82 = .ok (.areturn, 1) := by decide +kernel
theorem dX5_text_83 : decode cX5_text 83 = .ok (.ldc 9, 2) := by decide +kernel
theorem dX5_text_85 : decode cX5_text 85 = .ok (.areturn, 1) := by decide +kernel
theorem dX5_text_86 : decode cX5_text 86 = .ok (.ldc 11, 2) := by decide +kernel
theorem dX5_text_88 : decode cX5_text 88 = .ok (.areturn, 1) := by decide +kernel
theorem dX5_text_89 : decode cX5_text 89 = .ok (.ldc 13, 2) := by decide +kernel
theorem dX5_text_91 : decode cX5_text 91 = .ok (.areturn, 1) := by decide +kernel
theorem dX5_text_92 : decode cX5_text 92 = .ok (.ldc 15, 2) := by decide +kernel
theorem dX5_text_94 : decode cX5_text 94 = .ok (.areturn, 1) := by decide +kernel
theorem dX5_text_95 : decode cX5_text 95 = .ok (.ldc 17, 2) := by decide +kernel
theorem dX5_text_97 : decode cX5_text 97 = .ok (.areturn, 1) := by decide +kernel
theorem dX5_text_98 : decode cX5_text 98 = .ok (.ldc 19, 2) := by decide +kernel
theorem dX5_text_100 : decode cX5_text 100 = .ok (.areturn, 1) := by decide +kernel
theorem dX5_text_101 : decode cX5_text 101 = .ok (.ldc 21, 2) := by decide +kernel
theorem dX5_text_103 : decode cX5_text 103 = .ok (.areturn, 1) := by decide +kernel
theorem dX5_text_104 : decode cX5_text 104 = .ok (.ldc 23, 2) := by decide +kernel
theorem dX5_text_106 : decode cX5_text 106 = .ok (.areturn, 1) := by decide +kernel
theorem dX5_text_107 : decode cX5_text 107 = .ok (.ldc 25, 2) := by decide +kernel
theorem dX5_text_109 : decode cX5_text 109 = .ok (.areturn, 1) := by decide +kernel
theorem dX5_text_110 : decode cX5_text 110 = .ok (.ldc 27, 2) := by decide +kernel
theorem dX5_text_112 : decode cX5_text 112 = .ok (.areturn, 1) := by decide +kernel
theorem dX5_text_113 : decode cX5_text 113 = .ok (.ldc 29, 2) := by decide +kernel
theorem dX5_text_115 : decode cX5_text 115 = .ok (.areturn, 1) := by decide +kernel
theorem dX5_text_116 : decode cX5_text 116 = .ok (.ldc 31, 2) := by decide +kernel
theorem dX5_text_118 : decode cX5_text 118 = .ok (.areturn, 1) := by decide +kernel
theorem dX5_text_119 : decode cX5_text 119 = .ok (.ldc 33, 2) := by decide +kernel
theorem dX5_text_121 : decode cX5_text 121 = .ok (.areturn, 1) := by decide +kernel
theorem dX5_text_122 : decode cX5_text 122 = .ok (.ldc 35, 2) := by decide +kernel
theorem dX5_text_124 : decode cX5_text 124 = .ok (.areturn, 1) := by decide +kernel
theorem dX5_text_125 : decode cX5_text 125 = .ok (.ldc 37, 2) := by decide +kernel
theorem dX5_text_127 : decode cX5_text 127 = .ok (.areturn, 1) := by decide +kernel
theorem dX5_text_128 : decode cX5_text 128 = .ok (.ldc 39, 2) := by decide +kernel
theorem dX5_text_130 : decode cX5_text 130 = .ok (.areturn, 1) := by decide +kernel
theorem dX5_sign_0 : decode cX5_sign 0 = .ok (.iload_n 0, 1) := by decide +kernel
theorem dX5_sign_1 : decode cX5_sign 1 = .ok (.lookupswitch 55 #[(40, 43), (41, 46), (44, 49), (59, 52)], 43) := by decide +kernel
theorem dX5_sign_44 : decode cX5_sign 44 = .ok (.bipush 18, 2) := by decide +kernel
theorem dX5_sign_46 : decode cX5_sign 46 = .ok (.ireturn, 1) := by decide +kernel
theorem dX5_sign_47 : decode cX5_sign 47 = .ok (.bipush 19, 2) := by decide +kernel
theorem dX5_sign_49 : decode cX5_sign 49 = .ok (.ireturn, 1) := by decide +kernel
theorem dX5_sign_50 : decode cX5_sign 50 = .ok (.bipush 20, 2) := by decide +kernel
theorem dX5_sign_52 : decode cX5_sign 52 = .ok (.ireturn, 1) := by decide +kernel
theorem dX5_sign_53 : decode cX5_sign 53 = .ok (.bipush 21, 2) := by decide +kernel
theorem dX5_sign_55 : decode cX5_sign 55 = .ok (.ireturn, 1) := by decide +kernel
theorem dX5_sign_56 : decode cX5_sign 56 = .ok (.bipush 23, 2) := by decide +kernel
theorem dX5_sign_58 : decode cX5_sign 58 = .ok (.ireturn, 1) := by decide +kernel
theorem dX6_init_0 : decode cX6_init 0 = .ok (.aload_n 0, 1) := by decide +kernel
theorem dX6_init_1 : decode cX6_init 1 = .ok (.invokespecial 3, 3) := by decide +kernel
theorem dX6_init_4 : decode cX6_init 4 = .ok (.aload_n 0, 1) := by decide +kernel
theorem dX6_init_5 : decode cX6_init 5 = .ok (.sipush 400, 3) := by decide +kernel
theorem dX6_init_8 : decode cX6_init 8 = .ok (.newarray .int, 2) := by decide +kernel
theorem dX6_init_10 : decode cX6_init 10 = .ok (.putfield 11, 3) := by decide +kernel
theorem dX6_init_13 : decode cX6_init 13 = .ok (.aload_n 0, 1) := by decide +kernel
theorem dX6_init_14 : decode cX6_init 14 = .ok (.sipush 400, 3) := by decide +kernel
theorem dX6_init_17 : decode cX6_init 17 = .ok (.newarray .int, 2) := by decide +kernel
theorem dX6_init_19 : decode cX6_init 19 = .ok (.putfield 17, 3) := by decide +kernel
theorem dX6_init_22 : decode cX6_init 22 = .ok (.aload_n 0, 1) := by decide +kernel
theorem dX6_init_23 : decode cX6_init 23 = .ok (.sipush 400, 3) := by decide +kernel
theorem dX6_init_26 : decode cX6_init 26 = .ok (.newarray .int, 2) := by decide +kernel
theorem dX6_init_28 : decode cX6_init 28 = .ok (.putfield 20, 3) := by decide +kernel
theorem dX6_init_31 : decode cX6_init 31 = .ok (.aload_n 0, 1) := by decide +kernel
theorem dX6_init_32 : decode cX6_init 32 = .ok (.iconst 0, 1) := by decide +kernel
theorem dX6_init_33 : decode cX6_init 33 = .ok (.putfield 23, 3) := by decide +kernel
theorem dX6_init_36 : decode cX6_init 36 = .ok (.aload_n 0, 1) := by decide +kernel
theorem dX6_init_37 : decode cX6_init 37 = .ok (.iconst 0, 1) := by decide +kernel
theorem dX6_init_38 : decode cX6_init 38 = .ok (.putfield 27, 3) := by decide +kernel
theorem dX6_init_41 : decode cX6_init 41 = .ok (.aload_n 0, 1) := by decide +kernel
theorem dX6_init_42 : decode cX6_init 42 = .ok (.iconst 0, 1) := by decide +kernel
theorem dX6_init_43 : decode cX6_init 43 = .ok (.putfield 30, 3) := by decide +kernel
theorem dX6_init_46 : decode cX6_init 46 = .ok (.return_, 1) := by decide +kernel
theorem dX6_sees_0 : decode cX6_sees 0 = .ok (.aload_n 0, 1) := by decide +kernel
theorem dX6_sees_1 : decode cX6_sees 1 = .ok (.getfield 30, 3) := by decide +kernel
theorem dX6_sees_4 : decode cX6_sees 4 = .ok (.ifCond .lt 35, 3) := by decide +kernel
theorem dX6_sees_7 : decode cX6_sees 7 = .ok (.aload_n 0, 1) := by decide +kernel
theorem dX6_sees_8 : decode cX6_sees 8 = .ok (.getfield 30, 3) := by decide +kernel
theorem dX6_sees_11 : decode cX6_sees 11 = .ok (.aload_n 0, 1) := by decide +kernel
theorem dX6_sees_12 : decode cX6_sees 12 = .ok (.getfield 23, 3) := by decide +kernel
theorem dX6_sees_15 : decode cX6_sees 15 = .ok (.if_icmp .ge 24, 3) := by decide +kernel
theorem dX6_sees_18 : decode cX6_sees 18 = .ok (.aload_n 0, 1) := by decide +kernel
theorem dX6_sees_19 : decode cX6_sees 19 = .ok (.getfield 11, 3) := by decide +kernel
theorem dX6_sees_22 : decode cX6_sees 22 = .ok (.aload_n 0, 1) := by decide +kernel
theorem dX6_sees_23 : decode cX6_sees 23 = .ok (.getfield 30, 3) := by decide +kernel
theorem dX6_sees_26 : decode cX6_sees 26 = .ok (.iaload, 1) := by decide +kernel
theorem dX6_sees_27 : decode cX6_sees 27 = .ok (.iload_n 1, 1) := by decide +kernel
theorem dX6_sees_28 : decode cX6_sees 28 = .ok (.if_icmp .ne 7, 3) := by decide +kernel
theorem dX6_sees_31 : decode cX6_sees 31 = .ok (.iconst 1, 1) := by decide +kernel
theorem dX6_sees_32 : decode cX6_sees 32 = .ok (.goto 18, 3) := by decide +kernel
theorem dX6_sees_35 : decode cX6_sees 35 = .ok (.iconst 0, 1) := by decide +kernel
theorem dX6_sees_36 : decode cX6_sees 36 = .ok (.goto 14, 3) := by decide +kernel
theorem dX6_sees_39 : decode cX6_sees 39 = .ok (.iload_n 1, 1) := by decide +kernel
theorem dX6_sees_40 : decode cX6_sees 40 = .ok (.bipush 22, 2) := by decide +kernel
theorem dX6_sees_42 : decode cX6_sees 42 = .ok (.if_icmp .ne 7, 3) := by decide +kernel
theorem dX6_sees_45 : decode cX6_sees 45 = .ok (.iconst 1, 1) := by decide +kernel
theorem dX6_sees_46 : decode cX6_sees 46 = .ok (.goto 4, 3) := by decide +kernel
theorem dX6_sees_49 : decode cX6_sees 49 = .ok (.iconst 0, 1) := by decide +kernel
theorem dX6_sees_50 : decode cX6_sees 50 = .ok (.ireturn, 1) := by decide +kernel
theorem dX6_take_0 : decode cX6_take 0 = .ok (.aload_n 0, 1) := by decide +kernel
theorem dX6_take_1 : decode cX6_take 1 = .ok (.getfield 30, 3) := by decide +kernel
theorem dX6_take_4 : decode cX6_take 4 = .ok (.ifCond .lt 31, 3) := by decide +kernel
theorem dX6_take_7 : decode cX6_take 7 = .ok (.aload_n 0, 1) := by decide +kernel
theorem dX6_take_8 : decode cX6_take 8 = .ok (.getfield 30, 3) := by decide +kernel
theorem dX6_take_11 : decode cX6_take 11 = .ok (.aload_n 0, 1) := by decide +kernel
theorem dX6_take_12 : decode cX6_take 12 = .ok (.getfield 23, 3) := by decide +kernel
theorem dX6_take_15 : decode cX6_take 15 = .ok (.if_icmp .ge 20, 3) := by decide +kernel
theorem dX6_take_18 : decode cX6_take 18 = .ok (.aload_n 0, 1) := by decide +kernel
theorem dX6_take_19 : decode cX6_take 19 = .ok (.getfield 11, 3) := by decide +kernel
theorem dX6_take_22 : decode cX6_take 22 = .ok (.aload_n 0, 1) := by decide +kernel
theorem dX6_take_23 : decode cX6_take 23 = .ok (.getfield 30, 3) := by decide +kernel
theorem dX6_take_26 : decode cX6_take 26 = .ok (.iaload, 1) := by decide +kernel
theorem dX6_take_27 : decode cX6_take 27 = .ok (.iload_n 1, 1) := by decide +kernel
theorem dX6_take_28 : decode cX6_take 28 = .ok (.if_icmp .ne 7, 3) := by decide +kernel
theorem dX6_take_31 : decode cX6_take 31 = .ok (.iconst 1, 1) := by decide +kernel
theorem dX6_take_32 : decode cX6_take 32 = .ok (.goto 4, 3) := by decide +kernel
theorem dX6_take_35 : decode cX6_take 35 = .ok (.iconst 0, 1) := by decide +kernel
theorem dX6_take_36 : decode cX6_take 36 = .ok (.istore_n 2, 1) := by decide +kernel
theorem dX6_take_37 : decode cX6_take 37 = .ok (.iload_n 2, 1) := by decide +kernel
theorem dX6_take_38 : decode cX6_take 38 = .ok (.ifCond .eq 13, 3) := by decide +kernel
theorem dX6_take_41 : decode cX6_take 41 = .ok (.aload_n 0, 1) := by decide +kernel
theorem dX6_take_42 : decode cX6_take 42 = .ok (.dup, 1) := by decide +kernel
theorem dX6_take_43 : decode cX6_take 43 = .ok (.getfield 30, 3) := by decide +kernel
theorem dX6_take_46 : decode cX6_take 46 = .ok (.iconst 1, 1) := by decide +kernel
theorem dX6_take_47 : decode cX6_take 47 = .ok (.iadd, 1) := by decide +kernel
theorem dX6_take_48 : decode cX6_take 48 = .ok (.putfield 30, 3) := by decide +kernel
theorem dX6_take_51 : decode cX6_take 51 = .ok (.iload_n 2, 1) := by decide +kernel
theorem dX6_take_52 : decode cX6_take 52 = .ok (.ireturn, 1) := by decide +kernel
theorem dX6_takeNumber_0 : decode cX6_takeNumber 0 = .ok (.aload_n 0, 1) := by decide +kernel
theorem dX6_takeNumber_1 : decode cX6_takeNumber 1 = .ok (.invokevirtual 35, 3) := by decide +kernel
theorem dX6_takeNumber_4 : decode cX6_takeNumber 4 = .ok (.istore_n 3, 1) := by decide +kernel
theorem dX6_takeNumber_5 : decode cX6_takeNumber 5 = .ok (.iload_n 3, 1) := by decide +kernel
theorem dX6_takeNumber_6 : decode cX6_takeNumber 6 = .ok (.iload_n 1, 1) := by decide +kernel
theorem dX6_takeNumber_7 : decode cX6_takeNumber 7 = .ok (.if_icmp .lt 8, 3) := by decide +kernel
theorem dX6_takeNumber_10 : decode cX6_takeNumber 10 = .ok (.iload_n 3, 1) := by decide +kernel
theorem dX6_takeNumber_11 : decode cX6_takeNumber 11 = .ok (.iload_n 2, 1) := by decide +kernel
theorem dX6_takeNumber_12 : decode cX6_takeNumber 12 = .ok (.if_icmp .le 5, 3) := by decide +kernel
theorem dX6_takeNumber_15 : decode cX6_takeNumber 15 = .ok (.iconst (-1), 1) := by decide +kernel
theorem dX6_takeNumber_16 : decode cX6_takeNumber 16 = .ok (.ireturn, 1) := by decide +kernel
theorem dX6_takeNumber_17 : decode cX6_takeNumber 17 = .ok (.aload_n 0, 1) := by decide +kernel
theorem dX6_takeNumber_18 : decode cX6_takeNumber 18 = .ok (.dup, 1) := by decide +kernel
theorem dX6_takeNumber_19 : decode cX6_takeNumber 19 = .ok (.getfield 30, 3) := by decide +kernel
theorem dX6_takeNumber_22 : decode cX6_takeNumber 22 = .ok (.iconst 1, 1) := by decide +kernel
theorem dX6_takeNumber_23 : decode cX6_takeNumber 23 = .ok (.iadd, 1) := by decide +kernel
theorem dX6_takeNumber_24 : decode cX6_takeNumber 24 = .ok (.putfield 30, 3) := by decide +kernel
theorem dX6_takeNumber_27 : decode cX6_takeNumber 27 = .ok (.iload_n 3, 1) := by decide +kernel
theorem dX6_takeNumber_28 : decode cX6_takeNumber 28 = .ok (.ireturn, 1) := by decide +kernel
theorem dX6_value_0 : decode cX6_value 0 = .ok (.aload_n 0, 1) := by decide +kernel
theorem dX6_value_1 : decode cX6_value 1 = .ok (.getfield 30, 3) := by decide +kernel
theorem dX6_value_4 : decode cX6_value 4 = .ok (.ifCond .lt 26, 3) := by decide +kernel
theorem dX6_value_7 : decode cX6_value 7 = .ok (.aload_n 0, 1) := by decide +kernel
theorem dX6_value_8 : decode cX6_value 8 = .ok (.getfield 30, 3) := by decide +kernel
theorem dX6_value_11 : decode cX6_value 11 = .ok (.aload_n 0, 1) := by decide +kernel
theorem dX6_value_12 : decode cX6_value 12 = .ok (.getfield 23, 3) := by decide +kernel
theorem dX6_value_15 : decode cX6_value 15 = .ok (.if_icmp .ge 15, 3) := by decide +kernel
theorem dX6_value_18 : decode cX6_value 18 = .ok (.aload_n 0, 1) := by decide +kernel
theorem dX6_value_19 : decode cX6_value 19 = .ok (.getfield 20, 3) := by decide +kernel
theorem dX6_value_22 : decode cX6_value 22 = .ok (.aload_n 0, 1) := by decide +kernel
theorem dX6_value_23 : decode cX6_value 23 = .ok (.getfield 30, 3) := by decide +kernel
theorem dX6_value_26 : decode cX6_value 26 = .ok (.iaload, 1) := by decide +kernel
theorem dX6_value_27 : decode cX6_value 27 = .ok (.goto 4, 3) := by decide +kernel
theorem dX6_value_30 : decode cX6_value 30 = .ok (.iconst (-1), 1) := by decide +kernel
theorem dX6_value_31 : decode cX6_value 31 = .ok (.ireturn, 1) := by decide +kernel
theorem dX6_begin_0 : decode cX6_begin 0 = .ok (.aload_n 0, 1) := by decide +kernel
theorem dX6_begin_1 : decode cX6_begin 1 = .ok (.getfield 30, 3) := by decide +kernel
theorem dX6_begin_4 : decode cX6_begin 4 = .ok (.ifCond .lt 26, 3) := by decide +kernel
theorem dX6_begin_7 : decode cX6_begin 7 = .ok (.aload_n 0, 1) := by decide +kernel
theorem dX6_begin_8 : decode cX6_begin 8 = .ok (.getfield 30, 3) := by decide +kernel
theorem dX6_begin_11 : decode cX6_begin 11 = .ok (.aload_n 0, 1) := by decide +kernel
theorem dX6_begin_12 : decode cX6_begin 12 = .ok (.getfield 23, 3) := by decide +kernel
theorem dX6_begin_15 : decode cX6_begin 15 = .ok (.if_icmp .ge 15, 3) := by decide +kernel
theorem dX6_begin_18 : decode cX6_begin 18 = .ok (.aload_n 0, 1) := by decide +kernel
theorem dX6_begin_19 : decode cX6_begin 19 = .ok (.getfield 17, 3) := by decide +kernel
theorem dX6_begin_22 : decode cX6_begin 22 = .ok (.aload_n 0, 1) := by decide +kernel
theorem dX6_begin_23 : decode cX6_begin 23 = .ok (.getfield 30, 3) := by decide +kernel
theorem dX6_begin_26 : decode cX6_begin 26 = .ok (.iaload, 1) := by decide +kernel
theorem dX6_begin_27 : decode cX6_begin 27 = .ok (.goto 7, 3) := by decide +kernel
theorem dX6_begin_30 : decode cX6_begin 30 = .ok (.aload_n 0, 1) := by decide +kernel
theorem dX6_begin_31 : decode cX6_begin 31 = .ok (.getfield 27, 3) := by decide +kernel
theorem dX6_begin_34 : decode cX6_begin 34 = .ok (.ireturn, 1) := by decide +kernel
theorem dX6_split_0 : decode cX6_split 0 = .ok (.aload_n 0, 1) := by decide +kernel
theorem dX6_split_1 : decode cX6_split 1 = .ok (.iconst 0, 1) := by decide +kernel
theorem dX6_split_2 : decode cX6_split 2 = .ok (.putfield 23, 3) := by decide +kernel
theorem dX6_split_5 : decode cX6_split 5 = .ok (.aload_n 0, 1) := by decide +kernel
theorem dX6_split_6 : decode cX6_split 6 = .ok (.iconst 0, 1) := by decide +kernel
theorem dX6_split_7 : decode cX6_split 7 = .ok (.putfield 30, 3) := by decide +kernel
theorem dX6_split_10 : decode cX6_split 10 = .ok (.aload_n 0, 1) := by decide +kernel
theorem dX6_split_11 : decode cX6_split 11 = .ok (.aload_n 1, 1) := by decide +kernel
theorem dX6_split_12 : decode cX6_split 12 = .ok (.getfield 39, 3) := by decide +kernel
theorem dX6_split_15 : decode cX6_split 15 = .ok (.putfield 27, 3) := by decide +kernel
theorem dX6_split_18 : decode cX6_split 18 = .ok (.iconst 0, 1) := by decide +kernel
theorem dX6_split_19 : decode cX6_split 19 = .ok (.istore_n 2, 1) := by decide +kernel
theorem dX6_split_20 : decode cX6_split 20 = .ok (.iconst 0, 1) := by decide +kernel
theorem dX6_split_21 : decode cX6_split 21 = .ok (.istore_n 3, 1) := by decide +kernel
theorem dX6_split_22 : decode cX6_split 22 = .ok (.iload_n 3, 1) := by decide +kernel
theorem dX6_split_23 : decode cX6_split 23 = .ok (.sipush 400, 3) := by decide +kernel
theorem dX6_split_26 : decode cX6_split 26 = .ok (.if_icmp .ge 113, 3) := by decide +kernel
theorem dX6_split_29 : decode cX6_split 29 = .ok (.iload_n 2, 1) := by decide +kernel
theorem dX6_split_30 : decode cX6_split 30 = .ok (.aload_n 1, 1) := by decide +kernel
theorem dX6_split_31 : decode cX6_split 31 = .ok (.getfield 39, 3) := by decide +kernel
theorem dX6_split_34 : decode cX6_split 34 = .ok (.if_icmp .ge 105, 3) := by decide +kernel
theorem dX6_split_37 : decode cX6_split 37 = .ok (.aload_n 1, 1) := by decide +kernel
theorem dX6_split_38 : decode cX6_split 38 = .ok (.iload_n 2, 1) := by decide +kernel
theorem dX6_split_39 : decode cX6_split 39 = .ok (.invokevirtual 40, 3) := by decide +kernel
theorem dX6_split_42 : decode cX6_split 42 = .ok (.istore 4, 2) := by decide +kernel
theorem dX6_split_44 : decode cX6_split 44 = .ok (.iload_n 2, 1) := by decide +kernel
theorem dX6_split_45 : decode cX6_split 45 = .ok (.iconst 1, 1) := by decide +kernel
theorem dX6_split_46 : decode cX6_split 46 = .ok (.iadd, 1) := by decide +kernel
theorem dX6_split_47 : decode cX6_split 47 = .ok (.istore 5, 2) := by decide +kernel
theorem dX6_split_49 : decode cX6_split 49 = .ok (.iload 4, 2) := by decide +kernel
theorem dX6_split_51 : decode cX6_split 51 = .ok (.invokestatic 43, 3) := by decide +kernel
theorem dX6_split_54 : decode cX6_split 54 = .ok (.ifCond .eq 26, 3) := by decide +kernel
theorem dX6_split_57 : decode cX6_split 57 = .ok (.aload_n 1, 1) := by decide +kernel
theorem dX6_split_58 : decode cX6_split 58 = .ok (.iload_n 2, 1) := by decide +kernel
theorem dX6_split_59 : decode cX6_split 59 = .ok (.invokestatic 47, 3) := by decide +kernel
theorem dX6_split_62 : decode cX6_split 62 = .ok (.istore 5, 2) := by decide +kernel
theorem dX6_split_64 : decode cX6_split 64 = .ok (.aload_n 0, 1) := by decide +kernel
theorem dX6_split_65 : decode cX6_split 65 = .ok (.aload_n 1, 1) := by decide +kernel
theorem dX6_split_66 : decode cX6_split 66 = .ok (.iload_n 2, 1) := by decide +kernel
theorem dX6_split_67 : decode cX6_split 67 = .ok (.iload 5, 2) := by decide +kernel
theorem dX6_split_69 : decode cX6_split 69 = .ok (.invokestatic 51, 3) := by decide +kernel
theorem dX6_split_72 : decode cX6_split 72 = .ok (.iload_n 2, 1) := by decide +kernel
theorem dX6_split_73 : decode cX6_split 73 = .ok (.iconst (-1), 1) := by decide +kernel
theorem dX6_split_74 : decode cX6_split 74 = .ok (.invokevirtual 55, 3) := by decide +kernel
theorem dX6_split_77 : decode cX6_split 77 = .ok (.goto 53, 3) := by decide +kernel
theorem dX6_split_80 : decode cX6_split 80 = .ok (.iload 4, 2) := by decide +kernel
theorem dX6_split_82 : decode cX6_split 82 = .ok (.invokestatic 59, 3) := by decide +kernel
theorem dX6_split_85 : decode cX6_split 85 = .ok (.ifCond .eq 27, 3) := by decide +kernel
theorem dX6_split_88 : decode cX6_split 88 = .ok (.aload_n 1, 1) := by decide +kernel
theorem dX6_split_89 : decode cX6_split 89 = .ok (.iload_n 2, 1) := by decide +kernel
theorem dX6_split_90 : decode cX6_split 90 = .ok (.invokestatic 62, 3) := by decide +kernel
theorem dX6_split_93 : decode cX6_split 93 = .ok (.istore 5, 2) := by decide +kernel
theorem dX6_split_95 : decode cX6_split 95 = .ok (.aload_n 0, 1) := by decide +kernel
theorem dX6_split_96 : decode cX6_split 96 = .ok (.bipush 17, 2) := by decide +kernel
theorem dX6_split_98 : decode cX6_split 98 = .ok (.iload_n 2, 1) := by decide +kernel
theorem dX6_split_99 : decode cX6_split 99 = .ok (.aload_n 1, 1) := by decide +kernel
theorem dX6_split_100 : decode cX6_split 100 = .ok (.iload_n 2, 1) := by decide +kernel
theorem dX6_split_101 : decode cX6_split 101 = .ok (.iload 5, 2) := by decide +kernel
theorem dX6_split_103 : decode cX6_split 103 = .ok (.invokestatic 65, 3) := by decide +kernel
theorem dX6_split_106 : decode cX6_split 106 = .ok (.invokevirtual 55, 3) := by decide +kernel
theorem dX6_split_109 : decode cX6_split 109 = .ok (.goto 21, 3) := by decide +kernel
theorem dX6_split_112 : decode cX6_split 112 = .ok (.iload 4, 2) := by decide +kernel
theorem dX6_split_114 : decode cX6_split 114 = .ok (.bipush 32, 2) := by decide +kernel
theorem dX6_split_116 : decode cX6_split 116 = .ok (.if_icmp .eq 14, 3) := by decide +kernel
theorem dX6_split_119 : decode cX6_split 119 = .ok (.aload_n 0, 1) := by decide +kernel
theorem dX6_split_120 : decode cX6_split 120 = .ok (.iload 4, 2) := by decide +kernel
theorem dX6_split_122 : decode cX6_split 122 = .ok (.invokestatic 68, 3) := by decide +kernel
theorem dX6_split_125 : decode cX6_split 125 = .ok (.iload_n 2, 1) := by decide +kernel
theorem dX6_split_126 : decode cX6_split 126 = .ok (.iconst (-1), 1) := by decide +kernel
theorem dX6_split_127 : decode cX6_split 127 = .ok (.invokevirtual 55, 3) := by decide +kernel
theorem dX6_split_130 : decode cX6_split 130 = .ok (.iload 5, 2) := by decide +kernel
theorem dX6_split_132 : decode cX6_split 132 = .ok (.istore_n 2, 1) := by decide +kernel
theorem dX6_split_133 : decode cX6_split 133 = .ok (.iinc 3 1, 3) := by decide +kernel
theorem dX6_split_136 : decode cX6_split 136 = .ok (.goto (-114), 3) := by decide +kernel
theorem dX6_split_139 : decode cX6_split 139 = .ok (.return_, 1) := by decide +kernel
theorem dX6_add_0 : decode cX6_add 0 = .ok (.aload_n 0, 1) := by decide +kernel
theorem dX6_add_1 : decode cX6_add 1 = .ok (.getfield 23, 3) := by decide +kernel
theorem dX6_add_4 : decode cX6_add 4 = .ok (.aload_n 0, 1) := by decide +kernel
theorem dX6_add_5 : decode cX6_add 5 = .ok (.getfield 11, 3) := by decide +kernel
theorem dX6_add_8 : decode cX6_add 8 = .ok (.arraylength, 1) := by decide +kernel
theorem dX6_add_9 : decode cX6_add 9 = .ok (.if_icmp .ge 43, 3) := by decide +kernel
theorem dX6_add_12 : decode cX6_add 12 = .ok (.aload_n 0, 1) := by decide +kernel
theorem dX6_add_13 : decode cX6_add 13 = .ok (.getfield 11, 3) := by decide +kernel
theorem dX6_add_16 : decode cX6_add 16 = .ok (.aload_n 0, 1) := by decide +kernel
theorem dX6_add_17 : decode cX6_add 17 = .ok (.getfield 23, 3) := by decide +kernel
theorem dX6_add_20 : decode cX6_add 20 = .ok (.iload_n 1, 1) := by decide +kernel
theorem dX6_add_21 : decode cX6_add 21 = .ok (.iastore, 1) := by decide +kernel
theorem dX6_add_22 : decode cX6_add 22 = .ok (.aload_n 0, 1) := by decide +kernel
theorem dX6_add_23 : decode cX6_add 23 = .ok (.getfield 17, 3) := by decide +kernel
theorem dX6_add_26 : decode cX6_add 26 = .ok (.aload_n 0, 1) := by decide +kernel
theorem dX6_add_27 : decode cX6_add 27 = .ok (.getfield 23, 3) := by decide +kernel
theorem dX6_add_30 : decode cX6_add 30 = .ok (.iload_n 2, 1) := by decide +kernel
theorem dX6_add_31 : decode cX6_add 31 = .ok (.iastore, 1) := by decide +kernel
theorem dX6_add_32 : decode cX6_add 32 = .ok (.aload_n 0, 1) := by decide +kernel
theorem dX6_add_33 : decode cX6_add 33 = .ok (.getfield 20, 3) := by decide +kernel
theorem dX6_add_36 : decode cX6_add 36 = .ok (.aload_n 0, 1) := by decide +kernel
theorem dX6_add_37 : decode cX6_add 37 = .ok (.getfield 23, 3) := by decide +kernel
theorem dX6_add_40 : decode cX6_add 40 = .ok (.iload_n 3, 1) := by decide +kernel
theorem dX6_add_41 : decode cX6_add 41 = .ok (.iastore, 1) := by decide +kernel
theorem dX6_add_42 : decode cX6_add 42 = .ok (.aload_n 0, 1) := by decide +kernel
theorem dX6_add_43 : decode cX6_add 43 = .ok (.dup, 1) := by decide +kernel
theorem dX6_add_44 : decode cX6_add 44 = .ok (.getfield 23, 3) := by decide +kernel
theorem dX6_add_47 : decode cX6_add 47 = .ok (.iconst 1, 1) := by decide +kernel
theorem dX6_add_48 : decode cX6_add 48 = .ok (.iadd, 1) := by decide +kernel
theorem dX6_add_49 : decode cX6_add 49 = .ok (.putfield 23, 3) := by decide +kernel
theorem dX6_add_52 : decode cX6_add 52 = .ok (.return_, 1) := by decide +kernel
theorem dX6_wordEnd_0 : decode cX6_wordEnd 0 = .ok (.iload_n 1, 1) := by decide +kernel
theorem dX6_wordEnd_1 : decode cX6_wordEnd 1 = .ok (.iconst 1, 1) := by decide +kernel
theorem dX6_wordEnd_2 : decode cX6_wordEnd 2 = .ok (.iadd, 1) := by decide +kernel
theorem dX6_wordEnd_3 : decode cX6_wordEnd 3 = .ok (.istore_n 2, 1) := by decide +kernel
theorem dX6_wordEnd_4 : decode cX6_wordEnd 4 = .ok (.iload_n 2, 1) := by decide +kernel
theorem dX6_wordEnd_5 : decode cX6_wordEnd 5 = .ok (.aload_n 0, 1) := by decide +kernel
theorem dX6_wordEnd_6 : decode cX6_wordEnd 6 = .ok (.getfield 39, 3) := by decide +kernel
theorem dX6_wordEnd_9 : decode cX6_wordEnd 9 = .ok (.if_icmp .ge 20, 3) := by decide +kernel
theorem dX6_wordEnd_12 : decode cX6_wordEnd 12 = .ok (.aload_n 0, 1) := by decide +kernel
theorem dX6_wordEnd_13 : decode cX6_wordEnd 13 = .ok (.iload_n 2, 1) := by decide +kernel
theorem dX6_wordEnd_14 : decode cX6_wordEnd 14 = .ok (.invokevirtual 40, 3) := by decide +kernel
theorem dX6_wordEnd_17 : decode cX6_wordEnd 17 = .ok (.invokestatic 43, 3) := by decide +kernel
theorem dX6_wordEnd_20 : decode cX6_wordEnd 20 = .ok (.ifCond .eq 9, 3) := by decide +kernel
theorem dX6_wordEnd_23 : decode cX6_wordEnd 23 = .ok (.iinc 2 1, 3) := by decide +kernel
theorem dX6_wordEnd_26 : decode cX6_wordEnd 26 = .ok (.goto (-22), 3) := by decide +kernel
theorem dX6_wordEnd_29 : decode cX6_wordEnd 29 = .ok (.iload_n 2, 1) := by decide +kernel
theorem dX6_wordEnd_30 : decode cX6_wordEnd 30 = .ok (.ireturn, 1) := by decide +kernel
theorem dX6_wordIn_0 : decode cX6_wordIn 0 = .ok (.iconst 0, 1) := by decide +kernel
theorem dX6_wordIn_1 : decode cX6_wordIn 1 = .ok (.istore_n 3, 1) := by decide +kernel
theorem dX6_wordIn_2 : decode cX6_wordIn 2 = .ok (.iload_n 3, 1) := by decide +kernel
theorem dX6_wordIn_3 : decode cX6_wordIn 3 = .ok (.bipush 16, 2) := by decide +kernel
theorem dX6_wordIn_5 : decode cX6_wordIn 5 = .ok (.if_icmp .ge 24, 3) := by decide +kernel
theorem dX6_wordIn_8 : decode cX6_wordIn 8 = .ok (.iload_n 3, 1) := by decide +kernel
theorem dX6_wordIn_9 : decode cX6_wordIn 9 = .ok (.invokestatic 71, 3) := by decide +kernel
theorem dX6_wordIn_12 : decode cX6_wordIn 12 = .ok (.aload_n 0, 1) := by decide +kernel
theorem dX6_wordIn_13 : decode cX6_wordIn 13 = .ok (.iload_n 1, 1) := by decide +kernel
theorem dX6_wordIn_14 : decode cX6_wordIn 14 = .ok (.iload_n 2, 1) := by decide +kernel
theorem dX6_wordIn_15 : decode cX6_wordIn 15 = .ok (.invokestatic 75, 3) := by decide +kernel
theorem dX6_wordIn_18 : decode cX6_wordIn 18 = .ok (.ifCond .eq 5, 3) := by decide +kernel
theorem dX6_wordIn_21 : decode cX6_wordIn 21 = .ok (.iload_n 3, 1) := by decide +kernel
theorem dX6_wordIn_22 : decode cX6_wordIn 22 = .ok (.ireturn, 1) := by decide +kernel
theorem dX6_wordIn_23 : decode cX6_wordIn 23 = .ok (.iinc 3 1, 3) := by decide +kernel
theorem dX6_wordIn_26 : decode cX6_wordIn 26 = .ok (.goto (-24), 3) := by decide +kernel
theorem dX6_wordIn_29 : decode cX6_wordIn 29 = .ok (.bipush 23, 2) := by decide +kernel
theorem dX6_wordIn_31 : decode cX6_wordIn 31 = .ok (.ireturn, 1) := by decide +kernel
theorem dX6_stands_0 : decode cX6_stands 0 = .ok (.aload_n 0, 1) := by decide +kernel
theorem dX6_stands_1 : decode cX6_stands 1 = .ok (.invokevirtual 79, 3) := by decide +kernel
theorem dX6_stands_4 : decode cX6_stands 4 = .ok (.iload_n 3, 1) := by decide +kernel
theorem dX6_stands_5 : decode cX6_stands 5 = .ok (.iload_n 2, 1) := by decide +kernel
theorem dX6_stands_6 : decode cX6_stands 6 = .ok (.isub, 1) := by decide +kernel
theorem dX6_stands_7 : decode cX6_stands 7 = .ok (.if_icmp .eq 5, 3) := by decide +kernel
theorem dX6_stands_10 : decode cX6_stands 10 = .ok (.iconst 0, 1) := by decide +kernel
theorem dX6_stands_11 : decode cX6_stands 11 = .ok (.ireturn, 1) := by decide +kernel
theorem dX6_stands_12 : decode cX6_stands 12 = .ok (.iconst 0, 1) := by decide +kernel
theorem dX6_stands_13 : decode cX6_stands 13 = .ok (.istore 4, 2) := by decide +kernel
theorem dX6_stands_15 : decode cX6_stands 15 = .ok (.iload 4, 2) := by decide +kernel
theorem dX6_stands_17 : decode cX6_stands 17 = .ok (.aload_n 0, 1) := by decide +kernel
theorem dX6_stands_18 : decode cX6_stands 18 = .ok (.invokevirtual 79, 3) := by decide +kernel
theorem dX6_stands_21 : decode cX6_stands 21 = .ok (.if_icmp .ge 28, 3) := by decide +kernel
theorem dX6_stands_24 : decode cX6_stands 24 = .ok (.aload_n 0, 1) := by decide +kernel
theorem dX6_stands_25 : decode cX6_stands 25 = .ok (.iload 4, 2) := by decide +kernel
theorem dX6_stands_27 : decode cX6_stands 27 = .ok (.invokevirtual 84, 3) := by decide +kernel
theorem dX6_stands_30 : decode cX6_stands 30 = .ok (.aload_n 1, 1) := by decide +kernel
theorem dX6_stands_31 : decode cX6_stands 31 = .ok (.iload_n 2, 1) := by decide +kernel
theorem dX6_stands_32 : decode cX6_stands 32 = .ok (.iload 4, 2) := by decide +kernel
theorem dX6_stands_34 : decode cX6_stands 34 = .ok (.iadd, 1) := by decide +kernel
theorem dX6_stands_35 : decode cX6_stands 35 = .ok (.invokevirtual 40, 3) := by decide +kernel
theorem dX6_stands_38 : decode cX6_stands 38 = .ok (.if_icmp .eq 5, 3) := by decide +kernel
theorem dX6_stands_41 : decode cX6_stands 41 = .ok (.iconst 0, 1) := by decide +kernel
theorem dX6_stands_42 : decode cX6_stands 42 = .ok (.ireturn, 1) := by decide +kernel
theorem dX6_stands_43 : decode cX6_stands 43 = .ok (.iinc 4 1, 3) := by decide +kernel
theorem dX6_stands_46 : decode cX6_stands 46 = .ok (.goto (-31), 3) := by decide +kernel
theorem dX6_stands_49 : decode cX6_stands 49 = .ok (.iconst 1, 1) := by decide +kernel
theorem dX6_stands_50 : decode cX6_stands 50 = .ok (.ireturn, 1) := by decide +kernel
theorem dX6_numberEnd_0 : decode cX6_numberEnd 0 = .ok (.iload_n 1, 1) := by decide +kernel
theorem dX6_numberEnd_1 : decode cX6_numberEnd 1 = .ok (.iconst 1, 1) := by decide +kernel
theorem dX6_numberEnd_2 : decode cX6_numberEnd 2 = .ok (.iadd, 1) := by decide +kernel
theorem dX6_numberEnd_3 : decode cX6_numberEnd 3 = .ok (.istore_n 2, 1) := by decide +kernel
theorem dX6_numberEnd_4 : decode cX6_numberEnd 4 = .ok (.iload_n 2, 1) := by decide +kernel
theorem dX6_numberEnd_5 : decode cX6_numberEnd 5 = .ok (.aload_n 0, 1) := by decide +kernel
theorem dX6_numberEnd_6 : decode cX6_numberEnd 6 = .ok (.getfield 39, 3) := by decide +kernel
theorem dX6_numberEnd_9 : decode cX6_numberEnd 9 = .ok (.if_icmp .ge 20, 3) := by decide +kernel
theorem dX6_numberEnd_12 : decode cX6_numberEnd 12 = .ok (.aload_n 0, 1) := by decide +kernel
theorem dX6_numberEnd_13 : decode cX6_numberEnd 13 = .ok (.iload_n 2, 1) := by decide +kernel
theorem dX6_numberEnd_14 : decode cX6_numberEnd 14 = .ok (.invokevirtual 40, 3) := by decide +kernel
theorem dX6_numberEnd_17 : decode cX6_numberEnd 17 = .ok (.invokestatic 59, 3) := by decide +kernel
theorem dX6_numberEnd_20 : decode cX6_numberEnd 20 = .ok (.ifCond .eq 9, 3) := by decide +kernel
theorem dX6_numberEnd_23 : decode cX6_numberEnd 23 = .ok (.iinc 2 1, 3) := by decide +kernel
theorem dX6_numberEnd_26 : decode cX6_numberEnd 26 = .ok (.goto (-22), 3) := by decide +kernel
theorem dX6_numberEnd_29 : decode cX6_numberEnd 29 = .ok (.iload_n 2, 1) := by decide +kernel
theorem dX6_numberEnd_30 : decode cX6_numberEnd 30 = .ok (.ireturn, 1) := by decide +kernel
theorem dX6_numberIn_0 : decode cX6_numberIn 0 = .ok (.iload_n 2, 1) := by decide +kernel
theorem dX6_numberIn_1 : decode cX6_numberIn 1 = .ok (.iload_n 1, 1) := by decide +kernel
theorem dX6_numberIn_2 : decode cX6_numberIn 2 = .ok (.isub, 1) := by decide +kernel
theorem dX6_numberIn_3 : decode cX6_numberIn 3 = .ok (.iconst 3, 1) := by decide +kernel
theorem dX6_numberIn_4 : decode cX6_numberIn 4 = .ok (.if_icmp .le 5, 3) := by decide +kernel
theorem dX6_numberIn_7 : decode cX6_numberIn 7 = .ok (.iconst (-1), 1) := by decide +kernel
theorem dX6_numberIn_8 : decode cX6_numberIn 8 = .ok (.ireturn, 1) := by decide +kernel
theorem dX6_numberIn_9 : decode cX6_numberIn 9 = .ok (.iconst 0, 1) := by decide +kernel
theorem dX6_numberIn_10 : decode cX6_numberIn 10 = .ok (.istore_n 3, 1) := by decide +kernel
theorem dX6_numberIn_11 : decode cX6_numberIn 11 = .ok (.iload_n 1, 1) := by decide +kernel
theorem dX6_numberIn_12 : decode cX6_numberIn 12 = .ok (.istore 4, 2) := by decide +kernel
theorem dX6_numberIn_14 : decode cX6_numberIn 14 = .ok (.iload 4, 2) := by decide +kernel
theorem dX6_numberIn_16 : decode cX6_numberIn 16 = .ok (.iload_n 2, 1) := by decide +kernel
theorem dX6_numberIn_17 : decode cX6_numberIn 17 = .ok (.if_icmp .ge 24, 3) := by decide +kernel
theorem dX6_numberIn_20 : decode cX6_numberIn 20 = .ok (.bipush 10, 2) := by decide +kernel
theorem dX6_numberIn_22 : decode cX6_numberIn 22 = .ok (.iload_n 3, 1) := by decide +kernel
theorem dX6_numberIn_23 : decode cX6_numberIn 23 = .ok (.imul, 1) := by decide +kernel
theorem dX6_numberIn_24 : decode cX6_numberIn 24 = .ok (.aload_n 0, 1) := by decide +kernel
theorem dX6_numberIn_25 : decode cX6_numberIn 25 = .ok (.iload 4, 2) := by decide +kernel
theorem dX6_numberIn_27 : decode cX6_numberIn 27 = .ok (.invokevirtual 40, 3) := by decide +kernel
theorem dX6_numberIn_30 : decode cX6_numberIn 30 = .ok (.iadd, 1) := by decide +kernel
theorem dX6_numberIn_31 : decode cX6_numberIn 31 = .ok (.bipush 48, 2) := by decide +kernel
theorem dX6_numberIn_33 : decode cX6_numberIn 33 = .ok (.isub, 1) := by decide +kernel
theorem dX6_numberIn_34 : decode cX6_numberIn 34 = .ok (.istore_n 3, 1) := by decide +kernel
theorem dX6_numberIn_35 : decode cX6_numberIn 35 = .ok (.iinc 4 1, 3) := by decide +kernel
theorem dX6_numberIn_38 : decode cX6_numberIn 38 = .ok (.goto (-24), 3) := by decide +kernel
theorem dX6_numberIn_41 : decode cX6_numberIn 41 = .ok (.iload_n 3, 1) := by decide +kernel
theorem dX6_numberIn_42 : decode cX6_numberIn 42 = .ok (.ireturn, 1) := by decide +kernel
theorem dX6_isLetter_0 : decode cX6_isLetter 0 = .ok (.iload_n 0, 1) := by decide +kernel
theorem dX6_isLetter_1 : decode cX6_isLetter 1 = .ok (.bipush 97, 2) := by decide +kernel
theorem dX6_isLetter_3 : decode cX6_isLetter 3 = .ok (.if_icmp .lt 13, 3) := by decide +kernel
theorem dX6_isLetter_6 : decode cX6_isLetter 6 = .ok (.iload_n 0, 1) := by decide +kernel
theorem dX6_isLetter_7 : decode cX6_isLetter 7 = .ok (.bipush 122, 2) := by decide +kernel
theorem dX6_isLetter_9 : decode cX6_isLetter 9 = .ok (.if_icmp .gt 7, 3) := by decide +kernel
theorem dX6_isLetter_12 : decode cX6_isLetter 12 = .ok (.iconst 1, 1) := by decide +kernel
theorem dX6_isLetter_13 : decode cX6_isLetter 13 = .ok (.goto 4, 3) := by decide +kernel
theorem dX6_isLetter_16 : decode cX6_isLetter 16 = .ok (.iconst 0, 1) := by decide +kernel
theorem dX6_isLetter_17 : decode cX6_isLetter 17 = .ok (.ireturn, 1) := by decide +kernel
theorem dX6_isDigit_0 : decode cX6_isDigit 0 = .ok (.iload_n 0, 1) := by decide +kernel
theorem dX6_isDigit_1 : decode cX6_isDigit 1 = .ok (.bipush 48, 2) := by decide +kernel
theorem dX6_isDigit_3 : decode cX6_isDigit 3 = .ok (.if_icmp .lt 13, 3) := by decide +kernel
theorem dX6_isDigit_6 : decode cX6_isDigit 6 = .ok (.iload_n 0, 1) := by decide +kernel
theorem dX6_isDigit_7 : decode cX6_isDigit 7 = .ok (.bipush 57, 2) := by decide +kernel
theorem dX6_isDigit_9 : decode cX6_isDigit 9 = .ok (.if_icmp .gt 7, 3) := by decide +kernel
theorem dX6_isDigit_12 : decode cX6_isDigit 12 = .ok (.iconst 1, 1) := by decide +kernel
theorem dX6_isDigit_13 : decode cX6_isDigit 13 = .ok (.goto 4, 3) := by decide +kernel
theorem dX6_isDigit_16 : decode cX6_isDigit 16 = .ok (.iconst 0, 1) := by decide +kernel
theorem dX6_isDigit_17 : decode cX6_isDigit 17 = .ok (.ireturn, 1) := by decide +kernel
theorem dX7_init_0 : decode cX7_init 0 = .ok (.aload_n 0, 1) := by decide +kernel
theorem dX7_init_1 : decode cX7_init 1 = .ok (.invokespecial 3, 3) := by decide +kernel
theorem dX7_init_4 : decode cX7_init 4 = .ok (.aload_n 0, 1) := by decide +kernel
theorem dX7_init_5 : decode cX7_init 5 = .ok (.sipush 400, 3) := by decide +kernel
theorem dX7_init_8 : decode cX7_init 8 = .ok (.newarray .byte, 2) := by decide +kernel
theorem dX7_init_10 : decode cX7_init 10 = .ok (.putfield 11, 3) := by decide +kernel
theorem dX7_init_13 : decode cX7_init 13 = .ok (.aload_n 0, 1) := by decide +kernel
theorem dX7_init_14 : decode cX7_init 14 = .ok (.iconst 0, 1) := by decide +kernel
theorem dX7_init_15 : decode cX7_init 15 = .ok (.putfield 17, 3) := by decide +kernel
theorem dX7_init_18 : decode cX7_init 18 = .ok (.aload_n 0, 1) := by decide +kernel
theorem dX7_init_19 : decode cX7_init 19 = .ok (.iconst 0, 1) := by decide +kernel
theorem dX7_init_20 : decode cX7_init 20 = .ok (.putfield 21, 3) := by decide +kernel
theorem dX7_init_23 : decode cX7_init 23 = .ok (.return_, 1) := by decide +kernel
theorem dX7_writeLetter_0 : decode cX7_writeLetter 0 = .ok (.aload_n 0, 1) := by decide +kernel
theorem dX7_writeLetter_1 : decode cX7_writeLetter 1 = .ok (.iconst 0, 1) := by decide +kernel
theorem dX7_writeLetter_2 : decode cX7_writeLetter 2 = .ok (.putfield 17, 3) := by decide +kernel
theorem dX7_writeLetter_5 : decode cX7_writeLetter 5 = .ok (.aload_n 0, 1) := by decide +kernel
theorem dX7_writeLetter_6 : decode cX7_writeLetter 6 = .ok (.iconst 0, 1) := by decide +kernel
theorem dX7_writeLetter_7 : decode cX7_writeLetter 7 = .ok (.putfield 21, 3) := by decide +kernel
theorem dX7_writeLetter_10 : decode cX7_writeLetter 10 = .ok (.iconst 0, 1) := by decide +kernel
theorem dX7_writeLetter_11 : decode cX7_writeLetter 11 = .ok (.istore_n 2, 1) := by decide +kernel
theorem dX7_writeLetter_12 : decode cX7_writeLetter 12 = .ok (.iload_n 2, 1) := by decide +kernel
theorem dX7_writeLetter_13 : decode cX7_writeLetter 13 = .ok (.aload_n 1, 1) := by decide +kernel
theorem dX7_writeLetter_14 : decode cX7_writeLetter 14 = .ok (.invokevirtual 25, 3) := by decide +kernel
theorem dX7_writeLetter_17 : decode cX7_writeLetter 17 = .ok (.if_icmp .ge 28, 3) := by decide +kernel
theorem dX7_writeLetter_20 : decode cX7_writeLetter 20 = .ok (.iload_n 2, 1) := by decide +kernel
theorem dX7_writeLetter_21 : decode cX7_writeLetter 21 = .ok (.ifCond .le 9, 3) := by decide +kernel
theorem dX7_writeLetter_24 : decode cX7_writeLetter 24 = .ok (.aload_n 0, 1) := by decide +kernel
theorem dX7_writeLetter_25 : decode cX7_writeLetter 25 = .ok (.bipush 59, 2) := by decide +kernel
theorem dX7_writeLetter_27 : decode cX7_writeLetter 27 = .ok (.invokevirtual 30, 3) := by decide +kernel
theorem dX7_writeLetter_30 : decode cX7_writeLetter 30 = .ok (.aload_n 0, 1) := by decide +kernel
theorem dX7_writeLetter_31 : decode cX7_writeLetter 31 = .ok (.aload_n 1, 1) := by decide +kernel
theorem dX7_writeLetter_32 : decode cX7_writeLetter 32 = .ok (.iload_n 2, 1) := by decide +kernel
theorem dX7_writeLetter_33 : decode cX7_writeLetter 33 = .ok (.invokevirtual 34, 3) := by decide +kernel
theorem dX7_writeLetter_36 : decode cX7_writeLetter 36 = .ok (.invokevirtual 38, 3) := by decide +kernel
theorem dX7_writeLetter_39 : decode cX7_writeLetter 39 = .ok (.iinc 2 1, 3) := by decide +kernel
theorem dX7_writeLetter_42 : decode cX7_writeLetter 42 = .ok (.goto (-30), 3) := by decide +kernel
theorem dX7_writeLetter_45 : decode cX7_writeLetter 45 = .ok (.return_, 1) := by decide +kernel
theorem dX7_writeSentence_0 : decode cX7_writeSentence 0 = .ok (.aload_n 1, 1) := by decide +kernel
theorem dX7_writeSentence_1 : decode cX7_writeSentence 1 = .ok (.getfield 42, 3) := by decide +kernel
theorem dX7_writeSentence_4 : decode cX7_writeSentence 4 = .ok (.ifnull 24, 3) := by decide +kernel
theorem dX7_writeSentence_7 : decode cX7_writeSentence 7 = .ok (.aload_n 0, 1) := by decide +kernel
theorem dX7_writeSentence_8 : decode cX7_writeSentence 8 = .ok (.bipush 12, 2) := by decide +kernel
theorem dX7_writeSentence_10 : decode cX7_writeSentence 10 = .ok (.invokevirtual 50, 3) := by decide +kernel
theorem dX7_writeSentence_13 : decode cX7_writeSentence 13 = .ok (.aload_n 0, 1) := by decide +kernel
theorem dX7_writeSentence_14 : decode cX7_writeSentence 14 = .ok (.aload_n 1, 1) := by decide +kernel
theorem dX7_writeSentence_15 : decode cX7_writeSentence 15 = .ok (.getfield 42, 3) := by decide +kernel
theorem dX7_writeSentence_18 : decode cX7_writeSentence 18 = .ok (.iconst 0, 1) := by decide +kernel
theorem dX7_writeSentence_19 : decode cX7_writeSentence 19 = .ok (.invokevirtual 53, 3) := by decide +kernel
theorem dX7_writeSentence_22 : decode cX7_writeSentence 22 = .ok (.aload_n 0, 1) := by decide +kernel
theorem dX7_writeSentence_23 : decode cX7_writeSentence 23 = .ok (.bipush 44, 2) := by decide +kernel
theorem dX7_writeSentence_25 : decode cX7_writeSentence 25 = .ok (.invokevirtual 30, 3) := by decide +kernel
theorem dX7_writeSentence_28 : decode cX7_writeSentence 28 = .ok (.aload_n 1, 1) := by decide +kernel
theorem dX7_writeSentence_29 : decode cX7_writeSentence 29 = .ok (.getfield 57, 3) := by decide +kernel
theorem dX7_writeSentence_32 : decode cX7_writeSentence 32 = .ok (.ifCond .eq 30, 3) := by decide +kernel
theorem dX7_writeSentence_35 : decode cX7_writeSentence 35 = .ok (.aload_n 0, 1) := by decide +kernel
theorem dX7_writeSentence_36 : decode cX7_writeSentence 36 = .ok (.aload_n 1, 1) := by decide +kernel
theorem dX7_writeSentence_37 : decode cX7_writeSentence 37 = .ok (.getfield 60, 3) := by decide +kernel
theorem dX7_writeSentence_40 : decode cX7_writeSentence 40 = .ok (.invokevirtual 64, 3) := by decide +kernel
theorem dX7_writeSentence_43 : decode cX7_writeSentence 43 = .ok (.aload_n 0, 1) := by decide +kernel
theorem dX7_writeSentence_44 : decode cX7_writeSentence 44 = .ok (.aload_n 1, 1) := by decide +kernel
theorem dX7_writeSentence_45 : decode cX7_writeSentence 45 = .ok (.getfield 68, 3) := by decide +kernel
theorem dX7_writeSentence_48 : decode cX7_writeSentence 48 = .ok (.invokevirtual 71, 3) := by decide +kernel
theorem dX7_writeSentence_51 : decode cX7_writeSentence 51 = .ok (.aload_n 0, 1) := by decide +kernel
theorem dX7_writeSentence_52 : decode cX7_writeSentence 52 = .ok (.aload_n 1, 1) := by decide +kernel
theorem dX7_writeSentence_53 : decode cX7_writeSentence 53 = .ok (.getfield 74, 3) := by decide +kernel
theorem dX7_writeSentence_56 : decode cX7_writeSentence 56 = .ok (.invokevirtual 77, 3) := by decide +kernel
theorem dX7_writeSentence_59 : decode cX7_writeSentence 59 = .ok (.goto 27, 3) := by decide +kernel
theorem dX7_writeSentence_62 : decode cX7_writeSentence 62 = .ok (.aload_n 0, 1) := by decide +kernel
theorem dX7_writeSentence_63 : decode cX7_writeSentence 63 = .ok (.aload_n 1, 1) := by decide +kernel
theorem dX7_writeSentence_64 : decode cX7_writeSentence 64 = .ok (.getfield 74, 3) := by decide +kernel
theorem dX7_writeSentence_67 : decode cX7_writeSentence 67 = .ok (.invokevirtual 50, 3) := by decide +kernel
theorem dX7_writeSentence_70 : decode cX7_writeSentence 70 = .ok (.aload_n 0, 1) := by decide +kernel
theorem dX7_writeSentence_71 : decode cX7_writeSentence 71 = .ok (.aload_n 1, 1) := by decide +kernel
theorem dX7_writeSentence_72 : decode cX7_writeSentence 72 = .ok (.getfield 68, 3) := by decide +kernel
theorem dX7_writeSentence_75 : decode cX7_writeSentence 75 = .ok (.invokevirtual 71, 3) := by decide +kernel
theorem dX7_writeSentence_78 : decode cX7_writeSentence 78 = .ok (.aload_n 0, 1) := by decide +kernel
theorem dX7_writeSentence_79 : decode cX7_writeSentence 79 = .ok (.aload_n 1, 1) := by decide +kernel
theorem dX7_writeSentence_80 : decode cX7_writeSentence 80 = .ok (.getfield 60, 3) := by decide +kernel
theorem dX7_writeSentence_83 : decode cX7_writeSentence 83 = .ok (.invokevirtual 64, 3) := by decide +kernel
theorem dX7_writeSentence_86 : decode cX7_writeSentence 86 = .ok (.aload_n 1, 1) := by decide +kernel
theorem dX7_writeSentence_87 : decode cX7_writeSentence 87 = .ok (.getfield 80, 3) := by decide +kernel
theorem dX7_writeSentence_90 : decode cX7_writeSentence 90 = .ok (.ifnull 18, 3) := by decide +kernel
theorem dX7_writeSentence_93 : decode cX7_writeSentence 93 = .ok (.aload_n 0, 1) := by decide +kernel
theorem dX7_writeSentence_94 : decode cX7_writeSentence 94 = .ok (.bipush 13, 2) := by decide +kernel
theorem dX7_writeSentence_96 : decode cX7_writeSentence 96 = .ok (.invokevirtual 50, 3) := by decide +kernel
theorem dX7_writeSentence_99 : decode cX7_writeSentence 99 = .ok (.aload_n 0, 1) := by decide +kernel
theorem dX7_writeSentence_100 : decode cX7_writeSentence 100 = .ok (.aload_n 1, 1) := by decide +kernel
theorem dX7_writeSentence_101 : decode cX7_writeSentence 101 = .ok (.getfield 80, 3) := by decide +kernel
theorem dX7_writeSentence_104 : decode cX7_writeSentence 104 = .ok (.iconst 0, 1) := by decide +kernel
theorem dX7_writeSentence_105 : decode cX7_writeSentence 105 = .ok (.invokevirtual 53, 3) := by decide +kernel
theorem dX7_writeSentence_108 : decode cX7_writeSentence 108 = .ok (.aload_n 1, 1) := by decide +kernel
theorem dX7_writeSentence_109 : decode cX7_writeSentence 109 = .ok (.getfield 83, 3) := by decide +kernel
theorem dX7_writeSentence_112 : decode cX7_writeSentence 112 = .ok (.iconst (-1), 1) := by decide +kernel
theorem dX7_writeSentence_113 : decode cX7_writeSentence 113 = .ok (.if_icmp .eq 17, 3) := by decide +kernel
theorem dX7_writeSentence_116 : decode cX7_writeSentence 116 = .ok (.aload_n 0, 1) := by decide +kernel
theorem dX7_writeSentence_117 : decode cX7_writeSentence 117 = .ok (.bipush 14, 2) := by decide +kernel
theorem dX7_writeSentence_119 : decode cX7_writeSentence 119 = .ok (.invokevirtual 50, 3) := by decide +kernel
theorem dX7_writeSentence_122 : decode cX7_writeSentence 122 = .ok (.aload_n 0, 1) := by decide +kernel
theorem dX7_writeSentence_123 : decode cX7_writeSentence 123 = .ok (.aload_n 1, 1) := by decide +kernel
theorem dX7_writeSentence_124 : decode cX7_writeSentence 124 = .ok (.getfield 83, 3) := by decide +kernel
theorem dX7_writeSentence_127 : decode cX7_writeSentence 127 = .ok (.invokevirtual 86, 3) := by decide +kernel
theorem dX7_writeSentence_130 : decode cX7_writeSentence 130 = .ok (.return_, 1) := by decide +kernel
theorem dX7_writeDone_0 : decode cX7_writeDone 0 = .ok (.aload_n 0, 1) := by decide +kernel
theorem dX7_writeDone_1 : decode cX7_writeDone 1 = .ok (.bipush 9, 2) := by decide +kernel
theorem dX7_writeDone_3 : decode cX7_writeDone 3 = .ok (.invokevirtual 50, 3) := by decide +kernel
theorem dX7_writeDone_6 : decode cX7_writeDone 6 = .ok (.aload_n 0, 1) := by decide +kernel
theorem dX7_writeDone_7 : decode cX7_writeDone 7 = .ok (.bipush 10, 2) := by decide +kernel
theorem dX7_writeDone_9 : decode cX7_writeDone 9 = .ok (.invokevirtual 50, 3) := by decide +kernel
theorem dX7_writeDone_12 : decode cX7_writeDone 12 = .ok (.iload_n 1, 1) := by decide +kernel
theorem dX7_writeDone_13 : decode cX7_writeDone 13 = .ok (.iconst 3, 1) := by decide +kernel
theorem dX7_writeDone_14 : decode cX7_writeDone 14 = .ok (.if_icmp .eq 14, 3) := by decide +kernel
theorem dX7_writeDone_17 : decode cX7_writeDone 17 = .ok (.aload_n 0, 1) := by decide +kernel
theorem dX7_writeDone_18 : decode cX7_writeDone 18 = .ok (.bipush 11, 2) := by decide +kernel
theorem dX7_writeDone_20 : decode cX7_writeDone 20 = .ok (.invokevirtual 50, 3) := by decide +kernel
theorem dX7_writeDone_23 : decode cX7_writeDone 23 = .ok (.aload_n 0, 1) := by decide +kernel
theorem dX7_writeDone_24 : decode cX7_writeDone 24 = .ok (.iload_n 1, 1) := by decide +kernel
theorem dX7_writeDone_25 : decode cX7_writeDone 25 = .ok (.invokevirtual 50, 3) := by decide +kernel
theorem dX7_writeDone_28 : decode cX7_writeDone 28 = .ok (.return_, 1) := by decide +kernel
theorem dX7_writeMode_0 : decode cX7_writeMode 0 = .ok (.aload_n 0, 1) := by decide +kernel
theorem dX7_writeMode_1 : decode cX7_writeMode 1 = .ok (.iload_n 1, 1) := by decide +kernel
theorem dX7_writeMode_2 : decode cX7_writeMode 2 = .ok (.iconst 2, 1) := by decide +kernel
theorem dX7_writeMode_3 : decode cX7_writeMode 3 = .ok (.if_icmp .ne 7, 3) := by decide +kernel
theorem dX7_writeMode_6 : decode cX7_writeMode 6 = .ok (.iconst 5, 1) := by decide +kernel
theorem dX7_writeMode_7 : decode cX7_writeMode 7 = .ok (.goto 4, 3) := by decide +kernel
theorem dX7_writeMode_10 : decode cX7_writeMode 10 = .ok (.iconst 3, 1) := by decide +kernel
theorem dX7_writeMode_11 : decode cX7_writeMode 11 = .ok (.invokevirtual 50, 3) := by decide +kernel
theorem dX7_writeMode_14 : decode cX7_writeMode 14 = .ok (.iload_n 1, 1) := by decide +kernel
theorem dX7_writeMode_15 : decode cX7_writeMode 15 = .ok (.iconst 1, 1) := by decide +kernel
theorem dX7_writeMode_16 : decode cX7_writeMode 16 = .ok (.if_icmp .ne 8, 3) := by decide +kernel
theorem dX7_writeMode_19 : decode cX7_writeMode 19 = .ok (.aload_n 0, 1) := by decide +kernel
theorem dX7_writeMode_20 : decode cX7_writeMode 20 = .ok (.iconst 4, 1) := by decide +kernel
theorem dX7_writeMode_21 : decode cX7_writeMode 21 = .ok (.invokevirtual 50, 3) := by decide +kernel
theorem dX7_writeMode_24 : decode cX7_writeMode 24 = .ok (.return_, 1) := by decide +kernel
theorem dX7_writeActs_0 : decode cX7_writeActs 0 = .ok (.iconst 0, 1) := by decide +kernel
theorem dX7_writeActs_1 : decode cX7_writeActs 1 = .ok (.istore_n 2, 1) := by decide +kernel
theorem dX7_writeActs_2 : decode cX7_writeActs 2 = .ok (.iload_n 2, 1) := by decide +kernel
theorem dX7_writeActs_3 : decode cX7_writeActs 3 = .ok (.aload_n 1, 1) := by decide +kernel
theorem dX7_writeActs_4 : decode cX7_writeActs 4 = .ok (.arraylength, 1) := by decide +kernel
theorem dX7_writeActs_5 : decode cX7_writeActs 5 = .ok (.if_icmp .ge 32, 3) := by decide +kernel
theorem dX7_writeActs_8 : decode cX7_writeActs 8 = .ok (.iload_n 2, 1) := by decide +kernel
theorem dX7_writeActs_9 : decode cX7_writeActs 9 = .ok (.ifCond .le 9, 3) := by decide +kernel
theorem dX7_writeActs_12 : decode cX7_writeActs 12 = .ok (.aload_n 0, 1) := by decide +kernel
theorem dX7_writeActs_13 : decode cX7_writeActs 13 = .ok (.bipush 7, 2) := by decide +kernel
theorem dX7_writeActs_15 : decode cX7_writeActs 15 = .ok (.invokevirtual 50, 3) := by decide +kernel
theorem dX7_writeActs_18 : decode cX7_writeActs 18 = .ok (.aload_n 0, 1) := by decide +kernel
theorem dX7_writeActs_19 : decode cX7_writeActs 19 = .ok (.bipush 6, 2) := by decide +kernel
theorem dX7_writeActs_21 : decode cX7_writeActs 21 = .ok (.invokevirtual 50, 3) := by decide +kernel
theorem dX7_writeActs_24 : decode cX7_writeActs 24 = .ok (.aload_n 0, 1) := by decide +kernel
theorem dX7_writeActs_25 : decode cX7_writeActs 25 = .ok (.aload_n 1, 1) := by decide +kernel
theorem dX7_writeActs_26 : decode cX7_writeActs 26 = .ok (.iload_n 2, 1) := by decide +kernel
theorem dX7_writeActs_27 : decode cX7_writeActs 27 = .ok (.iaload, 1) := by decide +kernel
theorem dX7_writeActs_28 : decode cX7_writeActs 28 = .ok (.invokevirtual 86, 3) := by decide +kernel
theorem dX7_writeActs_31 : decode cX7_writeActs 31 = .ok (.iinc 2 1, 3) := by decide +kernel
theorem dX7_writeActs_34 : decode cX7_writeActs 34 = .ok (.goto (-32), 3) := by decide +kernel
theorem dX7_writeActs_37 : decode cX7_writeActs 37 = .ok (.return_, 1) := by decide +kernel
theorem dX7_writeCond_0 : decode cX7_writeCond 0 = .ok (.iload_n 2, 1) := by decide +kernel
theorem dX7_writeCond_1 : decode cX7_writeCond 1 = .ok (.bipush 40, 2) := by decide +kernel
theorem dX7_writeCond_3 : decode cX7_writeCond 3 = .ok (.if_icmp .le 4, 3) := by decide +kernel
theorem dX7_writeCond_6 : decode cX7_writeCond 6 = .ok (.return_, 1) := by decide +kernel
theorem dX7_writeCond_7 : decode cX7_writeCond 7 = .ok (.aload_n 1, 1) := by decide +kernel
theorem dX7_writeCond_8 : decode cX7_writeCond 8 = .ok (.getfield 89, 3) := by decide +kernel
theorem dX7_writeCond_11 : decode cX7_writeCond 11 = .ok (.iconst 3, 1) := by decide +kernel
theorem dX7_writeCond_12 : decode cX7_writeCond 12 = .ok (.if_icmp .ne 20, 3) := by decide +kernel
theorem dX7_writeCond_15 : decode cX7_writeCond 15 = .ok (.aload_n 0, 1) := by decide +kernel
theorem dX7_writeCond_16 : decode cX7_writeCond 16 = .ok (.bipush 15, 2) := by decide +kernel
theorem dX7_writeCond_18 : decode cX7_writeCond 18 = .ok (.invokevirtual 50, 3) := by decide +kernel
theorem dX7_writeCond_21 : decode cX7_writeCond 21 = .ok (.aload_n 0, 1) := by decide +kernel
theorem dX7_writeCond_22 : decode cX7_writeCond 22 = .ok (.aload_n 1, 1) := by decide +kernel
theorem dX7_writeCond_23 : decode cX7_writeCond 23 = .ok (.getfield 94, 3) := by decide +kernel
theorem dX7_writeCond_26 : decode cX7_writeCond 26 = .ok (.invokevirtual 86, 3) := by decide +kernel
theorem dX7_writeCond_29 : decode cX7_writeCond 29 = .ok (.goto 16, 3) := by decide +kernel
theorem dX7_writeCond_32 : decode cX7_writeCond 32 = .ok (.aload_n 1, 1) := by decide +kernel
theorem dX7_writeCond_33 : decode cX7_writeCond 33 = .ok (.getfield 89, 3) := by decide +kernel
theorem dX7_writeCond_36 : decode cX7_writeCond 36 = .ok (.iconst 2, 1) := by decide +kernel
theorem dX7_writeCond_37 : decode cX7_writeCond 37 = .ok (.if_icmp .ne 8, 3) := by decide +kernel
theorem dX7_writeCond_40 : decode cX7_writeCond 40 = .ok (.aload_n 0, 1) := by decide +kernel
theorem dX7_writeCond_41 : decode cX7_writeCond 41 = .ok (.iconst 4, 1) := by decide +kernel
theorem dX7_writeCond_42 : decode cX7_writeCond 42 = .ok (.invokevirtual 50, 3) := by decide +kernel
theorem dX7_writeCond_45 : decode cX7_writeCond 45 = .ok (.iconst 0, 1) := by decide +kernel
theorem dX7_writeCond_46 : decode cX7_writeCond 46 = .ok (.istore_n 3, 1) := by decide +kernel
theorem dX7_writeCond_47 : decode cX7_writeCond 47 = .ok (.iload_n 3, 1) := by decide +kernel
theorem dX7_writeCond_48 : decode cX7_writeCond 48 = .ok (.aload_n 1, 1) := by decide +kernel
theorem dX7_writeCond_49 : decode cX7_writeCond 49 = .ok (.getfield 97, 3) := by decide +kernel
theorem dX7_writeCond_52 : decode cX7_writeCond 52 = .ok (.arraylength, 1) := by decide +kernel
theorem dX7_writeCond_53 : decode cX7_writeCond 53 = .ok (.if_icmp .ge 47, 3) := by decide +kernel
theorem dX7_writeCond_56 : decode cX7_writeCond 56 = .ok (.iload_n 3, 1) := by decide +kernel
theorem dX7_writeCond_57 : decode cX7_writeCond 57 = .ok (.ifCond .le 22, 3) := by decide +kernel
theorem dX7_writeCond_60 : decode cX7_writeCond 60 = .ok (.aload_n 0, 1) := by decide +kernel
theorem dX7_writeCond_61 : decode cX7_writeCond 61 = .ok (.aload_n 1, 1) := by decide +kernel
theorem dX7_writeCond_62 : decode cX7_writeCond 62 = .ok (.getfield 89, 3) := by decide +kernel
theorem dX7_writeCond_65 : decode cX7_writeCond 65 = .ok (.iconst 1, 1) := by decide +kernel
theorem dX7_writeCond_66 : decode cX7_writeCond 66 = .ok (.if_icmp .ne 8, 3) := by decide +kernel
theorem dX7_writeCond_69 : decode cX7_writeCond 69 = .ok (.bipush 7, 2) := by decide +kernel
theorem dX7_writeCond_71 : decode cX7_writeCond 71 = .ok (.goto 5, 3) := by decide +kernel
theorem dX7_writeCond_74 : decode cX7_writeCond 74 = .ok (.bipush 8, 2) := by decide +kernel
theorem dX7_writeCond_76 : decode cX7_writeCond 76 = .ok (.invokevirtual 50, 3) := by decide +kernel
theorem dX7_writeCond_79 : decode cX7_writeCond 79 = .ok (.aload_n 0, 1) := by decide +kernel
theorem dX7_writeCond_80 : decode cX7_writeCond 80 = .ok (.aload_n 1, 1) := by decide +kernel
theorem dX7_writeCond_81 : decode cX7_writeCond 81 = .ok (.getfield 97, 3) := by decide +kernel
theorem dX7_writeCond_84 : decode cX7_writeCond 84 = .ok (.iload_n 3, 1) := by decide +kernel
theorem dX7_writeCond_85 : decode cX7_writeCond 85 = .ok (.aaload, 1) := by decide +kernel
theorem dX7_writeCond_86 : decode cX7_writeCond 86 = .ok (.aload_n 1, 1) := by decide +kernel
theorem dX7_writeCond_87 : decode cX7_writeCond 87 = .ok (.getfield 89, 3) := by decide +kernel
theorem dX7_writeCond_90 : decode cX7_writeCond 90 = .ok (.iload_n 2, 1) := by decide +kernel
theorem dX7_writeCond_91 : decode cX7_writeCond 91 = .ok (.invokevirtual 101, 3) := by decide +kernel
theorem dX7_writeCond_94 : decode cX7_writeCond 94 = .ok (.iinc 3 1, 3) := by decide +kernel
theorem dX7_writeCond_97 : decode cX7_writeCond 97 = .ok (.goto (-50), 3) := by decide +kernel
theorem dX7_writeCond_100 : decode cX7_writeCond 100 = .ok (.return_, 1) := by decide +kernel
theorem dX7_writePiece_0 : decode cX7_writePiece 0 = .ok (.aload_n 1, 1) := by decide +kernel
theorem dX7_writePiece_1 : decode cX7_writePiece 1 = .ok (.getfield 89, 3) := by decide +kernel
theorem dX7_writePiece_4 : decode cX7_writePiece 4 = .ok (.iload_n 2, 1) := by decide +kernel
theorem dX7_writePiece_5 : decode cX7_writePiece 5 = .ok (.if_icmp .ge 7, 3) := by decide +kernel
theorem dX7_writePiece_8 : decode cX7_writePiece 8 = .ok (.iconst 1, 1) := by decide +kernel
theorem dX7_writePiece_9 : decode cX7_writePiece 9 = .ok (.goto 4, 3) := by decide +kernel
theorem dX7_writePiece_12 : decode cX7_writePiece 12 = .ok (.iconst 0, 1) := by decide +kernel
theorem dX7_writePiece_13 : decode cX7_writePiece 13 = .ok (.istore 4, 2) := by decide +kernel
theorem dX7_writePiece_15 : decode cX7_writePiece 15 = .ok (.iload 4, 2) := by decide +kernel
theorem dX7_writePiece_17 : decode cX7_writePiece 17 = .ok (.ifCond .eq 18, 3) := by decide +kernel
theorem dX7_writePiece_20 : decode cX7_writePiece 20 = .ok (.aload_n 0, 1) := by decide +kernel
theorem dX7_writePiece_21 : decode cX7_writePiece 21 = .ok (.invokevirtual 105, 3) := by decide +kernel
theorem dX7_writePiece_24 : decode cX7_writePiece 24 = .ok (.aload_n 0, 1) := by decide +kernel
theorem dX7_writePiece_25 : decode cX7_writePiece 25 = .ok (.bipush 40, 2) := by decide +kernel
theorem dX7_writePiece_27 : decode cX7_writePiece 27 = .ok (.invokevirtual 30, 3) := by decide +kernel
theorem dX7_writePiece_30 : decode cX7_writePiece 30 = .ok (.aload_n 0, 1) := by decide +kernel
theorem dX7_writePiece_31 : decode cX7_writePiece 31 = .ok (.iconst 1, 1) := by decide +kernel
theorem dX7_writePiece_32 : decode cX7_writePiece 32 = .ok (.putfield 21, 3) := by decide +kernel
theorem dX7_writePiece_35 : decode cX7_writePiece 35 = .ok (.aload_n 0, 1) := by decide +kernel
theorem dX7_writePiece_36 : decode cX7_writePiece 36 = .ok (.aload_n 1, 1) := by decide +kernel
theorem dX7_writePiece_37 : decode cX7_writePiece 37 = .ok (.iload_n 3, 1) := by decide +kernel
theorem dX7_writePiece_38 : decode cX7_writePiece 38 = .ok (.iconst 1, 1) := by decide +kernel
theorem dX7_writePiece_39 : decode cX7_writePiece 39 = .ok (.iadd, 1) := by decide +kernel
theorem dX7_writePiece_40 : decode cX7_writePiece 40 = .ok (.invokevirtual 53, 3) := by decide +kernel
theorem dX7_writePiece_43 : decode cX7_writePiece 43 = .ok (.iload 4, 2) := by decide +kernel
theorem dX7_writePiece_45 : decode cX7_writePiece 45 = .ok (.ifCond .eq 9, 3) := by decide +kernel
theorem dX7_writePiece_48 : decode cX7_writePiece 48 = .ok (.aload_n 0, 1) := by decide +kernel
theorem dX7_writePiece_49 : decode cX7_writePiece 49 = .ok (.bipush 41, 2) := by decide +kernel
theorem dX7_writePiece_51 : decode cX7_writePiece 51 = .ok (.invokevirtual 30, 3) := by decide +kernel
theorem dX7_writePiece_54 : decode cX7_writePiece 54 = .ok (.return_, 1) := by decide +kernel
theorem dX7_writeWord_0 : decode cX7_writeWord 0 = .ok (.aload_n 0, 1) := by decide +kernel
theorem dX7_writeWord_1 : decode cX7_writeWord 1 = .ok (.invokevirtual 105, 3) := by decide +kernel
theorem dX7_writeWord_4 : decode cX7_writeWord 4 = .ok (.iload_n 1, 1) := by decide +kernel
theorem dX7_writeWord_5 : decode cX7_writeWord 5 = .ok (.invokestatic 108, 3) := by decide +kernel
theorem dX7_writeWord_8 : decode cX7_writeWord 8 = .ok (.astore_n 2, 1) := by decide +kernel
theorem dX7_writeWord_9 : decode cX7_writeWord 9 = .ok (.iconst 0, 1) := by decide +kernel
theorem dX7_writeWord_10 : decode cX7_writeWord 10 = .ok (.istore_n 3, 1) := by decide +kernel
theorem dX7_writeWord_11 : decode cX7_writeWord 11 = .ok (.iload_n 3, 1) := by decide +kernel
theorem dX7_writeWord_12 : decode cX7_writeWord 12 = .ok (.aload_n 2, 1) := by decide +kernel
theorem dX7_writeWord_13 : decode cX7_writeWord 13 = .ok (.invokevirtual 112, 3) := by decide +kernel
theorem dX7_writeWord_16 : decode cX7_writeWord 16 = .ok (.if_icmp .ge 18, 3) := by decide +kernel
theorem dX7_writeWord_19 : decode cX7_writeWord 19 = .ok (.aload_n 0, 1) := by decide +kernel
theorem dX7_writeWord_20 : decode cX7_writeWord 20 = .ok (.aload_n 2, 1) := by decide +kernel
theorem dX7_writeWord_21 : decode cX7_writeWord 21 = .ok (.iload_n 3, 1) := by decide +kernel
theorem dX7_writeWord_22 : decode cX7_writeWord 22 = .ok (.invokevirtual 117, 3) := by decide +kernel
theorem dX7_writeWord_25 : decode cX7_writeWord 25 = .ok (.invokevirtual 30, 3) := by decide +kernel
theorem dX7_writeWord_28 : decode cX7_writeWord 28 = .ok (.iinc 3 1, 3) := by decide +kernel
theorem dX7_writeWord_31 : decode cX7_writeWord 31 = .ok (.goto (-20), 3) := by decide +kernel
theorem dX7_writeWord_34 : decode cX7_writeWord 34 = .ok (.return_, 1) := by decide +kernel
theorem dX7_writeNumber_0 : decode cX7_writeNumber 0 = .ok (.aload_n 0, 1) := by decide +kernel
theorem dX7_writeNumber_1 : decode cX7_writeNumber 1 = .ok (.invokevirtual 105, 3) := by decide +kernel
theorem dX7_writeNumber_4 : decode cX7_writeNumber 4 = .ok (.iload_n 1, 1) := by decide +kernel
theorem dX7_writeNumber_5 : decode cX7_writeNumber 5 = .ok (.bipush 100, 2) := by decide +kernel
theorem dX7_writeNumber_7 : decode cX7_writeNumber 7 = .ok (.if_icmp .lt 14, 3) := by decide +kernel
theorem dX7_writeNumber_10 : decode cX7_writeNumber 10 = .ok (.aload_n 0, 1) := by decide +kernel
theorem dX7_writeNumber_11 : decode cX7_writeNumber 11 = .ok (.bipush 48, 2) := by decide +kernel
theorem dX7_writeNumber_13 : decode cX7_writeNumber 13 = .ok (.iload_n 1, 1) := by decide +kernel
theorem dX7_writeNumber_14 : decode cX7_writeNumber 14 = .ok (.bipush 100, 2) := by decide +kernel
theorem dX7_writeNumber_16 : decode cX7_writeNumber 16 = .ok (.idiv, 1) := by decide +kernel
theorem dX7_writeNumber_17 : decode cX7_writeNumber 17 = .ok (.iadd, 1) := by decide +kernel
theorem dX7_writeNumber_18 : decode cX7_writeNumber 18 = .ok (.invokevirtual 30, 3) := by decide +kernel
theorem dX7_writeNumber_21 : decode cX7_writeNumber 21 = .ok (.iload_n 1, 1) := by decide +kernel
theorem dX7_writeNumber_22 : decode cX7_writeNumber 22 = .ok (.bipush 10, 2) := by decide +kernel
theorem dX7_writeNumber_24 : decode cX7_writeNumber 24 = .ok (.if_icmp .lt 17, 3) := by decide +kernel
theorem dX7_writeNumber_27 : decode cX7_writeNumber 27 = .ok (.aload_n 0, 1) := by decide +kernel
theorem dX7_writeNumber_28 : decode cX7_writeNumber 28 = .ok (.bipush 48, 2) := by decide +kernel
theorem dX7_writeNumber_30 : decode cX7_writeNumber 30 = .ok (.iload_n 1, 1) := by decide +kernel
theorem dX7_writeNumber_31 : decode cX7_writeNumber 31 = .ok (.bipush 10, 2) := by decide +kernel
theorem dX7_writeNumber_33 : decode cX7_writeNumber 33 = .ok (.idiv, 1) := by decide +kernel
theorem dX7_writeNumber_34 : decode cX7_writeNumber 34 = .ok (.bipush 10, 2) := by decide +kernel
theorem dX7_writeNumber_36 : decode cX7_writeNumber 36 = .ok (.irem, 1) := by decide +kernel
theorem dX7_writeNumber_37 : decode cX7_writeNumber 37 = .ok (.iadd, 1) := by decide +kernel
theorem dX7_writeNumber_38 : decode cX7_writeNumber 38 = .ok (.invokevirtual 30, 3) := by decide +kernel
theorem dX7_writeNumber_41 : decode cX7_writeNumber 41 = .ok (.aload_n 0, 1) := by decide +kernel
theorem dX7_writeNumber_42 : decode cX7_writeNumber 42 = .ok (.bipush 48, 2) := by decide +kernel
theorem dX7_writeNumber_44 : decode cX7_writeNumber 44 = .ok (.iload_n 1, 1) := by decide +kernel
theorem dX7_writeNumber_45 : decode cX7_writeNumber 45 = .ok (.bipush 10, 2) := by decide +kernel
theorem dX7_writeNumber_47 : decode cX7_writeNumber 47 = .ok (.irem, 1) := by decide +kernel
theorem dX7_writeNumber_48 : decode cX7_writeNumber 48 = .ok (.iadd, 1) := by decide +kernel
theorem dX7_writeNumber_49 : decode cX7_writeNumber 49 = .ok (.invokevirtual 30, 3) := by decide +kernel
theorem dX7_writeNumber_52 : decode cX7_writeNumber 52 = .ok (.return_, 1) := by decide +kernel
theorem dX7_blank_0 : decode cX7_blank 0 = .ok (.aload_n 0, 1) := by decide +kernel
theorem dX7_blank_1 : decode cX7_blank 1 = .ok (.getfield 17, 3) := by decide +kernel
theorem dX7_blank_4 : decode cX7_blank 4 = .ok (.ifCond .le 16, 3) := by decide +kernel
theorem dX7_blank_7 : decode cX7_blank 7 = .ok (.aload_n 0, 1) := by decide +kernel
theorem dX7_blank_8 : decode cX7_blank 8 = .ok (.getfield 21, 3) := by decide +kernel
theorem dX7_blank_11 : decode cX7_blank 11 = .ok (.ifCond .ne 9, 3) := by decide +kernel
theorem dX7_blank_14 : decode cX7_blank 14 = .ok (.aload_n 0, 1) := by decide +kernel
theorem dX7_blank_15 : decode cX7_blank 15 = .ok (.bipush 32, 2) := by decide +kernel
theorem dX7_blank_17 : decode cX7_blank 17 = .ok (.invokevirtual 30, 3) := by decide +kernel
theorem dX7_blank_20 : decode cX7_blank 20 = .ok (.aload_n 0, 1) := by decide +kernel
theorem dX7_blank_21 : decode cX7_blank 21 = .ok (.iconst 0, 1) := by decide +kernel
theorem dX7_blank_22 : decode cX7_blank 22 = .ok (.putfield 21, 3) := by decide +kernel
theorem dX7_blank_25 : decode cX7_blank 25 = .ok (.return_, 1) := by decide +kernel
theorem dX7_put_0 : decode cX7_put 0 = .ok (.aload_n 0, 1) := by decide +kernel
theorem dX7_put_1 : decode cX7_put 1 = .ok (.getfield 17, 3) := by decide +kernel
theorem dX7_put_4 : decode cX7_put 4 = .ok (.aload_n 0, 1) := by decide +kernel
theorem dX7_put_5 : decode cX7_put 5 = .ok (.getfield 11, 3) := by decide +kernel
theorem dX7_put_8 : decode cX7_put 8 = .ok (.arraylength, 1) := by decide +kernel
theorem dX7_put_9 : decode cX7_put 9 = .ok (.if_icmp .ge 14, 3) := by decide +kernel
theorem dX7_put_12 : decode cX7_put 12 = .ok (.aload_n 0, 1) := by decide +kernel
theorem dX7_put_13 : decode cX7_put 13 = .ok (.getfield 11, 3) := by decide +kernel
theorem dX7_put_16 : decode cX7_put 16 = .ok (.aload_n 0, 1) := by decide +kernel
theorem dX7_put_17 : decode cX7_put 17 = .ok (.getfield 17, 3) := by decide +kernel
theorem dX7_put_20 : decode cX7_put 20 = .ok (.iload_n 1, 1) := by decide +kernel
theorem dX7_put_21 : decode cX7_put 21 = .ok (.i2b, 1) := by decide +kernel
theorem dX7_put_22 : decode cX7_put 22 = .ok (.bastore, 1) := by decide +kernel
theorem dX7_put_23 : decode cX7_put 23 = .ok (.aload_n 0, 1) := by decide +kernel
theorem dX7_put_24 : decode cX7_put 24 = .ok (.dup, 1) := by decide +kernel
theorem dX7_put_25 : decode cX7_put 25 = .ok (.getfield 17, 3) := by decide +kernel
theorem dX7_put_28 : decode cX7_put 28 = .ok (.iconst 1, 1) := by decide +kernel
theorem dX7_put_29 : decode cX7_put 29 = .ok (.iadd, 1) := by decide +kernel
theorem dX7_put_30 : decode cX7_put 30 = .ok (.putfield 17, 3) := by decide +kernel
theorem dX7_put_33 : decode cX7_put 33 = .ok (.return_, 1) := by decide +kernel
theorem dX8_init_0 : decode cX8_init 0 = .ok (.aload_n 0, 1) := by decide +kernel
theorem dX8_init_1 : decode cX8_init 1 = .ok (.invokespecial 1, 3) := by decide +kernel
theorem dX8_init_4 : decode cX8_init 4 = .ok (.aload_n 0, 1) := by decide +kernel
theorem dX8_init_5 : decode cX8_init 5 = .ok (.new 7, 3) := by decide +kernel
theorem dX8_init_8 : decode cX8_init 8 = .ok (.dup, 1) := by decide +kernel
theorem dX8_init_9 : decode cX8_init 9 = .ok (.invokespecial 9, 3) := by decide +kernel
theorem dX8_init_12 : decode cX8_init 12 = .ok (.putfield 10, 3) := by decide +kernel
theorem dX8_init_15 : decode cX8_init 15 = .ok (.aload_n 0, 1) := by decide +kernel
theorem dX8_init_16 : decode cX8_init 16 = .ok (.new 16, 3) := by decide +kernel
theorem dX8_init_19 : decode cX8_init 19 = .ok (.dup, 1) := by decide +kernel
theorem dX8_init_20 : decode cX8_init 20 = .ok (.invokespecial 18, 3) := by decide +kernel
theorem dX8_init_23 : decode cX8_init 23 = .ok (.putfield 19, 3) := by decide +kernel
theorem dX8_init_26 : decode cX8_init 26 = .ok (.aload_n 0, 1) := by decide +kernel
theorem dX8_init_27 : decode cX8_init 27 = .ok (.new 23, 3) := by decide +kernel
theorem dX8_init_30 : decode cX8_init 30 = .ok (.dup, 1) := by decide +kernel
theorem dX8_init_31 : decode cX8_init 31 = .ok (.invokespecial 25, 3) := by decide +kernel
theorem dX8_init_34 : decode cX8_init 34 = .ok (.putfield 26, 3) := by decide +kernel
theorem dX8_init_37 : decode cX8_init 37 = .ok (.aload_n 0, 1) := by decide +kernel
theorem dX8_init_38 : decode cX8_init 38 = .ok (.new 30, 3) := by decide +kernel
theorem dX8_init_41 : decode cX8_init 41 = .ok (.dup, 1) := by decide +kernel
theorem dX8_init_42 : decode cX8_init 42 = .ok (.invokespecial 32, 3) := by decide +kernel
theorem dX8_init_45 : decode cX8_init 45 = .ok (.putfield 33, 3) := by decide +kernel
theorem dX8_init_48 : decode cX8_init 48 = .ok (.aload_n 0, 1) := by decide +kernel
theorem dX8_init_49 : decode cX8_init 49 = .ok (.new 30, 3) := by decide +kernel
theorem dX8_init_52 : decode cX8_init 52 = .ok (.dup, 1) := by decide +kernel
theorem dX8_init_53 : decode cX8_init 53 = .ok (.invokespecial 32, 3) := by decide +kernel
theorem dX8_init_56 : decode cX8_init 56 = .ok (.putfield 37, 3) := by decide +kernel
theorem dX8_init_59 : decode cX8_init 59 = .ok (.aload_n 0, 1) := by decide +kernel
theorem dX8_init_60 : decode cX8_init 60 = .ok (.iconst (-1), 1) := by decide +kernel
theorem dX8_init_61 : decode cX8_init 61 = .ok (.putfield 40, 3) := by decide +kernel
theorem dX8_init_64 : decode cX8_init 64 = .ok (.aload_n 0, 1) := by decide +kernel
theorem dX8_init_65 : decode cX8_init 65 = .ok (.iconst 0, 1) := by decide +kernel
theorem dX8_init_66 : decode cX8_init 66 = .ok (.putfield 44, 3) := by decide +kernel
theorem dX8_init_69 : decode cX8_init 69 = .ok (.aload_n 0, 1) := by decide +kernel
theorem dX8_init_70 : decode cX8_init 70 = .ok (.iconst 0, 1) := by decide +kernel
theorem dX8_init_71 : decode cX8_init 71 = .ok (.putfield 47, 3) := by decide +kernel
theorem dX8_init_74 : decode cX8_init 74 = .ok (.return_, 1) := by decide +kernel
theorem dX8_feed_0 : decode cX8_feed 0 = .ok (.aload_n 0, 1) := by decide +kernel
theorem dX8_feed_1 : decode cX8_feed 1 = .ok (.getfield 10, 3) := by decide +kernel
theorem dX8_feed_4 : decode cX8_feed 4 = .ok (.getfield 50, 3) := by decide +kernel
theorem dX8_feed_7 : decode cX8_feed 7 = .ok (.bipush 20, 2) := by decide +kernel
theorem dX8_feed_9 : decode cX8_feed 9 = .ok (.iadd, 1) := by decide +kernel
theorem dX8_feed_10 : decode cX8_feed 10 = .ok (.sipush 400, 3) := by decide +kernel
theorem dX8_feed_13 : decode cX8_feed 13 = .ok (.if_icmp .le 5, 3) := by decide +kernel
theorem dX8_feed_16 : decode cX8_feed 16 = .ok (.iconst (-1), 1) := by decide +kernel
theorem dX8_feed_17 : decode cX8_feed 17 = .ok (.ireturn, 1) := by decide +kernel
theorem dX8_feed_18 : decode cX8_feed 18 = .ok (.aload_n 0, 1) := by decide +kernel
theorem dX8_feed_19 : decode cX8_feed 19 = .ok (.getfield 10, 3) := by decide +kernel
theorem dX8_feed_22 : decode cX8_feed 22 = .ok (.iload_n 1, 1) := by decide +kernel
theorem dX8_feed_23 : decode cX8_feed 23 = .ok (.invokevirtual 53, 3) := by decide +kernel
theorem dX8_feed_26 : decode cX8_feed 26 = .ok (.aload_n 0, 1) := by decide +kernel
theorem dX8_feed_27 : decode cX8_feed 27 = .ok (.getfield 10, 3) := by decide +kernel
theorem dX8_feed_30 : decode cX8_feed 30 = .ok (.iload_n 2, 1) := by decide +kernel
theorem dX8_feed_31 : decode cX8_feed 31 = .ok (.invokevirtual 53, 3) := by decide +kernel
theorem dX8_feed_34 : decode cX8_feed 34 = .ok (.aload_n 0, 1) := by decide +kernel
theorem dX8_feed_35 : decode cX8_feed 35 = .ok (.getfield 10, 3) := by decide +kernel
theorem dX8_feed_38 : decode cX8_feed 38 = .ok (.iload_n 3, 1) := by decide +kernel
theorem dX8_feed_39 : decode cX8_feed 39 = .ok (.invokevirtual 53, 3) := by decide +kernel
theorem dX8_feed_42 : decode cX8_feed 42 = .ok (.aload_n 0, 1) := by decide +kernel
theorem dX8_feed_43 : decode cX8_feed 43 = .ok (.getfield 10, 3) := by decide +kernel
theorem dX8_feed_46 : decode cX8_feed 46 = .ok (.iload 4, 2) := by decide +kernel
theorem dX8_feed_48 : decode cX8_feed 48 = .ok (.invokevirtual 53, 3) := by decide +kernel
theorem dX8_feed_51 : decode cX8_feed 51 = .ok (.aload_n 0, 1) := by decide +kernel
theorem dX8_feed_52 : decode cX8_feed 52 = .ok (.getfield 10, 3) := by decide +kernel
theorem dX8_feed_55 : decode cX8_feed 55 = .ok (.iload 5, 2) := by decide +kernel
theorem dX8_feed_57 : decode cX8_feed 57 = .ok (.invokevirtual 53, 3) := by decide +kernel
theorem dX8_feed_60 : decode cX8_feed 60 = .ok (.aload_n 0, 1) := by decide +kernel
theorem dX8_feed_61 : decode cX8_feed 61 = .ok (.getfield 10, 3) := by decide +kernel
theorem dX8_feed_64 : decode cX8_feed 64 = .ok (.getfield 50, 3) := by decide +kernel
theorem dX8_feed_67 : decode cX8_feed 67 = .ok (.ireturn, 1) := by decide +kernel
theorem dX8_end_0 : decode cX8_end 0 = .ok (.aload_n 0, 1) := by decide +kernel
theorem dX8_end_1 : decode cX8_end 1 = .ok (.getfield 10, 3) := by decide +kernel
theorem dX8_end_4 : decode cX8_end 4 = .ok (.iload_n 1, 1) := by decide +kernel
theorem dX8_end_5 : decode cX8_end 5 = .ok (.invokevirtual 57, 3) := by decide +kernel
theorem dX8_end_8 : decode cX8_end 8 = .ok (.ireturn, 1) := by decide +kernel
theorem dX8_letter_0 : decode cX8_letter 0 = .ok (.aload_n 0, 1) := by decide +kernel
theorem dX8_letter_1 : decode cX8_letter 1 = .ok (.getfield 19, 3) := by decide +kernel
theorem dX8_letter_4 : decode cX8_letter 4 = .ok (.aload_n 0, 1) := by decide +kernel
theorem dX8_letter_5 : decode cX8_letter 5 = .ok (.getfield 10, 3) := by decide +kernel
theorem dX8_letter_8 : decode cX8_letter 8 = .ok (.invokevirtual 61, 3) := by decide +kernel
theorem dX8_letter_11 : decode cX8_letter 11 = .ok (.istore_n 1, 1) := by decide +kernel
theorem dX8_letter_12 : decode cX8_letter 12 = .ok (.aload_n 0, 1) := by decide +kernel
theorem dX8_letter_13 : decode cX8_letter 13 = .ok (.getfield 10, 3) := by decide +kernel
theorem dX8_letter_16 : decode cX8_letter 16 = .ok (.iconst 0, 1) := by decide +kernel
theorem dX8_letter_17 : decode cX8_letter 17 = .ok (.invokevirtual 57, 3) := by decide +kernel
theorem dX8_letter_20 : decode cX8_letter 20 = .ok (.pop, 1) := by decide +kernel
theorem dX8_letter_21 : decode cX8_letter 21 = .ok (.aload_n 0, 1) := by decide +kernel
theorem dX8_letter_22 : decode cX8_letter 22 = .ok (.iload_n 1, 1) := by decide +kernel
theorem dX8_letter_23 : decode cX8_letter 23 = .ok (.ifCond .eq 7, 3) := by decide +kernel
theorem dX8_letter_26 : decode cX8_letter 26 = .ok (.iconst (-1), 1) := by decide +kernel
theorem dX8_letter_27 : decode cX8_letter 27 = .ok (.goto 10, 3) := by decide +kernel
theorem dX8_letter_30 : decode cX8_letter 30 = .ok (.aload_n 0, 1) := by decide +kernel
theorem dX8_letter_31 : decode cX8_letter 31 = .ok (.getfield 19, 3) := by decide +kernel
theorem dX8_letter_34 : decode cX8_letter 34 = .ok (.invokevirtual 65, 3) := by decide +kernel
theorem dX8_letter_37 : decode cX8_letter 37 = .ok (.putfield 40, 3) := by decide +kernel
theorem dX8_letter_40 : decode cX8_letter 40 = .ok (.iload_n 1, 1) := by decide +kernel
theorem dX8_letter_41 : decode cX8_letter 41 = .ok (.ifCond .ne 13, 3) := by decide +kernel
theorem dX8_letter_44 : decode cX8_letter 44 = .ok (.new 69, 3) := by decide +kernel
theorem dX8_letter_47 : decode cX8_letter 47 = .ok (.dup, 1) := by decide +kernel
theorem dX8_letter_48 : decode cX8_letter 48 = .ok (.ldc 71, 2) := by decide +kernel
theorem dX8_letter_50 : decode cX8_letter 50 = .ok (.invokespecial 73, 3) := by decide +kernel
theorem dX8_letter_53 : decode cX8_letter 53 = .ok (.athrow, 1) := by decide +kernel
theorem dX8_letter_54 : decode cX8_letter 54 = .ok (.aload_n 0, 1) := by decide +kernel
theorem dX8_letter_55 : decode cX8_letter 55 = .ok (.getfield 33, 3) := by decide +kernel
theorem dX8_letter_58 : decode cX8_letter 58 = .ok (.aload_n 0, 1) := by decide +kernel
theorem dX8_letter_59 : decode cX8_letter 59 = .ok (.getfield 19, 3) := by decide +kernel
theorem dX8_letter_62 : decode cX8_letter 62 = .ok (.getfield 76, 3) := by decide +kernel
theorem dX8_letter_65 : decode cX8_letter 65 = .ok (.invokevirtual 79, 3) := by decide +kernel
theorem dX8_letter_68 : decode cX8_letter 68 = .ok (.aload_n 0, 1) := by decide +kernel
theorem dX8_letter_69 : decode cX8_letter 69 = .ok (.getfield 37, 3) := by decide +kernel
theorem dX8_letter_72 : decode cX8_letter 72 = .ok (.aload_n 0, 1) := by decide +kernel
theorem dX8_letter_73 : decode cX8_letter 73 = .ok (.getfield 19, 3) := by decide +kernel
theorem dX8_letter_76 : decode cX8_letter 76 = .ok (.getfield 76, 3) := by decide +kernel
theorem dX8_letter_79 : decode cX8_letter 79 = .ok (.invokevirtual 79, 3) := by decide +kernel
theorem dX8_letter_82 : decode cX8_letter 82 = .ok (.aload_n 0, 1) := by decide +kernel
theorem dX8_letter_83 : decode cX8_letter 83 = .ok (.dup, 1) := by decide +kernel
theorem dX8_letter_84 : decode cX8_letter 84 = .ok (.getfield 44, 3) := by decide +kernel
theorem dX8_letter_87 : decode cX8_letter 87 = .ok (.iconst 1, 1) := by decide +kernel
theorem dX8_letter_88 : decode cX8_letter 88 = .ok (.iadd, 1) := by decide +kernel
theorem dX8_letter_89 : decode cX8_letter 89 = .ok (.putfield 44, 3) := by decide +kernel
theorem dX8_letter_92 : decode cX8_letter 92 = .ok (.aload_n 0, 1) := by decide +kernel
theorem dX8_letter_93 : decode cX8_letter 93 = .ok (.iconst 0, 1) := by decide +kernel
theorem dX8_letter_94 : decode cX8_letter 94 = .ok (.putfield 47, 3) := by decide +kernel
theorem dX8_letter_97 : decode cX8_letter 97 = .ok (.aload_n 0, 1) := by decide +kernel
theorem dX8_letter_98 : decode cX8_letter 98 = .ok (.getfield 33, 3) := by decide +kernel
theorem dX8_letter_101 : decode cX8_letter 101 = .ok (.invokevirtual 83, 3) := by decide +kernel
theorem dX8_letter_104 : decode cX8_letter 104 = .ok (.ireturn, 1) := by decide +kernel
theorem dX8_fault_0 : decode cX8_fault 0 = .ok (.aload_n 0, 1) := by decide +kernel
theorem dX8_fault_1 : decode cX8_fault 1 = .ok (.getfield 40, 3) := by decide +kernel
theorem dX8_fault_4 : decode cX8_fault 4 = .ok (.ireturn, 1) := by decide +kernel
theorem dX8_part_0 : decode cX8_part 0 = .ok (.aload_n 0, 1) := by decide +kernel
theorem dX8_part_1 : decode cX8_part 1 = .ok (.iload_n 1, 1) := by decide +kernel
theorem dX8_part_2 : decode cX8_part 2 = .ok (.invokevirtual 85, 3) := by decide +kernel
theorem dX8_part_5 : decode cX8_part 5 = .ok (.aload_n 0, 1) := by decide +kernel
theorem dX8_part_6 : decode cX8_part 6 = .ok (.aload_n 0, 1) := by decide +kernel
theorem dX8_part_7 : decode cX8_part 7 = .ok (.getfield 37, 3) := by decide +kernel
theorem dX8_part_10 : decode cX8_part 10 = .ok (.iload_n 1, 1) := by decide +kernel
theorem dX8_part_11 : decode cX8_part 11 = .ok (.invokevirtual 88, 3) := by decide +kernel
theorem dX8_part_14 : decode cX8_part 14 = .ok (.invokevirtual 91, 3) := by decide +kernel
theorem dX8_part_17 : decode cX8_part 17 = .ok (.ireturn, 1) := by decide +kernel
theorem dX8_melt_0 : decode cX8_melt 0 = .ok (.aload_n 0, 1) := by decide +kernel
theorem dX8_melt_1 : decode cX8_melt 1 = .ok (.iload_n 1, 1) := by decide +kernel
theorem dX8_melt_2 : decode cX8_melt 2 = .ok (.invokevirtual 85, 3) := by decide +kernel
theorem dX8_melt_5 : decode cX8_melt 5 = .ok (.aload_n 0, 1) := by decide +kernel
theorem dX8_melt_6 : decode cX8_melt 6 = .ok (.aload_n 0, 1) := by decide +kernel
theorem dX8_melt_7 : decode cX8_melt 7 = .ok (.getfield 37, 3) := by decide +kernel
theorem dX8_melt_10 : decode cX8_melt 10 = .ok (.iload_n 1, 1) := by decide +kernel
theorem dX8_melt_11 : decode cX8_melt 11 = .ok (.invokevirtual 95, 3) := by decide +kernel
theorem dX8_melt_14 : decode cX8_melt 14 = .ok (.invokevirtual 91, 3) := by decide +kernel
theorem dX8_melt_17 : decode cX8_melt 17 = .ok (.ireturn, 1) := by decide +kernel
theorem dX8_turn_0 : decode cX8_turn 0 = .ok (.aload_n 0, 1) := by decide +kernel
theorem dX8_turn_1 : decode cX8_turn 1 = .ok (.iload_n 1, 1) := by decide +kernel
theorem dX8_turn_2 : decode cX8_turn 2 = .ok (.invokevirtual 85, 3) := by decide +kernel
theorem dX8_turn_5 : decode cX8_turn 5 = .ok (.aload_n 0, 1) := by decide +kernel
theorem dX8_turn_6 : decode cX8_turn 6 = .ok (.aload_n 0, 1) := by decide +kernel
theorem dX8_turn_7 : decode cX8_turn 7 = .ok (.getfield 37, 3) := by decide +kernel
theorem dX8_turn_10 : decode cX8_turn 10 = .ok (.iload_n 1, 1) := by decide +kernel
theorem dX8_turn_11 : decode cX8_turn 11 = .ok (.invokevirtual 98, 3) := by decide +kernel
theorem dX8_turn_14 : decode cX8_turn 14 = .ok (.invokevirtual 91, 3) := by decide +kernel
theorem dX8_turn_17 : decode cX8_turn 17 = .ok (.ireturn, 1) := by decide +kernel
theorem dX8_ease_0 : decode cX8_ease 0 = .ok (.aload_n 0, 1) := by decide +kernel
theorem dX8_ease_1 : decode cX8_ease 1 = .ok (.iload_n 1, 1) := by decide +kernel
theorem dX8_ease_2 : decode cX8_ease 2 = .ok (.invokevirtual 85, 3) := by decide +kernel
theorem dX8_ease_5 : decode cX8_ease 5 = .ok (.aload_n 0, 1) := by decide +kernel
theorem dX8_ease_6 : decode cX8_ease 6 = .ok (.aload_n 0, 1) := by decide +kernel
theorem dX8_ease_7 : decode cX8_ease 7 = .ok (.getfield 37, 3) := by decide +kernel
theorem dX8_ease_10 : decode cX8_ease 10 = .ok (.iload_n 1, 1) := by decide +kernel
theorem dX8_ease_11 : decode cX8_ease 11 = .ok (.invokevirtual 101, 3) := by decide +kernel
theorem dX8_ease_14 : decode cX8_ease 14 = .ok (.invokevirtual 91, 3) := by decide +kernel
theorem dX8_ease_17 : decode cX8_ease 17 = .ok (.ireturn, 1) := by decide +kernel
theorem dX8_plainest_0 : decode cX8_plainest 0 = .ok (.aload_n 0, 1) := by decide +kernel
theorem dX8_plainest_1 : decode cX8_plainest 1 = .ok (.invokevirtual 104, 3) := by decide +kernel
theorem dX8_plainest_4 : decode cX8_plainest 4 = .ok (.aload_n 0, 1) := by decide +kernel
theorem dX8_plainest_5 : decode cX8_plainest 5 = .ok (.getfield 37, 3) := by decide +kernel
theorem dX8_plainest_8 : decode cX8_plainest 8 = .ok (.aload_n 0, 1) := by decide +kernel
theorem dX8_plainest_9 : decode cX8_plainest 9 = .ok (.getfield 33, 3) := by decide +kernel
theorem dX8_plainest_12 : decode cX8_plainest 12 = .ok (.invokevirtual 107, 3) := by decide +kernel
theorem dX8_plainest_15 : decode cX8_plainest 15 = .ok (.aload_n 0, 1) := by decide +kernel
theorem dX8_plainest_16 : decode cX8_plainest 16 = .ok (.getfield 37, 3) := by decide +kernel
theorem dX8_plainest_19 : decode cX8_plainest 19 = .ok (.invokevirtual 110, 3) := by decide +kernel
theorem dX8_plainest_22 : decode cX8_plainest 22 = .ok (.ireturn, 1) := by decide +kernel
theorem dX8_again_0 : decode cX8_again 0 = .ok (.aload_n 0, 1) := by decide +kernel
theorem dX8_again_1 : decode cX8_again 1 = .ok (.invokevirtual 104, 3) := by decide +kernel
theorem dX8_again_4 : decode cX8_again 4 = .ok (.aload_n 0, 1) := by decide +kernel
theorem dX8_again_5 : decode cX8_again 5 = .ok (.getfield 37, 3) := by decide +kernel
theorem dX8_again_8 : decode cX8_again 8 = .ok (.aload_n 0, 1) := by decide +kernel
theorem dX8_again_9 : decode cX8_again 9 = .ok (.getfield 33, 3) := by decide +kernel
theorem dX8_again_12 : decode cX8_again 12 = .ok (.invokevirtual 79, 3) := by decide +kernel
theorem dX8_again_15 : decode cX8_again 15 = .ok (.return_, 1) := by decide +kernel
theorem dX8_cost_0 : decode cX8_cost 0 = .ok (.aload_n 0, 1) := by decide +kernel
theorem dX8_cost_1 : decode cX8_cost 1 = .ok (.invokevirtual 104, 3) := by decide +kernel
theorem dX8_cost_4 : decode cX8_cost 4 = .ok (.aload_n 0, 1) := by decide +kernel
theorem dX8_cost_5 : decode cX8_cost 5 = .ok (.iload_n 1, 1) := by decide +kernel
theorem dX8_cost_6 : decode cX8_cost 6 = .ok (.invokevirtual 113, 3) := by decide +kernel
theorem dX8_cost_9 : decode cX8_cost 9 = .ok (.invokevirtual 110, 3) := by decide +kernel
theorem dX8_cost_12 : decode cX8_cost 12 = .ok (.ireturn, 1) := by decide +kernel
theorem dX8_look_0 : decode cX8_look 0 = .ok (.aload_n 0, 1) := by decide +kernel
theorem dX8_look_1 : decode cX8_look 1 = .ok (.iload_n 1, 1) := by decide +kernel
theorem dX8_look_2 : decode cX8_look 2 = .ok (.invokevirtual 85, 3) := by decide +kernel
theorem dX8_look_5 : decode cX8_look 5 = .ok (.iload_n 2, 1) := by decide +kernel
theorem dX8_look_6 : decode cX8_look 6 = .ok (.ifCond .lt 9, 3) := by decide +kernel
theorem dX8_look_9 : decode cX8_look 9 = .ok (.iload_n 2, 1) := by decide +kernel
theorem dX8_look_10 : decode cX8_look 10 = .ok (.bipush 8, 2) := by decide +kernel
theorem dX8_look_12 : decode cX8_look 12 = .ok (.if_icmp .le 13, 3) := by decide +kernel
theorem dX8_look_15 : decode cX8_look 15 = .ok (.new 117, 3) := by decide +kernel
theorem dX8_look_18 : decode cX8_look 18 = .ok (.dup, 1) := by decide +kernel
theorem dX8_look_19 : decode cX8_look 19 = .ok (.ldc 119, 2) := by decide +kernel
theorem dX8_look_21 : decode cX8_look 21 = .ok (.invokespecial 121, 3) := by decide +kernel
theorem dX8_look_24 : decode cX8_look 24 = .ok (.athrow, 1) := by decide +kernel
theorem dX8_look_25 : decode cX8_look 25 = .ok (.aload_n 0, 1) := by decide +kernel
theorem dX8_look_26 : decode cX8_look 26 = .ok (.getfield 37, 3) := by decide +kernel
theorem dX8_look_29 : decode cX8_look 29 = .ok (.iload_n 1, 1) := by decide +kernel
theorem dX8_look_30 : decode cX8_look 30 = .ok (.invokevirtual 122, 3) := by decide +kernel
theorem dX8_look_33 : decode cX8_look 33 = .ok (.iload_n 2, 1) := by decide +kernel
theorem dX8_look_34 : decode cX8_look 34 = .ok (.invokevirtual 126, 3) := by decide +kernel
theorem dX8_look_37 : decode cX8_look 37 = .ok (.ireturn, 1) := by decide +kernel
theorem dX8_same_0 : decode cX8_same 0 = .ok (.aload_n 0, 1) := by decide +kernel
theorem dX8_same_1 : decode cX8_same 1 = .ok (.invokevirtual 104, 3) := by decide +kernel
theorem dX8_same_4 : decode cX8_same 4 = .ok (.aload_n 0, 1) := by decide +kernel
theorem dX8_same_5 : decode cX8_same 5 = .ok (.getfield 33, 3) := by decide +kernel
theorem dX8_same_8 : decode cX8_same 8 = .ok (.aload_n 0, 1) := by decide +kernel
theorem dX8_same_9 : decode cX8_same 9 = .ok (.getfield 37, 3) := by decide +kernel
theorem dX8_same_12 : decode cX8_same 12 = .ok (.invokevirtual 132, 3) := by decide +kernel
theorem dX8_same_15 : decode cX8_same 15 = .ok (.ifCond .eq 21, 3) := by decide +kernel
theorem dX8_same_18 : decode cX8_same 18 = .ok (.aload_n 0, 1) := by decide +kernel
theorem dX8_same_19 : decode cX8_same 19 = .ok (.getfield 37, 3) := by decide +kernel
theorem dX8_same_22 : decode cX8_same 22 = .ok (.aload_n 0, 1) := by decide +kernel
theorem dX8_same_23 : decode cX8_same 23 = .ok (.getfield 33, 3) := by decide +kernel
theorem dX8_same_26 : decode cX8_same 26 = .ok (.invokevirtual 132, 3) := by decide +kernel
theorem dX8_same_29 : decode cX8_same 29 = .ok (.ifCond .eq 7, 3) := by decide +kernel
theorem dX8_same_32 : decode cX8_same 32 = .ok (.iconst 1, 1) := by decide +kernel
theorem dX8_same_33 : decode cX8_same 33 = .ok (.goto 4, 3) := by decide +kernel
theorem dX8_same_36 : decode cX8_same 36 = .ok (.iconst 0, 1) := by decide +kernel
theorem dX8_same_37 : decode cX8_same 37 = .ok (.ireturn, 1) := by decide +kernel
theorem dX8_write_0 : decode cX8_write 0 = .ok (.aload_n 0, 1) := by decide +kernel
theorem dX8_write_1 : decode cX8_write 1 = .ok (.invokevirtual 104, 3) := by decide +kernel
theorem dX8_write_4 : decode cX8_write 4 = .ok (.aload_n 0, 1) := by decide +kernel
theorem dX8_write_5 : decode cX8_write 5 = .ok (.getfield 26, 3) := by decide +kernel
theorem dX8_write_8 : decode cX8_write 8 = .ok (.aload_n 0, 1) := by decide +kernel
theorem dX8_write_9 : decode cX8_write 9 = .ok (.getfield 37, 3) := by decide +kernel
theorem dX8_write_12 : decode cX8_write 12 = .ok (.invokevirtual 136, 3) := by decide +kernel
theorem dX8_write_15 : decode cX8_write 15 = .ok (.aload_n 0, 1) := by decide +kernel
theorem dX8_write_16 : decode cX8_write 16 = .ok (.getfield 26, 3) := by decide +kernel
theorem dX8_write_19 : decode cX8_write 19 = .ok (.getfield 139, 3) := by decide +kernel
theorem dX8_write_22 : decode cX8_write 22 = .ok (.sipush 400, 3) := by decide +kernel
theorem dX8_write_25 : decode cX8_write 25 = .ok (.if_icmp .le 5, 3) := by decide +kernel
theorem dX8_write_28 : decode cX8_write 28 = .ok (.iconst (-1), 1) := by decide +kernel
theorem dX8_write_29 : decode cX8_write 29 = .ok (.ireturn, 1) := by decide +kernel
theorem dX8_write_30 : decode cX8_write 30 = .ok (.aload_n 0, 1) := by decide +kernel
theorem dX8_write_31 : decode cX8_write 31 = .ok (.getfield 10, 3) := by decide +kernel
theorem dX8_write_34 : decode cX8_write 34 = .ok (.aload_n 0, 1) := by decide +kernel
theorem dX8_write_35 : decode cX8_write 35 = .ok (.getfield 26, 3) := by decide +kernel
theorem dX8_write_38 : decode cX8_write 38 = .ok (.getfield 140, 3) := by decide +kernel
theorem dX8_write_41 : decode cX8_write 41 = .ok (.aload_n 0, 1) := by decide +kernel
theorem dX8_write_42 : decode cX8_write 42 = .ok (.getfield 26, 3) := by decide +kernel
theorem dX8_write_45 : decode cX8_write 45 = .ok (.getfield 139, 3) := by decide +kernel
theorem dX8_write_48 : decode cX8_write 48 = .ok (.invokevirtual 144, 3) := by decide +kernel
theorem dX8_write_51 : decode cX8_write 51 = .ok (.aload_n 0, 1) := by decide +kernel
theorem dX8_write_52 : decode cX8_write 52 = .ok (.getfield 10, 3) := by decide +kernel
theorem dX8_write_55 : decode cX8_write 55 = .ok (.getfield 50, 3) := by decide +kernel
theorem dX8_write_58 : decode cX8_write 58 = .ok (.ireturn, 1) := by decide +kernel
theorem dX8_taped_0 : decode cX8_taped 0 = .ok (.aload_n 0, 1) := by decide +kernel
theorem dX8_taped_1 : decode cX8_taped 1 = .ok (.getfield 10, 3) := by decide +kernel
theorem dX8_taped_4 : decode cX8_taped 4 = .ok (.iload_n 1, 1) := by decide +kernel
theorem dX8_taped_5 : decode cX8_taped 5 = .ok (.invokevirtual 147, 3) := by decide +kernel
theorem dX8_taped_8 : decode cX8_taped 8 = .ok (.ireturn, 1) := by decide +kernel
theorem dX8_ask_0 : decode cX8_ask 0 = .ok (.aload_n 0, 1) := by decide +kernel
theorem dX8_ask_1 : decode cX8_ask 1 = .ok (.invokevirtual 104, 3) := by decide +kernel
theorem dX8_ask_4 : decode cX8_ask 4 = .ok (.aload_n 0, 1) := by decide +kernel
theorem dX8_ask_5 : decode cX8_ask 5 = .ok (.iload_n 1, 1) := by decide +kernel
theorem dX8_ask_6 : decode cX8_ask 6 = .ok (.invokevirtual 113, 3) := by decide +kernel
theorem dX8_ask_9 : decode cX8_ask 9 = .ok (.iload_n 2, 1) := by decide +kernel
theorem dX8_ask_10 : decode cX8_ask 10 = .ok (.iload_n 3, 1) := by decide +kernel
theorem dX8_ask_11 : decode cX8_ask 11 = .ok (.iload 4, 2) := by decide +kernel
theorem dX8_ask_13 : decode cX8_ask 13 = .ok (.invokevirtual 149, 3) := by decide +kernel
theorem dX8_ask_16 : decode cX8_ask 16 = .ok (.ireturn, 1) := by decide +kernel
theorem dX8_days_0 : decode cX8_days 0 = .ok (.aload_n 0, 1) := by decide +kernel
theorem dX8_days_1 : decode cX8_days 1 = .ok (.invokevirtual 104, 3) := by decide +kernel
theorem dX8_days_4 : decode cX8_days 4 = .ok (.aload_n 0, 1) := by decide +kernel
theorem dX8_days_5 : decode cX8_days 5 = .ok (.getfield 37, 3) := by decide +kernel
theorem dX8_days_8 : decode cX8_days 8 = .ok (.iload_n 1, 1) := by decide +kernel
theorem dX8_days_9 : decode cX8_days 9 = .ok (.iload_n 2, 1) := by decide +kernel
theorem dX8_days_10 : decode cX8_days 10 = .ok (.iload_n 3, 1) := by decide +kernel
theorem dX8_days_11 : decode cX8_days 11 = .ok (.invokevirtual 153, 3) := by decide +kernel
theorem dX8_days_14 : decode cX8_days 14 = .ok (.ireturn, 1) := by decide +kernel
theorem dX8_count_0 : decode cX8_count 0 = .ok (.iload_n 1, 1) := by decide +kernel
theorem dX8_count_1 : decode cX8_count 1 = .ok (.tableswitch 69 0 4 #[35, 43, 51, 59, 64], 35) := by decide +kernel
theorem dX8_count_36 : decode cX8_count 36 = .ok (.aload_n 0, 1) := by decide +kernel
theorem dX8_count_37 : decode cX8_count 37 = .ok (.getfield 33, 3) := by decide +kernel
theorem dX8_count_40 : decode cX8_count 40 = .ok (.invokevirtual 83, 3) := by decide +kernel
theorem dX8_count_43 : decode cX8_count 43 = .ok (.ireturn, 1) := by decide +kernel
theorem dX8_count_44 : decode cX8_count 44 = .ok (.aload_n 0, 1) := by decide +kernel
theorem dX8_count_45 : decode cX8_count 45 = .ok (.getfield 37, 3) := by decide +kernel
theorem dX8_count_48 : decode cX8_count 48 = .ok (.invokevirtual 83, 3) := by decide +kernel
theorem dX8_count_51 : decode cX8_count 51 = .ok (.ireturn, 1) := by decide +kernel
theorem dX8_count_52 : decode cX8_count 52 = .ok (.aload_n 0, 1) := by decide +kernel
theorem dX8_count_53 : decode cX8_count 53 = .ok (.getfield 10, 3) := by decide +kernel
theorem dX8_count_56 : decode cX8_count 56 = .ok (.getfield 50, 3) := by decide +kernel
theorem dX8_count_59 : decode cX8_count 59 = .ok (.ireturn, 1) := by decide +kernel
theorem dX8_count_60 : decode cX8_count 60 = .ok (.aload_n 0, 1) := by decide +kernel
theorem dX8_count_61 : decode cX8_count 61 = .ok (.getfield 44, 3) := by decide +kernel
theorem dX8_count_64 : decode cX8_count 64 = .ok (.ireturn, 1) := by decide +kernel
theorem dX8_count_65 : decode cX8_count 65 = .ok (.aload_n 0, 1) := by decide +kernel
theorem dX8_count_66 : decode cX8_count 66 = .ok (.getfield 47, 3) := by decide +kernel
theorem dX8_count_69 : decode cX8_count 69 = .ok (.ireturn, 1) := by decide +kernel
theorem dX8_count_70 : decode cX8_count 70 = .ok (.iconst (-1), 1) := by decide +kernel
theorem dX8_count_71 : decode cX8_count 71 = .ok (.ireturn, 1) := by decide +kernel
theorem dX8_needLetter_0 : decode cX8_needLetter 0 = .ok (.aload_n 0, 1) := by decide +kernel
theorem dX8_needLetter_1 : decode cX8_needLetter 1 = .ok (.getfield 44, 3) := by decide +kernel
theorem dX8_needLetter_4 : decode cX8_needLetter 4 = .ok (.ifCond .ne 13, 3) := by decide +kernel
theorem dX8_needLetter_7 : decode cX8_needLetter 7 = .ok (.new 156, 3) := by decide +kernel
theorem dX8_needLetter_10 : decode cX8_needLetter 10 = .ok (.dup, 1) := by decide +kernel
theorem dX8_needLetter_11 : decode cX8_needLetter 11 = .ok (.ldc 158, 2) := by decide +kernel
theorem dX8_needLetter_13 : decode cX8_needLetter 13 = .ok (.invokespecial 160, 3) := by decide +kernel
theorem dX8_needLetter_16 : decode cX8_needLetter 16 = .ok (.athrow, 1) := by decide +kernel
theorem dX8_needLetter_17 : decode cX8_needLetter 17 = .ok (.return_, 1) := by decide +kernel
theorem dX8_needSentence_0 : decode cX8_needSentence 0 = .ok (.aload_n 0, 1) := by decide +kernel
theorem dX8_needSentence_1 : decode cX8_needSentence 1 = .ok (.invokevirtual 104, 3) := by decide +kernel
theorem dX8_needSentence_4 : decode cX8_needSentence 4 = .ok (.iload_n 1, 1) := by decide +kernel
theorem dX8_needSentence_5 : decode cX8_needSentence 5 = .ok (.ifCond .lt 14, 3) := by decide +kernel
theorem dX8_needSentence_8 : decode cX8_needSentence 8 = .ok (.iload_n 1, 1) := by decide +kernel
theorem dX8_needSentence_9 : decode cX8_needSentence 9 = .ok (.aload_n 0, 1) := by decide +kernel
theorem dX8_needSentence_10 : decode cX8_needSentence 10 = .ok (.getfield 37, 3) := by decide +kernel
theorem dX8_needSentence_13 : decode cX8_needSentence 13 = .ok (.invokevirtual 83, 3) := by decide +kernel
theorem dX8_needSentence_16 : decode cX8_needSentence 16 = .ok (.if_icmp .lt 13, 3) := by decide +kernel
theorem dX8_needSentence_19 : decode cX8_needSentence 19 = .ok (.new 161, 3) := by decide +kernel
theorem dX8_needSentence_22 : decode cX8_needSentence 22 = .ok (.dup, 1) := by decide +kernel
theorem dX8_needSentence_23 : decode cX8_needSentence 23 = .ok (.ldc 163, 2) := by decide +kernel
theorem dX8_needSentence_25 : decode cX8_needSentence 25 = .ok (.invokespecial 165, 3) := by decide +kernel
theorem dX8_needSentence_28 : decode cX8_needSentence 28 = .ok (.athrow, 1) := by decide +kernel
theorem dX8_needSentence_29 : decode cX8_needSentence 29 = .ok (.return_, 1) := by decide +kernel
theorem dX8_chosen_0 : decode cX8_chosen 0 = .ok (.iload_n 1, 1) := by decide +kernel
theorem dX8_chosen_1 : decode cX8_chosen 1 = .ok (.ifCond .eq 10, 3) := by decide +kernel
theorem dX8_chosen_4 : decode cX8_chosen 4 = .ok (.aload_n 0, 1) := by decide +kernel
theorem dX8_chosen_5 : decode cX8_chosen 5 = .ok (.getfield 33, 3) := by decide +kernel
theorem dX8_chosen_8 : decode cX8_chosen 8 = .ok (.goto 7, 3) := by decide +kernel
theorem dX8_chosen_11 : decode cX8_chosen 11 = .ok (.aload_n 0, 1) := by decide +kernel
theorem dX8_chosen_12 : decode cX8_chosen 12 = .ok (.getfield 37, 3) := by decide +kernel
theorem dX8_chosen_15 : decode cX8_chosen 15 = .ok (.areturn, 1) := by decide +kernel
theorem dX8_tallied_0 : decode cX8_tallied 0 = .ok (.iload_n 1, 1) := by decide +kernel
theorem dX8_tallied_1 : decode cX8_tallied 1 = .ok (.ifCond .eq 13, 3) := by decide +kernel
theorem dX8_tallied_4 : decode cX8_tallied 4 = .ok (.aload_n 0, 1) := by decide +kernel
theorem dX8_tallied_5 : decode cX8_tallied 5 = .ok (.dup, 1) := by decide +kernel
theorem dX8_tallied_6 : decode cX8_tallied 6 = .ok (.getfield 47, 3) := by decide +kernel
theorem dX8_tallied_9 : decode cX8_tallied 9 = .ok (.iconst 1, 1) := by decide +kernel
theorem dX8_tallied_10 : decode cX8_tallied 10 = .ok (.iadd, 1) := by decide +kernel
theorem dX8_tallied_11 : decode cX8_tallied 11 = .ok (.putfield 47, 3) := by decide +kernel
theorem dX8_tallied_14 : decode cX8_tallied 14 = .ok (.iload_n 1, 1) := by decide +kernel
theorem dX8_tallied_15 : decode cX8_tallied 15 = .ok (.ireturn, 1) := by decide +kernel
end
section
theorem dX9_init_0 : decode cX9_init 0 = .ok (.aload_n 0, 1) := by decide +kernel
theorem dX9_init_1 : decode cX9_init 1 = .ok (.invokespecial 1, 3) := by decide +kernel
theorem dX9_init_4 : decode cX9_init 4 = .ok (.aload_n 0, 1) := by decide +kernel
theorem dX9_init_5 : decode cX9_init 5 = .ok (.bipush 100, 2) := by decide +kernel
theorem dX9_init_7 : decode cX9_init 7 = .ok (.newarray .int, 2) := by decide +kernel
theorem dX9_init_9 : decode cX9_init 9 = .ok (.putfield 9, 3) := by decide +kernel
theorem dX9_init_12 : decode cX9_init 12 = .ok (.aload_n 0, 1) := by decide +kernel
theorem dX9_init_13 : decode cX9_init 13 = .ok (.sipush 300, 3) := by decide +kernel
theorem dX9_init_16 : decode cX9_init 16 = .ok (.newarray .int, 2) := by decide +kernel
theorem dX9_init_18 : decode cX9_init 18 = .ok (.putfield 13, 3) := by decide +kernel
theorem dX9_init_21 : decode cX9_init 21 = .ok (.aload_n 0, 1) := by decide +kernel
theorem dX9_init_22 : decode cX9_init 22 = .ok (.bipush 100, 2) := by decide +kernel
theorem dX9_init_24 : decode cX9_init 24 = .ok (.newarray .int, 2) := by decide +kernel
theorem dX9_init_26 : decode cX9_init 26 = .ok (.putfield 16, 3) := by decide +kernel
theorem dX9_init_29 : decode cX9_init 29 = .ok (.aload_n 0, 1) := by decide +kernel
theorem dX9_init_30 : decode cX9_init 30 = .ok (.bipush 100, 2) := by decide +kernel
theorem dX9_init_32 : decode cX9_init 32 = .ok (.newarray .int, 2) := by decide +kernel
theorem dX9_init_34 : decode cX9_init 34 = .ok (.putfield 19, 3) := by decide +kernel
theorem dX9_init_37 : decode cX9_init 37 = .ok (.aload_n 0, 1) := by decide +kernel
theorem dX9_init_38 : decode cX9_init 38 = .ok (.bipush 100, 2) := by decide +kernel
theorem dX9_init_40 : decode cX9_init 40 = .ok (.newarray .int, 2) := by decide +kernel
theorem dX9_init_42 : decode cX9_init 42 = .ok (.putfield 22, 3) := by decide +kernel
theorem dX9_init_45 : decode cX9_init 45 = .ok (.aload_n 0, 1) := by decide +kernel
theorem dX9_init_46 : decode cX9_init 46 = .ok (.bipush 100, 2) := by decide +kernel
theorem dX9_init_48 : decode cX9_init 48 = .ok (.newarray .boolean, 2) := by decide +kernel
theorem dX9_init_50 : decode cX9_init 50 = .ok (.putfield 25, 3) := by decide +kernel
theorem dX9_init_53 : decode cX9_init 53 = .ok (.aload_n 0, 1) := by decide +kernel
theorem dX9_init_54 : decode cX9_init 54 = .ok (.sipush 200, 3) := by decide +kernel
theorem dX9_init_57 : decode cX9_init 57 = .ok (.newarray .int, 2) := by decide +kernel
theorem dX9_init_59 : decode cX9_init 59 = .ok (.putfield 29, 3) := by decide +kernel
theorem dX9_init_62 : decode cX9_init 62 = .ok (.aload_n 0, 1) := by decide +kernel
theorem dX9_init_63 : decode cX9_init 63 = .ok (.ldc 32, 2) := by decide +kernel
theorem dX9_init_65 : decode cX9_init 65 = .ok (.newarray .int, 2) := by decide +kernel
theorem dX9_init_67 : decode cX9_init 67 = .ok (.putfield 33, 3) := by decide +kernel
theorem dX9_init_70 : decode cX9_init 70 = .ok (.aload_n 0, 1) := by decide +kernel
theorem dX9_init_71 : decode cX9_init 71 = .ok (.sipush 1400, 3) := by decide +kernel
theorem dX9_init_74 : decode cX9_init 74 = .ok (.newarray .int, 2) := by decide +kernel
theorem dX9_init_76 : decode cX9_init 76 = .ok (.putfield 36, 3) := by decide +kernel
theorem dX9_init_79 : decode cX9_init 79 = .ok (.aload_n 0, 1) := by decide +kernel
theorem dX9_init_80 : decode cX9_init 80 = .ok (.sipush 1400, 3) := by decide +kernel
theorem dX9_init_83 : decode cX9_init 83 = .ok (.newarray .int, 2) := by decide +kernel
theorem dX9_init_85 : decode cX9_init 85 = .ok (.putfield 39, 3) := by decide +kernel
theorem dX9_init_88 : decode cX9_init 88 = .ok (.aload_n 0, 1) := by decide +kernel
theorem dX9_init_89 : decode cX9_init 89 = .ok (.sipush 1400, 3) := by decide +kernel
theorem dX9_init_92 : decode cX9_init 92 = .ok (.newarray .int, 2) := by decide +kernel
theorem dX9_init_94 : decode cX9_init 94 = .ok (.putfield 42, 3) := by decide +kernel
theorem dX9_init_97 : decode cX9_init 97 = .ok (.aload_n 0, 1) := by decide +kernel
theorem dX9_init_98 : decode cX9_init 98 = .ok (.sipush 400, 3) := by decide +kernel
theorem dX9_init_101 : decode cX9_init 101 = .ok (.newarray .byte, 2) := by decide +kernel
theorem dX9_init_103 : decode cX9_init 103 = .ok (.putfield 45, 3) := by decide +kernel
theorem dX9_init_106 : decode cX9_init 106 = .ok (.aload_n 0, 1) := by decide +kernel
theorem dX9_init_107 : decode cX9_init 107 = .ok (.iconst (-1), 1) := by decide +kernel
theorem dX9_init_108 : decode cX9_init 108 = .ok (.putfield 49, 3) := by decide +kernel
theorem dX9_init_111 : decode cX9_init 111 = .ok (.aload_n 0, 1) := by decide +kernel
theorem dX9_init_112 : decode cX9_init 112 = .ok (.iconst 5, 1) := by decide +kernel
theorem dX9_init_113 : decode cX9_init 113 = .ok (.newarray .int, 2) := by decide +kernel
theorem dX9_init_115 : decode cX9_init 115 = .ok (.putfield 53, 3) := by decide +kernel
theorem dX9_init_118 : decode cX9_init 118 = .ok (.aload_n 0, 1) := by decide +kernel
theorem dX9_init_119 : decode cX9_init 119 = .ok (.sipush 9000, 3) := by decide +kernel
theorem dX9_init_122 : decode cX9_init 122 = .ok (.newarray .byte, 2) := by decide +kernel
theorem dX9_init_124 : decode cX9_init 124 = .ok (.putfield 56, 3) := by decide +kernel
theorem dX9_init_127 : decode cX9_init 127 = .ok (.return_, 1) := by decide +kernel
theorem dX9_thrown_0 : decode cX9_thrown 0 = .ok (.aload_n 0, 1) := by decide +kernel
theorem dX9_thrown_1 : decode cX9_thrown 1 = .ok (.getfield 59, 3) := by decide +kernel
theorem dX9_thrown_4 : decode cX9_thrown 4 = .ok (.ireturn, 1) := by decide +kernel
theorem dX9_throwsIf_0 : decode cX9_throwsIf 0 = .ok (.iload_n 1, 1) := by decide +kernel
theorem dX9_throwsIf_1 : decode cX9_throwsIf 1 = .ok (.ifCond .eq 8, 3) := by decide +kernel
theorem dX9_throwsIf_4 : decode cX9_throwsIf 4 = .ok (.aload_n 0, 1) := by decide +kernel
theorem dX9_throwsIf_5 : decode cX9_throwsIf 5 = .ok (.iload_n 2, 1) := by decide +kernel
theorem dX9_throwsIf_6 : decode cX9_throwsIf 6 = .ok (.putfield 59, 3) := by decide +kernel
theorem dX9_throwsIf_9 : decode cX9_throwsIf 9 = .ok (.iload_n 1, 1) := by decide +kernel
theorem dX9_throwsIf_10 : decode cX9_throwsIf 10 = .ok (.ireturn, 1) := by decide +kernel
theorem dX9_in_0 : decode cX9_in 0 = .ok (.iload_n 0, 1) := by decide +kernel
theorem dX9_in_1 : decode cX9_in 1 = .ok (.iload_n 1, 1) := by decide +kernel
theorem dX9_in_2 : decode cX9_in 2 = .ok (.if_icmp .lt 12, 3) := by decide +kernel
theorem dX9_in_5 : decode cX9_in 5 = .ok (.iload_n 0, 1) := by decide +kernel
theorem dX9_in_6 : decode cX9_in 6 = .ok (.iload_n 2, 1) := by decide +kernel
theorem dX9_in_7 : decode cX9_in 7 = .ok (.if_icmp .gt 7, 3) := by decide +kernel
theorem dX9_in_10 : decode cX9_in 10 = .ok (.iconst 1, 1) := by decide +kernel
theorem dX9_in_11 : decode cX9_in 11 = .ok (.goto 4, 3) := by decide +kernel
theorem dX9_in_14 : decode cX9_in 14 = .ok (.iconst 0, 1) := by decide +kernel
theorem dX9_in_15 : decode cX9_in 15 = .ok (.ireturn, 1) := by decide +kernel
theorem dX9_copies_0 : decode cX9_copies 0 = .ok (.aload_n 0, 1) := by decide +kernel
theorem dX9_copies_1 : decode cX9_copies 1 = .ok (.getfield 9, 3) := by decide +kernel
theorem dX9_copies_4 : decode cX9_copies 4 = .ok (.iload_n 2, 1) := by decide +kernel
theorem dX9_copies_5 : decode cX9_copies 5 = .ok (.aload_n 0, 1) := by decide +kernel
theorem dX9_copies_6 : decode cX9_copies 6 = .ok (.getfield 9, 3) := by decide +kernel
theorem dX9_copies_9 : decode cX9_copies 9 = .ok (.iload_n 1, 1) := by decide +kernel
theorem dX9_copies_10 : decode cX9_copies 10 = .ok (.iaload, 1) := by decide +kernel
theorem dX9_copies_11 : decode cX9_copies 11 = .ok (.iastore, 1) := by decide +kernel
theorem dX9_copies_12 : decode cX9_copies 12 = .ok (.iconst 0, 1) := by decide +kernel
theorem dX9_copies_13 : decode cX9_copies 13 = .ok (.istore_n 3, 1) := by decide +kernel
theorem dX9_copies_14 : decode cX9_copies 14 = .ok (.iload_n 3, 1) := by decide +kernel
theorem dX9_copies_15 : decode cX9_copies 15 = .ok (.iconst 3, 1) := by decide +kernel
theorem dX9_copies_16 : decode cX9_copies 16 = .ok (.if_icmp .ge 29, 3) := by decide +kernel
theorem dX9_copies_19 : decode cX9_copies 19 = .ok (.aload_n 0, 1) := by decide +kernel
theorem dX9_copies_20 : decode cX9_copies 20 = .ok (.getfield 13, 3) := by decide +kernel
theorem dX9_copies_23 : decode cX9_copies 23 = .ok (.iconst 3, 1) := by decide +kernel
theorem dX9_copies_24 : decode cX9_copies 24 = .ok (.iload_n 2, 1) := by decide +kernel
theorem dX9_copies_25 : decode cX9_copies 25 = .ok (.imul, 1) := by decide +kernel
theorem dX9_copies_26 : decode cX9_copies 26 = .ok (.iload_n 3, 1) := by decide +kernel
theorem dX9_copies_27 : decode cX9_copies 27 = .ok (.iadd, 1) := by decide +kernel
theorem dX9_copies_28 : decode cX9_copies 28 = .ok (.aload_n 0, 1) := by decide +kernel
theorem dX9_copies_29 : decode cX9_copies 29 = .ok (.getfield 13, 3) := by decide +kernel
theorem dX9_copies_32 : decode cX9_copies 32 = .ok (.iconst 3, 1) := by decide +kernel
theorem dX9_copies_33 : decode cX9_copies 33 = .ok (.iload_n 1, 1) := by decide +kernel
theorem dX9_copies_34 : decode cX9_copies 34 = .ok (.imul, 1) := by decide +kernel
theorem dX9_copies_35 : decode cX9_copies 35 = .ok (.iload_n 3, 1) := by decide +kernel
theorem dX9_copies_36 : decode cX9_copies 36 = .ok (.iadd, 1) := by decide +kernel
theorem dX9_copies_37 : decode cX9_copies 37 = .ok (.iaload, 1) := by decide +kernel
theorem dX9_copies_38 : decode cX9_copies 38 = .ok (.iastore, 1) := by decide +kernel
theorem dX9_copies_39 : decode cX9_copies 39 = .ok (.iinc 3 1, 3) := by decide +kernel
theorem dX9_copies_42 : decode cX9_copies 42 = .ok (.goto (-28), 3) := by decide +kernel
theorem dX9_copies_45 : decode cX9_copies 45 = .ok (.aload_n 0, 1) := by decide +kernel
theorem dX9_copies_46 : decode cX9_copies 46 = .ok (.getfield 16, 3) := by decide +kernel
theorem dX9_copies_49 : decode cX9_copies 49 = .ok (.iload_n 2, 1) := by decide +kernel
theorem dX9_copies_50 : decode cX9_copies 50 = .ok (.aload_n 0, 1) := by decide +kernel
theorem dX9_copies_51 : decode cX9_copies 51 = .ok (.getfield 16, 3) := by decide +kernel
theorem dX9_copies_54 : decode cX9_copies 54 = .ok (.iload_n 1, 1) := by decide +kernel
theorem dX9_copies_55 : decode cX9_copies 55 = .ok (.iaload, 1) := by decide +kernel
theorem dX9_copies_56 : decode cX9_copies 56 = .ok (.iastore, 1) := by decide +kernel
theorem dX9_copies_57 : decode cX9_copies 57 = .ok (.aload_n 0, 1) := by decide +kernel
theorem dX9_copies_58 : decode cX9_copies 58 = .ok (.getfield 19, 3) := by decide +kernel
theorem dX9_copies_61 : decode cX9_copies 61 = .ok (.iload_n 2, 1) := by decide +kernel
theorem dX9_copies_62 : decode cX9_copies 62 = .ok (.aload_n 0, 1) := by decide +kernel
theorem dX9_copies_63 : decode cX9_copies 63 = .ok (.getfield 19, 3) := by decide +kernel
theorem dX9_copies_66 : decode cX9_copies 66 = .ok (.iload_n 1, 1) := by decide +kernel
theorem dX9_copies_67 : decode cX9_copies 67 = .ok (.iaload, 1) := by decide +kernel
theorem dX9_copies_68 : decode cX9_copies 68 = .ok (.iastore, 1) := by decide +kernel
theorem dX9_copies_69 : decode cX9_copies 69 = .ok (.aload_n 0, 1) := by decide +kernel
theorem dX9_copies_70 : decode cX9_copies 70 = .ok (.getfield 22, 3) := by decide +kernel
theorem dX9_copies_73 : decode cX9_copies 73 = .ok (.iload_n 2, 1) := by decide +kernel
theorem dX9_copies_74 : decode cX9_copies 74 = .ok (.aload_n 0, 1) := by decide +kernel
theorem dX9_copies_75 : decode cX9_copies 75 = .ok (.getfield 22, 3) := by decide +kernel
theorem dX9_copies_78 : decode cX9_copies 78 = .ok (.iload_n 1, 1) := by decide +kernel
theorem dX9_copies_79 : decode cX9_copies 79 = .ok (.iaload, 1) := by decide +kernel
theorem dX9_copies_80 : decode cX9_copies 80 = .ok (.iastore, 1) := by decide +kernel
theorem dX9_copies_81 : decode cX9_copies 81 = .ok (.aload_n 0, 1) := by decide +kernel
theorem dX9_copies_82 : decode cX9_copies 82 = .ok (.getfield 25, 3) := by decide +kernel
theorem dX9_copies_85 : decode cX9_copies 85 = .ok (.iload_n 2, 1) := by decide +kernel
theorem dX9_copies_86 : decode cX9_copies 86 = .ok (.aload_n 0, 1) := by decide +kernel
theorem dX9_copies_87 : decode cX9_copies 87 = .ok (.getfield 25, 3) := by decide +kernel
theorem dX9_copies_90 : decode cX9_copies 90 = .ok (.iload_n 1, 1) := by decide +kernel
theorem dX9_copies_91 : decode cX9_copies 91 = .ok (.baload, 1) := by decide +kernel
theorem dX9_copies_92 : decode cX9_copies 92 = .ok (.bastore, 1) := by decide +kernel
theorem dX9_copies_93 : decode cX9_copies 93 = .ok (.iconst 0, 1) := by decide +kernel
theorem dX9_copies_94 : decode cX9_copies 94 = .ok (.istore_n 3, 1) := by decide +kernel
theorem dX9_copies_95 : decode cX9_copies 95 = .ok (.iload_n 3, 1) := by decide +kernel
theorem dX9_copies_96 : decode cX9_copies 96 = .ok (.iconst 2, 1) := by decide +kernel
theorem dX9_copies_97 : decode cX9_copies 97 = .ok (.if_icmp .ge 87, 3) := by decide +kernel
theorem dX9_copies_100 : decode cX9_copies 100 = .ok (.aload_n 0, 1) := by decide +kernel
theorem dX9_copies_101 : decode cX9_copies 101 = .ok (.getfield 29, 3) := by decide +kernel
theorem dX9_copies_104 : decode cX9_copies 104 = .ok (.iconst 2, 1) := by decide +kernel
theorem dX9_copies_105 : decode cX9_copies 105 = .ok (.iload_n 2, 1) := by decide +kernel
theorem dX9_copies_106 : decode cX9_copies 106 = .ok (.imul, 1) := by decide +kernel
theorem dX9_copies_107 : decode cX9_copies 107 = .ok (.iload_n 3, 1) := by decide +kernel
theorem dX9_copies_108 : decode cX9_copies 108 = .ok (.iadd, 1) := by decide +kernel
theorem dX9_copies_109 : decode cX9_copies 109 = .ok (.aload_n 0, 1) := by decide +kernel
theorem dX9_copies_110 : decode cX9_copies 110 = .ok (.getfield 29, 3) := by decide +kernel
theorem dX9_copies_113 : decode cX9_copies 113 = .ok (.iconst 2, 1) := by decide +kernel
theorem dX9_copies_114 : decode cX9_copies 114 = .ok (.iload_n 1, 1) := by decide +kernel
theorem dX9_copies_115 : decode cX9_copies 115 = .ok (.imul, 1) := by decide +kernel
theorem dX9_copies_116 : decode cX9_copies 116 = .ok (.iload_n 3, 1) := by decide +kernel
theorem dX9_copies_117 : decode cX9_copies 117 = .ok (.iadd, 1) := by decide +kernel
theorem dX9_copies_118 : decode cX9_copies 118 = .ok (.iaload, 1) := by decide +kernel
theorem dX9_copies_119 : decode cX9_copies 119 = .ok (.iastore, 1) := by decide +kernel
theorem dX9_copies_120 : decode cX9_copies 120 = .ok (.iconst 0, 1) := by decide +kernel
theorem dX9_copies_121 : decode cX9_copies 121 = .ok (.istore 4, 2) := by decide +kernel
theorem dX9_copies_123 : decode cX9_copies 123 = .ok (.iload 4, 2) := by decide +kernel
theorem dX9_copies_125 : decode cX9_copies 125 = .ok (.aload_n 0, 1) := by decide +kernel
theorem dX9_copies_126 : decode cX9_copies 126 = .ok (.getfield 29, 3) := by decide +kernel
theorem dX9_copies_129 : decode cX9_copies 129 = .ok (.iconst 2, 1) := by decide +kernel
theorem dX9_copies_130 : decode cX9_copies 130 = .ok (.iload_n 1, 1) := by decide +kernel
theorem dX9_copies_131 : decode cX9_copies 131 = .ok (.imul, 1) := by decide +kernel
theorem dX9_copies_132 : decode cX9_copies 132 = .ok (.iload_n 3, 1) := by decide +kernel
theorem dX9_copies_133 : decode cX9_copies 133 = .ok (.iadd, 1) := by decide +kernel
theorem dX9_copies_134 : decode cX9_copies 134 = .ok (.iaload, 1) := by decide +kernel
theorem dX9_copies_135 : decode cX9_copies 135 = .ok (.if_icmp .ge 43, 3) := by decide +kernel
theorem dX9_copies_138 : decode cX9_copies 138 = .ok (.aload_n 0, 1) := by decide +kernel
theorem dX9_copies_139 : decode cX9_copies 139 = .ok (.getfield 33, 3) := by decide +kernel
theorem dX9_copies_142 : decode cX9_copies 142 = .ok (.iconst 2, 1) := by decide +kernel
theorem dX9_copies_143 : decode cX9_copies 143 = .ok (.iload_n 2, 1) := by decide +kernel
theorem dX9_copies_144 : decode cX9_copies 144 = .ok (.imul, 1) := by decide +kernel
theorem dX9_copies_145 : decode cX9_copies 145 = .ok (.iload_n 3, 1) := by decide +kernel
theorem dX9_copies_146 : decode cX9_copies 146 = .ok (.iadd, 1) := by decide +kernel
theorem dX9_copies_147 : decode cX9_copies 147 = .ok (.sipush 420, 3) := by decide +kernel
theorem dX9_copies_150 : decode cX9_copies 150 = .ok (.imul, 1) := by decide +kernel
theorem dX9_copies_151 : decode cX9_copies 151 = .ok (.iload 4, 2) := by decide +kernel
theorem dX9_copies_153 : decode cX9_copies 153 = .ok (.iadd, 1) := by decide +kernel
theorem dX9_copies_154 : decode cX9_copies 154 = .ok (.aload_n 0, 1) := by decide +kernel
theorem dX9_copies_155 : decode cX9_copies 155 = .ok (.getfield 33, 3) := by decide +kernel
theorem dX9_copies_158 : decode cX9_copies 158 = .ok (.iconst 2, 1) := by decide +kernel
theorem dX9_copies_159 : decode cX9_copies 159 = .ok (.iload_n 1, 1) := by decide +kernel
theorem dX9_copies_160 : decode cX9_copies 160 = .ok (.imul, 1) := by decide +kernel
theorem dX9_copies_161 : decode cX9_copies 161 = .ok (.iload_n 3, 1) := by decide +kernel
theorem dX9_copies_162 : decode cX9_copies 162 = .ok (.iadd, 1) := by decide +kernel
theorem dX9_copies_163 : decode cX9_copies 163 = .ok (.sipush 420, 3) := by decide +kernel
theorem dX9_copies_166 : decode cX9_copies 166 = .ok (.imul, 1) := by decide +kernel
theorem dX9_copies_167 : decode cX9_copies 167 = .ok (.iload 4, 2) := by decide +kernel
theorem dX9_copies_169 : decode cX9_copies 169 = .ok (.iadd, 1) := by decide +kernel
theorem dX9_copies_170 : decode cX9_copies 170 = .ok (.iaload, 1) := by decide +kernel
theorem dX9_copies_171 : decode cX9_copies 171 = .ok (.iastore, 1) := by decide +kernel
theorem dX9_copies_172 : decode cX9_copies 172 = .ok (.iinc 4 1, 3) := by decide +kernel
theorem dX9_copies_175 : decode cX9_copies 175 = .ok (.goto (-52), 3) := by decide +kernel
theorem dX9_copies_178 : decode cX9_copies 178 = .ok (.iinc 3 1, 3) := by decide +kernel
theorem dX9_copies_181 : decode cX9_copies 181 = .ok (.goto (-86), 3) := by decide +kernel
theorem dX9_copies_184 : decode cX9_copies 184 = .ok (.return_, 1) := by decide +kernel
theorem dX9_place_0 : decode cX9_place 0 = .ok (.aload_n 0, 1) := by decide +kernel
theorem dX9_place_1 : decode cX9_place 1 = .ok (.getfield 36, 3) := by decide +kernel
theorem dX9_place_4 : decode cX9_place 4 = .ok (.aload_n 0, 1) := by decide +kernel
theorem dX9_place_5 : decode cX9_place 5 = .ok (.getfield 62, 3) := by decide +kernel
theorem dX9_place_8 : decode cX9_place 8 = .ok (.iload_n 1, 1) := by decide +kernel
theorem dX9_place_9 : decode cX9_place 9 = .ok (.iastore, 1) := by decide +kernel
theorem dX9_place_10 : decode cX9_place 10 = .ok (.aload_n 0, 1) := by decide +kernel
theorem dX9_place_11 : decode cX9_place 11 = .ok (.getfield 39, 3) := by decide +kernel
theorem dX9_place_14 : decode cX9_place 14 = .ok (.aload_n 0, 1) := by decide +kernel
theorem dX9_place_15 : decode cX9_place 15 = .ok (.getfield 62, 3) := by decide +kernel
theorem dX9_place_18 : decode cX9_place 18 = .ok (.iconst (-1), 1) := by decide +kernel
theorem dX9_place_19 : decode cX9_place 19 = .ok (.iastore, 1) := by decide +kernel
theorem dX9_place_20 : decode cX9_place 20 = .ok (.aload_n 0, 1) := by decide +kernel
theorem dX9_place_21 : decode cX9_place 21 = .ok (.getfield 42, 3) := by decide +kernel
theorem dX9_place_24 : decode cX9_place 24 = .ok (.aload_n 0, 1) := by decide +kernel
theorem dX9_place_25 : decode cX9_place 25 = .ok (.getfield 62, 3) := by decide +kernel
theorem dX9_place_28 : decode cX9_place 28 = .ok (.iconst (-1), 1) := by decide +kernel
theorem dX9_place_29 : decode cX9_place 29 = .ok (.iastore, 1) := by decide +kernel
theorem dX9_place_30 : decode cX9_place 30 = .ok (.aload_n 0, 1) := by decide +kernel
theorem dX9_place_31 : decode cX9_place 31 = .ok (.dup, 1) := by decide +kernel
theorem dX9_place_32 : decode cX9_place 32 = .ok (.getfield 62, 3) := by decide +kernel
theorem dX9_place_35 : decode cX9_place 35 = .ok (.iconst 1, 1) := by decide +kernel
theorem dX9_place_36 : decode cX9_place 36 = .ok (.iadd, 1) := by decide +kernel
theorem dX9_place_37 : decode cX9_place 37 = .ok (.putfield 62, 3) := by decide +kernel
theorem dX9_place_40 : decode cX9_place 40 = .ok (.aload_n 0, 1) := by decide +kernel
theorem dX9_place_41 : decode cX9_place 41 = .ok (.getfield 62, 3) := by decide +kernel
theorem dX9_place_44 : decode cX9_place 44 = .ok (.iconst 1, 1) := by decide +kernel
theorem dX9_place_45 : decode cX9_place 45 = .ok (.isub, 1) := by decide +kernel
theorem dX9_place_46 : decode cX9_place 46 = .ok (.ireturn, 1) := by decide +kernel
theorem dX9_puts_0 : decode cX9_puts 0 = .ok (.aload_n 0, 1) := by decide +kernel
theorem dX9_puts_1 : decode cX9_puts 1 = .ok (.getfield 42, 3) := by decide +kernel
theorem dX9_puts_4 : decode cX9_puts 4 = .ok (.iload_n 2, 1) := by decide +kernel
theorem dX9_puts_5 : decode cX9_puts 5 = .ok (.iconst (-1), 1) := by decide +kernel
theorem dX9_puts_6 : decode cX9_puts 6 = .ok (.iastore, 1) := by decide +kernel
theorem dX9_puts_7 : decode cX9_puts 7 = .ok (.aload_n 0, 1) := by decide +kernel
theorem dX9_puts_8 : decode cX9_puts 8 = .ok (.getfield 39, 3) := by decide +kernel
theorem dX9_puts_11 : decode cX9_puts 11 = .ok (.iload_n 1, 1) := by decide +kernel
theorem dX9_puts_12 : decode cX9_puts 12 = .ok (.iaload, 1) := by decide +kernel
theorem dX9_puts_13 : decode cX9_puts 13 = .ok (.ifCond .ge 11, 3) := by decide +kernel
theorem dX9_puts_16 : decode cX9_puts 16 = .ok (.aload_n 0, 1) := by decide +kernel
theorem dX9_puts_17 : decode cX9_puts 17 = .ok (.getfield 39, 3) := by decide +kernel
theorem dX9_puts_20 : decode cX9_puts 20 = .ok (.iload_n 1, 1) := by decide +kernel
theorem dX9_puts_21 : decode cX9_puts 21 = .ok (.iload_n 2, 1) := by decide +kernel
theorem dX9_puts_22 : decode cX9_puts 22 = .ok (.iastore, 1) := by decide +kernel
theorem dX9_puts_23 : decode cX9_puts 23 = .ok (.return_, 1) := by decide +kernel
theorem dX9_puts_24 : decode cX9_puts 24 = .ok (.aload_n 0, 1) := by decide +kernel
theorem dX9_puts_25 : decode cX9_puts 25 = .ok (.getfield 39, 3) := by decide +kernel
theorem dX9_puts_28 : decode cX9_puts 28 = .ok (.iload_n 1, 1) := by decide +kernel
theorem dX9_puts_29 : decode cX9_puts 29 = .ok (.iaload, 1) := by decide +kernel
theorem dX9_puts_30 : decode cX9_puts 30 = .ok (.istore_n 3, 1) := by decide +kernel
theorem dX9_puts_31 : decode cX9_puts 31 = .ok (.aload_n 0, 1) := by decide +kernel
theorem dX9_puts_32 : decode cX9_puts 32 = .ok (.getfield 42, 3) := by decide +kernel
theorem dX9_puts_35 : decode cX9_puts 35 = .ok (.iload_n 3, 1) := by decide +kernel
theorem dX9_puts_36 : decode cX9_puts 36 = .ok (.iaload, 1) := by decide +kernel
theorem dX9_puts_37 : decode cX9_puts 37 = .ok (.ifCond .lt 13, 3) := by decide +kernel
theorem dX9_puts_40 : decode cX9_puts 40 = .ok (.aload_n 0, 1) := by decide +kernel
theorem dX9_puts_41 : decode cX9_puts 41 = .ok (.getfield 42, 3) := by decide +kernel
theorem dX9_puts_44 : decode cX9_puts 44 = .ok (.iload_n 3, 1) := by decide +kernel
theorem dX9_puts_45 : decode cX9_puts 45 = .ok (.iaload, 1) := by decide +kernel
theorem dX9_puts_46 : decode cX9_puts 46 = .ok (.istore_n 3, 1) := by decide +kernel
theorem dX9_puts_47 : decode cX9_puts 47 = .ok (.goto (-16), 3) := by decide +kernel
theorem dX9_puts_50 : decode cX9_puts 50 = .ok (.aload_n 0, 1) := by decide +kernel
theorem dX9_puts_51 : decode cX9_puts 51 = .ok (.getfield 42, 3) := by decide +kernel
theorem dX9_puts_54 : decode cX9_puts 54 = .ok (.iload_n 3, 1) := by decide +kernel
theorem dX9_puts_55 : decode cX9_puts 55 = .ok (.iload_n 2, 1) := by decide +kernel
theorem dX9_puts_56 : decode cX9_puts 56 = .ok (.iastore, 1) := by decide +kernel
theorem dX9_puts_57 : decode cX9_puts 57 = .ok (.return_, 1) := by decide +kernel
theorem dX9_tree_0 : decode cX9_tree 0 = .ok (.aload_n 0, 1) := by decide +kernel
theorem dX9_tree_1 : decode cX9_tree 1 = .ok (.getfield 33, 3) := by decide +kernel
theorem dX9_tree_4 : decode cX9_tree 4 = .ok (.iload_n 1, 1) := by decide +kernel
theorem dX9_tree_5 : decode cX9_tree 5 = .ok (.aload_n 0, 1) := by decide +kernel
theorem dX9_tree_6 : decode cX9_tree 6 = .ok (.getfield 65, 3) := by decide +kernel
theorem dX9_tree_9 : decode cX9_tree 9 = .ok (.iadd, 1) := by decide +kernel
theorem dX9_tree_10 : decode cX9_tree 10 = .ok (.iaload, 1) := by decide +kernel
theorem dX9_tree_11 : decode cX9_tree 11 = .ok (.istore_n 2, 1) := by decide +kernel
theorem dX9_tree_12 : decode cX9_tree 12 = .ok (.aload_n 0, 1) := by decide +kernel
theorem dX9_tree_13 : decode cX9_tree 13 = .ok (.dup, 1) := by decide +kernel
theorem dX9_tree_14 : decode cX9_tree 14 = .ok (.getfield 65, 3) := by decide +kernel
theorem dX9_tree_17 : decode cX9_tree 17 = .ok (.iconst 1, 1) := by decide +kernel
theorem dX9_tree_18 : decode cX9_tree 18 = .ok (.iadd, 1) := by decide +kernel
theorem dX9_tree_19 : decode cX9_tree 19 = .ok (.putfield 65, 3) := by decide +kernel
theorem dX9_tree_22 : decode cX9_tree 22 = .ok (.aload_n 0, 1) := by decide +kernel
theorem dX9_tree_23 : decode cX9_tree 23 = .ok (.iload_n 2, 1) := by decide +kernel
theorem dX9_tree_24 : decode cX9_tree 24 = .ok (.sipush 2000, 3) := by decide +kernel
theorem dX9_tree_27 : decode cX9_tree 27 = .ok (.if_icmp .lt 9, 3) := by decide +kernel
theorem dX9_tree_30 : decode cX9_tree 30 = .ok (.sipush 2000, 3) := by decide +kernel
theorem dX9_tree_33 : decode cX9_tree 33 = .ok (.goto 17, 3) := by decide +kernel
theorem dX9_tree_36 : decode cX9_tree 36 = .ok (.iload_n 2, 1) := by decide +kernel
theorem dX9_tree_37 : decode cX9_tree 37 = .ok (.sipush 1000, 3) := by decide +kernel
theorem dX9_tree_40 : decode cX9_tree 40 = .ok (.if_icmp .lt 9, 3) := by decide +kernel
theorem dX9_tree_43 : decode cX9_tree 43 = .ok (.sipush 1000, 3) := by decide +kernel
theorem dX9_tree_46 : decode cX9_tree 46 = .ok (.goto 4, 3) := by decide +kernel
theorem dX9_tree_49 : decode cX9_tree 49 = .ok (.iload_n 2, 1) := by decide +kernel
theorem dX9_tree_50 : decode cX9_tree 50 = .ok (.invokevirtual 68, 3) := by decide +kernel
theorem dX9_tree_53 : decode cX9_tree 53 = .ok (.istore_n 3, 1) := by decide +kernel
theorem dX9_tree_54 : decode cX9_tree 54 = .ok (.iload_n 2, 1) := by decide +kernel
theorem dX9_tree_55 : decode cX9_tree 55 = .ok (.sipush 2000, 3) := by decide +kernel
theorem dX9_tree_58 : decode cX9_tree 58 = .ok (.if_icmp .lt 11, 3) := by decide +kernel
theorem dX9_tree_61 : decode cX9_tree 61 = .ok (.iload_n 2, 1) := by decide +kernel
theorem dX9_tree_62 : decode cX9_tree 62 = .ok (.sipush 2000, 3) := by decide +kernel
theorem dX9_tree_65 : decode cX9_tree 65 = .ok (.isub, 1) := by decide +kernel
theorem dX9_tree_66 : decode cX9_tree 66 = .ok (.goto 29, 3) := by decide +kernel
theorem dX9_tree_69 : decode cX9_tree 69 = .ok (.iload_n 2, 1) := by decide +kernel
theorem dX9_tree_70 : decode cX9_tree 70 = .ok (.sipush 1000, 3) := by decide +kernel
theorem dX9_tree_73 : decode cX9_tree 73 = .ok (.if_icmp .lt 11, 3) := by decide +kernel
theorem dX9_tree_76 : decode cX9_tree 76 = .ok (.iload_n 2, 1) := by decide +kernel
theorem dX9_tree_77 : decode cX9_tree 77 = .ok (.sipush 1000, 3) := by decide +kernel
theorem dX9_tree_80 : decode cX9_tree 80 = .ok (.isub, 1) := by decide +kernel
theorem dX9_tree_81 : decode cX9_tree 81 = .ok (.goto 14, 3) := by decide +kernel
theorem dX9_tree_84 : decode cX9_tree 84 = .ok (.iload_n 2, 1) := by decide +kernel
theorem dX9_tree_85 : decode cX9_tree 85 = .ok (.bipush 10, 2) := by decide +kernel
theorem dX9_tree_87 : decode cX9_tree 87 = .ok (.if_icmp .ne 7, 3) := by decide +kernel
theorem dX9_tree_90 : decode cX9_tree 90 = .ok (.iconst 1, 1) := by decide +kernel
theorem dX9_tree_91 : decode cX9_tree 91 = .ok (.goto 4, 3) := by decide +kernel
theorem dX9_tree_94 : decode cX9_tree 94 = .ok (.iconst 0, 1) := by decide +kernel
theorem dX9_tree_95 : decode cX9_tree 95 = .ok (.istore 4, 2) := by decide +kernel
theorem dX9_tree_97 : decode cX9_tree 97 = .ok (.iconst 0, 1) := by decide +kernel
theorem dX9_tree_98 : decode cX9_tree 98 = .ok (.istore 5, 2) := by decide +kernel
theorem dX9_tree_100 : decode cX9_tree 100 = .ok (.iload 5, 2) := by decide +kernel
theorem dX9_tree_102 : decode cX9_tree 102 = .ok (.iload 4, 2) := by decide +kernel
theorem dX9_tree_104 : decode cX9_tree 104 = .ok (.if_icmp .ge 19, 3) := by decide +kernel
theorem dX9_tree_107 : decode cX9_tree 107 = .ok (.aload_n 0, 1) := by decide +kernel
theorem dX9_tree_108 : decode cX9_tree 108 = .ok (.iload_n 3, 1) := by decide +kernel
theorem dX9_tree_109 : decode cX9_tree 109 = .ok (.aload_n 0, 1) := by decide +kernel
theorem dX9_tree_110 : decode cX9_tree 110 = .ok (.iload_n 1, 1) := by decide +kernel
theorem dX9_tree_111 : decode cX9_tree 111 = .ok (.invokevirtual 72, 3) := by decide +kernel
theorem dX9_tree_114 : decode cX9_tree 114 = .ok (.invokevirtual 75, 3) := by decide +kernel
theorem dX9_tree_117 : decode cX9_tree 117 = .ok (.iinc 5 1, 3) := by decide +kernel
theorem dX9_tree_120 : decode cX9_tree 120 = .ok (.goto (-20), 3) := by decide +kernel
theorem dX9_tree_123 : decode cX9_tree 123 = .ok (.iload_n 3, 1) := by decide +kernel
theorem dX9_tree_124 : decode cX9_tree 124 = .ok (.ireturn, 1) := by decide +kernel
theorem dX9_eased_0 : decode cX9_eased 0 = .ok (.aload_n 0, 1) := by decide +kernel
theorem dX9_eased_1 : decode cX9_eased 1 = .ok (.getfield 36, 3) := by decide +kernel
theorem dX9_eased_4 : decode cX9_eased 4 = .ok (.iload_n 1, 1) := by decide +kernel
theorem dX9_eased_5 : decode cX9_eased 5 = .ok (.iaload, 1) := by decide +kernel
theorem dX9_eased_6 : decode cX9_eased 6 = .ok (.bipush 10, 2) := by decide +kernel
theorem dX9_eased_8 : decode cX9_eased 8 = .ok (.if_icmp .ne 35, 3) := by decide +kernel
theorem dX9_eased_11 : decode cX9_eased 11 = .ok (.aload_n 0, 1) := by decide +kernel
theorem dX9_eased_12 : decode cX9_eased 12 = .ok (.getfield 36, 3) := by decide +kernel
theorem dX9_eased_15 : decode cX9_eased 15 = .ok (.aload_n 0, 1) := by decide +kernel
theorem dX9_eased_16 : decode cX9_eased 16 = .ok (.getfield 39, 3) := by decide +kernel
theorem dX9_eased_19 : decode cX9_eased 19 = .ok (.iload_n 1, 1) := by decide +kernel
theorem dX9_eased_20 : decode cX9_eased 20 = .ok (.iaload, 1) := by decide +kernel
theorem dX9_eased_21 : decode cX9_eased 21 = .ok (.iaload, 1) := by decide +kernel
theorem dX9_eased_22 : decode cX9_eased 22 = .ok (.bipush 10, 2) := by decide +kernel
theorem dX9_eased_24 : decode cX9_eased 24 = .ok (.if_icmp .ne 19, 3) := by decide +kernel
theorem dX9_eased_27 : decode cX9_eased 27 = .ok (.aload_n 0, 1) := by decide +kernel
theorem dX9_eased_28 : decode cX9_eased 28 = .ok (.aload_n 0, 1) := by decide +kernel
theorem dX9_eased_29 : decode cX9_eased 29 = .ok (.getfield 39, 3) := by decide +kernel
theorem dX9_eased_32 : decode cX9_eased 32 = .ok (.aload_n 0, 1) := by decide +kernel
theorem dX9_eased_33 : decode cX9_eased 33 = .ok (.getfield 39, 3) := by decide +kernel
theorem dX9_eased_36 : decode cX9_eased 36 = .ok (.iload_n 1, 1) := by decide +kernel
theorem dX9_eased_37 : decode cX9_eased 37 = .ok (.iaload, 1) := by decide +kernel
theorem dX9_eased_38 : decode cX9_eased 38 = .ok (.iaload, 1) := by decide +kernel
theorem dX9_eased_39 : decode cX9_eased 39 = .ok (.invokevirtual 79, 3) := by decide +kernel
theorem dX9_eased_42 : decode cX9_eased 42 = .ok (.ireturn, 1) := by decide +kernel
theorem dX9_eased_43 : decode cX9_eased 43 = .ok (.aload_n 0, 1) := by decide +kernel
theorem dX9_eased_44 : decode cX9_eased 44 = .ok (.getfield 39, 3) := by decide +kernel
theorem dX9_eased_47 : decode cX9_eased 47 = .ok (.iload_n 1, 1) := by decide +kernel
theorem dX9_eased_48 : decode cX9_eased 48 = .ok (.iaload, 1) := by decide +kernel
theorem dX9_eased_49 : decode cX9_eased 49 = .ok (.istore_n 2, 1) := by decide +kernel
theorem dX9_eased_50 : decode cX9_eased 50 = .ok (.aload_n 0, 1) := by decide +kernel
theorem dX9_eased_51 : decode cX9_eased 51 = .ok (.getfield 39, 3) := by decide +kernel
theorem dX9_eased_54 : decode cX9_eased 54 = .ok (.iload_n 1, 1) := by decide +kernel
theorem dX9_eased_55 : decode cX9_eased 55 = .ok (.iconst (-1), 1) := by decide +kernel
theorem dX9_eased_56 : decode cX9_eased 56 = .ok (.iastore, 1) := by decide +kernel
theorem dX9_eased_57 : decode cX9_eased 57 = .ok (.iload_n 2, 1) := by decide +kernel
theorem dX9_eased_58 : decode cX9_eased 58 = .ok (.ifCond .lt 25, 3) := by decide +kernel
theorem dX9_eased_61 : decode cX9_eased 61 = .ok (.aload_n 0, 1) := by decide +kernel
theorem dX9_eased_62 : decode cX9_eased 62 = .ok (.getfield 42, 3) := by decide +kernel
theorem dX9_eased_65 : decode cX9_eased 65 = .ok (.iload_n 2, 1) := by decide +kernel
theorem dX9_eased_66 : decode cX9_eased 66 = .ok (.iaload, 1) := by decide +kernel
theorem dX9_eased_67 : decode cX9_eased 67 = .ok (.istore_n 3, 1) := by decide +kernel
theorem dX9_eased_68 : decode cX9_eased 68 = .ok (.aload_n 0, 1) := by decide +kernel
theorem dX9_eased_69 : decode cX9_eased 69 = .ok (.iload_n 1, 1) := by decide +kernel
theorem dX9_eased_70 : decode cX9_eased 70 = .ok (.aload_n 0, 1) := by decide +kernel
theorem dX9_eased_71 : decode cX9_eased 71 = .ok (.iload_n 2, 1) := by decide +kernel
theorem dX9_eased_72 : decode cX9_eased 72 = .ok (.invokevirtual 79, 3) := by decide +kernel
theorem dX9_eased_75 : decode cX9_eased 75 = .ok (.invokevirtual 75, 3) := by decide +kernel
theorem dX9_eased_78 : decode cX9_eased 78 = .ok (.iload_n 3, 1) := by decide +kernel
theorem dX9_eased_79 : decode cX9_eased 79 = .ok (.istore_n 2, 1) := by decide +kernel
theorem dX9_eased_80 : decode cX9_eased 80 = .ok (.goto (-23), 3) := by decide +kernel
theorem dX9_eased_83 : decode cX9_eased 83 = .ok (.iload_n 1, 1) := by decide +kernel
theorem dX9_eased_84 : decode cX9_eased 84 = .ok (.ireturn, 1) := by decide +kernel
theorem dX9_size_0 : decode cX9_size 0 = .ok (.aload_n 0, 1) := by decide +kernel
theorem dX9_size_1 : decode cX9_size 1 = .ok (.getfield 36, 3) := by decide +kernel
theorem dX9_size_4 : decode cX9_size 4 = .ok (.iload_n 1, 1) := by decide +kernel
theorem dX9_size_5 : decode cX9_size 5 = .ok (.iaload, 1) := by decide +kernel
theorem dX9_size_6 : decode cX9_size 6 = .ok (.iload_n 2, 1) := by decide +kernel
theorem dX9_size_7 : decode cX9_size 7 = .ok (.if_icmp .eq 5, 3) := by decide +kernel
theorem dX9_size_10 : decode cX9_size 10 = .ok (.iconst 1, 1) := by decide +kernel
theorem dX9_size_11 : decode cX9_size 11 = .ok (.ireturn, 1) := by decide +kernel
theorem dX9_size_12 : decode cX9_size 12 = .ok (.iconst 0, 1) := by decide +kernel
theorem dX9_size_13 : decode cX9_size 13 = .ok (.istore_n 3, 1) := by decide +kernel
theorem dX9_size_14 : decode cX9_size 14 = .ok (.aload_n 0, 1) := by decide +kernel
theorem dX9_size_15 : decode cX9_size 15 = .ok (.getfield 39, 3) := by decide +kernel
theorem dX9_size_18 : decode cX9_size 18 = .ok (.iload_n 1, 1) := by decide +kernel
theorem dX9_size_19 : decode cX9_size 19 = .ok (.iaload, 1) := by decide +kernel
theorem dX9_size_20 : decode cX9_size 20 = .ok (.istore 4, 2) := by decide +kernel
theorem dX9_size_22 : decode cX9_size 22 = .ok (.iload 4, 2) := by decide +kernel
theorem dX9_size_24 : decode cX9_size 24 = .ok (.ifCond .lt 25, 3) := by decide +kernel
theorem dX9_size_27 : decode cX9_size 27 = .ok (.iload_n 3, 1) := by decide +kernel
theorem dX9_size_28 : decode cX9_size 28 = .ok (.aload_n 0, 1) := by decide +kernel
theorem dX9_size_29 : decode cX9_size 29 = .ok (.iload 4, 2) := by decide +kernel
theorem dX9_size_31 : decode cX9_size 31 = .ok (.iload_n 2, 1) := by decide +kernel
theorem dX9_size_32 : decode cX9_size 32 = .ok (.invokevirtual 82, 3) := by decide +kernel
theorem dX9_size_35 : decode cX9_size 35 = .ok (.iadd, 1) := by decide +kernel
theorem dX9_size_36 : decode cX9_size 36 = .ok (.istore_n 3, 1) := by decide +kernel
theorem dX9_size_37 : decode cX9_size 37 = .ok (.aload_n 0, 1) := by decide +kernel
theorem dX9_size_38 : decode cX9_size 38 = .ok (.getfield 42, 3) := by decide +kernel
theorem dX9_size_41 : decode cX9_size 41 = .ok (.iload 4, 2) := by decide +kernel
theorem dX9_size_43 : decode cX9_size 43 = .ok (.iaload, 1) := by decide +kernel
theorem dX9_size_44 : decode cX9_size 44 = .ok (.istore 4, 2) := by decide +kernel
theorem dX9_size_46 : decode cX9_size 46 = .ok (.goto (-24), 3) := by decide +kernel
theorem dX9_size_49 : decode cX9_size 49 = .ok (.iload_n 3, 1) := by decide +kernel
theorem dX9_size_50 : decode cX9_size 50 = .ok (.ireturn, 1) := by decide +kernel
theorem dX9_lays_0 : decode cX9_lays 0 = .ok (.aload_n 0, 1) := by decide +kernel
theorem dX9_lays_1 : decode cX9_lays 1 = .ok (.getfield 36, 3) := by decide +kernel
theorem dX9_lays_4 : decode cX9_lays 4 = .ok (.iload_n 1, 1) := by decide +kernel
theorem dX9_lays_5 : decode cX9_lays 5 = .ok (.iaload, 1) := by decide +kernel
theorem dX9_lays_6 : decode cX9_lays 6 = .ok (.bipush 10, 2) := by decide +kernel
theorem dX9_lays_8 : decode cX9_lays 8 = .ok (.if_icmp .ge 31, 3) := by decide +kernel
theorem dX9_lays_11 : decode cX9_lays 11 = .ok (.aload_n 0, 1) := by decide +kernel
theorem dX9_lays_12 : decode cX9_lays 12 = .ok (.getfield 33, 3) := by decide +kernel
theorem dX9_lays_15 : decode cX9_lays 15 = .ok (.iload_n 2, 1) := by decide +kernel
theorem dX9_lays_16 : decode cX9_lays 16 = .ok (.aload_n 0, 1) := by decide +kernel
theorem dX9_lays_17 : decode cX9_lays 17 = .ok (.getfield 86, 3) := by decide +kernel
theorem dX9_lays_20 : decode cX9_lays 20 = .ok (.iadd, 1) := by decide +kernel
theorem dX9_lays_21 : decode cX9_lays 21 = .ok (.aload_n 0, 1) := by decide +kernel
theorem dX9_lays_22 : decode cX9_lays 22 = .ok (.getfield 36, 3) := by decide +kernel
theorem dX9_lays_25 : decode cX9_lays 25 = .ok (.iload_n 1, 1) := by decide +kernel
theorem dX9_lays_26 : decode cX9_lays 26 = .ok (.iaload, 1) := by decide +kernel
theorem dX9_lays_27 : decode cX9_lays 27 = .ok (.iastore, 1) := by decide +kernel
theorem dX9_lays_28 : decode cX9_lays 28 = .ok (.aload_n 0, 1) := by decide +kernel
theorem dX9_lays_29 : decode cX9_lays 29 = .ok (.dup, 1) := by decide +kernel
theorem dX9_lays_30 : decode cX9_lays 30 = .ok (.getfield 86, 3) := by decide +kernel
theorem dX9_lays_33 : decode cX9_lays 33 = .ok (.iconst 1, 1) := by decide +kernel
theorem dX9_lays_34 : decode cX9_lays 34 = .ok (.iadd, 1) := by decide +kernel
theorem dX9_lays_35 : decode cX9_lays 35 = .ok (.putfield 86, 3) := by decide +kernel
theorem dX9_lays_38 : decode cX9_lays 38 = .ok (.return_, 1) := by decide +kernel
theorem dX9_lays_39 : decode cX9_lays 39 = .ok (.aload_n 0, 1) := by decide +kernel
theorem dX9_lays_40 : decode cX9_lays 40 = .ok (.getfield 36, 3) := by decide +kernel
theorem dX9_lays_43 : decode cX9_lays 43 = .ok (.iload_n 1, 1) := by decide +kernel
theorem dX9_lays_44 : decode cX9_lays 44 = .ok (.iaload, 1) := by decide +kernel
theorem dX9_lays_45 : decode cX9_lays 45 = .ok (.bipush 10, 2) := by decide +kernel
theorem dX9_lays_47 : decode cX9_lays 47 = .ok (.if_icmp .ne 38, 3) := by decide +kernel
theorem dX9_lays_50 : decode cX9_lays 50 = .ok (.aload_n 0, 1) := by decide +kernel
theorem dX9_lays_51 : decode cX9_lays 51 = .ok (.getfield 33, 3) := by decide +kernel
theorem dX9_lays_54 : decode cX9_lays 54 = .ok (.iload_n 2, 1) := by decide +kernel
theorem dX9_lays_55 : decode cX9_lays 55 = .ok (.aload_n 0, 1) := by decide +kernel
theorem dX9_lays_56 : decode cX9_lays 56 = .ok (.getfield 86, 3) := by decide +kernel
theorem dX9_lays_59 : decode cX9_lays 59 = .ok (.iadd, 1) := by decide +kernel
theorem dX9_lays_60 : decode cX9_lays 60 = .ok (.bipush 10, 2) := by decide +kernel
theorem dX9_lays_62 : decode cX9_lays 62 = .ok (.iastore, 1) := by decide +kernel
theorem dX9_lays_63 : decode cX9_lays 63 = .ok (.aload_n 0, 1) := by decide +kernel
theorem dX9_lays_64 : decode cX9_lays 64 = .ok (.dup, 1) := by decide +kernel
theorem dX9_lays_65 : decode cX9_lays 65 = .ok (.getfield 86, 3) := by decide +kernel
theorem dX9_lays_68 : decode cX9_lays 68 = .ok (.iconst 1, 1) := by decide +kernel
theorem dX9_lays_69 : decode cX9_lays 69 = .ok (.iadd, 1) := by decide +kernel
theorem dX9_lays_70 : decode cX9_lays 70 = .ok (.putfield 86, 3) := by decide +kernel
theorem dX9_lays_73 : decode cX9_lays 73 = .ok (.aload_n 0, 1) := by decide +kernel
theorem dX9_lays_74 : decode cX9_lays 74 = .ok (.aload_n 0, 1) := by decide +kernel
theorem dX9_lays_75 : decode cX9_lays 75 = .ok (.getfield 39, 3) := by decide +kernel
theorem dX9_lays_78 : decode cX9_lays 78 = .ok (.iload_n 1, 1) := by decide +kernel
theorem dX9_lays_79 : decode cX9_lays 79 = .ok (.iaload, 1) := by decide +kernel
theorem dX9_lays_80 : decode cX9_lays 80 = .ok (.iload_n 2, 1) := by decide +kernel
theorem dX9_lays_81 : decode cX9_lays 81 = .ok (.invokevirtual 89, 3) := by decide +kernel
theorem dX9_lays_84 : decode cX9_lays 84 = .ok (.return_, 1) := by decide +kernel
theorem dX9_lays_85 : decode cX9_lays 85 = .ok (.aload_n 0, 1) := by decide +kernel
theorem dX9_lays_86 : decode cX9_lays 86 = .ok (.getfield 33, 3) := by decide +kernel
theorem dX9_lays_89 : decode cX9_lays 89 = .ok (.iload_n 2, 1) := by decide +kernel
theorem dX9_lays_90 : decode cX9_lays 90 = .ok (.aload_n 0, 1) := by decide +kernel
theorem dX9_lays_91 : decode cX9_lays 91 = .ok (.getfield 86, 3) := by decide +kernel
theorem dX9_lays_94 : decode cX9_lays 94 = .ok (.iadd, 1) := by decide +kernel
theorem dX9_lays_95 : decode cX9_lays 95 = .ok (.aload_n 0, 1) := by decide +kernel
theorem dX9_lays_96 : decode cX9_lays 96 = .ok (.getfield 36, 3) := by decide +kernel
theorem dX9_lays_99 : decode cX9_lays 99 = .ok (.iload_n 1, 1) := by decide +kernel
theorem dX9_lays_100 : decode cX9_lays 100 = .ok (.iaload, 1) := by decide +kernel
theorem dX9_lays_101 : decode cX9_lays 101 = .ok (.aload_n 0, 1) := by decide +kernel
theorem dX9_lays_102 : decode cX9_lays 102 = .ok (.iload_n 1, 1) := by decide +kernel
theorem dX9_lays_103 : decode cX9_lays 103 = .ok (.aload_n 0, 1) := by decide +kernel
theorem dX9_lays_104 : decode cX9_lays 104 = .ok (.getfield 36, 3) := by decide +kernel
theorem dX9_lays_107 : decode cX9_lays 107 = .ok (.iload_n 1, 1) := by decide +kernel
theorem dX9_lays_108 : decode cX9_lays 108 = .ok (.iaload, 1) := by decide +kernel
theorem dX9_lays_109 : decode cX9_lays 109 = .ok (.invokevirtual 82, 3) := by decide +kernel
theorem dX9_lays_112 : decode cX9_lays 112 = .ok (.iadd, 1) := by decide +kernel
theorem dX9_lays_113 : decode cX9_lays 113 = .ok (.iastore, 1) := by decide +kernel
theorem dX9_lays_114 : decode cX9_lays 114 = .ok (.aload_n 0, 1) := by decide +kernel
theorem dX9_lays_115 : decode cX9_lays 115 = .ok (.dup, 1) := by decide +kernel
theorem dX9_lays_116 : decode cX9_lays 116 = .ok (.getfield 86, 3) := by decide +kernel
theorem dX9_lays_119 : decode cX9_lays 119 = .ok (.iconst 1, 1) := by decide +kernel
theorem dX9_lays_120 : decode cX9_lays 120 = .ok (.iadd, 1) := by decide +kernel
theorem dX9_lays_121 : decode cX9_lays 121 = .ok (.putfield 86, 3) := by decide +kernel
theorem dX9_lays_124 : decode cX9_lays 124 = .ok (.aload_n 0, 1) := by decide +kernel
theorem dX9_lays_125 : decode cX9_lays 125 = .ok (.iload_n 1, 1) := by decide +kernel
theorem dX9_lays_126 : decode cX9_lays 126 = .ok (.aload_n 0, 1) := by decide +kernel
theorem dX9_lays_127 : decode cX9_lays 127 = .ok (.getfield 36, 3) := by decide +kernel
theorem dX9_lays_130 : decode cX9_lays 130 = .ok (.iload_n 1, 1) := by decide +kernel
theorem dX9_lays_131 : decode cX9_lays 131 = .ok (.iaload, 1) := by decide +kernel
theorem dX9_lays_132 : decode cX9_lays 132 = .ok (.iload_n 2, 1) := by decide +kernel
theorem dX9_lays_133 : decode cX9_lays 133 = .ok (.invokevirtual 92, 3) := by decide +kernel
theorem dX9_lays_136 : decode cX9_lays 136 = .ok (.return_, 1) := by decide +kernel
theorem dX9_laysThose_0 : decode cX9_laysThose 0 = .ok (.aload_n 0, 1) := by decide +kernel
theorem dX9_laysThose_1 : decode cX9_laysThose 1 = .ok (.getfield 39, 3) := by decide +kernel
theorem dX9_laysThose_4 : decode cX9_laysThose 4 = .ok (.iload_n 1, 1) := by decide +kernel
theorem dX9_laysThose_5 : decode cX9_laysThose 5 = .ok (.iaload, 1) := by decide +kernel
theorem dX9_laysThose_6 : decode cX9_laysThose 6 = .ok (.istore 4, 2) := by decide +kernel
theorem dX9_laysThose_8 : decode cX9_laysThose 8 = .ok (.iload 4, 2) := by decide +kernel
theorem dX9_laysThose_10 : decode cX9_laysThose 10 = .ok (.ifCond .lt 44, 3) := by decide +kernel
theorem dX9_laysThose_13 : decode cX9_laysThose 13 = .ok (.aload_n 0, 1) := by decide +kernel
theorem dX9_laysThose_14 : decode cX9_laysThose 14 = .ok (.getfield 36, 3) := by decide +kernel
theorem dX9_laysThose_17 : decode cX9_laysThose 17 = .ok (.iload 4, 2) := by decide +kernel
theorem dX9_laysThose_19 : decode cX9_laysThose 19 = .ok (.iaload, 1) := by decide +kernel
theorem dX9_laysThose_20 : decode cX9_laysThose 20 = .ok (.iload_n 2, 1) := by decide +kernel
theorem dX9_laysThose_21 : decode cX9_laysThose 21 = .ok (.if_icmp .ne 14, 3) := by decide +kernel
theorem dX9_laysThose_24 : decode cX9_laysThose 24 = .ok (.aload_n 0, 1) := by decide +kernel
theorem dX9_laysThose_25 : decode cX9_laysThose 25 = .ok (.iload 4, 2) := by decide +kernel
theorem dX9_laysThose_27 : decode cX9_laysThose 27 = .ok (.iload_n 2, 1) := by decide +kernel
theorem dX9_laysThose_28 : decode cX9_laysThose 28 = .ok (.iload_n 3, 1) := by decide +kernel
theorem dX9_laysThose_29 : decode cX9_laysThose 29 = .ok (.invokevirtual 92, 3) := by decide +kernel
theorem dX9_laysThose_32 : decode cX9_laysThose 32 = .ok (.goto 10, 3) := by decide +kernel
theorem dX9_laysThose_35 : decode cX9_laysThose 35 = .ok (.aload_n 0, 1) := by decide +kernel
theorem dX9_laysThose_36 : decode cX9_laysThose 36 = .ok (.iload 4, 2) := by decide +kernel
theorem dX9_laysThose_38 : decode cX9_laysThose 38 = .ok (.iload_n 3, 1) := by decide +kernel
theorem dX9_laysThose_39 : decode cX9_laysThose 39 = .ok (.invokevirtual 89, 3) := by decide +kernel
theorem dX9_laysThose_42 : decode cX9_laysThose 42 = .ok (.aload_n 0, 1) := by decide +kernel
theorem dX9_laysThose_43 : decode cX9_laysThose 43 = .ok (.getfield 42, 3) := by decide +kernel
theorem dX9_laysThose_46 : decode cX9_laysThose 46 = .ok (.iload 4, 2) := by decide +kernel
theorem dX9_laysThose_48 : decode cX9_laysThose 48 = .ok (.iaload, 1) := by decide +kernel
theorem dX9_laysThose_49 : decode cX9_laysThose 49 = .ok (.istore 4, 2) := by decide +kernel
theorem dX9_laysThose_51 : decode cX9_laysThose 51 = .ok (.goto (-43), 3) := by decide +kernel
theorem dX9_laysThose_54 : decode cX9_laysThose 54 = .ok (.return_, 1) := by decide +kernel
theorem dX9_laysAll_0 : decode cX9_laysAll 0 = .ok (.aload_n 0, 1) := by decide +kernel
theorem dX9_laysAll_1 : decode cX9_laysAll 1 = .ok (.iconst 0, 1) := by decide +kernel
theorem dX9_laysAll_2 : decode cX9_laysAll 2 = .ok (.putfield 86, 3) := by decide +kernel
theorem dX9_laysAll_5 : decode cX9_laysAll 5 = .ok (.aload_n 0, 1) := by decide +kernel
theorem dX9_laysAll_6 : decode cX9_laysAll 6 = .ok (.iload_n 1, 1) := by decide +kernel
theorem dX9_laysAll_7 : decode cX9_laysAll 7 = .ok (.iload_n 2, 1) := by decide +kernel
theorem dX9_laysAll_8 : decode cX9_laysAll 8 = .ok (.sipush 420, 3) := by decide +kernel
theorem dX9_laysAll_11 : decode cX9_laysAll 11 = .ok (.imul, 1) := by decide +kernel
theorem dX9_laysAll_12 : decode cX9_laysAll 12 = .ok (.invokevirtual 89, 3) := by decide +kernel
theorem dX9_laysAll_15 : decode cX9_laysAll 15 = .ok (.aload_n 0, 1) := by decide +kernel
theorem dX9_laysAll_16 : decode cX9_laysAll 16 = .ok (.getfield 29, 3) := by decide +kernel
theorem dX9_laysAll_19 : decode cX9_laysAll 19 = .ok (.iload_n 2, 1) := by decide +kernel
theorem dX9_laysAll_20 : decode cX9_laysAll 20 = .ok (.aload_n 0, 1) := by decide +kernel
theorem dX9_laysAll_21 : decode cX9_laysAll 21 = .ok (.getfield 86, 3) := by decide +kernel
theorem dX9_laysAll_24 : decode cX9_laysAll 24 = .ok (.iastore, 1) := by decide +kernel
theorem dX9_laysAll_25 : decode cX9_laysAll 25 = .ok (.return_, 1) := by decide +kernel
theorem dX9_treeOf_0 : decode cX9_treeOf 0 = .ok (.aload_n 0, 1) := by decide +kernel
theorem dX9_treeOf_1 : decode cX9_treeOf 1 = .ok (.iconst 0, 1) := by decide +kernel
theorem dX9_treeOf_2 : decode cX9_treeOf 2 = .ok (.putfield 65, 3) := by decide +kernel
theorem dX9_treeOf_5 : decode cX9_treeOf 5 = .ok (.aload_n 0, 1) := by decide +kernel
theorem dX9_treeOf_6 : decode cX9_treeOf 6 = .ok (.iload_n 1, 1) := by decide +kernel
theorem dX9_treeOf_7 : decode cX9_treeOf 7 = .ok (.sipush 420, 3) := by decide +kernel
theorem dX9_treeOf_10 : decode cX9_treeOf 10 = .ok (.imul, 1) := by decide +kernel
theorem dX9_treeOf_11 : decode cX9_treeOf 11 = .ok (.invokevirtual 72, 3) := by decide +kernel
theorem dX9_treeOf_14 : decode cX9_treeOf 14 = .ok (.ireturn, 1) := by decide +kernel
theorem dX9_feed_0 : decode cX9_feed 0 = .ok (.aload_n 0, 1) := by decide +kernel
theorem dX9_feed_1 : decode cX9_feed 1 = .ok (.iconst 0, 1) := by decide +kernel
theorem dX9_feed_2 : decode cX9_feed 2 = .ok (.putfield 59, 3) := by decide +kernel
theorem dX9_feed_5 : decode cX9_feed 5 = .ok (.aload_n 0, 1) := by decide +kernel
theorem dX9_feed_6 : decode cX9_feed 6 = .ok (.getfield 96, 3) := by decide +kernel
theorem dX9_feed_9 : decode cX9_feed 9 = .ok (.bipush 20, 2) := by decide +kernel
theorem dX9_feed_11 : decode cX9_feed 11 = .ok (.iadd, 1) := by decide +kernel
theorem dX9_feed_12 : decode cX9_feed 12 = .ok (.sipush 400, 3) := by decide +kernel
theorem dX9_feed_15 : decode cX9_feed 15 = .ok (.if_icmp .le 5, 3) := by decide +kernel
theorem dX9_feed_18 : decode cX9_feed 18 = .ok (.iconst (-1), 1) := by decide +kernel
theorem dX9_feed_19 : decode cX9_feed 19 = .ok (.ireturn, 1) := by decide +kernel
theorem dX9_feed_20 : decode cX9_feed 20 = .ok (.aload_n 0, 1) := by decide +kernel
theorem dX9_feed_21 : decode cX9_feed 21 = .ok (.getfield 53, 3) := by decide +kernel
theorem dX9_feed_24 : decode cX9_feed 24 = .ok (.iconst 0, 1) := by decide +kernel
theorem dX9_feed_25 : decode cX9_feed 25 = .ok (.iload_n 1, 1) := by decide +kernel
theorem dX9_feed_26 : decode cX9_feed 26 = .ok (.iastore, 1) := by decide +kernel
theorem dX9_feed_27 : decode cX9_feed 27 = .ok (.aload_n 0, 1) := by decide +kernel
theorem dX9_feed_28 : decode cX9_feed 28 = .ok (.getfield 53, 3) := by decide +kernel
theorem dX9_feed_31 : decode cX9_feed 31 = .ok (.iconst 1, 1) := by decide +kernel
theorem dX9_feed_32 : decode cX9_feed 32 = .ok (.iload_n 2, 1) := by decide +kernel
theorem dX9_feed_33 : decode cX9_feed 33 = .ok (.iastore, 1) := by decide +kernel
theorem dX9_feed_34 : decode cX9_feed 34 = .ok (.aload_n 0, 1) := by decide +kernel
theorem dX9_feed_35 : decode cX9_feed 35 = .ok (.getfield 53, 3) := by decide +kernel
theorem dX9_feed_38 : decode cX9_feed 38 = .ok (.iconst 2, 1) := by decide +kernel
theorem dX9_feed_39 : decode cX9_feed 39 = .ok (.iload_n 3, 1) := by decide +kernel
theorem dX9_feed_40 : decode cX9_feed 40 = .ok (.iastore, 1) := by decide +kernel
theorem dX9_feed_41 : decode cX9_feed 41 = .ok (.aload_n 0, 1) := by decide +kernel
theorem dX9_feed_42 : decode cX9_feed 42 = .ok (.getfield 53, 3) := by decide +kernel
theorem dX9_feed_45 : decode cX9_feed 45 = .ok (.iconst 3, 1) := by decide +kernel
theorem dX9_feed_46 : decode cX9_feed 46 = .ok (.iload 4, 2) := by decide +kernel
theorem dX9_feed_48 : decode cX9_feed 48 = .ok (.iastore, 1) := by decide +kernel
theorem dX9_feed_49 : decode cX9_feed 49 = .ok (.aload_n 0, 1) := by decide +kernel
theorem dX9_feed_50 : decode cX9_feed 50 = .ok (.getfield 53, 3) := by decide +kernel
theorem dX9_feed_53 : decode cX9_feed 53 = .ok (.iconst 4, 1) := by decide +kernel
theorem dX9_feed_54 : decode cX9_feed 54 = .ok (.iload 5, 2) := by decide +kernel
theorem dX9_feed_56 : decode cX9_feed 56 = .ok (.iastore, 1) := by decide +kernel
theorem dX9_feed_57 : decode cX9_feed 57 = .ok (.iconst 0, 1) := by decide +kernel
theorem dX9_feed_58 : decode cX9_feed 58 = .ok (.istore 6, 2) := by decide +kernel
theorem dX9_feed_60 : decode cX9_feed 60 = .ok (.iload 6, 2) := by decide +kernel
theorem dX9_feed_62 : decode cX9_feed 62 = .ok (.bipush 20, 2) := by decide +kernel
theorem dX9_feed_64 : decode cX9_feed 64 = .ok (.if_icmp .ge 42, 3) := by decide +kernel
theorem dX9_feed_67 : decode cX9_feed 67 = .ok (.aload_n 0, 1) := by decide +kernel
theorem dX9_feed_68 : decode cX9_feed 68 = .ok (.getfield 45, 3) := by decide +kernel
theorem dX9_feed_71 : decode cX9_feed 71 = .ok (.aload_n 0, 1) := by decide +kernel
theorem dX9_feed_72 : decode cX9_feed 72 = .ok (.getfield 96, 3) := by decide +kernel
theorem dX9_feed_75 : decode cX9_feed 75 = .ok (.iload 6, 2) := by decide +kernel
theorem dX9_feed_77 : decode cX9_feed 77 = .ok (.iadd, 1) := by decide +kernel
theorem dX9_feed_78 : decode cX9_feed 78 = .ok (.aload_n 0, 1) := by decide +kernel
theorem dX9_feed_79 : decode cX9_feed 79 = .ok (.getfield 53, 3) := by decide +kernel
theorem dX9_feed_82 : decode cX9_feed 82 = .ok (.iload 6, 2) := by decide +kernel
theorem dX9_feed_84 : decode cX9_feed 84 = .ok (.iconst 4, 1) := by decide +kernel
theorem dX9_feed_85 : decode cX9_feed 85 = .ok (.idiv, 1) := by decide +kernel
theorem dX9_feed_86 : decode cX9_feed 86 = .ok (.iaload, 1) := by decide +kernel
theorem dX9_feed_87 : decode cX9_feed 87 = .ok (.bipush 24, 2) := by decide +kernel
theorem dX9_feed_89 : decode cX9_feed 89 = .ok (.bipush 8, 2) := by decide +kernel
theorem dX9_feed_91 : decode cX9_feed 91 = .ok (.iload 6, 2) := by decide +kernel
theorem dX9_feed_93 : decode cX9_feed 93 = .ok (.iconst 4, 1) := by decide +kernel
theorem dX9_feed_94 : decode cX9_feed 94 = .ok (.irem, 1) := by decide +kernel
theorem dX9_feed_95 : decode cX9_feed 95 = .ok (.imul, 1) := by decide +kernel
theorem dX9_feed_96 : decode cX9_feed 96 = .ok (.isub, 1) := by decide +kernel
theorem dX9_feed_97 : decode cX9_feed 97 = .ok (.ishr, 1) := by decide +kernel
theorem dX9_feed_98 : decode cX9_feed 98 = .ok (.i2b, 1) := by decide +kernel
theorem dX9_feed_99 : decode cX9_feed 99 = .ok (.bastore, 1) := by decide +kernel
theorem dX9_feed_100 : decode cX9_feed 100 = .ok (.iinc 6 1, 3) := by decide +kernel
theorem dX9_feed_103 : decode cX9_feed 103 = .ok (.goto (-43), 3) := by decide +kernel
theorem dX9_feed_106 : decode cX9_feed 106 = .ok (.aload_n 0, 1) := by decide +kernel
theorem dX9_feed_107 : decode cX9_feed 107 = .ok (.dup, 1) := by decide +kernel
theorem dX9_feed_108 : decode cX9_feed 108 = .ok (.getfield 96, 3) := by decide +kernel
theorem dX9_feed_111 : decode cX9_feed 111 = .ok (.bipush 20, 2) := by decide +kernel
theorem dX9_feed_113 : decode cX9_feed 113 = .ok (.iadd, 1) := by decide +kernel
theorem dX9_feed_114 : decode cX9_feed 114 = .ok (.putfield 96, 3) := by decide +kernel
theorem dX9_feed_117 : decode cX9_feed 117 = .ok (.aload_n 0, 1) := by decide +kernel
theorem dX9_feed_118 : decode cX9_feed 118 = .ok (.getfield 96, 3) := by decide +kernel
theorem dX9_feed_121 : decode cX9_feed 121 = .ok (.ireturn, 1) := by decide +kernel
theorem dX9_end_0 : decode cX9_end 0 = .ok (.aload_n 0, 1) := by decide +kernel
theorem dX9_end_1 : decode cX9_end 1 = .ok (.iconst 0, 1) := by decide +kernel
theorem dX9_end_2 : decode cX9_end 2 = .ok (.putfield 59, 3) := by decide +kernel
theorem dX9_end_5 : decode cX9_end 5 = .ok (.iload_n 1, 1) := by decide +kernel
theorem dX9_end_6 : decode cX9_end 6 = .ok (.ifCond .lt 11, 3) := by decide +kernel
theorem dX9_end_9 : decode cX9_end 9 = .ok (.iload_n 1, 1) := by decide +kernel
theorem dX9_end_10 : decode cX9_end 10 = .ok (.aload_n 0, 1) := by decide +kernel
theorem dX9_end_11 : decode cX9_end 11 = .ok (.getfield 96, 3) := by decide +kernel
theorem dX9_end_14 : decode cX9_end 14 = .ok (.if_icmp .le 5, 3) := by decide +kernel
theorem dX9_end_17 : decode cX9_end 17 = .ok (.iconst 0, 1) := by decide +kernel
theorem dX9_end_18 : decode cX9_end 18 = .ok (.ireturn, 1) := by decide +kernel
theorem dX9_end_19 : decode cX9_end 19 = .ok (.aload_n 0, 1) := by decide +kernel
theorem dX9_end_20 : decode cX9_end 20 = .ok (.iload_n 1, 1) := by decide +kernel
theorem dX9_end_21 : decode cX9_end 21 = .ok (.putfield 96, 3) := by decide +kernel
theorem dX9_end_24 : decode cX9_end 24 = .ok (.iconst 1, 1) := by decide +kernel
theorem dX9_end_25 : decode cX9_end 25 = .ok (.ireturn, 1) := by decide +kernel
theorem dX9_isAt_0 : decode cX9_isAt 0 = .ok (.aload_n 0, 1) := by decide +kernel
theorem dX9_isAt_1 : decode cX9_isAt 1 = .ok (.getfield 99, 3) := by decide +kernel
theorem dX9_isAt_4 : decode cX9_isAt 4 = .ok (.aload_n 0, 1) := by decide +kernel
theorem dX9_isAt_5 : decode cX9_isAt 5 = .ok (.getfield 102, 3) := by decide +kernel
theorem dX9_isAt_8 : decode cX9_isAt 8 = .ok (.if_icmp .ge 33, 3) := by decide +kernel
theorem dX9_isAt_11 : decode cX9_isAt 11 = .ok (.aload_n 0, 1) := by decide +kernel
theorem dX9_isAt_12 : decode cX9_isAt 12 = .ok (.getfield 45, 3) := by decide +kernel
theorem dX9_isAt_15 : decode cX9_isAt 15 = .ok (.aload_n 0, 1) := by decide +kernel
theorem dX9_isAt_16 : decode cX9_isAt 16 = .ok (.getfield 99, 3) := by decide +kernel
theorem dX9_isAt_19 : decode cX9_isAt 19 = .ok (.baload, 1) := by decide +kernel
theorem dX9_isAt_20 : decode cX9_isAt 20 = .ok (.iload_n 1, 1) := by decide +kernel
theorem dX9_isAt_21 : decode cX9_isAt 21 = .ok (.if_icmp .lt 20, 3) := by decide +kernel
theorem dX9_isAt_24 : decode cX9_isAt 24 = .ok (.aload_n 0, 1) := by decide +kernel
theorem dX9_isAt_25 : decode cX9_isAt 25 = .ok (.getfield 45, 3) := by decide +kernel
theorem dX9_isAt_28 : decode cX9_isAt 28 = .ok (.aload_n 0, 1) := by decide +kernel
theorem dX9_isAt_29 : decode cX9_isAt 29 = .ok (.getfield 99, 3) := by decide +kernel
theorem dX9_isAt_32 : decode cX9_isAt 32 = .ok (.baload, 1) := by decide +kernel
theorem dX9_isAt_33 : decode cX9_isAt 33 = .ok (.iload_n 2, 1) := by decide +kernel
theorem dX9_isAt_34 : decode cX9_isAt 34 = .ok (.if_icmp .gt 7, 3) := by decide +kernel
theorem dX9_isAt_37 : decode cX9_isAt 37 = .ok (.iconst 1, 1) := by decide +kernel
theorem dX9_isAt_38 : decode cX9_isAt 38 = .ok (.goto 4, 3) := by decide +kernel
theorem dX9_isAt_41 : decode cX9_isAt 41 = .ok (.iconst 0, 1) := by decide +kernel
theorem dX9_isAt_42 : decode cX9_isAt 42 = .ok (.ireturn, 1) := by decide +kernel
theorem dX9_blanks_0 : decode cX9_blanks 0 = .ok (.aload_n 0, 1) := by decide +kernel
theorem dX9_blanks_1 : decode cX9_blanks 1 = .ok (.bipush 32, 2) := by decide +kernel
theorem dX9_blanks_3 : decode cX9_blanks 3 = .ok (.bipush 32, 2) := by decide +kernel
theorem dX9_blanks_5 : decode cX9_blanks 5 = .ok (.invokevirtual 105, 3) := by decide +kernel
theorem dX9_blanks_8 : decode cX9_blanks 8 = .ok (.ifCond .eq 16, 3) := by decide +kernel
theorem dX9_blanks_11 : decode cX9_blanks 11 = .ok (.aload_n 0, 1) := by decide +kernel
theorem dX9_blanks_12 : decode cX9_blanks 12 = .ok (.dup, 1) := by decide +kernel
theorem dX9_blanks_13 : decode cX9_blanks 13 = .ok (.getfield 99, 3) := by decide +kernel
theorem dX9_blanks_16 : decode cX9_blanks 16 = .ok (.iconst 1, 1) := by decide +kernel
theorem dX9_blanks_17 : decode cX9_blanks 17 = .ok (.iadd, 1) := by decide +kernel
theorem dX9_blanks_18 : decode cX9_blanks 18 = .ok (.putfield 99, 3) := by decide +kernel
theorem dX9_blanks_21 : decode cX9_blanks 21 = .ok (.goto (-21), 3) := by decide +kernel
theorem dX9_blanks_24 : decode cX9_blanks 24 = .ok (.aload_n 0, 1) := by decide +kernel
theorem dX9_blanks_25 : decode cX9_blanks 25 = .ok (.aload_n 0, 1) := by decide +kernel
theorem dX9_blanks_26 : decode cX9_blanks 26 = .ok (.getfield 99, 3) := by decide +kernel
theorem dX9_blanks_29 : decode cX9_blanks 29 = .ok (.putfield 109, 3) := by decide +kernel
theorem dX9_blanks_32 : decode cX9_blanks 32 = .ok (.return_, 1) := by decide +kernel
theorem dX9_word_0 : decode cX9_word 0 = .ok (.aload_n 0, 1) := by decide +kernel
theorem dX9_word_1 : decode cX9_word 1 = .ok (.invokevirtual 112, 3) := by decide +kernel
theorem dX9_word_4 : decode cX9_word 4 = .ok (.aload_n 0, 1) := by decide +kernel
theorem dX9_word_5 : decode cX9_word 5 = .ok (.bipush 97, 2) := by decide +kernel
theorem dX9_word_7 : decode cX9_word 7 = .ok (.bipush 122, 2) := by decide +kernel
theorem dX9_word_9 : decode cX9_word 9 = .ok (.invokevirtual 105, 3) := by decide +kernel
theorem dX9_word_12 : decode cX9_word 12 = .ok (.ifCond .eq 16, 3) := by decide +kernel
theorem dX9_word_15 : decode cX9_word 15 = .ok (.aload_n 0, 1) := by decide +kernel
theorem dX9_word_16 : decode cX9_word 16 = .ok (.dup, 1) := by decide +kernel
theorem dX9_word_17 : decode cX9_word 17 = .ok (.getfield 99, 3) := by decide +kernel
theorem dX9_word_20 : decode cX9_word 20 = .ok (.iconst 1, 1) := by decide +kernel
theorem dX9_word_21 : decode cX9_word 21 = .ok (.iadd, 1) := by decide +kernel
theorem dX9_word_22 : decode cX9_word 22 = .ok (.putfield 99, 3) := by decide +kernel
theorem dX9_word_25 : decode cX9_word 25 = .ok (.goto (-21), 3) := by decide +kernel
theorem dX9_word_28 : decode cX9_word 28 = .ok (.return_, 1) := by decide +kernel
theorem dX9_isWord_0 : decode cX9_isWord 0 = .ok (.aload_n 0, 1) := by decide +kernel
theorem dX9_isWord_1 : decode cX9_isWord 1 = .ok (.getfield 99, 3) := by decide +kernel
theorem dX9_isWord_4 : decode cX9_isWord 4 = .ok (.aload_n 0, 1) := by decide +kernel
theorem dX9_isWord_5 : decode cX9_isWord 5 = .ok (.getfield 109, 3) := by decide +kernel
theorem dX9_isWord_8 : decode cX9_isWord 8 = .ok (.isub, 1) := by decide +kernel
theorem dX9_isWord_9 : decode cX9_isWord 9 = .ok (.aload_n 1, 1) := by decide +kernel
theorem dX9_isWord_10 : decode cX9_isWord 10 = .ok (.invokevirtual 115, 3) := by decide +kernel
theorem dX9_isWord_13 : decode cX9_isWord 13 = .ok (.if_icmp .ne 7, 3) := by decide +kernel
theorem dX9_isWord_16 : decode cX9_isWord 16 = .ok (.iconst 1, 1) := by decide +kernel
theorem dX9_isWord_17 : decode cX9_isWord 17 = .ok (.goto 4, 3) := by decide +kernel
theorem dX9_isWord_20 : decode cX9_isWord 20 = .ok (.iconst 0, 1) := by decide +kernel
theorem dX9_isWord_21 : decode cX9_isWord 21 = .ok (.istore_n 2, 1) := by decide +kernel
theorem dX9_isWord_22 : decode cX9_isWord 22 = .ok (.iconst 0, 1) := by decide +kernel
theorem dX9_isWord_23 : decode cX9_isWord 23 = .ok (.istore_n 3, 1) := by decide +kernel
theorem dX9_isWord_24 : decode cX9_isWord 24 = .ok (.iload_n 2, 1) := by decide +kernel
theorem dX9_isWord_25 : decode cX9_isWord 25 = .ok (.ifCond .eq 42, 3) := by decide +kernel
theorem dX9_isWord_28 : decode cX9_isWord 28 = .ok (.iload_n 3, 1) := by decide +kernel
theorem dX9_isWord_29 : decode cX9_isWord 29 = .ok (.aload_n 1, 1) := by decide +kernel
theorem dX9_isWord_30 : decode cX9_isWord 30 = .ok (.invokevirtual 115, 3) := by decide +kernel
theorem dX9_isWord_33 : decode cX9_isWord 33 = .ok (.if_icmp .ge 34, 3) := by decide +kernel
theorem dX9_isWord_36 : decode cX9_isWord 36 = .ok (.aload_n 0, 1) := by decide +kernel
theorem dX9_isWord_37 : decode cX9_isWord 37 = .ok (.getfield 45, 3) := by decide +kernel
theorem dX9_isWord_40 : decode cX9_isWord 40 = .ok (.aload_n 0, 1) := by decide +kernel
theorem dX9_isWord_41 : decode cX9_isWord 41 = .ok (.getfield 109, 3) := by decide +kernel
theorem dX9_isWord_44 : decode cX9_isWord 44 = .ok (.iload_n 3, 1) := by decide +kernel
theorem dX9_isWord_45 : decode cX9_isWord 45 = .ok (.iadd, 1) := by decide +kernel
theorem dX9_isWord_46 : decode cX9_isWord 46 = .ok (.baload, 1) := by decide +kernel
theorem dX9_isWord_47 : decode cX9_isWord 47 = .ok (.aload_n 1, 1) := by decide +kernel
theorem dX9_isWord_48 : decode cX9_isWord 48 = .ok (.iload_n 3, 1) := by decide +kernel
theorem dX9_isWord_49 : decode cX9_isWord 49 = .ok (.invokevirtual 120, 3) := by decide +kernel
theorem dX9_isWord_52 : decode cX9_isWord 52 = .ok (.if_icmp .ne 7, 3) := by decide +kernel
theorem dX9_isWord_55 : decode cX9_isWord 55 = .ok (.iconst 1, 1) := by decide +kernel
theorem dX9_isWord_56 : decode cX9_isWord 56 = .ok (.goto 4, 3) := by decide +kernel
theorem dX9_isWord_59 : decode cX9_isWord 59 = .ok (.iconst 0, 1) := by decide +kernel
theorem dX9_isWord_60 : decode cX9_isWord 60 = .ok (.istore_n 2, 1) := by decide +kernel
theorem dX9_isWord_61 : decode cX9_isWord 61 = .ok (.iinc 3 1, 3) := by decide +kernel
theorem dX9_isWord_64 : decode cX9_isWord 64 = .ok (.goto (-40), 3) := by decide +kernel
theorem dX9_isWord_67 : decode cX9_isWord 67 = .ok (.iload_n 2, 1) := by decide +kernel
theorem dX9_isWord_68 : decode cX9_isWord 68 = .ok (.ireturn, 1) := by decide +kernel
theorem dX9_passes_0 : decode cX9_passes 0 = .ok (.aload_n 0, 1) := by decide +kernel
theorem dX9_passes_1 : decode cX9_passes 1 = .ok (.invokevirtual 124, 3) := by decide +kernel
theorem dX9_passes_4 : decode cX9_passes 4 = .ok (.aload_n 0, 1) := by decide +kernel
theorem dX9_passes_5 : decode cX9_passes 5 = .ok (.aload_n 1, 1) := by decide +kernel
theorem dX9_passes_6 : decode cX9_passes 6 = .ok (.invokevirtual 127, 3) := by decide +kernel
theorem dX9_passes_9 : decode cX9_passes 9 = .ok (.ifCond .eq 5, 3) := by decide +kernel
theorem dX9_passes_12 : decode cX9_passes 12 = .ok (.iconst 1, 1) := by decide +kernel
theorem dX9_passes_13 : decode cX9_passes 13 = .ok (.ireturn, 1) := by decide +kernel
theorem dX9_passes_14 : decode cX9_passes 14 = .ok (.aload_n 0, 1) := by decide +kernel
theorem dX9_passes_15 : decode cX9_passes 15 = .ok (.aload_n 0, 1) := by decide +kernel
theorem dX9_passes_16 : decode cX9_passes 16 = .ok (.getfield 109, 3) := by decide +kernel
theorem dX9_passes_19 : decode cX9_passes 19 = .ok (.putfield 99, 3) := by decide +kernel
theorem dX9_passes_22 : decode cX9_passes 22 = .ok (.iconst 0, 1) := by decide +kernel
theorem dX9_passes_23 : decode cX9_passes 23 = .ok (.ireturn, 1) := by decide +kernel
theorem dX9_sign_0 : decode cX9_sign 0 = .ok (.aload_n 0, 1) := by decide +kernel
theorem dX9_sign_1 : decode cX9_sign 1 = .ok (.invokevirtual 112, 3) := by decide +kernel
theorem dX9_sign_4 : decode cX9_sign 4 = .ok (.aload_n 0, 1) := by decide +kernel
theorem dX9_sign_5 : decode cX9_sign 5 = .ok (.iload_n 1, 1) := by decide +kernel
theorem dX9_sign_6 : decode cX9_sign 6 = .ok (.iload_n 1, 1) := by decide +kernel
theorem dX9_sign_7 : decode cX9_sign 7 = .ok (.invokevirtual 105, 3) := by decide +kernel
theorem dX9_sign_10 : decode cX9_sign 10 = .ok (.ifCond .ne 5, 3) := by decide +kernel
theorem dX9_sign_13 : decode cX9_sign 13 = .ok (.iconst 0, 1) := by decide +kernel
theorem dX9_sign_14 : decode cX9_sign 14 = .ok (.ireturn, 1) := by decide +kernel
theorem dX9_sign_15 : decode cX9_sign 15 = .ok (.aload_n 0, 1) := by decide +kernel
theorem dX9_sign_16 : decode cX9_sign 16 = .ok (.dup, 1) := by decide +kernel
theorem dX9_sign_17 : decode cX9_sign 17 = .ok (.getfield 99, 3) := by decide +kernel
theorem dX9_sign_20 : decode cX9_sign 20 = .ok (.iconst 1, 1) := by decide +kernel
theorem dX9_sign_21 : decode cX9_sign 21 = .ok (.iadd, 1) := by decide +kernel
theorem dX9_sign_22 : decode cX9_sign 22 = .ok (.putfield 99, 3) := by decide +kernel
theorem dX9_sign_25 : decode cX9_sign 25 = .ok (.iconst 1, 1) := by decide +kernel
theorem dX9_sign_26 : decode cX9_sign 26 = .ok (.ireturn, 1) := by decide +kernel
theorem dX9_number_0 : decode cX9_number 0 = .ok (.aload_n 0, 1) := by decide +kernel
theorem dX9_number_1 : decode cX9_number 1 = .ok (.invokevirtual 112, 3) := by decide +kernel
theorem dX9_number_4 : decode cX9_number 4 = .ok (.iconst 0, 1) := by decide +kernel
theorem dX9_number_5 : decode cX9_number 5 = .ok (.istore_n 3, 1) := by decide +kernel
theorem dX9_number_6 : decode cX9_number 6 = .ok (.aload_n 0, 1) := by decide +kernel
theorem dX9_number_7 : decode cX9_number 7 = .ok (.bipush 48, 2) := by decide +kernel
theorem dX9_number_9 : decode cX9_number 9 = .ok (.bipush 57, 2) := by decide +kernel
theorem dX9_number_11 : decode cX9_number 11 = .ok (.invokevirtual 105, 3) := by decide +kernel
theorem dX9_number_14 : decode cX9_number 14 = .ok (.ifCond .eq 51, 3) := by decide +kernel
theorem dX9_number_17 : decode cX9_number 17 = .ok (.aload_n 0, 1) := by decide +kernel
theorem dX9_number_18 : decode cX9_number 18 = .ok (.getfield 99, 3) := by decide +kernel
theorem dX9_number_21 : decode cX9_number 21 = .ok (.aload_n 0, 1) := by decide +kernel
theorem dX9_number_22 : decode cX9_number 22 = .ok (.getfield 109, 3) := by decide +kernel
theorem dX9_number_25 : decode cX9_number 25 = .ok (.isub, 1) := by decide +kernel
theorem dX9_number_26 : decode cX9_number 26 = .ok (.iconst 3, 1) := by decide +kernel
theorem dX9_number_27 : decode cX9_number 27 = .ok (.if_icmp .ge 23, 3) := by decide +kernel
theorem dX9_number_30 : decode cX9_number 30 = .ok (.bipush 10, 2) := by decide +kernel
theorem dX9_number_32 : decode cX9_number 32 = .ok (.iload_n 3, 1) := by decide +kernel
theorem dX9_number_33 : decode cX9_number 33 = .ok (.imul, 1) := by decide +kernel
theorem dX9_number_34 : decode cX9_number 34 = .ok (.aload_n 0, 1) := by decide +kernel
theorem dX9_number_35 : decode cX9_number 35 = .ok (.getfield 45, 3) := by decide +kernel
theorem dX9_number_38 : decode cX9_number 38 = .ok (.aload_n 0, 1) := by decide +kernel
theorem dX9_number_39 : decode cX9_number 39 = .ok (.getfield 99, 3) := by decide +kernel
theorem dX9_number_42 : decode cX9_number 42 = .ok (.baload, 1) := by decide +kernel
theorem dX9_number_43 : decode cX9_number 43 = .ok (.iadd, 1) := by decide +kernel
theorem dX9_number_44 : decode cX9_number 44 = .ok (.bipush 48, 2) := by decide +kernel
theorem dX9_number_46 : decode cX9_number 46 = .ok (.isub, 1) := by decide +kernel
theorem dX9_number_47 : decode cX9_number 47 = .ok (.goto 4, 3) := by decide +kernel
theorem dX9_number_50 : decode cX9_number 50 = .ok (.iload_n 3, 1) := by decide +kernel
theorem dX9_number_51 : decode cX9_number 51 = .ok (.istore_n 3, 1) := by decide +kernel
theorem dX9_number_52 : decode cX9_number 52 = .ok (.aload_n 0, 1) := by decide +kernel
theorem dX9_number_53 : decode cX9_number 53 = .ok (.dup, 1) := by decide +kernel
theorem dX9_number_54 : decode cX9_number 54 = .ok (.getfield 99, 3) := by decide +kernel
theorem dX9_number_57 : decode cX9_number 57 = .ok (.iconst 1, 1) := by decide +kernel
theorem dX9_number_58 : decode cX9_number 58 = .ok (.iadd, 1) := by decide +kernel
theorem dX9_number_59 : decode cX9_number 59 = .ok (.putfield 99, 3) := by decide +kernel
theorem dX9_number_62 : decode cX9_number 62 = .ok (.goto (-56), 3) := by decide +kernel
theorem dX9_number_65 : decode cX9_number 65 = .ok (.aload_n 0, 1) := by decide +kernel
theorem dX9_number_66 : decode cX9_number 66 = .ok (.getfield 99, 3) := by decide +kernel
theorem dX9_number_69 : decode cX9_number 69 = .ok (.aload_n 0, 1) := by decide +kernel
theorem dX9_number_70 : decode cX9_number 70 = .ok (.getfield 109, 3) := by decide +kernel
theorem dX9_number_73 : decode cX9_number 73 = .ok (.if_icmp .eq 26, 3) := by decide +kernel
theorem dX9_number_76 : decode cX9_number 76 = .ok (.aload_n 0, 1) := by decide +kernel
theorem dX9_number_77 : decode cX9_number 77 = .ok (.getfield 99, 3) := by decide +kernel
theorem dX9_number_80 : decode cX9_number 80 = .ok (.aload_n 0, 1) := by decide +kernel
theorem dX9_number_81 : decode cX9_number 81 = .ok (.getfield 109, 3) := by decide +kernel
theorem dX9_number_84 : decode cX9_number 84 = .ok (.isub, 1) := by decide +kernel
theorem dX9_number_85 : decode cX9_number 85 = .ok (.iconst 3, 1) := by decide +kernel
theorem dX9_number_86 : decode cX9_number 86 = .ok (.if_icmp .gt 13, 3) := by decide +kernel
theorem dX9_number_89 : decode cX9_number 89 = .ok (.iload_n 3, 1) := by decide +kernel
theorem dX9_number_90 : decode cX9_number 90 = .ok (.iload_n 1, 1) := by decide +kernel
theorem dX9_number_91 : decode cX9_number 91 = .ok (.if_icmp .lt 8, 3) := by decide +kernel
theorem dX9_number_94 : decode cX9_number 94 = .ok (.iload_n 3, 1) := by decide +kernel
theorem dX9_number_95 : decode cX9_number 95 = .ok (.iload_n 2, 1) := by decide +kernel
theorem dX9_number_96 : decode cX9_number 96 = .ok (.if_icmp .le 7, 3) := by decide +kernel
theorem dX9_number_99 : decode cX9_number 99 = .ok (.iconst (-1), 1) := by decide +kernel
theorem dX9_number_100 : decode cX9_number 100 = .ok (.goto 4, 3) := by decide +kernel
theorem dX9_number_103 : decode cX9_number 103 = .ok (.iload_n 3, 1) := by decide +kernel
theorem dX9_number_104 : decode cX9_number 104 = .ok (.ireturn, 1) := by decide +kernel
theorem dX9_readItem_0 : decode cX9_readItem 0 = .ok (.aload_n 0, 1) := by decide +kernel
theorem dX9_readItem_1 : decode cX9_readItem 1 = .ok (.bipush 40, 2) := by decide +kernel
theorem dX9_readItem_3 : decode cX9_readItem 3 = .ok (.invokevirtual 131, 3) := by decide +kernel
theorem dX9_readItem_6 : decode cX9_readItem 6 = .ok (.ifCond .eq 58, 3) := by decide +kernel
theorem dX9_readItem_9 : decode cX9_readItem 9 = .ok (.aload_n 0, 1) := by decide +kernel
theorem dX9_readItem_10 : decode cX9_readItem 10 = .ok (.getfield 135, 3) := by decide +kernel
theorem dX9_readItem_13 : decode cX9_readItem 13 = .ok (.bipush 12, 2) := by decide +kernel
theorem dX9_readItem_15 : decode cX9_readItem 15 = .ok (.if_icmp .ne 5, 3) := by decide +kernel
theorem dX9_readItem_18 : decode cX9_readItem 18 = .ok (.iconst (-1), 1) := by decide +kernel
theorem dX9_readItem_19 : decode cX9_readItem 19 = .ok (.ireturn, 1) := by decide +kernel
theorem dX9_readItem_20 : decode cX9_readItem 20 = .ok (.aload_n 0, 1) := by decide +kernel
theorem dX9_readItem_21 : decode cX9_readItem 21 = .ok (.dup, 1) := by decide +kernel
theorem dX9_readItem_22 : decode cX9_readItem 22 = .ok (.getfield 135, 3) := by decide +kernel
theorem dX9_readItem_25 : decode cX9_readItem 25 = .ok (.iconst 1, 1) := by decide +kernel
theorem dX9_readItem_26 : decode cX9_readItem 26 = .ok (.iadd, 1) := by decide +kernel
theorem dX9_readItem_27 : decode cX9_readItem 27 = .ok (.putfield 135, 3) := by decide +kernel
theorem dX9_readItem_30 : decode cX9_readItem 30 = .ok (.aload_n 0, 1) := by decide +kernel
theorem dX9_readItem_31 : decode cX9_readItem 31 = .ok (.invokevirtual 138, 3) := by decide +kernel
theorem dX9_readItem_34 : decode cX9_readItem 34 = .ok (.istore_n 1, 1) := by decide +kernel
theorem dX9_readItem_35 : decode cX9_readItem 35 = .ok (.aload_n 0, 1) := by decide +kernel
theorem dX9_readItem_36 : decode cX9_readItem 36 = .ok (.dup, 1) := by decide +kernel
theorem dX9_readItem_37 : decode cX9_readItem 37 = .ok (.getfield 135, 3) := by decide +kernel
theorem dX9_readItem_40 : decode cX9_readItem 40 = .ok (.iconst 1, 1) := by decide +kernel
theorem dX9_readItem_41 : decode cX9_readItem 41 = .ok (.isub, 1) := by decide +kernel
theorem dX9_readItem_42 : decode cX9_readItem 42 = .ok (.putfield 135, 3) := by decide +kernel
theorem dX9_readItem_45 : decode cX9_readItem 45 = .ok (.iload_n 1, 1) := by decide +kernel
theorem dX9_readItem_46 : decode cX9_readItem 46 = .ok (.ifCond .lt 16, 3) := by decide +kernel
theorem dX9_readItem_49 : decode cX9_readItem 49 = .ok (.aload_n 0, 1) := by decide +kernel
theorem dX9_readItem_50 : decode cX9_readItem 50 = .ok (.bipush 41, 2) := by decide +kernel
theorem dX9_readItem_52 : decode cX9_readItem 52 = .ok (.invokevirtual 131, 3) := by decide +kernel
theorem dX9_readItem_55 : decode cX9_readItem 55 = .ok (.ifCond .eq 7, 3) := by decide +kernel
theorem dX9_readItem_58 : decode cX9_readItem 58 = .ok (.iload_n 1, 1) := by decide +kernel
theorem dX9_readItem_59 : decode cX9_readItem 59 = .ok (.goto 4, 3) := by decide +kernel
theorem dX9_readItem_62 : decode cX9_readItem 62 = .ok (.iconst (-1), 1) := by decide +kernel
theorem dX9_readItem_63 : decode cX9_readItem 63 = .ok (.ireturn, 1) := by decide +kernel
theorem dX9_readItem_64 : decode cX9_readItem 64 = .ok (.aload_n 0, 1) := by decide +kernel
theorem dX9_readItem_65 : decode cX9_readItem 65 = .ok (.ldc 141, 2) := by decide +kernel
theorem dX9_readItem_67 : decode cX9_readItem 67 = .ok (.invokevirtual 143, 3) := by decide +kernel
theorem dX9_readItem_70 : decode cX9_readItem 70 = .ok (.ifCond .eq 60, 3) := by decide +kernel
theorem dX9_readItem_73 : decode cX9_readItem 73 = .ok (.aload_n 0, 1) := by decide +kernel
theorem dX9_readItem_74 : decode cX9_readItem 74 = .ok (.getfield 135, 3) := by decide +kernel
theorem dX9_readItem_77 : decode cX9_readItem 77 = .ok (.bipush 12, 2) := by decide +kernel
theorem dX9_readItem_79 : decode cX9_readItem 79 = .ok (.if_icmp .ne 5, 3) := by decide +kernel
theorem dX9_readItem_82 : decode cX9_readItem 82 = .ok (.iconst (-1), 1) := by decide +kernel
theorem dX9_readItem_83 : decode cX9_readItem 83 = .ok (.ireturn, 1) := by decide +kernel
theorem dX9_readItem_84 : decode cX9_readItem 84 = .ok (.aload_n 0, 1) := by decide +kernel
theorem dX9_readItem_85 : decode cX9_readItem 85 = .ok (.dup, 1) := by decide +kernel
theorem dX9_readItem_86 : decode cX9_readItem 86 = .ok (.getfield 135, 3) := by decide +kernel
theorem dX9_readItem_89 : decode cX9_readItem 89 = .ok (.iconst 1, 1) := by decide +kernel
theorem dX9_readItem_90 : decode cX9_readItem 90 = .ok (.iadd, 1) := by decide +kernel
theorem dX9_readItem_91 : decode cX9_readItem 91 = .ok (.putfield 135, 3) := by decide +kernel
theorem dX9_readItem_94 : decode cX9_readItem 94 = .ok (.aload_n 0, 1) := by decide +kernel
theorem dX9_readItem_95 : decode cX9_readItem 95 = .ok (.invokevirtual 146, 3) := by decide +kernel
theorem dX9_readItem_98 : decode cX9_readItem 98 = .ok (.istore_n 1, 1) := by decide +kernel
theorem dX9_readItem_99 : decode cX9_readItem 99 = .ok (.aload_n 0, 1) := by decide +kernel
theorem dX9_readItem_100 : decode cX9_readItem 100 = .ok (.dup, 1) := by decide +kernel
theorem dX9_readItem_101 : decode cX9_readItem 101 = .ok (.getfield 135, 3) := by decide +kernel
theorem dX9_readItem_104 : decode cX9_readItem 104 = .ok (.iconst 1, 1) := by decide +kernel
theorem dX9_readItem_105 : decode cX9_readItem 105 = .ok (.isub, 1) := by decide +kernel
theorem dX9_readItem_106 : decode cX9_readItem 106 = .ok (.putfield 135, 3) := by decide +kernel
theorem dX9_readItem_109 : decode cX9_readItem 109 = .ok (.iload_n 1, 1) := by decide +kernel
theorem dX9_readItem_110 : decode cX9_readItem 110 = .ok (.ifCond .ge 5, 3) := by decide +kernel
theorem dX9_readItem_113 : decode cX9_readItem 113 = .ok (.iconst (-1), 1) := by decide +kernel
theorem dX9_readItem_114 : decode cX9_readItem 114 = .ok (.ireturn, 1) := by decide +kernel
theorem dX9_readItem_115 : decode cX9_readItem 115 = .ok (.aload_n 0, 1) := by decide +kernel
theorem dX9_readItem_116 : decode cX9_readItem 116 = .ok (.bipush 10, 2) := by decide +kernel
theorem dX9_readItem_118 : decode cX9_readItem 118 = .ok (.invokevirtual 68, 3) := by decide +kernel
theorem dX9_readItem_121 : decode cX9_readItem 121 = .ok (.istore_n 2, 1) := by decide +kernel
theorem dX9_readItem_122 : decode cX9_readItem 122 = .ok (.aload_n 0, 1) := by decide +kernel
theorem dX9_readItem_123 : decode cX9_readItem 123 = .ok (.iload_n 2, 1) := by decide +kernel
theorem dX9_readItem_124 : decode cX9_readItem 124 = .ok (.iload_n 1, 1) := by decide +kernel
theorem dX9_readItem_125 : decode cX9_readItem 125 = .ok (.invokevirtual 75, 3) := by decide +kernel
theorem dX9_readItem_128 : decode cX9_readItem 128 = .ok (.iload_n 2, 1) := by decide +kernel
theorem dX9_readItem_129 : decode cX9_readItem 129 = .ok (.ireturn, 1) := by decide +kernel
theorem dX9_readItem_130 : decode cX9_readItem 130 = .ok (.aload_n 0, 1) := by decide +kernel
theorem dX9_readItem_131 : decode cX9_readItem 131 = .ok (.ldc 149, 2) := by decide +kernel
theorem dX9_readItem_133 : decode cX9_readItem 133 = .ok (.invokevirtual 143, 3) := by decide +kernel
theorem dX9_readItem_136 : decode cX9_readItem 136 = .ok (.ifCond .ne 5, 3) := by decide +kernel
theorem dX9_readItem_139 : decode cX9_readItem 139 = .ok (.iconst (-1), 1) := by decide +kernel
theorem dX9_readItem_140 : decode cX9_readItem 140 = .ok (.ireturn, 1) := by decide +kernel
theorem dX9_readItem_141 : decode cX9_readItem 141 = .ok (.aload_n 0, 1) := by decide +kernel
theorem dX9_readItem_142 : decode cX9_readItem 142 = .ok (.iconst 0, 1) := by decide +kernel
theorem dX9_readItem_143 : decode cX9_readItem 143 = .ok (.iconst 5, 1) := by decide +kernel
theorem dX9_readItem_144 : decode cX9_readItem 144 = .ok (.invokevirtual 151, 3) := by decide +kernel
theorem dX9_readItem_147 : decode cX9_readItem 147 = .ok (.istore_n 1, 1) := by decide +kernel
theorem dX9_readItem_148 : decode cX9_readItem 148 = .ok (.iload_n 1, 1) := by decide +kernel
theorem dX9_readItem_149 : decode cX9_readItem 149 = .ok (.ifCond .ge 7, 3) := by decide +kernel
theorem dX9_readItem_152 : decode cX9_readItem 152 = .ok (.iconst (-1), 1) := by decide +kernel
theorem dX9_readItem_153 : decode cX9_readItem 153 = .ok (.goto 8, 3) := by decide +kernel
theorem dX9_readItem_156 : decode cX9_readItem 156 = .ok (.aload_n 0, 1) := by decide +kernel
theorem dX9_readItem_157 : decode cX9_readItem 157 = .ok (.iload_n 1, 1) := by decide +kernel
theorem dX9_readItem_158 : decode cX9_readItem 158 = .ok (.invokevirtual 68, 3) := by decide +kernel
theorem dX9_readItem_161 : decode cX9_readItem 161 = .ok (.ireturn, 1) := by decide +kernel
theorem dX9_readAllOf_0 : decode cX9_readAllOf 0 = .ok (.aload_n 0, 1) := by decide +kernel
theorem dX9_readAllOf_1 : decode cX9_readAllOf 1 = .ok (.invokevirtual 146, 3) := by decide +kernel
theorem dX9_readAllOf_4 : decode cX9_readAllOf 4 = .ok (.istore_n 1, 1) := by decide +kernel
theorem dX9_readAllOf_5 : decode cX9_readAllOf 5 = .ok (.iconst (-1), 1) := by decide +kernel
theorem dX9_readAllOf_6 : decode cX9_readAllOf 6 = .ok (.istore_n 2, 1) := by decide +kernel
theorem dX9_readAllOf_7 : decode cX9_readAllOf 7 = .ok (.iload_n 1, 1) := by decide +kernel
theorem dX9_readAllOf_8 : decode cX9_readAllOf 8 = .ok (.ifCond .lt 48, 3) := by decide +kernel
theorem dX9_readAllOf_11 : decode cX9_readAllOf 11 = .ok (.aload_n 0, 1) := by decide +kernel
theorem dX9_readAllOf_12 : decode cX9_readAllOf 12 = .ok (.ldc 154, 2) := by decide +kernel
theorem dX9_readAllOf_14 : decode cX9_readAllOf 14 = .ok (.invokevirtual 143, 3) := by decide +kernel
theorem dX9_readAllOf_17 : decode cX9_readAllOf 17 = .ok (.ifCond .eq 39, 3) := by decide +kernel
theorem dX9_readAllOf_20 : decode cX9_readAllOf 20 = .ok (.iload_n 2, 1) := by decide +kernel
theorem dX9_readAllOf_21 : decode cX9_readAllOf 21 = .ok (.ifCond .ge 17, 3) := by decide +kernel
theorem dX9_readAllOf_24 : decode cX9_readAllOf 24 = .ok (.aload_n 0, 1) := by decide +kernel
theorem dX9_readAllOf_25 : decode cX9_readAllOf 25 = .ok (.sipush 1000, 3) := by decide +kernel
theorem dX9_readAllOf_28 : decode cX9_readAllOf 28 = .ok (.invokevirtual 68, 3) := by decide +kernel
theorem dX9_readAllOf_31 : decode cX9_readAllOf 31 = .ok (.istore_n 2, 1) := by decide +kernel
theorem dX9_readAllOf_32 : decode cX9_readAllOf 32 = .ok (.aload_n 0, 1) := by decide +kernel
theorem dX9_readAllOf_33 : decode cX9_readAllOf 33 = .ok (.iload_n 2, 1) := by decide +kernel
theorem dX9_readAllOf_34 : decode cX9_readAllOf 34 = .ok (.iload_n 1, 1) := by decide +kernel
theorem dX9_readAllOf_35 : decode cX9_readAllOf 35 = .ok (.invokevirtual 75, 3) := by decide +kernel
theorem dX9_readAllOf_38 : decode cX9_readAllOf 38 = .ok (.aload_n 0, 1) := by decide +kernel
theorem dX9_readAllOf_39 : decode cX9_readAllOf 39 = .ok (.invokevirtual 146, 3) := by decide +kernel
theorem dX9_readAllOf_42 : decode cX9_readAllOf 42 = .ok (.istore_n 1, 1) := by decide +kernel
theorem dX9_readAllOf_43 : decode cX9_readAllOf 43 = .ok (.iload_n 1, 1) := by decide +kernel
theorem dX9_readAllOf_44 : decode cX9_readAllOf 44 = .ok (.ifCond .lt (-37), 3) := by decide +kernel
theorem dX9_readAllOf_47 : decode cX9_readAllOf 47 = .ok (.aload_n 0, 1) := by decide +kernel
theorem dX9_readAllOf_48 : decode cX9_readAllOf 48 = .ok (.iload_n 2, 1) := by decide +kernel
theorem dX9_readAllOf_49 : decode cX9_readAllOf 49 = .ok (.iload_n 1, 1) := by decide +kernel
theorem dX9_readAllOf_50 : decode cX9_readAllOf 50 = .ok (.invokevirtual 75, 3) := by decide +kernel
theorem dX9_readAllOf_53 : decode cX9_readAllOf 53 = .ok (.goto (-46), 3) := by decide +kernel
theorem dX9_readAllOf_56 : decode cX9_readAllOf 56 = .ok (.iload_n 1, 1) := by decide +kernel
theorem dX9_readAllOf_57 : decode cX9_readAllOf 57 = .ok (.ifCond .ge 7, 3) := by decide +kernel
theorem dX9_readAllOf_60 : decode cX9_readAllOf 60 = .ok (.iconst (-1), 1) := by decide +kernel
theorem dX9_readAllOf_61 : decode cX9_readAllOf 61 = .ok (.goto 12, 3) := by decide +kernel
theorem dX9_readAllOf_64 : decode cX9_readAllOf 64 = .ok (.iload_n 2, 1) := by decide +kernel
theorem dX9_readAllOf_65 : decode cX9_readAllOf 65 = .ok (.ifCond .ge 7, 3) := by decide +kernel
theorem dX9_readAllOf_68 : decode cX9_readAllOf 68 = .ok (.iload_n 1, 1) := by decide +kernel
theorem dX9_readAllOf_69 : decode cX9_readAllOf 69 = .ok (.goto 4, 3) := by decide +kernel
theorem dX9_readAllOf_72 : decode cX9_readAllOf 72 = .ok (.iload_n 2, 1) := by decide +kernel
theorem dX9_readAllOf_73 : decode cX9_readAllOf 73 = .ok (.ireturn, 1) := by decide +kernel
theorem dX9_readCond_0 : decode cX9_readCond 0 = .ok (.aload_n 0, 1) := by decide +kernel
theorem dX9_readCond_1 : decode cX9_readCond 1 = .ok (.invokevirtual 156, 3) := by decide +kernel
theorem dX9_readCond_4 : decode cX9_readCond 4 = .ok (.istore_n 1, 1) := by decide +kernel
theorem dX9_readCond_5 : decode cX9_readCond 5 = .ok (.iconst (-1), 1) := by decide +kernel
theorem dX9_readCond_6 : decode cX9_readCond 6 = .ok (.istore_n 2, 1) := by decide +kernel
theorem dX9_readCond_7 : decode cX9_readCond 7 = .ok (.iload_n 1, 1) := by decide +kernel
theorem dX9_readCond_8 : decode cX9_readCond 8 = .ok (.ifCond .lt 48, 3) := by decide +kernel
theorem dX9_readCond_11 : decode cX9_readCond 11 = .ok (.aload_n 0, 1) := by decide +kernel
theorem dX9_readCond_12 : decode cX9_readCond 12 = .ok (.ldc 159, 2) := by decide +kernel
theorem dX9_readCond_14 : decode cX9_readCond 14 = .ok (.invokevirtual 143, 3) := by decide +kernel
theorem dX9_readCond_17 : decode cX9_readCond 17 = .ok (.ifCond .eq 39, 3) := by decide +kernel
theorem dX9_readCond_20 : decode cX9_readCond 20 = .ok (.iload_n 2, 1) := by decide +kernel
theorem dX9_readCond_21 : decode cX9_readCond 21 = .ok (.ifCond .ge 17, 3) := by decide +kernel
theorem dX9_readCond_24 : decode cX9_readCond 24 = .ok (.aload_n 0, 1) := by decide +kernel
theorem dX9_readCond_25 : decode cX9_readCond 25 = .ok (.sipush 2000, 3) := by decide +kernel
theorem dX9_readCond_28 : decode cX9_readCond 28 = .ok (.invokevirtual 68, 3) := by decide +kernel
theorem dX9_readCond_31 : decode cX9_readCond 31 = .ok (.istore_n 2, 1) := by decide +kernel
theorem dX9_readCond_32 : decode cX9_readCond 32 = .ok (.aload_n 0, 1) := by decide +kernel
theorem dX9_readCond_33 : decode cX9_readCond 33 = .ok (.iload_n 2, 1) := by decide +kernel
theorem dX9_readCond_34 : decode cX9_readCond 34 = .ok (.iload_n 1, 1) := by decide +kernel
theorem dX9_readCond_35 : decode cX9_readCond 35 = .ok (.invokevirtual 75, 3) := by decide +kernel
theorem dX9_readCond_38 : decode cX9_readCond 38 = .ok (.aload_n 0, 1) := by decide +kernel
theorem dX9_readCond_39 : decode cX9_readCond 39 = .ok (.invokevirtual 156, 3) := by decide +kernel
theorem dX9_readCond_42 : decode cX9_readCond 42 = .ok (.istore_n 1, 1) := by decide +kernel
theorem dX9_readCond_43 : decode cX9_readCond 43 = .ok (.iload_n 1, 1) := by decide +kernel
theorem dX9_readCond_44 : decode cX9_readCond 44 = .ok (.ifCond .lt (-37), 3) := by decide +kernel
theorem dX9_readCond_47 : decode cX9_readCond 47 = .ok (.aload_n 0, 1) := by decide +kernel
theorem dX9_readCond_48 : decode cX9_readCond 48 = .ok (.iload_n 2, 1) := by decide +kernel
theorem dX9_readCond_49 : decode cX9_readCond 49 = .ok (.iload_n 1, 1) := by decide +kernel
theorem dX9_readCond_50 : decode cX9_readCond 50 = .ok (.invokevirtual 75, 3) := by decide +kernel
theorem dX9_readCond_53 : decode cX9_readCond 53 = .ok (.goto (-46), 3) := by decide +kernel
theorem dX9_readCond_56 : decode cX9_readCond 56 = .ok (.iload_n 1, 1) := by decide +kernel
theorem dX9_readCond_57 : decode cX9_readCond 57 = .ok (.ifCond .ge 7, 3) := by decide +kernel
theorem dX9_readCond_60 : decode cX9_readCond 60 = .ok (.iconst (-1), 1) := by decide +kernel
theorem dX9_readCond_61 : decode cX9_readCond 61 = .ok (.goto 12, 3) := by decide +kernel
theorem dX9_readCond_64 : decode cX9_readCond 64 = .ok (.iload_n 2, 1) := by decide +kernel
theorem dX9_readCond_65 : decode cX9_readCond 65 = .ok (.ifCond .ge 7, 3) := by decide +kernel
theorem dX9_readCond_68 : decode cX9_readCond 68 = .ok (.iload_n 1, 1) := by decide +kernel
theorem dX9_readCond_69 : decode cX9_readCond 69 = .ok (.goto 4, 3) := by decide +kernel
theorem dX9_readCond_72 : decode cX9_readCond 72 = .ok (.iload_n 2, 1) := by decide +kernel
theorem dX9_readCond_73 : decode cX9_readCond 73 = .ok (.ireturn, 1) := by decide +kernel
theorem dX9_readInto_0 : decode cX9_readInto 0 = .ok (.aload_n 0, 1) := by decide +kernel
theorem dX9_readInto_1 : decode cX9_readInto 1 = .ok (.iconst 0, 1) := by decide +kernel
theorem dX9_readInto_2 : decode cX9_readInto 2 = .ok (.putfield 62, 3) := by decide +kernel
theorem dX9_readInto_5 : decode cX9_readInto 5 = .ok (.aload_n 0, 1) := by decide +kernel
theorem dX9_readInto_6 : decode cX9_readInto 6 = .ok (.iconst 0, 1) := by decide +kernel
theorem dX9_readInto_7 : decode cX9_readInto 7 = .ok (.putfield 135, 3) := by decide +kernel
theorem dX9_readInto_10 : decode cX9_readInto 10 = .ok (.aload_n 0, 1) := by decide +kernel
theorem dX9_readInto_11 : decode cX9_readInto 11 = .ok (.invokevirtual 138, 3) := by decide +kernel
theorem dX9_readInto_14 : decode cX9_readInto 14 = .ok (.istore_n 2, 1) := by decide +kernel
theorem dX9_readInto_15 : decode cX9_readInto 15 = .ok (.iload_n 2, 1) := by decide +kernel
theorem dX9_readInto_16 : decode cX9_readInto 16 = .ok (.ifCond .ge 5, 3) := by decide +kernel
theorem dX9_readInto_19 : decode cX9_readInto 19 = .ok (.iconst 0, 1) := by decide +kernel
theorem dX9_readInto_20 : decode cX9_readInto 20 = .ok (.ireturn, 1) := by decide +kernel
theorem dX9_readInto_21 : decode cX9_readInto 21 = .ok (.aload_n 0, 1) := by decide +kernel
theorem dX9_readInto_22 : decode cX9_readInto 22 = .ok (.iload_n 2, 1) := by decide +kernel
theorem dX9_readInto_23 : decode cX9_readInto 23 = .ok (.iload_n 1, 1) := by decide +kernel
theorem dX9_readInto_24 : decode cX9_readInto 24 = .ok (.invokevirtual 161, 3) := by decide +kernel
theorem dX9_readInto_27 : decode cX9_readInto 27 = .ok (.iconst 1, 1) := by decide +kernel
theorem dX9_readInto_28 : decode cX9_readInto 28 = .ok (.ireturn, 1) := by decide +kernel
theorem dX9_readWho_0 : decode cX9_readWho 0 = .ok (.aload_n 0, 1) := by decide +kernel
theorem dX9_readWho_1 : decode cX9_readWho 1 = .ok (.ldc 164, 2) := by decide +kernel
theorem dX9_readWho_3 : decode cX9_readWho 3 = .ok (.invokevirtual 143, 3) := by decide +kernel
theorem dX9_readWho_6 : decode cX9_readWho 6 = .ok (.ifCond .eq 7, 3) := by decide +kernel
theorem dX9_readWho_9 : decode cX9_readWho 9 = .ok (.iconst 0, 1) := by decide +kernel
theorem dX9_readWho_10 : decode cX9_readWho 10 = .ok (.goto 30, 3) := by decide +kernel
theorem dX9_readWho_13 : decode cX9_readWho 13 = .ok (.aload_n 0, 1) := by decide +kernel
theorem dX9_readWho_14 : decode cX9_readWho 14 = .ok (.ldc 166, 2) := by decide +kernel
theorem dX9_readWho_16 : decode cX9_readWho 16 = .ok (.invokevirtual 143, 3) := by decide +kernel
theorem dX9_readWho_19 : decode cX9_readWho 19 = .ok (.ifCond .eq 7, 3) := by decide +kernel
theorem dX9_readWho_22 : decode cX9_readWho 22 = .ok (.iconst 1, 1) := by decide +kernel
theorem dX9_readWho_23 : decode cX9_readWho 23 = .ok (.goto 17, 3) := by decide +kernel
theorem dX9_readWho_26 : decode cX9_readWho 26 = .ok (.aload_n 0, 1) := by decide +kernel
theorem dX9_readWho_27 : decode cX9_readWho 27 = .ok (.ldc 168, 2) := by decide +kernel
theorem dX9_readWho_29 : decode cX9_readWho 29 = .ok (.invokevirtual 143, 3) := by decide +kernel
theorem dX9_readWho_32 : decode cX9_readWho 32 = .ok (.ifCond .eq 7, 3) := by decide +kernel
theorem dX9_readWho_35 : decode cX9_readWho 35 = .ok (.iconst 2, 1) := by decide +kernel
theorem dX9_readWho_36 : decode cX9_readWho 36 = .ok (.goto 4, 3) := by decide +kernel
theorem dX9_readWho_39 : decode cX9_readWho 39 = .ok (.iconst (-1), 1) := by decide +kernel
theorem dX9_readWho_40 : decode cX9_readWho 40 = .ok (.ireturn, 1) := by decide +kernel
theorem dX9_readMode_0 : decode cX9_readMode 0 = .ok (.aload_n 0, 1) := by decide +kernel
theorem dX9_readMode_1 : decode cX9_readMode 1 = .ok (.ldc 170, 2) := by decide +kernel
theorem dX9_readMode_3 : decode cX9_readMode 3 = .ok (.invokevirtual 143, 3) := by decide +kernel
theorem dX9_readMode_6 : decode cX9_readMode 6 = .ok (.ifCond .eq 12, 3) := by decide +kernel
theorem dX9_readMode_9 : decode cX9_readMode 9 = .ok (.aload_n 0, 1) := by decide +kernel
theorem dX9_readMode_10 : decode cX9_readMode 10 = .ok (.getfield 19, 3) := by decide +kernel
theorem dX9_readMode_13 : decode cX9_readMode 13 = .ok (.iload_n 1, 1) := by decide +kernel
theorem dX9_readMode_14 : decode cX9_readMode 14 = .ok (.iconst 2, 1) := by decide +kernel
theorem dX9_readMode_15 : decode cX9_readMode 15 = .ok (.iastore, 1) := by decide +kernel
theorem dX9_readMode_16 : decode cX9_readMode 16 = .ok (.iconst 1, 1) := by decide +kernel
theorem dX9_readMode_17 : decode cX9_readMode 17 = .ok (.ireturn, 1) := by decide +kernel
theorem dX9_readMode_18 : decode cX9_readMode 18 = .ok (.aload_n 0, 1) := by decide +kernel
theorem dX9_readMode_19 : decode cX9_readMode 19 = .ok (.ldc 172, 2) := by decide +kernel
theorem dX9_readMode_21 : decode cX9_readMode 21 = .ok (.invokevirtual 143, 3) := by decide +kernel
theorem dX9_readMode_24 : decode cX9_readMode 24 = .ok (.ifCond .ne 5, 3) := by decide +kernel
theorem dX9_readMode_27 : decode cX9_readMode 27 = .ok (.iconst 0, 1) := by decide +kernel
theorem dX9_readMode_28 : decode cX9_readMode 28 = .ok (.ireturn, 1) := by decide +kernel
theorem dX9_readMode_29 : decode cX9_readMode 29 = .ok (.aload_n 0, 1) := by decide +kernel
theorem dX9_readMode_30 : decode cX9_readMode 30 = .ok (.getfield 19, 3) := by decide +kernel
theorem dX9_readMode_33 : decode cX9_readMode 33 = .ok (.iload_n 1, 1) := by decide +kernel
theorem dX9_readMode_34 : decode cX9_readMode 34 = .ok (.aload_n 0, 1) := by decide +kernel
theorem dX9_readMode_35 : decode cX9_readMode 35 = .ok (.ldc 141, 2) := by decide +kernel
theorem dX9_readMode_37 : decode cX9_readMode 37 = .ok (.invokevirtual 143, 3) := by decide +kernel
theorem dX9_readMode_40 : decode cX9_readMode 40 = .ok (.ifCond .eq 7, 3) := by decide +kernel
theorem dX9_readMode_43 : decode cX9_readMode 43 = .ok (.iconst 1, 1) := by decide +kernel
theorem dX9_readMode_44 : decode cX9_readMode 44 = .ok (.goto 4, 3) := by decide +kernel
theorem dX9_readMode_47 : decode cX9_readMode 47 = .ok (.iconst 0, 1) := by decide +kernel
theorem dX9_readMode_48 : decode cX9_readMode 48 = .ok (.iastore, 1) := by decide +kernel
theorem dX9_readMode_49 : decode cX9_readMode 49 = .ok (.iconst 1, 1) := by decide +kernel
theorem dX9_readMode_50 : decode cX9_readMode 50 = .ok (.ireturn, 1) := by decide +kernel
theorem dX9_readActs_0 : decode cX9_readActs 0 = .ok (.iload_n 2, 1) := by decide +kernel
theorem dX9_readActs_1 : decode cX9_readActs 1 = .ok (.istore_n 3, 1) := by decide +kernel
theorem dX9_readActs_2 : decode cX9_readActs 2 = .ok (.iload_n 3, 1) := by decide +kernel
theorem dX9_readActs_3 : decode cX9_readActs 3 = .ok (.ifCond .ne 14, 3) := by decide +kernel
theorem dX9_readActs_6 : decode cX9_readActs 6 = .ok (.aload_n 0, 1) := by decide +kernel
theorem dX9_readActs_7 : decode cX9_readActs 7 = .ok (.ldc 174, 2) := by decide +kernel
theorem dX9_readActs_9 : decode cX9_readActs 9 = .ok (.invokevirtual 143, 3) := by decide +kernel
theorem dX9_readActs_12 : decode cX9_readActs 12 = .ok (.ifCond .ne 5, 3) := by decide +kernel
theorem dX9_readActs_15 : decode cX9_readActs 15 = .ok (.iconst 0, 1) := by decide +kernel
theorem dX9_readActs_16 : decode cX9_readActs 16 = .ok (.ireturn, 1) := by decide +kernel
theorem dX9_readActs_17 : decode cX9_readActs 17 = .ok (.iconst 0, 1) := by decide +kernel
theorem dX9_readActs_18 : decode cX9_readActs 18 = .ok (.istore_n 3, 1) := by decide +kernel
theorem dX9_readActs_19 : decode cX9_readActs 19 = .ok (.aload_n 0, 1) := by decide +kernel
theorem dX9_readActs_20 : decode cX9_readActs 20 = .ok (.iconst 0, 1) := by decide +kernel
theorem dX9_readActs_21 : decode cX9_readActs 21 = .ok (.bipush 9, 2) := by decide +kernel
theorem dX9_readActs_23 : decode cX9_readActs 23 = .ok (.invokevirtual 151, 3) := by decide +kernel
theorem dX9_readActs_26 : decode cX9_readActs 26 = .ok (.istore 4, 2) := by decide +kernel
theorem dX9_readActs_28 : decode cX9_readActs 28 = .ok (.iconst 0, 1) := by decide +kernel
theorem dX9_readActs_29 : decode cX9_readActs 29 = .ok (.istore 5, 2) := by decide +kernel
theorem dX9_readActs_31 : decode cX9_readActs 31 = .ok (.iload 5, 2) := by decide +kernel
theorem dX9_readActs_33 : decode cX9_readActs 33 = .ok (.aload_n 0, 1) := by decide +kernel
theorem dX9_readActs_34 : decode cX9_readActs 34 = .ok (.getfield 9, 3) := by decide +kernel
theorem dX9_readActs_37 : decode cX9_readActs 37 = .ok (.iload_n 1, 1) := by decide +kernel
theorem dX9_readActs_38 : decode cX9_readActs 38 = .ok (.iaload, 1) := by decide +kernel
theorem dX9_readActs_39 : decode cX9_readActs 39 = .ok (.if_icmp .ge 27, 3) := by decide +kernel
theorem dX9_readActs_42 : decode cX9_readActs 42 = .ok (.aload_n 0, 1) := by decide +kernel
theorem dX9_readActs_43 : decode cX9_readActs 43 = .ok (.getfield 13, 3) := by decide +kernel
theorem dX9_readActs_46 : decode cX9_readActs 46 = .ok (.iconst 3, 1) := by decide +kernel
theorem dX9_readActs_47 : decode cX9_readActs 47 = .ok (.iload_n 1, 1) := by decide +kernel
theorem dX9_readActs_48 : decode cX9_readActs 48 = .ok (.imul, 1) := by decide +kernel
theorem dX9_readActs_49 : decode cX9_readActs 49 = .ok (.iload 5, 2) := by decide +kernel
theorem dX9_readActs_51 : decode cX9_readActs 51 = .ok (.iadd, 1) := by decide +kernel
theorem dX9_readActs_52 : decode cX9_readActs 52 = .ok (.iaload, 1) := by decide +kernel
theorem dX9_readActs_53 : decode cX9_readActs 53 = .ok (.iload 4, 2) := by decide +kernel
theorem dX9_readActs_55 : decode cX9_readActs 55 = .ok (.if_icmp .ne 5, 3) := by decide +kernel
theorem dX9_readActs_58 : decode cX9_readActs 58 = .ok (.iconst 0, 1) := by decide +kernel
theorem dX9_readActs_59 : decode cX9_readActs 59 = .ok (.ireturn, 1) := by decide +kernel
theorem dX9_readActs_60 : decode cX9_readActs 60 = .ok (.iinc 5 1, 3) := by decide +kernel
theorem dX9_readActs_63 : decode cX9_readActs 63 = .ok (.goto (-32), 3) := by decide +kernel
theorem dX9_readActs_66 : decode cX9_readActs 66 = .ok (.iload 4, 2) := by decide +kernel
theorem dX9_readActs_68 : decode cX9_readActs 68 = .ok (.ifCond .ge 5, 3) := by decide +kernel
theorem dX9_readActs_71 : decode cX9_readActs 71 = .ok (.iconst 0, 1) := by decide +kernel
theorem dX9_readActs_72 : decode cX9_readActs 72 = .ok (.ireturn, 1) := by decide +kernel
theorem dX9_readActs_73 : decode cX9_readActs 73 = .ok (.aload_n 0, 1) := by decide +kernel
theorem dX9_readActs_74 : decode cX9_readActs 74 = .ok (.getfield 13, 3) := by decide +kernel
theorem dX9_readActs_77 : decode cX9_readActs 77 = .ok (.iconst 3, 1) := by decide +kernel
theorem dX9_readActs_78 : decode cX9_readActs 78 = .ok (.iload_n 1, 1) := by decide +kernel
theorem dX9_readActs_79 : decode cX9_readActs 79 = .ok (.imul, 1) := by decide +kernel
theorem dX9_readActs_80 : decode cX9_readActs 80 = .ok (.aload_n 0, 1) := by decide +kernel
theorem dX9_readActs_81 : decode cX9_readActs 81 = .ok (.getfield 9, 3) := by decide +kernel
theorem dX9_readActs_84 : decode cX9_readActs 84 = .ok (.iload_n 1, 1) := by decide +kernel
theorem dX9_readActs_85 : decode cX9_readActs 85 = .ok (.iaload, 1) := by decide +kernel
theorem dX9_readActs_86 : decode cX9_readActs 86 = .ok (.iadd, 1) := by decide +kernel
theorem dX9_readActs_87 : decode cX9_readActs 87 = .ok (.iload 4, 2) := by decide +kernel
theorem dX9_readActs_89 : decode cX9_readActs 89 = .ok (.iastore, 1) := by decide +kernel
theorem dX9_readActs_90 : decode cX9_readActs 90 = .ok (.aload_n 0, 1) := by decide +kernel
theorem dX9_readActs_91 : decode cX9_readActs 91 = .ok (.getfield 9, 3) := by decide +kernel
theorem dX9_readActs_94 : decode cX9_readActs 94 = .ok (.iload_n 1, 1) := by decide +kernel
theorem dX9_readActs_95 : decode cX9_readActs 95 = .ok (.dup2, 1) := by decide +kernel
theorem dX9_readActs_96 : decode cX9_readActs 96 = .ok (.iaload, 1) := by decide +kernel
theorem dX9_readActs_97 : decode cX9_readActs 97 = .ok (.iconst 1, 1) := by decide +kernel
theorem dX9_readActs_98 : decode cX9_readActs 98 = .ok (.iadd, 1) := by decide +kernel
theorem dX9_readActs_99 : decode cX9_readActs 99 = .ok (.iastore, 1) := by decide +kernel
theorem dX9_readActs_100 : decode cX9_readActs 100 = .ok (.aload_n 0, 1) := by decide +kernel
theorem dX9_readActs_101 : decode cX9_readActs 101 = .ok (.ldc 154, 2) := by decide +kernel
theorem dX9_readActs_103 : decode cX9_readActs 103 = .ok (.invokevirtual 143, 3) := by decide +kernel
theorem dX9_readActs_106 : decode cX9_readActs 106 = .ok (.ifCond .ne 5, 3) := by decide +kernel
theorem dX9_readActs_109 : decode cX9_readActs 109 = .ok (.iconst 1, 1) := by decide +kernel
theorem dX9_readActs_110 : decode cX9_readActs 110 = .ok (.ireturn, 1) := by decide +kernel
theorem dX9_readActs_111 : decode cX9_readActs 111 = .ok (.aload_n 0, 1) := by decide +kernel
theorem dX9_readActs_112 : decode cX9_readActs 112 = .ok (.getfield 9, 3) := by decide +kernel
theorem dX9_readActs_115 : decode cX9_readActs 115 = .ok (.iload_n 1, 1) := by decide +kernel
theorem dX9_readActs_116 : decode cX9_readActs 116 = .ok (.iaload, 1) := by decide +kernel
theorem dX9_readActs_117 : decode cX9_readActs 117 = .ok (.iconst 3, 1) := by decide +kernel
theorem dX9_readActs_118 : decode cX9_readActs 118 = .ok (.if_icmp .ne 5, 3) := by decide +kernel
theorem dX9_readActs_121 : decode cX9_readActs 121 = .ok (.iconst 0, 1) := by decide +kernel
theorem dX9_readActs_122 : decode cX9_readActs 122 = .ok (.ireturn, 1) := by decide +kernel
theorem dX9_readActs_123 : decode cX9_readActs 123 = .ok (.goto (-121), 3) := by decide +kernel
theorem dX9_readBody_0 : decode cX9_readBody 0 = .ok (.aload_n 0, 1) := by decide +kernel
theorem dX9_readBody_1 : decode cX9_readBody 1 = .ok (.getfield 16, 3) := by decide +kernel
theorem dX9_readBody_4 : decode cX9_readBody 4 = .ok (.iload_n 1, 1) := by decide +kernel
theorem dX9_readBody_5 : decode cX9_readBody 5 = .ok (.aload_n 0, 1) := by decide +kernel
theorem dX9_readBody_6 : decode cX9_readBody 6 = .ok (.invokevirtual 175, 3) := by decide +kernel
theorem dX9_readBody_9 : decode cX9_readBody 9 = .ok (.iastore, 1) := by decide +kernel
theorem dX9_readBody_10 : decode cX9_readBody 10 = .ok (.aload_n 0, 1) := by decide +kernel
theorem dX9_readBody_11 : decode cX9_readBody 11 = .ok (.getfield 16, 3) := by decide +kernel
theorem dX9_readBody_14 : decode cX9_readBody 14 = .ok (.iload_n 1, 1) := by decide +kernel
theorem dX9_readBody_15 : decode cX9_readBody 15 = .ok (.iaload, 1) := by decide +kernel
theorem dX9_readBody_16 : decode cX9_readBody 16 = .ok (.ifCond .lt 26, 3) := by decide +kernel
theorem dX9_readBody_19 : decode cX9_readBody 19 = .ok (.aload_n 0, 1) := by decide +kernel
theorem dX9_readBody_20 : decode cX9_readBody 20 = .ok (.iload_n 1, 1) := by decide +kernel
theorem dX9_readBody_21 : decode cX9_readBody 21 = .ok (.invokevirtual 178, 3) := by decide +kernel
theorem dX9_readBody_24 : decode cX9_readBody 24 = .ok (.ifCond .eq 16, 3) := by decide +kernel
theorem dX9_readBody_27 : decode cX9_readBody 27 = .ok (.aload_n 0, 1) := by decide +kernel
theorem dX9_readBody_28 : decode cX9_readBody 28 = .ok (.iload_n 1, 1) := by decide +kernel
theorem dX9_readBody_29 : decode cX9_readBody 29 = .ok (.iconst 0, 1) := by decide +kernel
theorem dX9_readBody_30 : decode cX9_readBody 30 = .ok (.invokevirtual 181, 3) := by decide +kernel
theorem dX9_readBody_33 : decode cX9_readBody 33 = .ok (.ifCond .eq 7, 3) := by decide +kernel
theorem dX9_readBody_36 : decode cX9_readBody 36 = .ok (.iconst 1, 1) := by decide +kernel
theorem dX9_readBody_37 : decode cX9_readBody 37 = .ok (.goto 4, 3) := by decide +kernel
theorem dX9_readBody_40 : decode cX9_readBody 40 = .ok (.iconst 0, 1) := by decide +kernel
theorem dX9_readBody_41 : decode cX9_readBody 41 = .ok (.ireturn, 1) := by decide +kernel
theorem dX9_readBody_42 : decode cX9_readBody 42 = .ok (.aload_n 0, 1) := by decide +kernel
theorem dX9_readBody_43 : decode cX9_readBody 43 = .ok (.getfield 16, 3) := by decide +kernel
theorem dX9_readBody_46 : decode cX9_readBody 46 = .ok (.iload_n 1, 1) := by decide +kernel
theorem dX9_readBody_47 : decode cX9_readBody 47 = .ok (.iconst 3, 1) := by decide +kernel
theorem dX9_readBody_48 : decode cX9_readBody 48 = .ok (.iastore, 1) := by decide +kernel
theorem dX9_readBody_49 : decode cX9_readBody 49 = .ok (.aload_n 0, 1) := by decide +kernel
theorem dX9_readBody_50 : decode cX9_readBody 50 = .ok (.getfield 25, 3) := by decide +kernel
theorem dX9_readBody_53 : decode cX9_readBody 53 = .ok (.iload_n 1, 1) := by decide +kernel
theorem dX9_readBody_54 : decode cX9_readBody 54 = .ok (.iconst 1, 1) := by decide +kernel
theorem dX9_readBody_55 : decode cX9_readBody 55 = .ok (.bastore, 1) := by decide +kernel
theorem dX9_readBody_56 : decode cX9_readBody 56 = .ok (.aload_n 0, 1) := by decide +kernel
theorem dX9_readBody_57 : decode cX9_readBody 57 = .ok (.ldc 174, 2) := by decide +kernel
theorem dX9_readBody_59 : decode cX9_readBody 59 = .ok (.invokevirtual 143, 3) := by decide +kernel
theorem dX9_readBody_62 : decode cX9_readBody 62 = .ok (.ifCond .eq 38, 3) := by decide +kernel
theorem dX9_readBody_65 : decode cX9_readBody 65 = .ok (.aload_n 0, 1) := by decide +kernel
theorem dX9_readBody_66 : decode cX9_readBody 66 = .ok (.iload_n 1, 1) := by decide +kernel
theorem dX9_readBody_67 : decode cX9_readBody 67 = .ok (.iconst 1, 1) := by decide +kernel
theorem dX9_readBody_68 : decode cX9_readBody 68 = .ok (.invokevirtual 181, 3) := by decide +kernel
theorem dX9_readBody_71 : decode cX9_readBody 71 = .ok (.ifCond .eq 29, 3) := by decide +kernel
theorem dX9_readBody_74 : decode cX9_readBody 74 = .ok (.aload_n 0, 1) := by decide +kernel
theorem dX9_readBody_75 : decode cX9_readBody 75 = .ok (.iload_n 1, 1) := by decide +kernel
theorem dX9_readBody_76 : decode cX9_readBody 76 = .ok (.invokevirtual 178, 3) := by decide +kernel
theorem dX9_readBody_79 : decode cX9_readBody 79 = .ok (.ifCond .eq 21, 3) := by decide +kernel
theorem dX9_readBody_82 : decode cX9_readBody 82 = .ok (.aload_n 0, 1) := by decide +kernel
theorem dX9_readBody_83 : decode cX9_readBody 83 = .ok (.ldc 185, 2) := by decide +kernel
theorem dX9_readBody_85 : decode cX9_readBody 85 = .ok (.invokevirtual 143, 3) := by decide +kernel
theorem dX9_readBody_88 : decode cX9_readBody 88 = .ok (.ifCond .eq 12, 3) := by decide +kernel
theorem dX9_readBody_91 : decode cX9_readBody 91 = .ok (.aload_n 0, 1) := by decide +kernel
theorem dX9_readBody_92 : decode cX9_readBody 92 = .ok (.ldc 187, 2) := by decide +kernel
theorem dX9_readBody_94 : decode cX9_readBody 94 = .ok (.invokevirtual 143, 3) := by decide +kernel
theorem dX9_readBody_97 : decode cX9_readBody 97 = .ok (.ifCond .ne 5, 3) := by decide +kernel
theorem dX9_readBody_100 : decode cX9_readBody 100 = .ok (.iconst 0, 1) := by decide +kernel
theorem dX9_readBody_101 : decode cX9_readBody 101 = .ok (.ireturn, 1) := by decide +kernel
theorem dX9_readBody_102 : decode cX9_readBody 102 = .ok (.aload_n 0, 1) := by decide +kernel
theorem dX9_readBody_103 : decode cX9_readBody 103 = .ok (.ldc 189, 2) := by decide +kernel
theorem dX9_readBody_105 : decode cX9_readBody 105 = .ok (.invokevirtual 143, 3) := by decide +kernel
theorem dX9_readBody_108 : decode cX9_readBody 108 = .ok (.ifCond .ne 5, 3) := by decide +kernel
theorem dX9_readBody_111 : decode cX9_readBody 111 = .ok (.iconst 1, 1) := by decide +kernel
theorem dX9_readBody_112 : decode cX9_readBody 112 = .ok (.ireturn, 1) := by decide +kernel
theorem dX9_readBody_113 : decode cX9_readBody 113 = .ok (.aload_n 0, 1) := by decide +kernel
theorem dX9_readBody_114 : decode cX9_readBody 114 = .ok (.getfield 16, 3) := by decide +kernel
theorem dX9_readBody_117 : decode cX9_readBody 117 = .ok (.iload_n 1, 1) := by decide +kernel
theorem dX9_readBody_118 : decode cX9_readBody 118 = .ok (.aload_n 0, 1) := by decide +kernel
theorem dX9_readBody_119 : decode cX9_readBody 119 = .ok (.invokevirtual 175, 3) := by decide +kernel
theorem dX9_readBody_122 : decode cX9_readBody 122 = .ok (.iastore, 1) := by decide +kernel
theorem dX9_readBody_123 : decode cX9_readBody 123 = .ok (.aload_n 0, 1) := by decide +kernel
theorem dX9_readBody_124 : decode cX9_readBody 124 = .ok (.getfield 16, 3) := by decide +kernel
theorem dX9_readBody_127 : decode cX9_readBody 127 = .ok (.iload_n 1, 1) := by decide +kernel
theorem dX9_readBody_128 : decode cX9_readBody 128 = .ok (.iaload, 1) := by decide +kernel
theorem dX9_readBody_129 : decode cX9_readBody 129 = .ok (.ifCond .lt 7, 3) := by decide +kernel
theorem dX9_readBody_132 : decode cX9_readBody 132 = .ok (.iconst 1, 1) := by decide +kernel
theorem dX9_readBody_133 : decode cX9_readBody 133 = .ok (.goto 4, 3) := by decide +kernel
theorem dX9_readBody_136 : decode cX9_readBody 136 = .ok (.iconst 0, 1) := by decide +kernel
theorem dX9_readBody_137 : decode cX9_readBody 137 = .ok (.ireturn, 1) := by decide +kernel
theorem dX9_readSentence_0 : decode cX9_readSentence 0 = .ok (.aload_n 0, 1) := by decide +kernel
theorem dX9_readSentence_1 : decode cX9_readSentence 1 = .ok (.getfield 9, 3) := by decide +kernel
theorem dX9_readSentence_4 : decode cX9_readSentence 4 = .ok (.iload_n 1, 1) := by decide +kernel
theorem dX9_readSentence_5 : decode cX9_readSentence 5 = .ok (.iconst 0, 1) := by decide +kernel
theorem dX9_readSentence_6 : decode cX9_readSentence 6 = .ok (.iastore, 1) := by decide +kernel
theorem dX9_readSentence_7 : decode cX9_readSentence 7 = .ok (.aload_n 0, 1) := by decide +kernel
theorem dX9_readSentence_8 : decode cX9_readSentence 8 = .ok (.getfield 25, 3) := by decide +kernel
theorem dX9_readSentence_11 : decode cX9_readSentence 11 = .ok (.iload_n 1, 1) := by decide +kernel
theorem dX9_readSentence_12 : decode cX9_readSentence 12 = .ok (.iconst 0, 1) := by decide +kernel
theorem dX9_readSentence_13 : decode cX9_readSentence 13 = .ok (.bastore, 1) := by decide +kernel
theorem dX9_readSentence_14 : decode cX9_readSentence 14 = .ok (.aload_n 0, 1) := by decide +kernel
theorem dX9_readSentence_15 : decode cX9_readSentence 15 = .ok (.getfield 22, 3) := by decide +kernel
theorem dX9_readSentence_18 : decode cX9_readSentence 18 = .ok (.iload_n 1, 1) := by decide +kernel
theorem dX9_readSentence_19 : decode cX9_readSentence 19 = .ok (.iconst (-1), 1) := by decide +kernel
theorem dX9_readSentence_20 : decode cX9_readSentence 20 = .ok (.iastore, 1) := by decide +kernel
theorem dX9_readSentence_21 : decode cX9_readSentence 21 = .ok (.aload_n 0, 1) := by decide +kernel
theorem dX9_readSentence_22 : decode cX9_readSentence 22 = .ok (.getfield 29, 3) := by decide +kernel
theorem dX9_readSentence_25 : decode cX9_readSentence 25 = .ok (.iconst 2, 1) := by decide +kernel
theorem dX9_readSentence_26 : decode cX9_readSentence 26 = .ok (.iload_n 1, 1) := by decide +kernel
theorem dX9_readSentence_27 : decode cX9_readSentence 27 = .ok (.imul, 1) := by decide +kernel
theorem dX9_readSentence_28 : decode cX9_readSentence 28 = .ok (.iconst 0, 1) := by decide +kernel
theorem dX9_readSentence_29 : decode cX9_readSentence 29 = .ok (.iastore, 1) := by decide +kernel
theorem dX9_readSentence_30 : decode cX9_readSentence 30 = .ok (.aload_n 0, 1) := by decide +kernel
theorem dX9_readSentence_31 : decode cX9_readSentence 31 = .ok (.getfield 29, 3) := by decide +kernel
theorem dX9_readSentence_34 : decode cX9_readSentence 34 = .ok (.iconst 2, 1) := by decide +kernel
theorem dX9_readSentence_35 : decode cX9_readSentence 35 = .ok (.iload_n 1, 1) := by decide +kernel
theorem dX9_readSentence_36 : decode cX9_readSentence 36 = .ok (.imul, 1) := by decide +kernel
theorem dX9_readSentence_37 : decode cX9_readSentence 37 = .ok (.iconst 1, 1) := by decide +kernel
theorem dX9_readSentence_38 : decode cX9_readSentence 38 = .ok (.iadd, 1) := by decide +kernel
theorem dX9_readSentence_39 : decode cX9_readSentence 39 = .ok (.iconst 0, 1) := by decide +kernel
theorem dX9_readSentence_40 : decode cX9_readSentence 40 = .ok (.iastore, 1) := by decide +kernel
theorem dX9_readSentence_41 : decode cX9_readSentence 41 = .ok (.aload_n 0, 1) := by decide +kernel
theorem dX9_readSentence_42 : decode cX9_readSentence 42 = .ok (.ldc 191, 2) := by decide +kernel
theorem dX9_readSentence_44 : decode cX9_readSentence 44 = .ok (.invokevirtual 143, 3) := by decide +kernel
theorem dX9_readSentence_47 : decode cX9_readSentence 47 = .ok (.ifCond .eq 24, 3) := by decide +kernel
theorem dX9_readSentence_50 : decode cX9_readSentence 50 = .ok (.aload_n 0, 1) := by decide +kernel
theorem dX9_readSentence_51 : decode cX9_readSentence 51 = .ok (.iconst 2, 1) := by decide +kernel
theorem dX9_readSentence_52 : decode cX9_readSentence 52 = .ok (.iload_n 1, 1) := by decide +kernel
theorem dX9_readSentence_53 : decode cX9_readSentence 53 = .ok (.imul, 1) := by decide +kernel
theorem dX9_readSentence_54 : decode cX9_readSentence 54 = .ok (.invokevirtual 193, 3) := by decide +kernel
theorem dX9_readSentence_57 : decode cX9_readSentence 57 = .ok (.ifCond .eq 12, 3) := by decide +kernel
theorem dX9_readSentence_60 : decode cX9_readSentence 60 = .ok (.aload_n 0, 1) := by decide +kernel
theorem dX9_readSentence_61 : decode cX9_readSentence 61 = .ok (.bipush 44, 2) := by decide +kernel
theorem dX9_readSentence_63 : decode cX9_readSentence 63 = .ok (.invokevirtual 131, 3) := by decide +kernel
theorem dX9_readSentence_66 : decode cX9_readSentence 66 = .ok (.ifCond .ne 5, 3) := by decide +kernel
theorem dX9_readSentence_69 : decode cX9_readSentence 69 = .ok (.iconst 0, 1) := by decide +kernel
theorem dX9_readSentence_70 : decode cX9_readSentence 70 = .ok (.ireturn, 1) := by decide +kernel
theorem dX9_readSentence_71 : decode cX9_readSentence 71 = .ok (.aload_n 0, 1) := by decide +kernel
theorem dX9_readSentence_72 : decode cX9_readSentence 72 = .ok (.iload_n 1, 1) := by decide +kernel
theorem dX9_readSentence_73 : decode cX9_readSentence 73 = .ok (.invokevirtual 196, 3) := by decide +kernel
theorem dX9_readSentence_76 : decode cX9_readSentence 76 = .ok (.ifCond .ne 5, 3) := by decide +kernel
theorem dX9_readSentence_79 : decode cX9_readSentence 79 = .ok (.iconst 0, 1) := by decide +kernel
theorem dX9_readSentence_80 : decode cX9_readSentence 80 = .ok (.ireturn, 1) := by decide +kernel
theorem dX9_readSentence_81 : decode cX9_readSentence 81 = .ok (.aload_n 0, 1) := by decide +kernel
theorem dX9_readSentence_82 : decode cX9_readSentence 82 = .ok (.ldc 199, 2) := by decide +kernel
theorem dX9_readSentence_84 : decode cX9_readSentence 84 = .ok (.invokevirtual 143, 3) := by decide +kernel
theorem dX9_readSentence_87 : decode cX9_readSentence 87 = .ok (.ifCond .eq 17, 3) := by decide +kernel
theorem dX9_readSentence_90 : decode cX9_readSentence 90 = .ok (.aload_n 0, 1) := by decide +kernel
theorem dX9_readSentence_91 : decode cX9_readSentence 91 = .ok (.iconst 2, 1) := by decide +kernel
theorem dX9_readSentence_92 : decode cX9_readSentence 92 = .ok (.iload_n 1, 1) := by decide +kernel
theorem dX9_readSentence_93 : decode cX9_readSentence 93 = .ok (.imul, 1) := by decide +kernel
theorem dX9_readSentence_94 : decode cX9_readSentence 94 = .ok (.iconst 1, 1) := by decide +kernel
theorem dX9_readSentence_95 : decode cX9_readSentence 95 = .ok (.iadd, 1) := by decide +kernel
theorem dX9_readSentence_96 : decode cX9_readSentence 96 = .ok (.invokevirtual 193, 3) := by decide +kernel
theorem dX9_readSentence_99 : decode cX9_readSentence 99 = .ok (.ifCond .ne 5, 3) := by decide +kernel
theorem dX9_readSentence_102 : decode cX9_readSentence 102 = .ok (.iconst 0, 1) := by decide +kernel
theorem dX9_readSentence_103 : decode cX9_readSentence 103 = .ok (.ireturn, 1) := by decide +kernel
theorem dX9_readSentence_104 : decode cX9_readSentence 104 = .ok (.aload_n 0, 1) := by decide +kernel
theorem dX9_readSentence_105 : decode cX9_readSentence 105 = .ok (.ldc 201, 2) := by decide +kernel
theorem dX9_readSentence_107 : decode cX9_readSentence 107 = .ok (.invokevirtual 143, 3) := by decide +kernel
theorem dX9_readSentence_110 : decode cX9_readSentence 110 = .ok (.ifCond .ne 5, 3) := by decide +kernel
theorem dX9_readSentence_113 : decode cX9_readSentence 113 = .ok (.iconst 1, 1) := by decide +kernel
theorem dX9_readSentence_114 : decode cX9_readSentence 114 = .ok (.ireturn, 1) := by decide +kernel
theorem dX9_readSentence_115 : decode cX9_readSentence 115 = .ok (.aload_n 0, 1) := by decide +kernel
theorem dX9_readSentence_116 : decode cX9_readSentence 116 = .ok (.getfield 22, 3) := by decide +kernel
theorem dX9_readSentence_119 : decode cX9_readSentence 119 = .ok (.iload_n 1, 1) := by decide +kernel
theorem dX9_readSentence_120 : decode cX9_readSentence 120 = .ok (.aload_n 0, 1) := by decide +kernel
theorem dX9_readSentence_121 : decode cX9_readSentence 121 = .ok (.iconst 1, 1) := by decide +kernel
theorem dX9_readSentence_122 : decode cX9_readSentence 122 = .ok (.sipush 365, 3) := by decide +kernel
theorem dX9_readSentence_125 : decode cX9_readSentence 125 = .ok (.invokevirtual 151, 3) := by decide +kernel
theorem dX9_readSentence_128 : decode cX9_readSentence 128 = .ok (.iastore, 1) := by decide +kernel
theorem dX9_readSentence_129 : decode cX9_readSentence 129 = .ok (.aload_n 0, 1) := by decide +kernel
theorem dX9_readSentence_130 : decode cX9_readSentence 130 = .ok (.getfield 22, 3) := by decide +kernel
theorem dX9_readSentence_133 : decode cX9_readSentence 133 = .ok (.iload_n 1, 1) := by decide +kernel
theorem dX9_readSentence_134 : decode cX9_readSentence 134 = .ok (.iaload, 1) := by decide +kernel
theorem dX9_readSentence_135 : decode cX9_readSentence 135 = .ok (.ifCond .lt 7, 3) := by decide +kernel
theorem dX9_readSentence_138 : decode cX9_readSentence 138 = .ok (.iconst 1, 1) := by decide +kernel
theorem dX9_readSentence_139 : decode cX9_readSentence 139 = .ok (.goto 4, 3) := by decide +kernel
theorem dX9_readSentence_142 : decode cX9_readSentence 142 = .ok (.iconst 0, 1) := by decide +kernel
theorem dX9_readSentence_143 : decode cX9_readSentence 143 = .ok (.ireturn, 1) := by decide +kernel
theorem dX9_readAll_0 : decode cX9_readAll 0 = .ok (.aload_n 0, 1) := by decide +kernel
theorem dX9_readAll_1 : decode cX9_readAll 1 = .ok (.iconst 0, 1) := by decide +kernel
theorem dX9_readAll_2 : decode cX9_readAll 2 = .ok (.putfield 99, 3) := by decide +kernel
theorem dX9_readAll_5 : decode cX9_readAll 5 = .ok (.iconst 0, 1) := by decide +kernel
theorem dX9_readAll_6 : decode cX9_readAll 6 = .ok (.istore_n 1, 1) := by decide +kernel
theorem dX9_readAll_7 : decode cX9_readAll 7 = .ok (.aload_n 0, 1) := by decide +kernel
theorem dX9_readAll_8 : decode cX9_readAll 8 = .ok (.bipush 48, 2) := by decide +kernel
theorem dX9_readAll_10 : decode cX9_readAll 10 = .ok (.iload_n 1, 1) := by decide +kernel
theorem dX9_readAll_11 : decode cX9_readAll 11 = .ok (.iadd, 1) := by decide +kernel
theorem dX9_readAll_12 : decode cX9_readAll 12 = .ok (.invokevirtual 203, 3) := by decide +kernel
theorem dX9_readAll_15 : decode cX9_readAll 15 = .ok (.ifCond .ne 5, 3) := by decide +kernel
theorem dX9_readAll_18 : decode cX9_readAll 18 = .ok (.iconst (-1), 1) := by decide +kernel
theorem dX9_readAll_19 : decode cX9_readAll 19 = .ok (.ireturn, 1) := by decide +kernel
theorem dX9_readAll_20 : decode cX9_readAll 20 = .ok (.iinc 1 1, 3) := by decide +kernel
theorem dX9_readAll_23 : decode cX9_readAll 23 = .ok (.aload_n 0, 1) := by decide +kernel
theorem dX9_readAll_24 : decode cX9_readAll 24 = .ok (.invokevirtual 112, 3) := by decide +kernel
theorem dX9_readAll_27 : decode cX9_readAll 27 = .ok (.aload_n 0, 1) := by decide +kernel
theorem dX9_readAll_28 : decode cX9_readAll 28 = .ok (.getfield 99, 3) := by decide +kernel
theorem dX9_readAll_31 : decode cX9_readAll 31 = .ok (.aload_n 0, 1) := by decide +kernel
theorem dX9_readAll_32 : decode cX9_readAll 32 = .ok (.getfield 102, 3) := by decide +kernel
theorem dX9_readAll_35 : decode cX9_readAll 35 = .ok (.if_icmp .ne 5, 3) := by decide +kernel
theorem dX9_readAll_38 : decode cX9_readAll 38 = .ok (.iload_n 1, 1) := by decide +kernel
theorem dX9_readAll_39 : decode cX9_readAll 39 = .ok (.ireturn, 1) := by decide +kernel
theorem dX9_readAll_40 : decode cX9_readAll 40 = .ok (.aload_n 0, 1) := by decide +kernel
theorem dX9_readAll_41 : decode cX9_readAll 41 = .ok (.bipush 59, 2) := by decide +kernel
theorem dX9_readAll_43 : decode cX9_readAll 43 = .ok (.bipush 59, 2) := by decide +kernel
theorem dX9_readAll_45 : decode cX9_readAll 45 = .ok (.invokevirtual 105, 3) := by decide +kernel
theorem dX9_readAll_48 : decode cX9_readAll 48 = .ok (.ifCond .eq 9, 3) := by decide +kernel
theorem dX9_readAll_51 : decode cX9_readAll 51 = .ok (.iload_n 1, 1) := by decide +kernel
theorem dX9_readAll_52 : decode cX9_readAll 52 = .ok (.bipush 8, 2) := by decide +kernel
theorem dX9_readAll_54 : decode cX9_readAll 54 = .ok (.if_icmp .ne 5, 3) := by decide +kernel
theorem dX9_readAll_57 : decode cX9_readAll 57 = .ok (.iconst (-1), 1) := by decide +kernel
theorem dX9_readAll_58 : decode cX9_readAll 58 = .ok (.ireturn, 1) := by decide +kernel
theorem dX9_readAll_59 : decode cX9_readAll 59 = .ok (.aload_n 0, 1) := by decide +kernel
theorem dX9_readAll_60 : decode cX9_readAll 60 = .ok (.dup, 1) := by decide +kernel
theorem dX9_readAll_61 : decode cX9_readAll 61 = .ok (.getfield 99, 3) := by decide +kernel
theorem dX9_readAll_64 : decode cX9_readAll 64 = .ok (.iconst 1, 1) := by decide +kernel
theorem dX9_readAll_65 : decode cX9_readAll 65 = .ok (.iadd, 1) := by decide +kernel
theorem dX9_readAll_66 : decode cX9_readAll 66 = .ok (.putfield 99, 3) := by decide +kernel
theorem dX9_readAll_69 : decode cX9_readAll 69 = .ok (.goto (-62), 3) := by decide +kernel
theorem dX9_letter_0 : decode cX9_letter 0 = .ok (.aload_n 0, 1) := by decide +kernel
theorem dX9_letter_1 : decode cX9_letter 1 = .ok (.iconst 0, 1) := by decide +kernel
theorem dX9_letter_2 : decode cX9_letter 2 = .ok (.putfield 59, 3) := by decide +kernel
theorem dX9_letter_5 : decode cX9_letter 5 = .ok (.aload_n 0, 1) := by decide +kernel
theorem dX9_letter_6 : decode cX9_letter 6 = .ok (.aload_n 0, 1) := by decide +kernel
theorem dX9_letter_7 : decode cX9_letter 7 = .ok (.getfield 96, 3) := by decide +kernel
theorem dX9_letter_10 : decode cX9_letter 10 = .ok (.putfield 102, 3) := by decide +kernel
theorem dX9_letter_13 : decode cX9_letter 13 = .ok (.aload_n 0, 1) := by decide +kernel
theorem dX9_letter_14 : decode cX9_letter 14 = .ok (.iconst 0, 1) := by decide +kernel
theorem dX9_letter_15 : decode cX9_letter 15 = .ok (.putfield 96, 3) := by decide +kernel
theorem dX9_letter_18 : decode cX9_letter 18 = .ok (.aload_n 0, 1) := by decide +kernel
theorem dX9_letter_19 : decode cX9_letter 19 = .ok (.invokevirtual 206, 3) := by decide +kernel
theorem dX9_letter_22 : decode cX9_letter 22 = .ok (.istore_n 1, 1) := by decide +kernel
theorem dX9_letter_23 : decode cX9_letter 23 = .ok (.aload_n 0, 1) := by decide +kernel
theorem dX9_letter_24 : decode cX9_letter 24 = .ok (.iload_n 1, 1) := by decide +kernel
theorem dX9_letter_25 : decode cX9_letter 25 = .ok (.ifCond .ge 10, 3) := by decide +kernel
theorem dX9_letter_28 : decode cX9_letter 28 = .ok (.aload_n 0, 1) := by decide +kernel
theorem dX9_letter_29 : decode cX9_letter 29 = .ok (.getfield 109, 3) := by decide +kernel
theorem dX9_letter_32 : decode cX9_letter 32 = .ok (.goto 4, 3) := by decide +kernel
theorem dX9_letter_35 : decode cX9_letter 35 = .ok (.iconst (-1), 1) := by decide +kernel
theorem dX9_letter_36 : decode cX9_letter 36 = .ok (.putfield 49, 3) := by decide +kernel
theorem dX9_letter_39 : decode cX9_letter 39 = .ok (.aload_n 0, 1) := by decide +kernel
theorem dX9_letter_40 : decode cX9_letter 40 = .ok (.iload_n 1, 1) := by decide +kernel
theorem dX9_letter_41 : decode cX9_letter 41 = .ok (.ifCond .ge 7, 3) := by decide +kernel
theorem dX9_letter_44 : decode cX9_letter 44 = .ok (.iconst 1, 1) := by decide +kernel
theorem dX9_letter_45 : decode cX9_letter 45 = .ok (.goto 4, 3) := by decide +kernel
theorem dX9_letter_48 : decode cX9_letter 48 = .ok (.iconst 0, 1) := by decide +kernel
theorem dX9_letter_49 : decode cX9_letter 49 = .ok (.iconst 1, 1) := by decide +kernel
theorem dX9_letter_50 : decode cX9_letter 50 = .ok (.invokevirtual 209, 3) := by decide +kernel
theorem dX9_letter_53 : decode cX9_letter 53 = .ok (.ifCond .eq 5, 3) := by decide +kernel
theorem dX9_letter_56 : decode cX9_letter 56 = .ok (.iconst 0, 1) := by decide +kernel
theorem dX9_letter_57 : decode cX9_letter 57 = .ok (.ireturn, 1) := by decide +kernel
theorem dX9_letter_58 : decode cX9_letter 58 = .ok (.iconst 0, 1) := by decide +kernel
theorem dX9_letter_59 : decode cX9_letter 59 = .ok (.istore_n 2, 1) := by decide +kernel
theorem dX9_letter_60 : decode cX9_letter 60 = .ok (.iload_n 2, 1) := by decide +kernel
theorem dX9_letter_61 : decode cX9_letter 61 = .ok (.iload_n 1, 1) := by decide +kernel
theorem dX9_letter_62 : decode cX9_letter 62 = .ok (.if_icmp .ge 20, 3) := by decide +kernel
theorem dX9_letter_65 : decode cX9_letter 65 = .ok (.aload_n 0, 1) := by decide +kernel
theorem dX9_letter_66 : decode cX9_letter 66 = .ok (.bipush 48, 2) := by decide +kernel
theorem dX9_letter_68 : decode cX9_letter 68 = .ok (.iload_n 2, 1) := by decide +kernel
theorem dX9_letter_69 : decode cX9_letter 69 = .ok (.iadd, 1) := by decide +kernel
theorem dX9_letter_70 : decode cX9_letter 70 = .ok (.iconst 0, 1) := by decide +kernel
theorem dX9_letter_71 : decode cX9_letter 71 = .ok (.iload_n 2, 1) := by decide +kernel
theorem dX9_letter_72 : decode cX9_letter 72 = .ok (.iadd, 1) := by decide +kernel
theorem dX9_letter_73 : decode cX9_letter 73 = .ok (.invokevirtual 213, 3) := by decide +kernel
theorem dX9_letter_76 : decode cX9_letter 76 = .ok (.iinc 2 1, 3) := by decide +kernel
theorem dX9_letter_79 : decode cX9_letter 79 = .ok (.goto (-19), 3) := by decide +kernel
theorem dX9_letter_82 : decode cX9_letter 82 = .ok (.aload_n 0, 1) := by decide +kernel
theorem dX9_letter_83 : decode cX9_letter 83 = .ok (.iload_n 1, 1) := by decide +kernel
theorem dX9_letter_84 : decode cX9_letter 84 = .ok (.putfield 216, 3) := by decide +kernel
theorem dX9_letter_87 : decode cX9_letter 87 = .ok (.aload_n 0, 1) := by decide +kernel
theorem dX9_letter_88 : decode cX9_letter 88 = .ok (.iconst 1, 1) := by decide +kernel
theorem dX9_letter_89 : decode cX9_letter 89 = .ok (.putfield 219, 3) := by decide +kernel
theorem dX9_letter_92 : decode cX9_letter 92 = .ok (.aload_n 0, 1) := by decide +kernel
theorem dX9_letter_93 : decode cX9_letter 93 = .ok (.dup, 1) := by decide +kernel
theorem dX9_letter_94 : decode cX9_letter 94 = .ok (.getfield 223, 3) := by decide +kernel
theorem dX9_letter_97 : decode cX9_letter 97 = .ok (.iconst 1, 1) := by decide +kernel
theorem dX9_letter_98 : decode cX9_letter 98 = .ok (.iadd, 1) := by decide +kernel
theorem dX9_letter_99 : decode cX9_letter 99 = .ok (.putfield 223, 3) := by decide +kernel
theorem dX9_letter_102 : decode cX9_letter 102 = .ok (.aload_n 0, 1) := by decide +kernel
theorem dX9_letter_103 : decode cX9_letter 103 = .ok (.iconst 0, 1) := by decide +kernel
theorem dX9_letter_104 : decode cX9_letter 104 = .ok (.putfield 226, 3) := by decide +kernel
theorem dX9_letter_107 : decode cX9_letter 107 = .ok (.aload_n 0, 1) := by decide +kernel
theorem dX9_letter_108 : decode cX9_letter 108 = .ok (.invokevirtual 229, 3) := by decide +kernel
theorem dX9_letter_111 : decode cX9_letter 111 = .ok (.iload_n 1, 1) := by decide +kernel
theorem dX9_letter_112 : decode cX9_letter 112 = .ok (.ireturn, 1) := by decide +kernel
theorem dX9_renews_0 : decode cX9_renews 0 = .ok (.iconst 0, 1) := by decide +kernel
theorem dX9_renews_1 : decode cX9_renews 1 = .ok (.istore_n 1, 1) := by decide +kernel
theorem dX9_renews_2 : decode cX9_renews 2 = .ok (.iload_n 1, 1) := by decide +kernel
theorem dX9_renews_3 : decode cX9_renews 3 = .ok (.aload_n 0, 1) := by decide +kernel
theorem dX9_renews_4 : decode cX9_renews 4 = .ok (.getfield 216, 3) := by decide +kernel
theorem dX9_renews_7 : decode cX9_renews 7 = .ok (.if_icmp .ge 20, 3) := by decide +kernel
theorem dX9_renews_10 : decode cX9_renews 10 = .ok (.aload_n 0, 1) := by decide +kernel
theorem dX9_renews_11 : decode cX9_renews 11 = .ok (.iconst 0, 1) := by decide +kernel
theorem dX9_renews_12 : decode cX9_renews 12 = .ok (.iload_n 1, 1) := by decide +kernel
theorem dX9_renews_13 : decode cX9_renews 13 = .ok (.iadd, 1) := by decide +kernel
theorem dX9_renews_14 : decode cX9_renews 14 = .ok (.bipush 24, 2) := by decide +kernel
theorem dX9_renews_16 : decode cX9_renews 16 = .ok (.iload_n 1, 1) := by decide +kernel
theorem dX9_renews_17 : decode cX9_renews 17 = .ok (.iadd, 1) := by decide +kernel
theorem dX9_renews_18 : decode cX9_renews 18 = .ok (.invokevirtual 213, 3) := by decide +kernel
theorem dX9_renews_21 : decode cX9_renews 21 = .ok (.iinc 1 1, 3) := by decide +kernel
theorem dX9_renews_24 : decode cX9_renews 24 = .ok (.goto (-22), 3) := by decide +kernel
theorem dX9_renews_27 : decode cX9_renews 27 = .ok (.aload_n 0, 1) := by decide +kernel
theorem dX9_renews_28 : decode cX9_renews 28 = .ok (.aload_n 0, 1) := by decide +kernel
theorem dX9_renews_29 : decode cX9_renews 29 = .ok (.getfield 216, 3) := by decide +kernel
theorem dX9_renews_32 : decode cX9_renews 32 = .ok (.putfield 232, 3) := by decide +kernel
theorem dX9_renews_35 : decode cX9_renews 35 = .ok (.return_, 1) := by decide +kernel
theorem dX9_fault_0 : decode cX9_fault 0 = .ok (.aload_n 0, 1) := by decide +kernel
theorem dX9_fault_1 : decode cX9_fault 1 = .ok (.iconst 0, 1) := by decide +kernel
theorem dX9_fault_2 : decode cX9_fault 2 = .ok (.putfield 59, 3) := by decide +kernel
theorem dX9_fault_5 : decode cX9_fault 5 = .ok (.aload_n 0, 1) := by decide +kernel
theorem dX9_fault_6 : decode cX9_fault 6 = .ok (.getfield 49, 3) := by decide +kernel
theorem dX9_fault_9 : decode cX9_fault 9 = .ok (.ireturn, 1) := by decide +kernel
theorem dX9_put_0 : decode cX9_put 0 = .ok (.iload_n 2, 1) := by decide +kernel
theorem dX9_put_1 : decode cX9_put 1 = .ok (.ifCond .eq 31, 3) := by decide +kernel
theorem dX9_put_4 : decode cX9_put 4 = .ok (.aload_n 0, 1) := by decide +kernel
theorem dX9_put_5 : decode cX9_put 5 = .ok (.getfield 235, 3) := by decide +kernel
theorem dX9_put_8 : decode cX9_put 8 = .ok (.ifCond .le 24, 3) := by decide +kernel
theorem dX9_put_11 : decode cX9_put 11 = .ok (.aload_n 0, 1) := by decide +kernel
theorem dX9_put_12 : decode cX9_put 12 = .ok (.getfield 56, 3) := by decide +kernel
theorem dX9_put_15 : decode cX9_put 15 = .ok (.aload_n 0, 1) := by decide +kernel
theorem dX9_put_16 : decode cX9_put 16 = .ok (.getfield 235, 3) := by decide +kernel
theorem dX9_put_19 : decode cX9_put 19 = .ok (.bipush 32, 2) := by decide +kernel
theorem dX9_put_21 : decode cX9_put 21 = .ok (.bastore, 1) := by decide +kernel
theorem dX9_put_22 : decode cX9_put 22 = .ok (.aload_n 0, 1) := by decide +kernel
theorem dX9_put_23 : decode cX9_put 23 = .ok (.dup, 1) := by decide +kernel
theorem dX9_put_24 : decode cX9_put 24 = .ok (.getfield 235, 3) := by decide +kernel
theorem dX9_put_27 : decode cX9_put 27 = .ok (.iconst 1, 1) := by decide +kernel
theorem dX9_put_28 : decode cX9_put 28 = .ok (.iadd, 1) := by decide +kernel
theorem dX9_put_29 : decode cX9_put 29 = .ok (.putfield 235, 3) := by decide +kernel
theorem dX9_put_32 : decode cX9_put 32 = .ok (.iconst 0, 1) := by decide +kernel
theorem dX9_put_33 : decode cX9_put 33 = .ok (.istore_n 3, 1) := by decide +kernel
theorem dX9_put_34 : decode cX9_put 34 = .ok (.iload_n 3, 1) := by decide +kernel
theorem dX9_put_35 : decode cX9_put 35 = .ok (.aload_n 1, 1) := by decide +kernel
theorem dX9_put_36 : decode cX9_put 36 = .ok (.invokevirtual 115, 3) := by decide +kernel
theorem dX9_put_39 : decode cX9_put 39 = .ok (.if_icmp .ge 34, 3) := by decide +kernel
theorem dX9_put_42 : decode cX9_put 42 = .ok (.aload_n 0, 1) := by decide +kernel
theorem dX9_put_43 : decode cX9_put 43 = .ok (.getfield 56, 3) := by decide +kernel
theorem dX9_put_46 : decode cX9_put 46 = .ok (.aload_n 0, 1) := by decide +kernel
theorem dX9_put_47 : decode cX9_put 47 = .ok (.getfield 235, 3) := by decide +kernel
theorem dX9_put_50 : decode cX9_put 50 = .ok (.aload_n 1, 1) := by decide +kernel
theorem dX9_put_51 : decode cX9_put 51 = .ok (.iload_n 3, 1) := by decide +kernel
theorem dX9_put_52 : decode cX9_put 52 = .ok (.invokevirtual 120, 3) := by decide +kernel
theorem dX9_put_55 : decode cX9_put 55 = .ok (.i2b, 1) := by decide +kernel
theorem dX9_put_56 : decode cX9_put 56 = .ok (.bastore, 1) := by decide +kernel
theorem dX9_put_57 : decode cX9_put 57 = .ok (.aload_n 0, 1) := by decide +kernel
theorem dX9_put_58 : decode cX9_put 58 = .ok (.dup, 1) := by decide +kernel
theorem dX9_put_59 : decode cX9_put 59 = .ok (.getfield 235, 3) := by decide +kernel
theorem dX9_put_62 : decode cX9_put 62 = .ok (.iconst 1, 1) := by decide +kernel
theorem dX9_put_63 : decode cX9_put 63 = .ok (.iadd, 1) := by decide +kernel
theorem dX9_put_64 : decode cX9_put 64 = .ok (.putfield 235, 3) := by decide +kernel
theorem dX9_put_67 : decode cX9_put 67 = .ok (.iinc 3 1, 3) := by decide +kernel
theorem dX9_put_70 : decode cX9_put 70 = .ok (.goto (-36), 3) := by decide +kernel
theorem dX9_put_73 : decode cX9_put 73 = .ok (.return_, 1) := by decide +kernel
theorem dX9_putWord_0 : decode cX9_putWord 0 = .ok (.aload_n 0, 1) := by decide +kernel
theorem dX9_putWord_1 : decode cX9_putWord 1 = .ok (.aload_n 1, 1) := by decide +kernel
theorem dX9_putWord_2 : decode cX9_putWord 2 = .ok (.aload_n 0, 1) := by decide +kernel
theorem dX9_putWord_3 : decode cX9_putWord 3 = .ok (.getfield 238, 3) := by decide +kernel
theorem dX9_putWord_6 : decode cX9_putWord 6 = .ok (.ifCond .ne 7, 3) := by decide +kernel
theorem dX9_putWord_9 : decode cX9_putWord 9 = .ok (.iconst 1, 1) := by decide +kernel
theorem dX9_putWord_10 : decode cX9_putWord 10 = .ok (.goto 4, 3) := by decide +kernel
theorem dX9_putWord_13 : decode cX9_putWord 13 = .ok (.iconst 0, 1) := by decide +kernel
theorem dX9_putWord_14 : decode cX9_putWord 14 = .ok (.invokevirtual 241, 3) := by decide +kernel
theorem dX9_putWord_17 : decode cX9_putWord 17 = .ok (.aload_n 0, 1) := by decide +kernel
theorem dX9_putWord_18 : decode cX9_putWord 18 = .ok (.iconst 0, 1) := by decide +kernel
theorem dX9_putWord_19 : decode cX9_putWord 19 = .ok (.putfield 238, 3) := by decide +kernel
theorem dX9_putWord_22 : decode cX9_putWord 22 = .ok (.aload_n 0, 1) := by decide +kernel
theorem dX9_putWord_23 : decode cX9_putWord 23 = .ok (.dup, 1) := by decide +kernel
theorem dX9_putWord_24 : decode cX9_putWord 24 = .ok (.getfield 245, 3) := by decide +kernel
theorem dX9_putWord_27 : decode cX9_putWord 27 = .ok (.iconst 1, 1) := by decide +kernel
theorem dX9_putWord_28 : decode cX9_putWord 28 = .ok (.iadd, 1) := by decide +kernel
theorem dX9_putWord_29 : decode cX9_putWord 29 = .ok (.putfield 245, 3) := by decide +kernel
theorem dX9_putWord_32 : decode cX9_putWord 32 = .ok (.return_, 1) := by decide +kernel
theorem dX9_putNumber_0 : decode cX9_putNumber 0 = .ok (.aload_n 0, 1) := by decide +kernel
theorem dX9_putNumber_1 : decode cX9_putNumber 1 = .ok (.getfield 56, 3) := by decide +kernel
theorem dX9_putNumber_4 : decode cX9_putNumber 4 = .ok (.aload_n 0, 1) := by decide +kernel
theorem dX9_putNumber_5 : decode cX9_putNumber 5 = .ok (.getfield 235, 3) := by decide +kernel
theorem dX9_putNumber_8 : decode cX9_putNumber 8 = .ok (.bipush 32, 2) := by decide +kernel
theorem dX9_putNumber_10 : decode cX9_putNumber 10 = .ok (.bastore, 1) := by decide +kernel
theorem dX9_putNumber_11 : decode cX9_putNumber 11 = .ok (.aload_n 0, 1) := by decide +kernel
theorem dX9_putNumber_12 : decode cX9_putNumber 12 = .ok (.dup, 1) := by decide +kernel
theorem dX9_putNumber_13 : decode cX9_putNumber 13 = .ok (.getfield 235, 3) := by decide +kernel
theorem dX9_putNumber_16 : decode cX9_putNumber 16 = .ok (.iconst 1, 1) := by decide +kernel
theorem dX9_putNumber_17 : decode cX9_putNumber 17 = .ok (.iadd, 1) := by decide +kernel
theorem dX9_putNumber_18 : decode cX9_putNumber 18 = .ok (.putfield 235, 3) := by decide +kernel
theorem dX9_putNumber_21 : decode cX9_putNumber 21 = .ok (.iload_n 1, 1) := by decide +kernel
theorem dX9_putNumber_22 : decode cX9_putNumber 22 = .ok (.bipush 99, 2) := by decide +kernel
theorem dX9_putNumber_24 : decode cX9_putNumber 24 = .ok (.if_icmp .le 8, 3) := by decide +kernel
theorem dX9_putNumber_27 : decode cX9_putNumber 27 = .ok (.bipush 100, 2) := by decide +kernel
theorem dX9_putNumber_29 : decode cX9_putNumber 29 = .ok (.goto 15, 3) := by decide +kernel
theorem dX9_putNumber_32 : decode cX9_putNumber 32 = .ok (.iload_n 1, 1) := by decide +kernel
theorem dX9_putNumber_33 : decode cX9_putNumber 33 = .ok (.bipush 9, 2) := by decide +kernel
theorem dX9_putNumber_35 : decode cX9_putNumber 35 = .ok (.if_icmp .le 8, 3) := by decide +kernel
theorem dX9_putNumber_38 : decode cX9_putNumber 38 = .ok (.bipush 10, 2) := by decide +kernel
theorem dX9_putNumber_40 : decode cX9_putNumber 40 = .ok (.goto 4, 3) := by decide +kernel
theorem dX9_putNumber_43 : decode cX9_putNumber 43 = .ok (.iconst 1, 1) := by decide +kernel
theorem dX9_putNumber_44 : decode cX9_putNumber 44 = .ok (.istore_n 2, 1) := by decide +kernel
theorem dX9_putNumber_45 : decode cX9_putNumber 45 = .ok (.iload_n 2, 1) := by decide +kernel
theorem dX9_putNumber_46 : decode cX9_putNumber 46 = .ok (.ifCond .le 40, 3) := by decide +kernel
theorem dX9_putNumber_49 : decode cX9_putNumber 49 = .ok (.aload_n 0, 1) := by decide +kernel
theorem dX9_putNumber_50 : decode cX9_putNumber 50 = .ok (.getfield 56, 3) := by decide +kernel
theorem dX9_putNumber_53 : decode cX9_putNumber 53 = .ok (.aload_n 0, 1) := by decide +kernel
theorem dX9_putNumber_54 : decode cX9_putNumber 54 = .ok (.getfield 235, 3) := by decide +kernel
theorem dX9_putNumber_57 : decode cX9_putNumber 57 = .ok (.bipush 48, 2) := by decide +kernel
theorem dX9_putNumber_59 : decode cX9_putNumber 59 = .ok (.iload_n 1, 1) := by decide +kernel
theorem dX9_putNumber_60 : decode cX9_putNumber 60 = .ok (.iload_n 2, 1) := by decide +kernel
theorem dX9_putNumber_61 : decode cX9_putNumber 61 = .ok (.idiv, 1) := by decide +kernel
theorem dX9_putNumber_62 : decode cX9_putNumber 62 = .ok (.bipush 10, 2) := by decide +kernel
theorem dX9_putNumber_64 : decode cX9_putNumber 64 = .ok (.irem, 1) := by decide +kernel
theorem dX9_putNumber_65 : decode cX9_putNumber 65 = .ok (.iadd, 1) := by decide +kernel
theorem dX9_putNumber_66 : decode cX9_putNumber 66 = .ok (.i2b, 1) := by decide +kernel
theorem dX9_putNumber_67 : decode cX9_putNumber 67 = .ok (.bastore, 1) := by decide +kernel
theorem dX9_putNumber_68 : decode cX9_putNumber 68 = .ok (.aload_n 0, 1) := by decide +kernel
theorem dX9_putNumber_69 : decode cX9_putNumber 69 = .ok (.dup, 1) := by decide +kernel
theorem dX9_putNumber_70 : decode cX9_putNumber 70 = .ok (.getfield 235, 3) := by decide +kernel
theorem dX9_putNumber_73 : decode cX9_putNumber 73 = .ok (.iconst 1, 1) := by decide +kernel
theorem dX9_putNumber_74 : decode cX9_putNumber 74 = .ok (.iadd, 1) := by decide +kernel
theorem dX9_putNumber_75 : decode cX9_putNumber 75 = .ok (.putfield 235, 3) := by decide +kernel
theorem dX9_putNumber_78 : decode cX9_putNumber 78 = .ok (.iload_n 2, 1) := by decide +kernel
theorem dX9_putNumber_79 : decode cX9_putNumber 79 = .ok (.bipush 10, 2) := by decide +kernel
theorem dX9_putNumber_81 : decode cX9_putNumber 81 = .ok (.idiv, 1) := by decide +kernel
theorem dX9_putNumber_82 : decode cX9_putNumber 82 = .ok (.istore_n 2, 1) := by decide +kernel
theorem dX9_putNumber_83 : decode cX9_putNumber 83 = .ok (.goto (-38), 3) := by decide +kernel
theorem dX9_putNumber_86 : decode cX9_putNumber 86 = .ok (.aload_n 0, 1) := by decide +kernel
theorem dX9_putNumber_87 : decode cX9_putNumber 87 = .ok (.dup, 1) := by decide +kernel
theorem dX9_putNumber_88 : decode cX9_putNumber 88 = .ok (.getfield 245, 3) := by decide +kernel
theorem dX9_putNumber_91 : decode cX9_putNumber 91 = .ok (.iconst 1, 1) := by decide +kernel
theorem dX9_putNumber_92 : decode cX9_putNumber 92 = .ok (.iadd, 1) := by decide +kernel
theorem dX9_putNumber_93 : decode cX9_putNumber 93 = .ok (.putfield 245, 3) := by decide +kernel
theorem dX9_putNumber_96 : decode cX9_putNumber 96 = .ok (.return_, 1) := by decide +kernel
theorem dX9_putOpen_0 : decode cX9_putOpen 0 = .ok (.aload_n 0, 1) := by decide +kernel
theorem dX9_putOpen_1 : decode cX9_putOpen 1 = .ok (.ldc 248, 2) := by decide +kernel
theorem dX9_putOpen_3 : decode cX9_putOpen 3 = .ok (.aload_n 0, 1) := by decide +kernel
theorem dX9_putOpen_4 : decode cX9_putOpen 4 = .ok (.getfield 238, 3) := by decide +kernel
theorem dX9_putOpen_7 : decode cX9_putOpen 7 = .ok (.ifCond .ne 7, 3) := by decide +kernel
theorem dX9_putOpen_10 : decode cX9_putOpen 10 = .ok (.iconst 1, 1) := by decide +kernel
theorem dX9_putOpen_11 : decode cX9_putOpen 11 = .ok (.goto 4, 3) := by decide +kernel
theorem dX9_putOpen_14 : decode cX9_putOpen 14 = .ok (.iconst 0, 1) := by decide +kernel
theorem dX9_putOpen_15 : decode cX9_putOpen 15 = .ok (.invokevirtual 241, 3) := by decide +kernel
theorem dX9_putOpen_18 : decode cX9_putOpen 18 = .ok (.aload_n 0, 1) := by decide +kernel
theorem dX9_putOpen_19 : decode cX9_putOpen 19 = .ok (.iconst 1, 1) := by decide +kernel
theorem dX9_putOpen_20 : decode cX9_putOpen 20 = .ok (.putfield 238, 3) := by decide +kernel
theorem dX9_putOpen_23 : decode cX9_putOpen 23 = .ok (.return_, 1) := by decide +kernel
theorem dX9_putCond_0 : decode cX9_putCond 0 = .ok (.aload_n 0, 1) := by decide +kernel
theorem dX9_putCond_1 : decode cX9_putCond 1 = .ok (.getfield 33, 3) := by decide +kernel
theorem dX9_putCond_4 : decode cX9_putCond 4 = .ok (.iload_n 1, 1) := by decide +kernel
theorem dX9_putCond_5 : decode cX9_putCond 5 = .ok (.aload_n 0, 1) := by decide +kernel
theorem dX9_putCond_6 : decode cX9_putCond 6 = .ok (.getfield 65, 3) := by decide +kernel
theorem dX9_putCond_9 : decode cX9_putCond 9 = .ok (.iadd, 1) := by decide +kernel
theorem dX9_putCond_10 : decode cX9_putCond 10 = .ok (.iaload, 1) := by decide +kernel
theorem dX9_putCond_11 : decode cX9_putCond 11 = .ok (.istore_n 3, 1) := by decide +kernel
theorem dX9_putCond_12 : decode cX9_putCond 12 = .ok (.aload_n 0, 1) := by decide +kernel
theorem dX9_putCond_13 : decode cX9_putCond 13 = .ok (.dup, 1) := by decide +kernel
theorem dX9_putCond_14 : decode cX9_putCond 14 = .ok (.getfield 65, 3) := by decide +kernel
theorem dX9_putCond_17 : decode cX9_putCond 17 = .ok (.iconst 1, 1) := by decide +kernel
theorem dX9_putCond_18 : decode cX9_putCond 18 = .ok (.iadd, 1) := by decide +kernel
theorem dX9_putCond_19 : decode cX9_putCond 19 = .ok (.putfield 65, 3) := by decide +kernel
theorem dX9_putCond_22 : decode cX9_putCond 22 = .ok (.iload_n 3, 1) := by decide +kernel
theorem dX9_putCond_23 : decode cX9_putCond 23 = .ok (.bipush 10, 2) := by decide +kernel
theorem dX9_putCond_25 : decode cX9_putCond 25 = .ok (.if_icmp .ge 15, 3) := by decide +kernel
theorem dX9_putCond_28 : decode cX9_putCond 28 = .ok (.aload_n 0, 1) := by decide +kernel
theorem dX9_putCond_29 : decode cX9_putCond 29 = .ok (.ldc 149, 2) := by decide +kernel
theorem dX9_putCond_31 : decode cX9_putCond 31 = .ok (.invokevirtual 250, 3) := by decide +kernel
theorem dX9_putCond_34 : decode cX9_putCond 34 = .ok (.aload_n 0, 1) := by decide +kernel
theorem dX9_putCond_35 : decode cX9_putCond 35 = .ok (.iload_n 3, 1) := by decide +kernel
theorem dX9_putCond_36 : decode cX9_putCond 36 = .ok (.invokevirtual 254, 3) := by decide +kernel
theorem dX9_putCond_39 : decode cX9_putCond 39 = .ok (.return_, 1) := by decide +kernel
theorem dX9_putCond_40 : decode cX9_putCond 40 = .ok (.iload_n 3, 1) := by decide +kernel
theorem dX9_putCond_41 : decode cX9_putCond 41 = .ok (.bipush 10, 2) := by decide +kernel
theorem dX9_putCond_43 : decode cX9_putCond 43 = .ok (.if_icmp .ne 17, 3) := by decide +kernel
theorem dX9_putCond_46 : decode cX9_putCond 46 = .ok (.aload_n 0, 1) := by decide +kernel
theorem dX9_putCond_47 : decode cX9_putCond 47 = .ok (.ldc 141, 2) := by decide +kernel
theorem dX9_putCond_49 : decode cX9_putCond 49 = .ok (.invokevirtual 250, 3) := by decide +kernel
theorem dX9_putCond_52 : decode cX9_putCond 52 = .ok (.aload_n 0, 1) := by decide +kernel
theorem dX9_putCond_53 : decode cX9_putCond 53 = .ok (.iload_n 1, 1) := by decide +kernel
theorem dX9_putCond_54 : decode cX9_putCond 54 = .ok (.bipush 10, 2) := by decide +kernel
theorem dX9_putCond_56 : decode cX9_putCond 56 = .ok (.invokevirtual 258, 3) := by decide +kernel
theorem dX9_putCond_59 : decode cX9_putCond 59 = .ok (.return_, 1) := by decide +kernel
theorem dX9_putCond_60 : decode cX9_putCond 60 = .ok (.iload_n 2, 1) := by decide +kernel
theorem dX9_putCond_61 : decode cX9_putCond 61 = .ok (.bipush 10, 2) := by decide +kernel
theorem dX9_putCond_63 : decode cX9_putCond 63 = .ok (.if_icmp .eq 17, 3) := by decide +kernel
theorem dX9_putCond_66 : decode cX9_putCond 66 = .ok (.iload_n 3, 1) := by decide +kernel
theorem dX9_putCond_67 : decode cX9_putCond 67 = .ok (.sipush 2000, 3) := by decide +kernel
theorem dX9_putCond_70 : decode cX9_putCond 70 = .ok (.if_icmp .lt 14, 3) := by decide +kernel
theorem dX9_putCond_73 : decode cX9_putCond 73 = .ok (.iload_n 2, 1) := by decide +kernel
theorem dX9_putCond_74 : decode cX9_putCond 74 = .ok (.sipush 1000, 3) := by decide +kernel
theorem dX9_putCond_77 : decode cX9_putCond 77 = .ok (.if_icmp .ne 7, 3) := by decide +kernel
theorem dX9_putCond_80 : decode cX9_putCond 80 = .ok (.iconst 1, 1) := by decide +kernel
theorem dX9_putCond_81 : decode cX9_putCond 81 = .ok (.goto 4, 3) := by decide +kernel
theorem dX9_putCond_84 : decode cX9_putCond 84 = .ok (.iconst 0, 1) := by decide +kernel
theorem dX9_putCond_85 : decode cX9_putCond 85 = .ok (.istore 4, 2) := by decide +kernel
theorem dX9_putCond_87 : decode cX9_putCond 87 = .ok (.iload_n 3, 1) := by decide +kernel
theorem dX9_putCond_88 : decode cX9_putCond 88 = .ok (.sipush 2000, 3) := by decide +kernel
theorem dX9_putCond_91 : decode cX9_putCond 91 = .ok (.if_icmp .lt 11, 3) := by decide +kernel
theorem dX9_putCond_94 : decode cX9_putCond 94 = .ok (.iload_n 3, 1) := by decide +kernel
theorem dX9_putCond_95 : decode cX9_putCond 95 = .ok (.sipush 2000, 3) := by decide +kernel
theorem dX9_putCond_98 : decode cX9_putCond 98 = .ok (.isub, 1) := by decide +kernel
theorem dX9_putCond_99 : decode cX9_putCond 99 = .ok (.goto 8, 3) := by decide +kernel
theorem dX9_putCond_102 : decode cX9_putCond 102 = .ok (.iload_n 3, 1) := by decide +kernel
theorem dX9_putCond_103 : decode cX9_putCond 103 = .ok (.sipush 1000, 3) := by decide +kernel
theorem dX9_putCond_106 : decode cX9_putCond 106 = .ok (.isub, 1) := by decide +kernel
theorem dX9_putCond_107 : decode cX9_putCond 107 = .ok (.istore 5, 2) := by decide +kernel
theorem dX9_putCond_109 : decode cX9_putCond 109 = .ok (.iload 4, 2) := by decide +kernel
theorem dX9_putCond_111 : decode cX9_putCond 111 = .ok (.ifCond .eq 7, 3) := by decide +kernel
theorem dX9_putCond_114 : decode cX9_putCond 114 = .ok (.aload_n 0, 1) := by decide +kernel
theorem dX9_putCond_115 : decode cX9_putCond 115 = .ok (.invokevirtual 261, 3) := by decide +kernel
theorem dX9_putCond_118 : decode cX9_putCond 118 = .ok (.iconst 0, 1) := by decide +kernel
theorem dX9_putCond_119 : decode cX9_putCond 119 = .ok (.istore 6, 2) := by decide +kernel
theorem dX9_putCond_121 : decode cX9_putCond 121 = .ok (.iload 6, 2) := by decide +kernel
theorem dX9_putCond_123 : decode cX9_putCond 123 = .ok (.iload 5, 2) := by decide +kernel
theorem dX9_putCond_125 : decode cX9_putCond 125 = .ok (.if_icmp .ge 53, 3) := by decide +kernel
theorem dX9_putCond_128 : decode cX9_putCond 128 = .ok (.iload 6, 2) := by decide +kernel
theorem dX9_putCond_130 : decode cX9_putCond 130 = .ok (.ifCond .le 21, 3) := by decide +kernel
theorem dX9_putCond_133 : decode cX9_putCond 133 = .ok (.aload_n 0, 1) := by decide +kernel
theorem dX9_putCond_134 : decode cX9_putCond 134 = .ok (.iload_n 3, 1) := by decide +kernel
theorem dX9_putCond_135 : decode cX9_putCond 135 = .ok (.sipush 2000, 3) := by decide +kernel
theorem dX9_putCond_138 : decode cX9_putCond 138 = .ok (.if_icmp .lt 8, 3) := by decide +kernel
theorem dX9_putCond_141 : decode cX9_putCond 141 = .ok (.ldc 159, 2) := by decide +kernel
theorem dX9_putCond_143 : decode cX9_putCond 143 = .ok (.goto 5, 3) := by decide +kernel
theorem dX9_putCond_146 : decode cX9_putCond 146 = .ok (.ldc 154, 2) := by decide +kernel
theorem dX9_putCond_148 : decode cX9_putCond 148 = .ok (.invokevirtual 250, 3) := by decide +kernel
theorem dX9_putCond_151 : decode cX9_putCond 151 = .ok (.aload_n 0, 1) := by decide +kernel
theorem dX9_putCond_152 : decode cX9_putCond 152 = .ok (.iload_n 1, 1) := by decide +kernel
theorem dX9_putCond_153 : decode cX9_putCond 153 = .ok (.iload_n 3, 1) := by decide +kernel
theorem dX9_putCond_154 : decode cX9_putCond 154 = .ok (.sipush 2000, 3) := by decide +kernel
theorem dX9_putCond_157 : decode cX9_putCond 157 = .ok (.if_icmp .lt 9, 3) := by decide +kernel
theorem dX9_putCond_160 : decode cX9_putCond 160 = .ok (.sipush 2000, 3) := by decide +kernel
theorem dX9_putCond_163 : decode cX9_putCond 163 = .ok (.goto 6, 3) := by decide +kernel
theorem dX9_putCond_166 : decode cX9_putCond 166 = .ok (.sipush 1000, 3) := by decide +kernel
theorem dX9_putCond_169 : decode cX9_putCond 169 = .ok (.invokevirtual 258, 3) := by decide +kernel
theorem dX9_putCond_172 : decode cX9_putCond 172 = .ok (.iinc 6 1, 3) := by decide +kernel
theorem dX9_putCond_175 : decode cX9_putCond 175 = .ok (.goto (-54), 3) := by decide +kernel
theorem dX9_putCond_178 : decode cX9_putCond 178 = .ok (.iload 4, 2) := by decide +kernel
theorem dX9_putCond_180 : decode cX9_putCond 180 = .ok (.ifCond .eq 11, 3) := by decide +kernel
theorem dX9_putCond_183 : decode cX9_putCond 183 = .ok (.aload_n 0, 1) := by decide +kernel
theorem dX9_putCond_184 : decode cX9_putCond 184 = .ok (.ldc_w 264, 3) := by decide +kernel
theorem dX9_putCond_187 : decode cX9_putCond 187 = .ok (.iconst 0, 1) := by decide +kernel
theorem dX9_putCond_188 : decode cX9_putCond 188 = .ok (.invokevirtual 241, 3) := by decide +kernel
theorem dX9_putCond_191 : decode cX9_putCond 191 = .ok (.return_, 1) := by decide +kernel
theorem dX9_putWho_0 : decode cX9_putWho 0 = .ok (.aload_n 0, 1) := by decide +kernel
theorem dX9_putWho_1 : decode cX9_putWho 1 = .ok (.iload_n 1, 1) := by decide +kernel
theorem dX9_putWho_2 : decode cX9_putWho 2 = .ok (.ifCond .ne 8, 3) := by decide +kernel
theorem dX9_putWho_5 : decode cX9_putWho 5 = .ok (.ldc 164, 2) := by decide +kernel
theorem dX9_putWho_7 : decode cX9_putWho 7 = .ok (.goto 15, 3) := by decide +kernel
theorem dX9_putWho_10 : decode cX9_putWho 10 = .ok (.iload_n 1, 1) := by decide +kernel
theorem dX9_putWho_11 : decode cX9_putWho 11 = .ok (.iconst 1, 1) := by decide +kernel
theorem dX9_putWho_12 : decode cX9_putWho 12 = .ok (.if_icmp .ne 8, 3) := by decide +kernel
theorem dX9_putWho_15 : decode cX9_putWho 15 = .ok (.ldc 166, 2) := by decide +kernel
theorem dX9_putWho_17 : decode cX9_putWho 17 = .ok (.goto 5, 3) := by decide +kernel
theorem dX9_putWho_20 : decode cX9_putWho 20 = .ok (.ldc 168, 2) := by decide +kernel
theorem dX9_putWho_22 : decode cX9_putWho 22 = .ok (.invokevirtual 250, 3) := by decide +kernel
theorem dX9_putWho_25 : decode cX9_putWho 25 = .ok (.return_, 1) := by decide +kernel
theorem dX9_putMode_0 : decode cX9_putMode 0 = .ok (.aload_n 0, 1) := by decide +kernel
theorem dX9_putMode_1 : decode cX9_putMode 1 = .ok (.aload_n 0, 1) := by decide +kernel
theorem dX9_putMode_2 : decode cX9_putMode 2 = .ok (.getfield 19, 3) := by decide +kernel
theorem dX9_putMode_5 : decode cX9_putMode 5 = .ok (.iload_n 1, 1) := by decide +kernel
theorem dX9_putMode_6 : decode cX9_putMode 6 = .ok (.iaload, 1) := by decide +kernel
theorem dX9_putMode_7 : decode cX9_putMode 7 = .ok (.iconst 2, 1) := by decide +kernel
theorem dX9_putMode_8 : decode cX9_putMode 8 = .ok (.if_icmp .ne 8, 3) := by decide +kernel
theorem dX9_putMode_11 : decode cX9_putMode 11 = .ok (.ldc 170, 2) := by decide +kernel
theorem dX9_putMode_13 : decode cX9_putMode 13 = .ok (.goto 5, 3) := by decide +kernel
theorem dX9_putMode_16 : decode cX9_putMode 16 = .ok (.ldc 172, 2) := by decide +kernel
theorem dX9_putMode_18 : decode cX9_putMode 18 = .ok (.invokevirtual 250, 3) := by decide +kernel
theorem dX9_putMode_21 : decode cX9_putMode 21 = .ok (.aload_n 0, 1) := by decide +kernel
theorem dX9_putMode_22 : decode cX9_putMode 22 = .ok (.getfield 19, 3) := by decide +kernel
theorem dX9_putMode_25 : decode cX9_putMode 25 = .ok (.iload_n 1, 1) := by decide +kernel
theorem dX9_putMode_26 : decode cX9_putMode 26 = .ok (.iaload, 1) := by decide +kernel
theorem dX9_putMode_27 : decode cX9_putMode 27 = .ok (.iconst 1, 1) := by decide +kernel
theorem dX9_putMode_28 : decode cX9_putMode 28 = .ok (.if_icmp .ne 9, 3) := by decide +kernel
theorem dX9_putMode_31 : decode cX9_putMode 31 = .ok (.aload_n 0, 1) := by decide +kernel
theorem dX9_putMode_32 : decode cX9_putMode 32 = .ok (.ldc 141, 2) := by decide +kernel
theorem dX9_putMode_34 : decode cX9_putMode 34 = .ok (.invokevirtual 250, 3) := by decide +kernel
theorem dX9_putMode_37 : decode cX9_putMode 37 = .ok (.return_, 1) := by decide +kernel
theorem dX9_putActs_0 : decode cX9_putActs 0 = .ok (.iconst 0, 1) := by decide +kernel
theorem dX9_putActs_1 : decode cX9_putActs 1 = .ok (.istore_n 2, 1) := by decide +kernel
theorem dX9_putActs_2 : decode cX9_putActs 2 = .ok (.iload_n 2, 1) := by decide +kernel
theorem dX9_putActs_3 : decode cX9_putActs 3 = .ok (.aload_n 0, 1) := by decide +kernel
theorem dX9_putActs_4 : decode cX9_putActs 4 = .ok (.getfield 9, 3) := by decide +kernel
theorem dX9_putActs_7 : decode cX9_putActs 7 = .ok (.iload_n 1, 1) := by decide +kernel
theorem dX9_putActs_8 : decode cX9_putActs 8 = .ok (.iaload, 1) := by decide +kernel
theorem dX9_putActs_9 : decode cX9_putActs 9 = .ok (.if_icmp .ge 39, 3) := by decide +kernel
theorem dX9_putActs_12 : decode cX9_putActs 12 = .ok (.iload_n 2, 1) := by decide +kernel
theorem dX9_putActs_13 : decode cX9_putActs 13 = .ok (.ifCond .le 9, 3) := by decide +kernel
theorem dX9_putActs_16 : decode cX9_putActs 16 = .ok (.aload_n 0, 1) := by decide +kernel
theorem dX9_putActs_17 : decode cX9_putActs 17 = .ok (.ldc 154, 2) := by decide +kernel
theorem dX9_putActs_19 : decode cX9_putActs 19 = .ok (.invokevirtual 250, 3) := by decide +kernel
theorem dX9_putActs_22 : decode cX9_putActs 22 = .ok (.aload_n 0, 1) := by decide +kernel
theorem dX9_putActs_23 : decode cX9_putActs 23 = .ok (.ldc 174, 2) := by decide +kernel
theorem dX9_putActs_25 : decode cX9_putActs 25 = .ok (.invokevirtual 250, 3) := by decide +kernel
theorem dX9_putActs_28 : decode cX9_putActs 28 = .ok (.aload_n 0, 1) := by decide +kernel
theorem dX9_putActs_29 : decode cX9_putActs 29 = .ok (.aload_n 0, 1) := by decide +kernel
theorem dX9_putActs_30 : decode cX9_putActs 30 = .ok (.getfield 13, 3) := by decide +kernel
theorem dX9_putActs_33 : decode cX9_putActs 33 = .ok (.iconst 3, 1) := by decide +kernel
theorem dX9_putActs_34 : decode cX9_putActs 34 = .ok (.iload_n 1, 1) := by decide +kernel
theorem dX9_putActs_35 : decode cX9_putActs 35 = .ok (.imul, 1) := by decide +kernel
theorem dX9_putActs_36 : decode cX9_putActs 36 = .ok (.iload_n 2, 1) := by decide +kernel
theorem dX9_putActs_37 : decode cX9_putActs 37 = .ok (.iadd, 1) := by decide +kernel
theorem dX9_putActs_38 : decode cX9_putActs 38 = .ok (.iaload, 1) := by decide +kernel
theorem dX9_putActs_39 : decode cX9_putActs 39 = .ok (.invokevirtual 254, 3) := by decide +kernel
theorem dX9_putActs_42 : decode cX9_putActs 42 = .ok (.iinc 2 1, 3) := by decide +kernel
theorem dX9_putActs_45 : decode cX9_putActs 45 = .ok (.goto (-43), 3) := by decide +kernel
theorem dX9_putActs_48 : decode cX9_putActs 48 = .ok (.return_, 1) := by decide +kernel
theorem dX9_putSentence_0 : decode cX9_putSentence 0 = .ok (.aload_n 0, 1) := by decide +kernel
theorem dX9_putSentence_1 : decode cX9_putSentence 1 = .ok (.iconst 0, 1) := by decide +kernel
theorem dX9_putSentence_2 : decode cX9_putSentence 2 = .ok (.putfield 245, 3) := by decide +kernel
theorem dX9_putSentence_5 : decode cX9_putSentence 5 = .ok (.aload_n 0, 1) := by decide +kernel
theorem dX9_putSentence_6 : decode cX9_putSentence 6 = .ok (.iconst 0, 1) := by decide +kernel
theorem dX9_putSentence_7 : decode cX9_putSentence 7 = .ok (.putfield 238, 3) := by decide +kernel
theorem dX9_putSentence_10 : decode cX9_putSentence 10 = .ok (.aload_n 0, 1) := by decide +kernel
theorem dX9_putSentence_11 : decode cX9_putSentence 11 = .ok (.getfield 29, 3) := by decide +kernel
theorem dX9_putSentence_14 : decode cX9_putSentence 14 = .ok (.iconst 2, 1) := by decide +kernel
theorem dX9_putSentence_15 : decode cX9_putSentence 15 = .ok (.iload_n 1, 1) := by decide +kernel
theorem dX9_putSentence_16 : decode cX9_putSentence 16 = .ok (.imul, 1) := by decide +kernel
theorem dX9_putSentence_17 : decode cX9_putSentence 17 = .ok (.iaload, 1) := by decide +kernel
theorem dX9_putSentence_18 : decode cX9_putSentence 18 = .ok (.ifCond .le 34, 3) := by decide +kernel
theorem dX9_putSentence_21 : decode cX9_putSentence 21 = .ok (.aload_n 0, 1) := by decide +kernel
theorem dX9_putSentence_22 : decode cX9_putSentence 22 = .ok (.ldc 191, 2) := by decide +kernel
theorem dX9_putSentence_24 : decode cX9_putSentence 24 = .ok (.invokevirtual 250, 3) := by decide +kernel
theorem dX9_putSentence_27 : decode cX9_putSentence 27 = .ok (.aload_n 0, 1) := by decide +kernel
theorem dX9_putSentence_28 : decode cX9_putSentence 28 = .ok (.iconst 0, 1) := by decide +kernel
theorem dX9_putSentence_29 : decode cX9_putSentence 29 = .ok (.putfield 65, 3) := by decide +kernel
theorem dX9_putSentence_32 : decode cX9_putSentence 32 = .ok (.aload_n 0, 1) := by decide +kernel
theorem dX9_putSentence_33 : decode cX9_putSentence 33 = .ok (.iconst 2, 1) := by decide +kernel
theorem dX9_putSentence_34 : decode cX9_putSentence 34 = .ok (.iload_n 1, 1) := by decide +kernel
theorem dX9_putSentence_35 : decode cX9_putSentence 35 = .ok (.imul, 1) := by decide +kernel
theorem dX9_putSentence_36 : decode cX9_putSentence 36 = .ok (.sipush 420, 3) := by decide +kernel
theorem dX9_putSentence_39 : decode cX9_putSentence 39 = .ok (.imul, 1) := by decide +kernel
theorem dX9_putSentence_40 : decode cX9_putSentence 40 = .ok (.iconst 0, 1) := by decide +kernel
theorem dX9_putSentence_41 : decode cX9_putSentence 41 = .ok (.invokevirtual 258, 3) := by decide +kernel
theorem dX9_putSentence_44 : decode cX9_putSentence 44 = .ok (.aload_n 0, 1) := by decide +kernel
theorem dX9_putSentence_45 : decode cX9_putSentence 45 = .ok (.ldc_w 266, 3) := by decide +kernel
theorem dX9_putSentence_48 : decode cX9_putSentence 48 = .ok (.iconst 0, 1) := by decide +kernel
theorem dX9_putSentence_49 : decode cX9_putSentence 49 = .ok (.invokevirtual 241, 3) := by decide +kernel
theorem dX9_putSentence_52 : decode cX9_putSentence 52 = .ok (.aload_n 0, 1) := by decide +kernel
theorem dX9_putSentence_53 : decode cX9_putSentence 53 = .ok (.getfield 25, 3) := by decide +kernel
theorem dX9_putSentence_56 : decode cX9_putSentence 56 = .ok (.iload_n 1, 1) := by decide +kernel
theorem dX9_putSentence_57 : decode cX9_putSentence 57 = .ok (.baload, 1) := by decide +kernel
theorem dX9_putSentence_58 : decode cX9_putSentence 58 = .ok (.ifCond .eq 54, 3) := by decide +kernel
theorem dX9_putSentence_61 : decode cX9_putSentence 61 = .ok (.aload_n 0, 1) := by decide +kernel
theorem dX9_putSentence_62 : decode cX9_putSentence 62 = .ok (.iload_n 1, 1) := by decide +kernel
theorem dX9_putSentence_63 : decode cX9_putSentence 63 = .ok (.invokevirtual 268, 3) := by decide +kernel
theorem dX9_putSentence_66 : decode cX9_putSentence 66 = .ok (.aload_n 0, 1) := by decide +kernel
theorem dX9_putSentence_67 : decode cX9_putSentence 67 = .ok (.iload_n 1, 1) := by decide +kernel
theorem dX9_putSentence_68 : decode cX9_putSentence 68 = .ok (.invokevirtual 271, 3) := by decide +kernel
theorem dX9_putSentence_71 : decode cX9_putSentence 71 = .ok (.aload_n 0, 1) := by decide +kernel
theorem dX9_putSentence_72 : decode cX9_putSentence 72 = .ok (.ldc 185, 2) := by decide +kernel
theorem dX9_putSentence_74 : decode cX9_putSentence 74 = .ok (.invokevirtual 250, 3) := by decide +kernel
theorem dX9_putSentence_77 : decode cX9_putSentence 77 = .ok (.aload_n 0, 1) := by decide +kernel
theorem dX9_putSentence_78 : decode cX9_putSentence 78 = .ok (.ldc 187, 2) := by decide +kernel
theorem dX9_putSentence_80 : decode cX9_putSentence 80 = .ok (.invokevirtual 250, 3) := by decide +kernel
theorem dX9_putSentence_83 : decode cX9_putSentence 83 = .ok (.aload_n 0, 1) := by decide +kernel
theorem dX9_putSentence_84 : decode cX9_putSentence 84 = .ok (.getfield 16, 3) := by decide +kernel
theorem dX9_putSentence_87 : decode cX9_putSentence 87 = .ok (.iload_n 1, 1) := by decide +kernel
theorem dX9_putSentence_88 : decode cX9_putSentence 88 = .ok (.iaload, 1) := by decide +kernel
theorem dX9_putSentence_89 : decode cX9_putSentence 89 = .ok (.iconst 3, 1) := by decide +kernel
theorem dX9_putSentence_90 : decode cX9_putSentence 90 = .ok (.if_icmp .ge 42, 3) := by decide +kernel
theorem dX9_putSentence_93 : decode cX9_putSentence 93 = .ok (.aload_n 0, 1) := by decide +kernel
theorem dX9_putSentence_94 : decode cX9_putSentence 94 = .ok (.ldc 189, 2) := by decide +kernel
theorem dX9_putSentence_96 : decode cX9_putSentence 96 = .ok (.invokevirtual 250, 3) := by decide +kernel
theorem dX9_putSentence_99 : decode cX9_putSentence 99 = .ok (.aload_n 0, 1) := by decide +kernel
theorem dX9_putSentence_100 : decode cX9_putSentence 100 = .ok (.aload_n 0, 1) := by decide +kernel
theorem dX9_putSentence_101 : decode cX9_putSentence 101 = .ok (.getfield 16, 3) := by decide +kernel
theorem dX9_putSentence_104 : decode cX9_putSentence 104 = .ok (.iload_n 1, 1) := by decide +kernel
theorem dX9_putSentence_105 : decode cX9_putSentence 105 = .ok (.iaload, 1) := by decide +kernel
theorem dX9_putSentence_106 : decode cX9_putSentence 106 = .ok (.invokevirtual 274, 3) := by decide +kernel
theorem dX9_putSentence_109 : decode cX9_putSentence 109 = .ok (.goto 23, 3) := by decide +kernel
theorem dX9_putSentence_112 : decode cX9_putSentence 112 = .ok (.aload_n 0, 1) := by decide +kernel
theorem dX9_putSentence_113 : decode cX9_putSentence 113 = .ok (.aload_n 0, 1) := by decide +kernel
theorem dX9_putSentence_114 : decode cX9_putSentence 114 = .ok (.getfield 16, 3) := by decide +kernel
theorem dX9_putSentence_117 : decode cX9_putSentence 117 = .ok (.iload_n 1, 1) := by decide +kernel
theorem dX9_putSentence_118 : decode cX9_putSentence 118 = .ok (.iaload, 1) := by decide +kernel
theorem dX9_putSentence_119 : decode cX9_putSentence 119 = .ok (.invokevirtual 274, 3) := by decide +kernel
theorem dX9_putSentence_122 : decode cX9_putSentence 122 = .ok (.aload_n 0, 1) := by decide +kernel
theorem dX9_putSentence_123 : decode cX9_putSentence 123 = .ok (.iload_n 1, 1) := by decide +kernel
theorem dX9_putSentence_124 : decode cX9_putSentence 124 = .ok (.invokevirtual 271, 3) := by decide +kernel
theorem dX9_putSentence_127 : decode cX9_putSentence 127 = .ok (.aload_n 0, 1) := by decide +kernel
theorem dX9_putSentence_128 : decode cX9_putSentence 128 = .ok (.iload_n 1, 1) := by decide +kernel
theorem dX9_putSentence_129 : decode cX9_putSentence 129 = .ok (.invokevirtual 268, 3) := by decide +kernel
theorem dX9_putSentence_132 : decode cX9_putSentence 132 = .ok (.aload_n 0, 1) := by decide +kernel
theorem dX9_putSentence_133 : decode cX9_putSentence 133 = .ok (.getfield 29, 3) := by decide +kernel
theorem dX9_putSentence_136 : decode cX9_putSentence 136 = .ok (.iconst 2, 1) := by decide +kernel
theorem dX9_putSentence_137 : decode cX9_putSentence 137 = .ok (.iload_n 1, 1) := by decide +kernel
theorem dX9_putSentence_138 : decode cX9_putSentence 138 = .ok (.imul, 1) := by decide +kernel
theorem dX9_putSentence_139 : decode cX9_putSentence 139 = .ok (.iconst 1, 1) := by decide +kernel
theorem dX9_putSentence_140 : decode cX9_putSentence 140 = .ok (.iadd, 1) := by decide +kernel
theorem dX9_putSentence_141 : decode cX9_putSentence 141 = .ok (.iaload, 1) := by decide +kernel
theorem dX9_putSentence_142 : decode cX9_putSentence 142 = .ok (.ifCond .le 28, 3) := by decide +kernel
theorem dX9_putSentence_145 : decode cX9_putSentence 145 = .ok (.aload_n 0, 1) := by decide +kernel
theorem dX9_putSentence_146 : decode cX9_putSentence 146 = .ok (.ldc 199, 2) := by decide +kernel
theorem dX9_putSentence_148 : decode cX9_putSentence 148 = .ok (.invokevirtual 250, 3) := by decide +kernel
theorem dX9_putSentence_151 : decode cX9_putSentence 151 = .ok (.aload_n 0, 1) := by decide +kernel
theorem dX9_putSentence_152 : decode cX9_putSentence 152 = .ok (.iconst 0, 1) := by decide +kernel
theorem dX9_putSentence_153 : decode cX9_putSentence 153 = .ok (.putfield 65, 3) := by decide +kernel
theorem dX9_putSentence_156 : decode cX9_putSentence 156 = .ok (.aload_n 0, 1) := by decide +kernel
theorem dX9_putSentence_157 : decode cX9_putSentence 157 = .ok (.iconst 2, 1) := by decide +kernel
theorem dX9_putSentence_158 : decode cX9_putSentence 158 = .ok (.iload_n 1, 1) := by decide +kernel
theorem dX9_putSentence_159 : decode cX9_putSentence 159 = .ok (.imul, 1) := by decide +kernel
theorem dX9_putSentence_160 : decode cX9_putSentence 160 = .ok (.iconst 1, 1) := by decide +kernel
theorem dX9_putSentence_161 : decode cX9_putSentence 161 = .ok (.iadd, 1) := by decide +kernel
theorem dX9_putSentence_162 : decode cX9_putSentence 162 = .ok (.sipush 420, 3) := by decide +kernel
theorem dX9_putSentence_165 : decode cX9_putSentence 165 = .ok (.imul, 1) := by decide +kernel
theorem dX9_putSentence_166 : decode cX9_putSentence 166 = .ok (.iconst 0, 1) := by decide +kernel
theorem dX9_putSentence_167 : decode cX9_putSentence 167 = .ok (.invokevirtual 258, 3) := by decide +kernel
theorem dX9_putSentence_170 : decode cX9_putSentence 170 = .ok (.aload_n 0, 1) := by decide +kernel
theorem dX9_putSentence_171 : decode cX9_putSentence 171 = .ok (.getfield 22, 3) := by decide +kernel
theorem dX9_putSentence_174 : decode cX9_putSentence 174 = .ok (.iload_n 1, 1) := by decide +kernel
theorem dX9_putSentence_175 : decode cX9_putSentence 175 = .ok (.iaload, 1) := by decide +kernel
theorem dX9_putSentence_176 : decode cX9_putSentence 176 = .ok (.ifCond .ge 4, 3) := by decide +kernel
theorem dX9_putSentence_179 : decode cX9_putSentence 179 = .ok (.return_, 1) := by decide +kernel
theorem dX9_putSentence_180 : decode cX9_putSentence 180 = .ok (.aload_n 0, 1) := by decide +kernel
theorem dX9_putSentence_181 : decode cX9_putSentence 181 = .ok (.ldc 201, 2) := by decide +kernel
theorem dX9_putSentence_183 : decode cX9_putSentence 183 = .ok (.invokevirtual 250, 3) := by decide +kernel
theorem dX9_putSentence_186 : decode cX9_putSentence 186 = .ok (.aload_n 0, 1) := by decide +kernel
theorem dX9_putSentence_187 : decode cX9_putSentence 187 = .ok (.aload_n 0, 1) := by decide +kernel
theorem dX9_putSentence_188 : decode cX9_putSentence 188 = .ok (.getfield 22, 3) := by decide +kernel
theorem dX9_putSentence_191 : decode cX9_putSentence 191 = .ok (.iload_n 1, 1) := by decide +kernel
theorem dX9_putSentence_192 : decode cX9_putSentence 192 = .ok (.iaload, 1) := by decide +kernel
theorem dX9_putSentence_193 : decode cX9_putSentence 193 = .ok (.invokevirtual 254, 3) := by decide +kernel
theorem dX9_putSentence_196 : decode cX9_putSentence 196 = .ok (.return_, 1) := by decide +kernel
theorem dX9_wordsOf_0 : decode cX9_wordsOf 0 = .ok (.aload_n 0, 1) := by decide +kernel
theorem dX9_wordsOf_1 : decode cX9_wordsOf 1 = .ok (.iconst 0, 1) := by decide +kernel
theorem dX9_wordsOf_2 : decode cX9_wordsOf 2 = .ok (.putfield 235, 3) := by decide +kernel
theorem dX9_wordsOf_5 : decode cX9_wordsOf 5 = .ok (.aload_n 0, 1) := by decide +kernel
theorem dX9_wordsOf_6 : decode cX9_wordsOf 6 = .ok (.iload_n 1, 1) := by decide +kernel
theorem dX9_wordsOf_7 : decode cX9_wordsOf 7 = .ok (.invokevirtual 277, 3) := by decide +kernel
theorem dX9_wordsOf_10 : decode cX9_wordsOf 10 = .ok (.aload_n 0, 1) := by decide +kernel
theorem dX9_wordsOf_11 : decode cX9_wordsOf 11 = .ok (.getfield 245, 3) := by decide +kernel
theorem dX9_wordsOf_14 : decode cX9_wordsOf 14 = .ok (.ireturn, 1) := by decide +kernel
theorem dX9_notsOf_0 : decode cX9_notsOf 0 = .ok (.iconst 0, 1) := by decide +kernel
theorem dX9_notsOf_1 : decode cX9_notsOf 1 = .ok (.istore_n 2, 1) := by decide +kernel
theorem dX9_notsOf_2 : decode cX9_notsOf 2 = .ok (.iconst 2, 1) := by decide +kernel
theorem dX9_notsOf_3 : decode cX9_notsOf 3 = .ok (.iload_n 1, 1) := by decide +kernel
theorem dX9_notsOf_4 : decode cX9_notsOf 4 = .ok (.imul, 1) := by decide +kernel
theorem dX9_notsOf_5 : decode cX9_notsOf 5 = .ok (.istore_n 3, 1) := by decide +kernel
theorem dX9_notsOf_6 : decode cX9_notsOf 6 = .ok (.iload_n 3, 1) := by decide +kernel
theorem dX9_notsOf_7 : decode cX9_notsOf 7 = .ok (.iconst 2, 1) := by decide +kernel
theorem dX9_notsOf_8 : decode cX9_notsOf 8 = .ok (.iload_n 1, 1) := by decide +kernel
theorem dX9_notsOf_9 : decode cX9_notsOf 9 = .ok (.imul, 1) := by decide +kernel
theorem dX9_notsOf_10 : decode cX9_notsOf 10 = .ok (.iconst 2, 1) := by decide +kernel
theorem dX9_notsOf_11 : decode cX9_notsOf 11 = .ok (.iadd, 1) := by decide +kernel
theorem dX9_notsOf_12 : decode cX9_notsOf 12 = .ok (.if_icmp .ge 59, 3) := by decide +kernel
theorem dX9_notsOf_15 : decode cX9_notsOf 15 = .ok (.iload_n 3, 1) := by decide +kernel
theorem dX9_notsOf_16 : decode cX9_notsOf 16 = .ok (.sipush 420, 3) := by decide +kernel
theorem dX9_notsOf_19 : decode cX9_notsOf 19 = .ok (.imul, 1) := by decide +kernel
theorem dX9_notsOf_20 : decode cX9_notsOf 20 = .ok (.istore 4, 2) := by decide +kernel
theorem dX9_notsOf_22 : decode cX9_notsOf 22 = .ok (.iload 4, 2) := by decide +kernel
theorem dX9_notsOf_24 : decode cX9_notsOf 24 = .ok (.iload_n 3, 1) := by decide +kernel
theorem dX9_notsOf_25 : decode cX9_notsOf 25 = .ok (.sipush 420, 3) := by decide +kernel
theorem dX9_notsOf_28 : decode cX9_notsOf 28 = .ok (.imul, 1) := by decide +kernel
theorem dX9_notsOf_29 : decode cX9_notsOf 29 = .ok (.aload_n 0, 1) := by decide +kernel
theorem dX9_notsOf_30 : decode cX9_notsOf 30 = .ok (.getfield 29, 3) := by decide +kernel
theorem dX9_notsOf_33 : decode cX9_notsOf 33 = .ok (.iload_n 3, 1) := by decide +kernel
theorem dX9_notsOf_34 : decode cX9_notsOf 34 = .ok (.iaload, 1) := by decide +kernel
theorem dX9_notsOf_35 : decode cX9_notsOf 35 = .ok (.iadd, 1) := by decide +kernel
theorem dX9_notsOf_36 : decode cX9_notsOf 36 = .ok (.if_icmp .ge 29, 3) := by decide +kernel
theorem dX9_notsOf_39 : decode cX9_notsOf 39 = .ok (.iload_n 2, 1) := by decide +kernel
theorem dX9_notsOf_40 : decode cX9_notsOf 40 = .ok (.aload_n 0, 1) := by decide +kernel
theorem dX9_notsOf_41 : decode cX9_notsOf 41 = .ok (.getfield 33, 3) := by decide +kernel
theorem dX9_notsOf_44 : decode cX9_notsOf 44 = .ok (.iload 4, 2) := by decide +kernel
theorem dX9_notsOf_46 : decode cX9_notsOf 46 = .ok (.iaload, 1) := by decide +kernel
theorem dX9_notsOf_47 : decode cX9_notsOf 47 = .ok (.bipush 10, 2) := by decide +kernel
theorem dX9_notsOf_49 : decode cX9_notsOf 49 = .ok (.if_icmp .ne 7, 3) := by decide +kernel
theorem dX9_notsOf_52 : decode cX9_notsOf 52 = .ok (.iconst 1, 1) := by decide +kernel
theorem dX9_notsOf_53 : decode cX9_notsOf 53 = .ok (.goto 4, 3) := by decide +kernel
theorem dX9_notsOf_56 : decode cX9_notsOf 56 = .ok (.iconst 0, 1) := by decide +kernel
theorem dX9_notsOf_57 : decode cX9_notsOf 57 = .ok (.iadd, 1) := by decide +kernel
theorem dX9_notsOf_58 : decode cX9_notsOf 58 = .ok (.istore_n 2, 1) := by decide +kernel
theorem dX9_notsOf_59 : decode cX9_notsOf 59 = .ok (.iinc 4 1, 3) := by decide +kernel
theorem dX9_notsOf_62 : decode cX9_notsOf 62 = .ok (.goto (-40), 3) := by decide +kernel
theorem dX9_notsOf_65 : decode cX9_notsOf 65 = .ok (.iinc 3 1, 3) := by decide +kernel
theorem dX9_notsOf_68 : decode cX9_notsOf 68 = .ok (.goto (-62), 3) := by decide +kernel
theorem dX9_notsOf_71 : decode cX9_notsOf 71 = .ok (.iload_n 2, 1) := by decide +kernel
theorem dX9_notsOf_72 : decode cX9_notsOf 72 = .ok (.ireturn, 1) := by decide +kernel
theorem dX9_costOf_0 : decode cX9_costOf 0 = .ok (.aload_n 0, 1) := by decide +kernel
theorem dX9_costOf_1 : decode cX9_costOf 1 = .ok (.iload_n 1, 1) := by decide +kernel
theorem dX9_costOf_2 : decode cX9_costOf 2 = .ok (.invokevirtual 280, 3) := by decide +kernel
theorem dX9_costOf_5 : decode cX9_costOf 5 = .ok (.istore_n 2, 1) := by decide +kernel
theorem dX9_costOf_6 : decode cX9_costOf 6 = .ok (.iload_n 2, 1) := by decide +kernel
theorem dX9_costOf_7 : decode cX9_costOf 7 = .ok (.aload_n 0, 1) := by decide +kernel
theorem dX9_costOf_8 : decode cX9_costOf 8 = .ok (.getfield 25, 3) := by decide +kernel
theorem dX9_costOf_11 : decode cX9_costOf 11 = .ok (.iload_n 1, 1) := by decide +kernel
theorem dX9_costOf_12 : decode cX9_costOf 12 = .ok (.baload, 1) := by decide +kernel
theorem dX9_costOf_13 : decode cX9_costOf 13 = .ok (.ifCond .eq 7, 3) := by decide +kernel
theorem dX9_costOf_16 : decode cX9_costOf 16 = .ok (.iconst 3, 1) := by decide +kernel
theorem dX9_costOf_17 : decode cX9_costOf 17 = .ok (.goto 4, 3) := by decide +kernel
theorem dX9_costOf_20 : decode cX9_costOf 20 = .ok (.iconst 0, 1) := by decide +kernel
theorem dX9_costOf_21 : decode cX9_costOf 21 = .ok (.iadd, 1) := by decide +kernel
theorem dX9_costOf_22 : decode cX9_costOf 22 = .ok (.iconst 2, 1) := by decide +kernel
theorem dX9_costOf_23 : decode cX9_costOf 23 = .ok (.aload_n 0, 1) := by decide +kernel
theorem dX9_costOf_24 : decode cX9_costOf 24 = .ok (.iload_n 1, 1) := by decide +kernel
theorem dX9_costOf_25 : decode cX9_costOf 25 = .ok (.invokevirtual 283, 3) := by decide +kernel
theorem dX9_costOf_28 : decode cX9_costOf 28 = .ok (.imul, 1) := by decide +kernel
theorem dX9_costOf_29 : decode cX9_costOf 29 = .ok (.iadd, 1) := by decide +kernel
theorem dX9_costOf_30 : decode cX9_costOf 30 = .ok (.aload_n 0, 1) := by decide +kernel
theorem dX9_costOf_31 : decode cX9_costOf 31 = .ok (.getfield 29, 3) := by decide +kernel
theorem dX9_costOf_34 : decode cX9_costOf 34 = .ok (.iconst 2, 1) := by decide +kernel
theorem dX9_costOf_35 : decode cX9_costOf 35 = .ok (.iload_n 1, 1) := by decide +kernel
theorem dX9_costOf_36 : decode cX9_costOf 36 = .ok (.imul, 1) := by decide +kernel
theorem dX9_costOf_37 : decode cX9_costOf 37 = .ok (.iconst 1, 1) := by decide +kernel
theorem dX9_costOf_38 : decode cX9_costOf 38 = .ok (.iadd, 1) := by decide +kernel
theorem dX9_costOf_39 : decode cX9_costOf 39 = .ok (.iaload, 1) := by decide +kernel
theorem dX9_costOf_40 : decode cX9_costOf 40 = .ok (.ifCond .le 7, 3) := by decide +kernel
theorem dX9_costOf_43 : decode cX9_costOf 43 = .ok (.iconst 4, 1) := by decide +kernel
theorem dX9_costOf_44 : decode cX9_costOf 44 = .ok (.goto 4, 3) := by decide +kernel
theorem dX9_costOf_47 : decode cX9_costOf 47 = .ok (.iconst 0, 1) := by decide +kernel
theorem dX9_costOf_48 : decode cX9_costOf 48 = .ok (.iadd, 1) := by decide +kernel
theorem dX9_costOf_49 : decode cX9_costOf 49 = .ok (.iload_n 2, 1) := by decide +kernel
theorem dX9_costOf_50 : decode cX9_costOf 50 = .ok (.bipush 10, 2) := by decide +kernel
theorem dX9_costOf_52 : decode cX9_costOf 52 = .ok (.if_icmp .le 12, 3) := by decide +kernel
theorem dX9_costOf_55 : decode cX9_costOf 55 = .ok (.iconst 2, 1) := by decide +kernel
theorem dX9_costOf_56 : decode cX9_costOf 56 = .ok (.iload_n 2, 1) := by decide +kernel
theorem dX9_costOf_57 : decode cX9_costOf 57 = .ok (.bipush 10, 2) := by decide +kernel
theorem dX9_costOf_59 : decode cX9_costOf 59 = .ok (.isub, 1) := by decide +kernel
theorem dX9_costOf_60 : decode cX9_costOf 60 = .ok (.imul, 1) := by decide +kernel
theorem dX9_costOf_61 : decode cX9_costOf 61 = .ok (.goto 4, 3) := by decide +kernel
theorem dX9_costOf_64 : decode cX9_costOf 64 = .ok (.iconst 0, 1) := by decide +kernel
theorem dX9_costOf_65 : decode cX9_costOf 65 = .ok (.iadd, 1) := by decide +kernel
theorem dX9_costOf_66 : decode cX9_costOf 66 = .ok (.iconst 5, 1) := by decide +kernel
theorem dX9_costOf_67 : decode cX9_costOf 67 = .ok (.iadd, 1) := by decide +kernel
theorem dX9_costOf_68 : decode cX9_costOf 68 = .ok (.ireturn, 1) := by decide +kernel
theorem dX9_costOfAll_0 : decode cX9_costOfAll 0 = .ok (.iconst 0, 1) := by decide +kernel
theorem dX9_costOfAll_1 : decode cX9_costOfAll 1 = .ok (.istore_n 3, 1) := by decide +kernel
theorem dX9_costOfAll_2 : decode cX9_costOfAll 2 = .ok (.iload_n 1, 1) := by decide +kernel
theorem dX9_costOfAll_3 : decode cX9_costOfAll 3 = .ok (.istore 4, 2) := by decide +kernel
theorem dX9_costOfAll_5 : decode cX9_costOfAll 5 = .ok (.iload 4, 2) := by decide +kernel
theorem dX9_costOfAll_7 : decode cX9_costOfAll 7 = .ok (.iload_n 1, 1) := by decide +kernel
theorem dX9_costOfAll_8 : decode cX9_costOfAll 8 = .ok (.iload_n 2, 1) := by decide +kernel
theorem dX9_costOfAll_9 : decode cX9_costOfAll 9 = .ok (.iadd, 1) := by decide +kernel
theorem dX9_costOfAll_10 : decode cX9_costOfAll 10 = .ok (.if_icmp .ge 18, 3) := by decide +kernel
theorem dX9_costOfAll_13 : decode cX9_costOfAll 13 = .ok (.iload_n 3, 1) := by decide +kernel
theorem dX9_costOfAll_14 : decode cX9_costOfAll 14 = .ok (.aload_n 0, 1) := by decide +kernel
theorem dX9_costOfAll_15 : decode cX9_costOfAll 15 = .ok (.iload 4, 2) := by decide +kernel
theorem dX9_costOfAll_17 : decode cX9_costOfAll 17 = .ok (.invokevirtual 286, 3) := by decide +kernel
theorem dX9_costOfAll_20 : decode cX9_costOfAll 20 = .ok (.iadd, 1) := by decide +kernel
theorem dX9_costOfAll_21 : decode cX9_costOfAll 21 = .ok (.istore_n 3, 1) := by decide +kernel
theorem dX9_costOfAll_22 : decode cX9_costOfAll 22 = .ok (.iinc 4 1, 3) := by decide +kernel
theorem dX9_costOfAll_25 : decode cX9_costOfAll 25 = .ok (.goto (-20), 3) := by decide +kernel
theorem dX9_costOfAll_28 : decode cX9_costOfAll 28 = .ok (.iload_n 3, 1) := by decide +kernel
theorem dX9_costOfAll_29 : decode cX9_costOfAll 29 = .ok (.ireturn, 1) := by decide +kernel
theorem dX9_cost_0 : decode cX9_cost 0 = .ok (.aload_n 0, 1) := by decide +kernel
theorem dX9_cost_1 : decode cX9_cost 1 = .ok (.iconst 0, 1) := by decide +kernel
theorem dX9_cost_2 : decode cX9_cost 2 = .ok (.putfield 59, 3) := by decide +kernel
theorem dX9_cost_5 : decode cX9_cost 5 = .ok (.aload_n 0, 1) := by decide +kernel
theorem dX9_cost_6 : decode cX9_cost 6 = .ok (.aload_n 0, 1) := by decide +kernel
theorem dX9_cost_7 : decode cX9_cost 7 = .ok (.getfield 219, 3) := by decide +kernel
theorem dX9_cost_10 : decode cX9_cost 10 = .ok (.ifCond .ne 7, 3) := by decide +kernel
theorem dX9_cost_13 : decode cX9_cost 13 = .ok (.iconst 1, 1) := by decide +kernel
theorem dX9_cost_14 : decode cX9_cost 14 = .ok (.goto 4, 3) := by decide +kernel
theorem dX9_cost_17 : decode cX9_cost 17 = .ok (.iconst 0, 1) := by decide +kernel
theorem dX9_cost_18 : decode cX9_cost 18 = .ok (.iconst 1, 1) := by decide +kernel
theorem dX9_cost_19 : decode cX9_cost 19 = .ok (.invokevirtual 209, 3) := by decide +kernel
theorem dX9_cost_22 : decode cX9_cost 22 = .ok (.ifCond .eq 5, 3) := by decide +kernel
theorem dX9_cost_25 : decode cX9_cost 25 = .ok (.iconst 0, 1) := by decide +kernel
theorem dX9_cost_26 : decode cX9_cost 26 = .ok (.ireturn, 1) := by decide +kernel
theorem dX9_cost_27 : decode cX9_cost 27 = .ok (.iload_n 1, 1) := by decide +kernel
theorem dX9_cost_28 : decode cX9_cost 28 = .ok (.ifCond .eq 15, 3) := by decide +kernel
theorem dX9_cost_31 : decode cX9_cost 31 = .ok (.aload_n 0, 1) := by decide +kernel
theorem dX9_cost_32 : decode cX9_cost 32 = .ok (.iconst 0, 1) := by decide +kernel
theorem dX9_cost_33 : decode cX9_cost 33 = .ok (.aload_n 0, 1) := by decide +kernel
theorem dX9_cost_34 : decode cX9_cost 34 = .ok (.getfield 216, 3) := by decide +kernel
theorem dX9_cost_37 : decode cX9_cost 37 = .ok (.invokevirtual 289, 3) := by decide +kernel
theorem dX9_cost_40 : decode cX9_cost 40 = .ok (.goto 13, 3) := by decide +kernel
theorem dX9_cost_43 : decode cX9_cost 43 = .ok (.aload_n 0, 1) := by decide +kernel
theorem dX9_cost_44 : decode cX9_cost 44 = .ok (.bipush 24, 2) := by decide +kernel
theorem dX9_cost_46 : decode cX9_cost 46 = .ok (.aload_n 0, 1) := by decide +kernel
theorem dX9_cost_47 : decode cX9_cost 47 = .ok (.getfield 232, 3) := by decide +kernel
theorem dX9_cost_50 : decode cX9_cost 50 = .ok (.invokevirtual 289, 3) := by decide +kernel
theorem dX9_cost_53 : decode cX9_cost 53 = .ok (.ireturn, 1) := by decide +kernel
theorem dX9_write_0 : decode cX9_write 0 = .ok (.aload_n 0, 1) := by decide +kernel
theorem dX9_write_1 : decode cX9_write 1 = .ok (.iconst 0, 1) := by decide +kernel
theorem dX9_write_2 : decode cX9_write 2 = .ok (.putfield 59, 3) := by decide +kernel
theorem dX9_write_5 : decode cX9_write 5 = .ok (.aload_n 0, 1) := by decide +kernel
theorem dX9_write_6 : decode cX9_write 6 = .ok (.aload_n 0, 1) := by decide +kernel
theorem dX9_write_7 : decode cX9_write 7 = .ok (.getfield 219, 3) := by decide +kernel
theorem dX9_write_10 : decode cX9_write 10 = .ok (.ifCond .ne 7, 3) := by decide +kernel
theorem dX9_write_13 : decode cX9_write 13 = .ok (.iconst 1, 1) := by decide +kernel
theorem dX9_write_14 : decode cX9_write 14 = .ok (.goto 4, 3) := by decide +kernel
theorem dX9_write_17 : decode cX9_write 17 = .ok (.iconst 0, 1) := by decide +kernel
theorem dX9_write_18 : decode cX9_write 18 = .ok (.iconst 1, 1) := by decide +kernel
theorem dX9_write_19 : decode cX9_write 19 = .ok (.invokevirtual 209, 3) := by decide +kernel
theorem dX9_write_22 : decode cX9_write 22 = .ok (.ifCond .eq 5, 3) := by decide +kernel
theorem dX9_write_25 : decode cX9_write 25 = .ok (.iconst 0, 1) := by decide +kernel
theorem dX9_write_26 : decode cX9_write 26 = .ok (.ireturn, 1) := by decide +kernel
theorem dX9_write_27 : decode cX9_write 27 = .ok (.aload_n 0, 1) := by decide +kernel
theorem dX9_write_28 : decode cX9_write 28 = .ok (.iconst 0, 1) := by decide +kernel
theorem dX9_write_29 : decode cX9_write 29 = .ok (.putfield 235, 3) := by decide +kernel
theorem dX9_write_32 : decode cX9_write 32 = .ok (.iconst 0, 1) := by decide +kernel
theorem dX9_write_33 : decode cX9_write 33 = .ok (.istore_n 1, 1) := by decide +kernel
theorem dX9_write_34 : decode cX9_write 34 = .ok (.iload_n 1, 1) := by decide +kernel
theorem dX9_write_35 : decode cX9_write 35 = .ok (.aload_n 0, 1) := by decide +kernel
theorem dX9_write_36 : decode cX9_write 36 = .ok (.getfield 232, 3) := by decide +kernel
theorem dX9_write_39 : decode cX9_write 39 = .ok (.if_icmp .ge 29, 3) := by decide +kernel
theorem dX9_write_42 : decode cX9_write 42 = .ok (.iload_n 1, 1) := by decide +kernel
theorem dX9_write_43 : decode cX9_write 43 = .ok (.ifCond .le 11, 3) := by decide +kernel
theorem dX9_write_46 : decode cX9_write 46 = .ok (.aload_n 0, 1) := by decide +kernel
theorem dX9_write_47 : decode cX9_write 47 = .ok (.ldc_w 292, 3) := by decide +kernel
theorem dX9_write_50 : decode cX9_write 50 = .ok (.iconst 0, 1) := by decide +kernel
theorem dX9_write_51 : decode cX9_write 51 = .ok (.invokevirtual 241, 3) := by decide +kernel
theorem dX9_write_54 : decode cX9_write 54 = .ok (.aload_n 0, 1) := by decide +kernel
theorem dX9_write_55 : decode cX9_write 55 = .ok (.bipush 24, 2) := by decide +kernel
theorem dX9_write_57 : decode cX9_write 57 = .ok (.iload_n 1, 1) := by decide +kernel
theorem dX9_write_58 : decode cX9_write 58 = .ok (.iadd, 1) := by decide +kernel
theorem dX9_write_59 : decode cX9_write 59 = .ok (.invokevirtual 277, 3) := by decide +kernel
theorem dX9_write_62 : decode cX9_write 62 = .ok (.iinc 1 1, 3) := by decide +kernel
theorem dX9_write_65 : decode cX9_write 65 = .ok (.goto (-31), 3) := by decide +kernel
theorem dX9_write_68 : decode cX9_write 68 = .ok (.aload_n 0, 1) := by decide +kernel
theorem dX9_write_69 : decode cX9_write 69 = .ok (.getfield 235, 3) := by decide +kernel
theorem dX9_write_72 : decode cX9_write 72 = .ok (.sipush 400, 3) := by decide +kernel
theorem dX9_write_75 : decode cX9_write 75 = .ok (.if_icmp .le 5, 3) := by decide +kernel
theorem dX9_write_78 : decode cX9_write 78 = .ok (.iconst (-1), 1) := by decide +kernel
theorem dX9_write_79 : decode cX9_write 79 = .ok (.ireturn, 1) := by decide +kernel
theorem dX9_write_80 : decode cX9_write 80 = .ok (.iconst 0, 1) := by decide +kernel
theorem dX9_write_81 : decode cX9_write 81 = .ok (.istore_n 1, 1) := by decide +kernel
theorem dX9_write_82 : decode cX9_write 82 = .ok (.iload_n 1, 1) := by decide +kernel
theorem dX9_write_83 : decode cX9_write 83 = .ok (.aload_n 0, 1) := by decide +kernel
theorem dX9_write_84 : decode cX9_write 84 = .ok (.getfield 235, 3) := by decide +kernel
theorem dX9_write_87 : decode cX9_write 87 = .ok (.if_icmp .ge 21, 3) := by decide +kernel
theorem dX9_write_90 : decode cX9_write 90 = .ok (.aload_n 0, 1) := by decide +kernel
theorem dX9_write_91 : decode cX9_write 91 = .ok (.getfield 45, 3) := by decide +kernel
theorem dX9_write_94 : decode cX9_write 94 = .ok (.iload_n 1, 1) := by decide +kernel
theorem dX9_write_95 : decode cX9_write 95 = .ok (.aload_n 0, 1) := by decide +kernel
theorem dX9_write_96 : decode cX9_write 96 = .ok (.getfield 56, 3) := by decide +kernel
theorem dX9_write_99 : decode cX9_write 99 = .ok (.iload_n 1, 1) := by decide +kernel
theorem dX9_write_100 : decode cX9_write 100 = .ok (.baload, 1) := by decide +kernel
theorem dX9_write_101 : decode cX9_write 101 = .ok (.bastore, 1) := by decide +kernel
theorem dX9_write_102 : decode cX9_write 102 = .ok (.iinc 1 1, 3) := by decide +kernel
theorem dX9_write_105 : decode cX9_write 105 = .ok (.goto (-23), 3) := by decide +kernel
theorem dX9_write_108 : decode cX9_write 108 = .ok (.aload_n 0, 1) := by decide +kernel
theorem dX9_write_109 : decode cX9_write 109 = .ok (.aload_n 0, 1) := by decide +kernel
theorem dX9_write_110 : decode cX9_write 110 = .ok (.getfield 235, 3) := by decide +kernel
theorem dX9_write_113 : decode cX9_write 113 = .ok (.putfield 96, 3) := by decide +kernel
theorem dX9_write_116 : decode cX9_write 116 = .ok (.aload_n 0, 1) := by decide +kernel
theorem dX9_write_117 : decode cX9_write 117 = .ok (.getfield 96, 3) := by decide +kernel
theorem dX9_write_120 : decode cX9_write 120 = .ok (.ireturn, 1) := by decide +kernel
theorem dX9_taped_0 : decode cX9_taped 0 = .ok (.aload_n 0, 1) := by decide +kernel
theorem dX9_taped_1 : decode cX9_taped 1 = .ok (.iconst 0, 1) := by decide +kernel
theorem dX9_taped_2 : decode cX9_taped 2 = .ok (.putfield 59, 3) := by decide +kernel
theorem dX9_taped_5 : decode cX9_taped 5 = .ok (.iload_n 1, 1) := by decide +kernel
theorem dX9_taped_6 : decode cX9_taped 6 = .ok (.iconst 0, 1) := by decide +kernel
theorem dX9_taped_7 : decode cX9_taped 7 = .ok (.aload_n 0, 1) := by decide +kernel
theorem dX9_taped_8 : decode cX9_taped 8 = .ok (.getfield 96, 3) := by decide +kernel
theorem dX9_taped_11 : decode cX9_taped 11 = .ok (.iconst 1, 1) := by decide +kernel
theorem dX9_taped_12 : decode cX9_taped 12 = .ok (.isub, 1) := by decide +kernel
theorem dX9_taped_13 : decode cX9_taped 13 = .ok (.invokestatic 294, 3) := by decide +kernel
theorem dX9_taped_16 : decode cX9_taped 16 = .ok (.ifCond .eq 16, 3) := by decide +kernel
theorem dX9_taped_19 : decode cX9_taped 19 = .ok (.aload_n 0, 1) := by decide +kernel
theorem dX9_taped_20 : decode cX9_taped 20 = .ok (.getfield 45, 3) := by decide +kernel
theorem dX9_taped_23 : decode cX9_taped 23 = .ok (.iload_n 1, 1) := by decide +kernel
theorem dX9_taped_24 : decode cX9_taped 24 = .ok (.baload, 1) := by decide +kernel
theorem dX9_taped_25 : decode cX9_taped 25 = .ok (.sipush 255, 3) := by decide +kernel
theorem dX9_taped_28 : decode cX9_taped 28 = .ok (.iand, 1) := by decide +kernel
theorem dX9_taped_29 : decode cX9_taped 29 = .ok (.goto 4, 3) := by decide +kernel
theorem dX9_taped_32 : decode cX9_taped 32 = .ok (.iconst (-1), 1) := by decide +kernel
theorem dX9_taped_33 : decode cX9_taped 33 = .ok (.ireturn, 1) := by decide +kernel
theorem dX9_noSentence_0 : decode cX9_noSentence 0 = .ok (.iload_n 1, 1) := by decide +kernel
theorem dX9_noSentence_1 : decode cX9_noSentence 1 = .ok (.iconst 0, 1) := by decide +kernel
theorem dX9_noSentence_2 : decode cX9_noSentence 2 = .ok (.aload_n 0, 1) := by decide +kernel
theorem dX9_noSentence_3 : decode cX9_noSentence 3 = .ok (.getfield 232, 3) := by decide +kernel
theorem dX9_noSentence_6 : decode cX9_noSentence 6 = .ok (.iconst 1, 1) := by decide +kernel
theorem dX9_noSentence_7 : decode cX9_noSentence 7 = .ok (.isub, 1) := by decide +kernel
theorem dX9_noSentence_8 : decode cX9_noSentence 8 = .ok (.invokestatic 294, 3) := by decide +kernel
theorem dX9_noSentence_11 : decode cX9_noSentence 11 = .ok (.ifCond .ne 7, 3) := by decide +kernel
theorem dX9_noSentence_14 : decode cX9_noSentence 14 = .ok (.iconst 1, 1) := by decide +kernel
theorem dX9_noSentence_15 : decode cX9_noSentence 15 = .ok (.goto 4, 3) := by decide +kernel
theorem dX9_noSentence_18 : decode cX9_noSentence 18 = .ok (.iconst 0, 1) := by decide +kernel
theorem dX9_noSentence_19 : decode cX9_noSentence 19 = .ok (.ireturn, 1) := by decide +kernel
theorem dX9_refuses_0 : decode cX9_refuses 0 = .ok (.aload_n 0, 1) := by decide +kernel
theorem dX9_refuses_1 : decode cX9_refuses 1 = .ok (.aload_n 0, 1) := by decide +kernel
theorem dX9_refuses_2 : decode cX9_refuses 2 = .ok (.getfield 219, 3) := by decide +kernel
theorem dX9_refuses_5 : decode cX9_refuses 5 = .ok (.ifCond .ne 7, 3) := by decide +kernel
theorem dX9_refuses_8 : decode cX9_refuses 8 = .ok (.iconst 1, 1) := by decide +kernel
theorem dX9_refuses_9 : decode cX9_refuses 9 = .ok (.goto 4, 3) := by decide +kernel
theorem dX9_refuses_12 : decode cX9_refuses 12 = .ok (.iconst 0, 1) := by decide +kernel
theorem dX9_refuses_13 : decode cX9_refuses 13 = .ok (.iconst 1, 1) := by decide +kernel
theorem dX9_refuses_14 : decode cX9_refuses 14 = .ok (.invokevirtual 209, 3) := by decide +kernel
theorem dX9_refuses_17 : decode cX9_refuses 17 = .ok (.ifCond .ne 16, 3) := by decide +kernel
theorem dX9_refuses_20 : decode cX9_refuses 20 = .ok (.aload_n 0, 1) := by decide +kernel
theorem dX9_refuses_21 : decode cX9_refuses 21 = .ok (.aload_n 0, 1) := by decide +kernel
theorem dX9_refuses_22 : decode cX9_refuses 22 = .ok (.iload_n 1, 1) := by decide +kernel
theorem dX9_refuses_23 : decode cX9_refuses 23 = .ok (.invokevirtual 298, 3) := by decide +kernel
theorem dX9_refuses_26 : decode cX9_refuses 26 = .ok (.iconst 2, 1) := by decide +kernel
theorem dX9_refuses_27 : decode cX9_refuses 27 = .ok (.invokevirtual 209, 3) := by decide +kernel
theorem dX9_refuses_30 : decode cX9_refuses 30 = .ok (.ifCond .eq 7, 3) := by decide +kernel
theorem dX9_refuses_33 : decode cX9_refuses 33 = .ok (.iconst 1, 1) := by decide +kernel
theorem dX9_refuses_34 : decode cX9_refuses 34 = .ok (.goto 4, 3) := by decide +kernel
theorem dX9_refuses_37 : decode cX9_refuses 37 = .ok (.iconst 0, 1) := by decide +kernel
theorem dX9_refuses_38 : decode cX9_refuses 38 = .ok (.ireturn, 1) := by decide +kernel
theorem dX9_part_0 : decode cX9_part 0 = .ok (.aload_n 0, 1) := by decide +kernel
theorem dX9_part_1 : decode cX9_part 1 = .ok (.iconst 0, 1) := by decide +kernel
theorem dX9_part_2 : decode cX9_part 2 = .ok (.putfield 59, 3) := by decide +kernel
theorem dX9_part_5 : decode cX9_part 5 = .ok (.aload_n 0, 1) := by decide +kernel
theorem dX9_part_6 : decode cX9_part 6 = .ok (.iload_n 1, 1) := by decide +kernel
theorem dX9_part_7 : decode cX9_part 7 = .ok (.invokevirtual 301, 3) := by decide +kernel
theorem dX9_part_10 : decode cX9_part 10 = .ok (.ifCond .eq 5, 3) := by decide +kernel
theorem dX9_part_13 : decode cX9_part 13 = .ok (.iconst 0, 1) := by decide +kernel
theorem dX9_part_14 : decode cX9_part 14 = .ok (.ireturn, 1) := by decide +kernel
theorem dX9_part_15 : decode cX9_part 15 = .ok (.bipush 24, 2) := by decide +kernel
theorem dX9_part_17 : decode cX9_part 17 = .ok (.iload_n 1, 1) := by decide +kernel
theorem dX9_part_18 : decode cX9_part 18 = .ok (.iadd, 1) := by decide +kernel
theorem dX9_part_19 : decode cX9_part 19 = .ok (.istore_n 2, 1) := by decide +kernel
theorem dX9_part_20 : decode cX9_part 20 = .ok (.aload_n 0, 1) := by decide +kernel
theorem dX9_part_21 : decode cX9_part 21 = .ok (.getfield 9, 3) := by decide +kernel
theorem dX9_part_24 : decode cX9_part 24 = .ok (.iload_n 2, 1) := by decide +kernel
theorem dX9_part_25 : decode cX9_part 25 = .ok (.iaload, 1) := by decide +kernel
theorem dX9_part_26 : decode cX9_part 26 = .ok (.istore_n 3, 1) := by decide +kernel
theorem dX9_part_27 : decode cX9_part 27 = .ok (.iload_n 3, 1) := by decide +kernel
theorem dX9_part_28 : decode cX9_part 28 = .ok (.iconst 2, 1) := by decide +kernel
theorem dX9_part_29 : decode cX9_part 29 = .ok (.if_icmp .lt 16, 3) := by decide +kernel
theorem dX9_part_32 : decode cX9_part 32 = .ok (.aload_n 0, 1) := by decide +kernel
theorem dX9_part_33 : decode cX9_part 33 = .ok (.getfield 232, 3) := by decide +kernel
theorem dX9_part_36 : decode cX9_part 36 = .ok (.iload_n 3, 1) := by decide +kernel
theorem dX9_part_37 : decode cX9_part 37 = .ok (.iadd, 1) := by decide +kernel
theorem dX9_part_38 : decode cX9_part 38 = .ok (.iconst 1, 1) := by decide +kernel
theorem dX9_part_39 : decode cX9_part 39 = .ok (.isub, 1) := by decide +kernel
theorem dX9_part_40 : decode cX9_part 40 = .ok (.bipush 24, 2) := by decide +kernel
theorem dX9_part_42 : decode cX9_part 42 = .ok (.if_icmp .le 5, 3) := by decide +kernel
theorem dX9_part_45 : decode cX9_part 45 = .ok (.iconst 0, 1) := by decide +kernel
theorem dX9_part_46 : decode cX9_part 46 = .ok (.ireturn, 1) := by decide +kernel
theorem dX9_part_47 : decode cX9_part 47 = .ok (.aload_n 0, 1) := by decide +kernel
theorem dX9_part_48 : decode cX9_part 48 = .ok (.getfield 232, 3) := by decide +kernel
theorem dX9_part_51 : decode cX9_part 51 = .ok (.iconst 1, 1) := by decide +kernel
theorem dX9_part_52 : decode cX9_part 52 = .ok (.isub, 1) := by decide +kernel
theorem dX9_part_53 : decode cX9_part 53 = .ok (.istore 4, 2) := by decide +kernel
theorem dX9_part_55 : decode cX9_part 55 = .ok (.iload 4, 2) := by decide +kernel
theorem dX9_part_57 : decode cX9_part 57 = .ok (.iload_n 1, 1) := by decide +kernel
theorem dX9_part_58 : decode cX9_part 58 = .ok (.if_icmp .le 27, 3) := by decide +kernel
theorem dX9_part_61 : decode cX9_part 61 = .ok (.aload_n 0, 1) := by decide +kernel
theorem dX9_part_62 : decode cX9_part 62 = .ok (.bipush 24, 2) := by decide +kernel
theorem dX9_part_64 : decode cX9_part 64 = .ok (.iload 4, 2) := by decide +kernel
theorem dX9_part_66 : decode cX9_part 66 = .ok (.iadd, 1) := by decide +kernel
theorem dX9_part_67 : decode cX9_part 67 = .ok (.bipush 24, 2) := by decide +kernel
theorem dX9_part_69 : decode cX9_part 69 = .ok (.iload 4, 2) := by decide +kernel
theorem dX9_part_71 : decode cX9_part 71 = .ok (.iadd, 1) := by decide +kernel
theorem dX9_part_72 : decode cX9_part 72 = .ok (.iload_n 3, 1) := by decide +kernel
theorem dX9_part_73 : decode cX9_part 73 = .ok (.iadd, 1) := by decide +kernel
theorem dX9_part_74 : decode cX9_part 74 = .ok (.iconst 1, 1) := by decide +kernel
theorem dX9_part_75 : decode cX9_part 75 = .ok (.isub, 1) := by decide +kernel
theorem dX9_part_76 : decode cX9_part 76 = .ok (.invokevirtual 213, 3) := by decide +kernel
theorem dX9_part_79 : decode cX9_part 79 = .ok (.iinc 4 (-1), 3) := by decide +kernel
theorem dX9_part_82 : decode cX9_part 82 = .ok (.goto (-27), 3) := by decide +kernel
theorem dX9_part_85 : decode cX9_part 85 = .ok (.iload_n 3, 1) := by decide +kernel
theorem dX9_part_86 : decode cX9_part 86 = .ok (.iconst 1, 1) := by decide +kernel
theorem dX9_part_87 : decode cX9_part 87 = .ok (.isub, 1) := by decide +kernel
theorem dX9_part_88 : decode cX9_part 88 = .ok (.istore 4, 2) := by decide +kernel
theorem dX9_part_90 : decode cX9_part 90 = .ok (.iload 4, 2) := by decide +kernel
theorem dX9_part_92 : decode cX9_part 92 = .ok (.ifCond .lt 55, 3) := by decide +kernel
theorem dX9_part_95 : decode cX9_part 95 = .ok (.iload 4, 2) := by decide +kernel
theorem dX9_part_97 : decode cX9_part 97 = .ok (.ifCond .le 12, 3) := by decide +kernel
theorem dX9_part_100 : decode cX9_part 100 = .ok (.aload_n 0, 1) := by decide +kernel
theorem dX9_part_101 : decode cX9_part 101 = .ok (.iload_n 2, 1) := by decide +kernel
theorem dX9_part_102 : decode cX9_part 102 = .ok (.iload_n 2, 1) := by decide +kernel
theorem dX9_part_103 : decode cX9_part 103 = .ok (.iload 4, 2) := by decide +kernel
theorem dX9_part_105 : decode cX9_part 105 = .ok (.iadd, 1) := by decide +kernel
theorem dX9_part_106 : decode cX9_part 106 = .ok (.invokevirtual 213, 3) := by decide +kernel
theorem dX9_part_109 : decode cX9_part 109 = .ok (.aload_n 0, 1) := by decide +kernel
theorem dX9_part_110 : decode cX9_part 110 = .ok (.getfield 13, 3) := by decide +kernel
theorem dX9_part_113 : decode cX9_part 113 = .ok (.iconst 3, 1) := by decide +kernel
theorem dX9_part_114 : decode cX9_part 114 = .ok (.iload_n 2, 1) := by decide +kernel
theorem dX9_part_115 : decode cX9_part 115 = .ok (.iload 4, 2) := by decide +kernel
theorem dX9_part_117 : decode cX9_part 117 = .ok (.iadd, 1) := by decide +kernel
theorem dX9_part_118 : decode cX9_part 118 = .ok (.imul, 1) := by decide +kernel
theorem dX9_part_119 : decode cX9_part 119 = .ok (.aload_n 0, 1) := by decide +kernel
theorem dX9_part_120 : decode cX9_part 120 = .ok (.getfield 13, 3) := by decide +kernel
theorem dX9_part_123 : decode cX9_part 123 = .ok (.iconst 3, 1) := by decide +kernel
theorem dX9_part_124 : decode cX9_part 124 = .ok (.iload_n 2, 1) := by decide +kernel
theorem dX9_part_125 : decode cX9_part 125 = .ok (.imul, 1) := by decide +kernel
theorem dX9_part_126 : decode cX9_part 126 = .ok (.iload 4, 2) := by decide +kernel
theorem dX9_part_128 : decode cX9_part 128 = .ok (.iadd, 1) := by decide +kernel
theorem dX9_part_129 : decode cX9_part 129 = .ok (.iaload, 1) := by decide +kernel
theorem dX9_part_130 : decode cX9_part 130 = .ok (.iastore, 1) := by decide +kernel
theorem dX9_part_131 : decode cX9_part 131 = .ok (.aload_n 0, 1) := by decide +kernel
theorem dX9_part_132 : decode cX9_part 132 = .ok (.getfield 9, 3) := by decide +kernel
theorem dX9_part_135 : decode cX9_part 135 = .ok (.iload_n 2, 1) := by decide +kernel
theorem dX9_part_136 : decode cX9_part 136 = .ok (.iload 4, 2) := by decide +kernel
theorem dX9_part_138 : decode cX9_part 138 = .ok (.iadd, 1) := by decide +kernel
theorem dX9_part_139 : decode cX9_part 139 = .ok (.iconst 1, 1) := by decide +kernel
theorem dX9_part_140 : decode cX9_part 140 = .ok (.iastore, 1) := by decide +kernel
theorem dX9_part_141 : decode cX9_part 141 = .ok (.iinc 4 (-1), 3) := by decide +kernel
theorem dX9_part_144 : decode cX9_part 144 = .ok (.goto (-54), 3) := by decide +kernel
theorem dX9_part_147 : decode cX9_part 147 = .ok (.aload_n 0, 1) := by decide +kernel
theorem dX9_part_148 : decode cX9_part 148 = .ok (.dup, 1) := by decide +kernel
theorem dX9_part_149 : decode cX9_part 149 = .ok (.getfield 232, 3) := by decide +kernel
theorem dX9_part_152 : decode cX9_part 152 = .ok (.iload_n 3, 1) := by decide +kernel
theorem dX9_part_153 : decode cX9_part 153 = .ok (.iconst 1, 1) := by decide +kernel
theorem dX9_part_154 : decode cX9_part 154 = .ok (.isub, 1) := by decide +kernel
theorem dX9_part_155 : decode cX9_part 155 = .ok (.iadd, 1) := by decide +kernel
theorem dX9_part_156 : decode cX9_part 156 = .ok (.putfield 232, 3) := by decide +kernel
theorem dX9_part_159 : decode cX9_part 159 = .ok (.aload_n 0, 1) := by decide +kernel
theorem dX9_part_160 : decode cX9_part 160 = .ok (.dup, 1) := by decide +kernel
theorem dX9_part_161 : decode cX9_part 161 = .ok (.getfield 226, 3) := by decide +kernel
theorem dX9_part_164 : decode cX9_part 164 = .ok (.iconst 1, 1) := by decide +kernel
theorem dX9_part_165 : decode cX9_part 165 = .ok (.iadd, 1) := by decide +kernel
theorem dX9_part_166 : decode cX9_part 166 = .ok (.putfield 226, 3) := by decide +kernel
theorem dX9_part_169 : decode cX9_part 169 = .ok (.iconst 1, 1) := by decide +kernel
theorem dX9_part_170 : decode cX9_part 170 = .ok (.ireturn, 1) := by decide +kernel
theorem dX9_areAlike_0 : decode cX9_areAlike 0 = .ok (.aload_n 0, 1) := by decide +kernel
theorem dX9_areAlike_1 : decode cX9_areAlike 1 = .ok (.getfield 16, 3) := by decide +kernel
theorem dX9_areAlike_4 : decode cX9_areAlike 4 = .ok (.iload_n 1, 1) := by decide +kernel
theorem dX9_areAlike_5 : decode cX9_areAlike 5 = .ok (.iaload, 1) := by decide +kernel
theorem dX9_areAlike_6 : decode cX9_areAlike 6 = .ok (.aload_n 0, 1) := by decide +kernel
theorem dX9_areAlike_7 : decode cX9_areAlike 7 = .ok (.getfield 16, 3) := by decide +kernel
theorem dX9_areAlike_10 : decode cX9_areAlike 10 = .ok (.iload_n 2, 1) := by decide +kernel
theorem dX9_areAlike_11 : decode cX9_areAlike 11 = .ok (.iaload, 1) := by decide +kernel
theorem dX9_areAlike_12 : decode cX9_areAlike 12 = .ok (.if_icmp .ne 52, 3) := by decide +kernel
theorem dX9_areAlike_15 : decode cX9_areAlike 15 = .ok (.aload_n 0, 1) := by decide +kernel
theorem dX9_areAlike_16 : decode cX9_areAlike 16 = .ok (.getfield 19, 3) := by decide +kernel
theorem dX9_areAlike_19 : decode cX9_areAlike 19 = .ok (.iload_n 1, 1) := by decide +kernel
theorem dX9_areAlike_20 : decode cX9_areAlike 20 = .ok (.iaload, 1) := by decide +kernel
theorem dX9_areAlike_21 : decode cX9_areAlike 21 = .ok (.aload_n 0, 1) := by decide +kernel
theorem dX9_areAlike_22 : decode cX9_areAlike 22 = .ok (.getfield 19, 3) := by decide +kernel
theorem dX9_areAlike_25 : decode cX9_areAlike 25 = .ok (.iload_n 2, 1) := by decide +kernel
theorem dX9_areAlike_26 : decode cX9_areAlike 26 = .ok (.iaload, 1) := by decide +kernel
theorem dX9_areAlike_27 : decode cX9_areAlike 27 = .ok (.if_icmp .ne 37, 3) := by decide +kernel
theorem dX9_areAlike_30 : decode cX9_areAlike 30 = .ok (.aload_n 0, 1) := by decide +kernel
theorem dX9_areAlike_31 : decode cX9_areAlike 31 = .ok (.getfield 22, 3) := by decide +kernel
theorem dX9_areAlike_34 : decode cX9_areAlike 34 = .ok (.iload_n 1, 1) := by decide +kernel
theorem dX9_areAlike_35 : decode cX9_areAlike 35 = .ok (.iaload, 1) := by decide +kernel
theorem dX9_areAlike_36 : decode cX9_areAlike 36 = .ok (.aload_n 0, 1) := by decide +kernel
theorem dX9_areAlike_37 : decode cX9_areAlike 37 = .ok (.getfield 22, 3) := by decide +kernel
theorem dX9_areAlike_40 : decode cX9_areAlike 40 = .ok (.iload_n 2, 1) := by decide +kernel
theorem dX9_areAlike_41 : decode cX9_areAlike 41 = .ok (.iaload, 1) := by decide +kernel
theorem dX9_areAlike_42 : decode cX9_areAlike 42 = .ok (.if_icmp .ne 22, 3) := by decide +kernel
theorem dX9_areAlike_45 : decode cX9_areAlike 45 = .ok (.aload_n 0, 1) := by decide +kernel
theorem dX9_areAlike_46 : decode cX9_areAlike 46 = .ok (.getfield 25, 3) := by decide +kernel
theorem dX9_areAlike_49 : decode cX9_areAlike 49 = .ok (.iload_n 1, 1) := by decide +kernel
theorem dX9_areAlike_50 : decode cX9_areAlike 50 = .ok (.baload, 1) := by decide +kernel
theorem dX9_areAlike_51 : decode cX9_areAlike 51 = .ok (.aload_n 0, 1) := by decide +kernel
theorem dX9_areAlike_52 : decode cX9_areAlike 52 = .ok (.getfield 25, 3) := by decide +kernel
theorem dX9_areAlike_55 : decode cX9_areAlike 55 = .ok (.iload_n 2, 1) := by decide +kernel
theorem dX9_areAlike_56 : decode cX9_areAlike 56 = .ok (.baload, 1) := by decide +kernel
theorem dX9_areAlike_57 : decode cX9_areAlike 57 = .ok (.if_icmp .ne 7, 3) := by decide +kernel
theorem dX9_areAlike_60 : decode cX9_areAlike 60 = .ok (.iconst 1, 1) := by decide +kernel
theorem dX9_areAlike_61 : decode cX9_areAlike 61 = .ok (.goto 4, 3) := by decide +kernel
theorem dX9_areAlike_64 : decode cX9_areAlike 64 = .ok (.iconst 0, 1) := by decide +kernel
theorem dX9_areAlike_65 : decode cX9_areAlike 65 = .ok (.istore_n 3, 1) := by decide +kernel
theorem dX9_areAlike_66 : decode cX9_areAlike 66 = .ok (.iconst 0, 1) := by decide +kernel
theorem dX9_areAlike_67 : decode cX9_areAlike 67 = .ok (.istore 4, 2) := by decide +kernel
theorem dX9_areAlike_69 : decode cX9_areAlike 69 = .ok (.iload 4, 2) := by decide +kernel
theorem dX9_areAlike_71 : decode cX9_areAlike 71 = .ok (.iconst 2, 1) := by decide +kernel
theorem dX9_areAlike_72 : decode cX9_areAlike 72 = .ok (.if_icmp .ge 118, 3) := by decide +kernel
theorem dX9_areAlike_75 : decode cX9_areAlike 75 = .ok (.iload_n 3, 1) := by decide +kernel
theorem dX9_areAlike_76 : decode cX9_areAlike 76 = .ok (.ifCond .eq 114, 3) := by decide +kernel
theorem dX9_areAlike_79 : decode cX9_areAlike 79 = .ok (.aload_n 0, 1) := by decide +kernel
theorem dX9_areAlike_80 : decode cX9_areAlike 80 = .ok (.getfield 29, 3) := by decide +kernel
theorem dX9_areAlike_83 : decode cX9_areAlike 83 = .ok (.iconst 2, 1) := by decide +kernel
theorem dX9_areAlike_84 : decode cX9_areAlike 84 = .ok (.iload_n 1, 1) := by decide +kernel
theorem dX9_areAlike_85 : decode cX9_areAlike 85 = .ok (.imul, 1) := by decide +kernel
theorem dX9_areAlike_86 : decode cX9_areAlike 86 = .ok (.iload 4, 2) := by decide +kernel
theorem dX9_areAlike_88 : decode cX9_areAlike 88 = .ok (.iadd, 1) := by decide +kernel
theorem dX9_areAlike_89 : decode cX9_areAlike 89 = .ok (.iaload, 1) := by decide +kernel
theorem dX9_areAlike_90 : decode cX9_areAlike 90 = .ok (.aload_n 0, 1) := by decide +kernel
theorem dX9_areAlike_91 : decode cX9_areAlike 91 = .ok (.getfield 29, 3) := by decide +kernel
theorem dX9_areAlike_94 : decode cX9_areAlike 94 = .ok (.iconst 2, 1) := by decide +kernel
theorem dX9_areAlike_95 : decode cX9_areAlike 95 = .ok (.iload_n 2, 1) := by decide +kernel
theorem dX9_areAlike_96 : decode cX9_areAlike 96 = .ok (.imul, 1) := by decide +kernel
theorem dX9_areAlike_97 : decode cX9_areAlike 97 = .ok (.iload 4, 2) := by decide +kernel
theorem dX9_areAlike_99 : decode cX9_areAlike 99 = .ok (.iadd, 1) := by decide +kernel
theorem dX9_areAlike_100 : decode cX9_areAlike 100 = .ok (.iaload, 1) := by decide +kernel
theorem dX9_areAlike_101 : decode cX9_areAlike 101 = .ok (.if_icmp .ne 7, 3) := by decide +kernel
theorem dX9_areAlike_104 : decode cX9_areAlike 104 = .ok (.iconst 1, 1) := by decide +kernel
theorem dX9_areAlike_105 : decode cX9_areAlike 105 = .ok (.goto 4, 3) := by decide +kernel
theorem dX9_areAlike_108 : decode cX9_areAlike 108 = .ok (.iconst 0, 1) := by decide +kernel
theorem dX9_areAlike_109 : decode cX9_areAlike 109 = .ok (.istore_n 3, 1) := by decide +kernel
theorem dX9_areAlike_110 : decode cX9_areAlike 110 = .ok (.iconst 0, 1) := by decide +kernel
theorem dX9_areAlike_111 : decode cX9_areAlike 111 = .ok (.istore 5, 2) := by decide +kernel
theorem dX9_areAlike_113 : decode cX9_areAlike 113 = .ok (.iload 5, 2) := by decide +kernel
theorem dX9_areAlike_115 : decode cX9_areAlike 115 = .ok (.aload_n 0, 1) := by decide +kernel
theorem dX9_areAlike_116 : decode cX9_areAlike 116 = .ok (.getfield 29, 3) := by decide +kernel
theorem dX9_areAlike_119 : decode cX9_areAlike 119 = .ok (.iconst 2, 1) := by decide +kernel
theorem dX9_areAlike_120 : decode cX9_areAlike 120 = .ok (.iload_n 1, 1) := by decide +kernel
theorem dX9_areAlike_121 : decode cX9_areAlike 121 = .ok (.imul, 1) := by decide +kernel
theorem dX9_areAlike_122 : decode cX9_areAlike 122 = .ok (.iload 4, 2) := by decide +kernel
theorem dX9_areAlike_124 : decode cX9_areAlike 124 = .ok (.iadd, 1) := by decide +kernel
theorem dX9_areAlike_125 : decode cX9_areAlike 125 = .ok (.iaload, 1) := by decide +kernel
theorem dX9_areAlike_126 : decode cX9_areAlike 126 = .ok (.if_icmp .ge 58, 3) := by decide +kernel
theorem dX9_areAlike_129 : decode cX9_areAlike 129 = .ok (.iload_n 3, 1) := by decide +kernel
theorem dX9_areAlike_130 : decode cX9_areAlike 130 = .ok (.ifCond .eq 54, 3) := by decide +kernel
theorem dX9_areAlike_133 : decode cX9_areAlike 133 = .ok (.aload_n 0, 1) := by decide +kernel
theorem dX9_areAlike_134 : decode cX9_areAlike 134 = .ok (.getfield 33, 3) := by decide +kernel
theorem dX9_areAlike_137 : decode cX9_areAlike 137 = .ok (.iconst 2, 1) := by decide +kernel
theorem dX9_areAlike_138 : decode cX9_areAlike 138 = .ok (.iload_n 1, 1) := by decide +kernel
theorem dX9_areAlike_139 : decode cX9_areAlike 139 = .ok (.imul, 1) := by decide +kernel
theorem dX9_areAlike_140 : decode cX9_areAlike 140 = .ok (.iload 4, 2) := by decide +kernel
theorem dX9_areAlike_142 : decode cX9_areAlike 142 = .ok (.iadd, 1) := by decide +kernel
theorem dX9_areAlike_143 : decode cX9_areAlike 143 = .ok (.sipush 420, 3) := by decide +kernel
theorem dX9_areAlike_146 : decode cX9_areAlike 146 = .ok (.imul, 1) := by decide +kernel
theorem dX9_areAlike_147 : decode cX9_areAlike 147 = .ok (.iload 5, 2) := by decide +kernel
theorem dX9_areAlike_149 : decode cX9_areAlike 149 = .ok (.iadd, 1) := by decide +kernel
theorem dX9_areAlike_150 : decode cX9_areAlike 150 = .ok (.iaload, 1) := by decide +kernel
theorem dX9_areAlike_151 : decode cX9_areAlike 151 = .ok (.aload_n 0, 1) := by decide +kernel
theorem dX9_areAlike_152 : decode cX9_areAlike 152 = .ok (.getfield 33, 3) := by decide +kernel
theorem dX9_areAlike_155 : decode cX9_areAlike 155 = .ok (.iconst 2, 1) := by decide +kernel
theorem dX9_areAlike_156 : decode cX9_areAlike 156 = .ok (.iload_n 2, 1) := by decide +kernel
theorem dX9_areAlike_157 : decode cX9_areAlike 157 = .ok (.imul, 1) := by decide +kernel
theorem dX9_areAlike_158 : decode cX9_areAlike 158 = .ok (.iload 4, 2) := by decide +kernel
theorem dX9_areAlike_160 : decode cX9_areAlike 160 = .ok (.iadd, 1) := by decide +kernel
theorem dX9_areAlike_161 : decode cX9_areAlike 161 = .ok (.sipush 420, 3) := by decide +kernel
theorem dX9_areAlike_164 : decode cX9_areAlike 164 = .ok (.imul, 1) := by decide +kernel
theorem dX9_areAlike_165 : decode cX9_areAlike 165 = .ok (.iload 5, 2) := by decide +kernel
theorem dX9_areAlike_167 : decode cX9_areAlike 167 = .ok (.iadd, 1) := by decide +kernel
theorem dX9_areAlike_168 : decode cX9_areAlike 168 = .ok (.iaload, 1) := by decide +kernel
theorem dX9_areAlike_169 : decode cX9_areAlike 169 = .ok (.if_icmp .ne 7, 3) := by decide +kernel
theorem dX9_areAlike_172 : decode cX9_areAlike 172 = .ok (.iconst 1, 1) := by decide +kernel
theorem dX9_areAlike_173 : decode cX9_areAlike 173 = .ok (.goto 4, 3) := by decide +kernel
theorem dX9_areAlike_176 : decode cX9_areAlike 176 = .ok (.iconst 0, 1) := by decide +kernel
theorem dX9_areAlike_177 : decode cX9_areAlike 177 = .ok (.istore_n 3, 1) := by decide +kernel
theorem dX9_areAlike_178 : decode cX9_areAlike 178 = .ok (.iinc 5 1, 3) := by decide +kernel
theorem dX9_areAlike_181 : decode cX9_areAlike 181 = .ok (.goto (-68), 3) := by decide +kernel
theorem dX9_areAlike_184 : decode cX9_areAlike 184 = .ok (.iinc 4 1, 3) := by decide +kernel
theorem dX9_areAlike_187 : decode cX9_areAlike 187 = .ok (.goto (-118), 3) := by decide +kernel
theorem dX9_areAlike_190 : decode cX9_areAlike 190 = .ok (.iload_n 3, 1) := by decide +kernel
theorem dX9_areAlike_191 : decode cX9_areAlike 191 = .ok (.ireturn, 1) := by decide +kernel
theorem dX9_melt_0 : decode cX9_melt 0 = .ok (.aload_n 0, 1) := by decide +kernel
theorem dX9_melt_1 : decode cX9_melt 1 = .ok (.iconst 0, 1) := by decide +kernel
theorem dX9_melt_2 : decode cX9_melt 2 = .ok (.putfield 59, 3) := by decide +kernel
theorem dX9_melt_5 : decode cX9_melt 5 = .ok (.aload_n 0, 1) := by decide +kernel
theorem dX9_melt_6 : decode cX9_melt 6 = .ok (.iload_n 1, 1) := by decide +kernel
theorem dX9_melt_7 : decode cX9_melt 7 = .ok (.invokevirtual 301, 3) := by decide +kernel
theorem dX9_melt_10 : decode cX9_melt 10 = .ok (.ifCond .ne 13, 3) := by decide +kernel
theorem dX9_melt_13 : decode cX9_melt 13 = .ok (.iload_n 1, 1) := by decide +kernel
theorem dX9_melt_14 : decode cX9_melt 14 = .ok (.aload_n 0, 1) := by decide +kernel
theorem dX9_melt_15 : decode cX9_melt 15 = .ok (.getfield 232, 3) := by decide +kernel
theorem dX9_melt_18 : decode cX9_melt 18 = .ok (.iconst 1, 1) := by decide +kernel
theorem dX9_melt_19 : decode cX9_melt 19 = .ok (.isub, 1) := by decide +kernel
theorem dX9_melt_20 : decode cX9_melt 20 = .ok (.if_icmp .ne 5, 3) := by decide +kernel
theorem dX9_melt_23 : decode cX9_melt 23 = .ok (.iconst 0, 1) := by decide +kernel
theorem dX9_melt_24 : decode cX9_melt 24 = .ok (.ireturn, 1) := by decide +kernel
theorem dX9_melt_25 : decode cX9_melt 25 = .ok (.bipush 24, 2) := by decide +kernel
theorem dX9_melt_27 : decode cX9_melt 27 = .ok (.iload_n 1, 1) := by decide +kernel
theorem dX9_melt_28 : decode cX9_melt 28 = .ok (.iadd, 1) := by decide +kernel
theorem dX9_melt_29 : decode cX9_melt 29 = .ok (.istore_n 2, 1) := by decide +kernel
theorem dX9_melt_30 : decode cX9_melt 30 = .ok (.iload_n 2, 1) := by decide +kernel
theorem dX9_melt_31 : decode cX9_melt 31 = .ok (.iconst 1, 1) := by decide +kernel
theorem dX9_melt_32 : decode cX9_melt 32 = .ok (.iadd, 1) := by decide +kernel
theorem dX9_melt_33 : decode cX9_melt 33 = .ok (.istore_n 3, 1) := by decide +kernel
theorem dX9_melt_34 : decode cX9_melt 34 = .ok (.aload_n 0, 1) := by decide +kernel
theorem dX9_melt_35 : decode cX9_melt 35 = .ok (.iload_n 2, 1) := by decide +kernel
theorem dX9_melt_36 : decode cX9_melt 36 = .ok (.iload_n 3, 1) := by decide +kernel
theorem dX9_melt_37 : decode cX9_melt 37 = .ok (.invokevirtual 304, 3) := by decide +kernel
theorem dX9_melt_40 : decode cX9_melt 40 = .ok (.ifCond .eq 20, 3) := by decide +kernel
theorem dX9_melt_43 : decode cX9_melt 43 = .ok (.aload_n 0, 1) := by decide +kernel
theorem dX9_melt_44 : decode cX9_melt 44 = .ok (.getfield 9, 3) := by decide +kernel
theorem dX9_melt_47 : decode cX9_melt 47 = .ok (.iload_n 2, 1) := by decide +kernel
theorem dX9_melt_48 : decode cX9_melt 48 = .ok (.iaload, 1) := by decide +kernel
theorem dX9_melt_49 : decode cX9_melt 49 = .ok (.aload_n 0, 1) := by decide +kernel
theorem dX9_melt_50 : decode cX9_melt 50 = .ok (.getfield 9, 3) := by decide +kernel
theorem dX9_melt_53 : decode cX9_melt 53 = .ok (.iload_n 3, 1) := by decide +kernel
theorem dX9_melt_54 : decode cX9_melt 54 = .ok (.iaload, 1) := by decide +kernel
theorem dX9_melt_55 : decode cX9_melt 55 = .ok (.iadd, 1) := by decide +kernel
theorem dX9_melt_56 : decode cX9_melt 56 = .ok (.iconst 3, 1) := by decide +kernel
theorem dX9_melt_57 : decode cX9_melt 57 = .ok (.if_icmp .le 5, 3) := by decide +kernel
theorem dX9_melt_60 : decode cX9_melt 60 = .ok (.iconst 0, 1) := by decide +kernel
theorem dX9_melt_61 : decode cX9_melt 61 = .ok (.ireturn, 1) := by decide +kernel
theorem dX9_melt_62 : decode cX9_melt 62 = .ok (.iconst 0, 1) := by decide +kernel
theorem dX9_melt_63 : decode cX9_melt 63 = .ok (.istore 4, 2) := by decide +kernel
theorem dX9_melt_65 : decode cX9_melt 65 = .ok (.iload 4, 2) := by decide +kernel
theorem dX9_melt_67 : decode cX9_melt 67 = .ok (.aload_n 0, 1) := by decide +kernel
theorem dX9_melt_68 : decode cX9_melt 68 = .ok (.getfield 9, 3) := by decide +kernel
theorem dX9_melt_71 : decode cX9_melt 71 = .ok (.iload_n 2, 1) := by decide +kernel
theorem dX9_melt_72 : decode cX9_melt 72 = .ok (.iaload, 1) := by decide +kernel
theorem dX9_melt_73 : decode cX9_melt 73 = .ok (.if_icmp .ge 56, 3) := by decide +kernel
theorem dX9_melt_76 : decode cX9_melt 76 = .ok (.iconst 0, 1) := by decide +kernel
theorem dX9_melt_77 : decode cX9_melt 77 = .ok (.istore 5, 2) := by decide +kernel
theorem dX9_melt_79 : decode cX9_melt 79 = .ok (.iload 5, 2) := by decide +kernel
theorem dX9_melt_81 : decode cX9_melt 81 = .ok (.aload_n 0, 1) := by decide +kernel
theorem dX9_melt_82 : decode cX9_melt 82 = .ok (.getfield 9, 3) := by decide +kernel
theorem dX9_melt_85 : decode cX9_melt 85 = .ok (.iload_n 3, 1) := by decide +kernel
theorem dX9_melt_86 : decode cX9_melt 86 = .ok (.iaload, 1) := by decide +kernel
theorem dX9_melt_87 : decode cX9_melt 87 = .ok (.if_icmp .ge 36, 3) := by decide +kernel
theorem dX9_melt_90 : decode cX9_melt 90 = .ok (.aload_n 0, 1) := by decide +kernel
theorem dX9_melt_91 : decode cX9_melt 91 = .ok (.getfield 13, 3) := by decide +kernel
theorem dX9_melt_94 : decode cX9_melt 94 = .ok (.iconst 3, 1) := by decide +kernel
theorem dX9_melt_95 : decode cX9_melt 95 = .ok (.iload_n 2, 1) := by decide +kernel
theorem dX9_melt_96 : decode cX9_melt 96 = .ok (.imul, 1) := by decide +kernel
theorem dX9_melt_97 : decode cX9_melt 97 = .ok (.iload 4, 2) := by decide +kernel
theorem dX9_melt_99 : decode cX9_melt 99 = .ok (.iadd, 1) := by decide +kernel
theorem dX9_melt_100 : decode cX9_melt 100 = .ok (.iaload, 1) := by decide +kernel
theorem dX9_melt_101 : decode cX9_melt 101 = .ok (.aload_n 0, 1) := by decide +kernel
theorem dX9_melt_102 : decode cX9_melt 102 = .ok (.getfield 13, 3) := by decide +kernel
theorem dX9_melt_105 : decode cX9_melt 105 = .ok (.iconst 3, 1) := by decide +kernel
theorem dX9_melt_106 : decode cX9_melt 106 = .ok (.iload_n 3, 1) := by decide +kernel
theorem dX9_melt_107 : decode cX9_melt 107 = .ok (.imul, 1) := by decide +kernel
theorem dX9_melt_108 : decode cX9_melt 108 = .ok (.iload 5, 2) := by decide +kernel
theorem dX9_melt_110 : decode cX9_melt 110 = .ok (.iadd, 1) := by decide +kernel
theorem dX9_melt_111 : decode cX9_melt 111 = .ok (.iaload, 1) := by decide +kernel
theorem dX9_melt_112 : decode cX9_melt 112 = .ok (.if_icmp .ne 5, 3) := by decide +kernel
theorem dX9_melt_115 : decode cX9_melt 115 = .ok (.iconst 0, 1) := by decide +kernel
theorem dX9_melt_116 : decode cX9_melt 116 = .ok (.ireturn, 1) := by decide +kernel
theorem dX9_melt_117 : decode cX9_melt 117 = .ok (.iinc 5 1, 3) := by decide +kernel
theorem dX9_melt_120 : decode cX9_melt 120 = .ok (.goto (-41), 3) := by decide +kernel
theorem dX9_melt_123 : decode cX9_melt 123 = .ok (.iinc 4 1, 3) := by decide +kernel
theorem dX9_melt_126 : decode cX9_melt 126 = .ok (.goto (-61), 3) := by decide +kernel
theorem dX9_melt_129 : decode cX9_melt 129 = .ok (.iconst 0, 1) := by decide +kernel
theorem dX9_melt_130 : decode cX9_melt 130 = .ok (.istore 4, 2) := by decide +kernel
theorem dX9_melt_132 : decode cX9_melt 132 = .ok (.iload 4, 2) := by decide +kernel
theorem dX9_melt_134 : decode cX9_melt 134 = .ok (.aload_n 0, 1) := by decide +kernel
theorem dX9_melt_135 : decode cX9_melt 135 = .ok (.getfield 9, 3) := by decide +kernel
theorem dX9_melt_138 : decode cX9_melt 138 = .ok (.iload_n 3, 1) := by decide +kernel
theorem dX9_melt_139 : decode cX9_melt 139 = .ok (.iaload, 1) := by decide +kernel
theorem dX9_melt_140 : decode cX9_melt 140 = .ok (.if_icmp .ge 38, 3) := by decide +kernel
theorem dX9_melt_143 : decode cX9_melt 143 = .ok (.aload_n 0, 1) := by decide +kernel
theorem dX9_melt_144 : decode cX9_melt 144 = .ok (.getfield 13, 3) := by decide +kernel
theorem dX9_melt_147 : decode cX9_melt 147 = .ok (.iconst 3, 1) := by decide +kernel
theorem dX9_melt_148 : decode cX9_melt 148 = .ok (.iload_n 2, 1) := by decide +kernel
theorem dX9_melt_149 : decode cX9_melt 149 = .ok (.imul, 1) := by decide +kernel
theorem dX9_melt_150 : decode cX9_melt 150 = .ok (.aload_n 0, 1) := by decide +kernel
theorem dX9_melt_151 : decode cX9_melt 151 = .ok (.getfield 9, 3) := by decide +kernel
theorem dX9_melt_154 : decode cX9_melt 154 = .ok (.iload_n 2, 1) := by decide +kernel
theorem dX9_melt_155 : decode cX9_melt 155 = .ok (.iaload, 1) := by decide +kernel
theorem dX9_melt_156 : decode cX9_melt 156 = .ok (.iadd, 1) := by decide +kernel
theorem dX9_melt_157 : decode cX9_melt 157 = .ok (.iload 4, 2) := by decide +kernel
theorem dX9_melt_159 : decode cX9_melt 159 = .ok (.iadd, 1) := by decide +kernel
theorem dX9_melt_160 : decode cX9_melt 160 = .ok (.aload_n 0, 1) := by decide +kernel
theorem dX9_melt_161 : decode cX9_melt 161 = .ok (.getfield 13, 3) := by decide +kernel
theorem dX9_melt_164 : decode cX9_melt 164 = .ok (.iconst 3, 1) := by decide +kernel
theorem dX9_melt_165 : decode cX9_melt 165 = .ok (.iload_n 3, 1) := by decide +kernel
theorem dX9_melt_166 : decode cX9_melt 166 = .ok (.imul, 1) := by decide +kernel
theorem dX9_melt_167 : decode cX9_melt 167 = .ok (.iload 4, 2) := by decide +kernel
theorem dX9_melt_169 : decode cX9_melt 169 = .ok (.iadd, 1) := by decide +kernel
theorem dX9_melt_170 : decode cX9_melt 170 = .ok (.iaload, 1) := by decide +kernel
theorem dX9_melt_171 : decode cX9_melt 171 = .ok (.iastore, 1) := by decide +kernel
theorem dX9_melt_172 : decode cX9_melt 172 = .ok (.iinc 4 1, 3) := by decide +kernel
theorem dX9_melt_175 : decode cX9_melt 175 = .ok (.goto (-43), 3) := by decide +kernel
theorem dX9_melt_178 : decode cX9_melt 178 = .ok (.aload_n 0, 1) := by decide +kernel
theorem dX9_melt_179 : decode cX9_melt 179 = .ok (.getfield 9, 3) := by decide +kernel
theorem dX9_melt_182 : decode cX9_melt 182 = .ok (.iload_n 2, 1) := by decide +kernel
theorem dX9_melt_183 : decode cX9_melt 183 = .ok (.dup2, 1) := by decide +kernel
theorem dX9_melt_184 : decode cX9_melt 184 = .ok (.iaload, 1) := by decide +kernel
theorem dX9_melt_185 : decode cX9_melt 185 = .ok (.aload_n 0, 1) := by decide +kernel
theorem dX9_melt_186 : decode cX9_melt 186 = .ok (.getfield 9, 3) := by decide +kernel
theorem dX9_melt_189 : decode cX9_melt 189 = .ok (.iload_n 3, 1) := by decide +kernel
theorem dX9_melt_190 : decode cX9_melt 190 = .ok (.iaload, 1) := by decide +kernel
theorem dX9_melt_191 : decode cX9_melt 191 = .ok (.iadd, 1) := by decide +kernel
theorem dX9_melt_192 : decode cX9_melt 192 = .ok (.iastore, 1) := by decide +kernel
theorem dX9_melt_193 : decode cX9_melt 193 = .ok (.iload_n 1, 1) := by decide +kernel
theorem dX9_melt_194 : decode cX9_melt 194 = .ok (.iconst 1, 1) := by decide +kernel
theorem dX9_melt_195 : decode cX9_melt 195 = .ok (.iadd, 1) := by decide +kernel
theorem dX9_melt_196 : decode cX9_melt 196 = .ok (.istore 4, 2) := by decide +kernel
theorem dX9_melt_198 : decode cX9_melt 198 = .ok (.iload 4, 2) := by decide +kernel
theorem dX9_melt_200 : decode cX9_melt 200 = .ok (.aload_n 0, 1) := by decide +kernel
theorem dX9_melt_201 : decode cX9_melt 201 = .ok (.getfield 232, 3) := by decide +kernel
theorem dX9_melt_204 : decode cX9_melt 204 = .ok (.iconst 1, 1) := by decide +kernel
theorem dX9_melt_205 : decode cX9_melt 205 = .ok (.isub, 1) := by decide +kernel
theorem dX9_melt_206 : decode cX9_melt 206 = .ok (.if_icmp .ge 25, 3) := by decide +kernel
theorem dX9_melt_209 : decode cX9_melt 209 = .ok (.aload_n 0, 1) := by decide +kernel
theorem dX9_melt_210 : decode cX9_melt 210 = .ok (.bipush 24, 2) := by decide +kernel
theorem dX9_melt_212 : decode cX9_melt 212 = .ok (.iload 4, 2) := by decide +kernel
theorem dX9_melt_214 : decode cX9_melt 214 = .ok (.iadd, 1) := by decide +kernel
theorem dX9_melt_215 : decode cX9_melt 215 = .ok (.iconst 1, 1) := by decide +kernel
theorem dX9_melt_216 : decode cX9_melt 216 = .ok (.iadd, 1) := by decide +kernel
theorem dX9_melt_217 : decode cX9_melt 217 = .ok (.bipush 24, 2) := by decide +kernel
theorem dX9_melt_219 : decode cX9_melt 219 = .ok (.iload 4, 2) := by decide +kernel
theorem dX9_melt_221 : decode cX9_melt 221 = .ok (.iadd, 1) := by decide +kernel
theorem dX9_melt_222 : decode cX9_melt 222 = .ok (.invokevirtual 213, 3) := by decide +kernel
theorem dX9_melt_225 : decode cX9_melt 225 = .ok (.iinc 4 1, 3) := by decide +kernel
theorem dX9_melt_228 : decode cX9_melt 228 = .ok (.goto (-30), 3) := by decide +kernel
theorem dX9_melt_231 : decode cX9_melt 231 = .ok (.aload_n 0, 1) := by decide +kernel
theorem dX9_melt_232 : decode cX9_melt 232 = .ok (.dup, 1) := by decide +kernel
theorem dX9_melt_233 : decode cX9_melt 233 = .ok (.getfield 232, 3) := by decide +kernel
theorem dX9_melt_236 : decode cX9_melt 236 = .ok (.iconst 1, 1) := by decide +kernel
theorem dX9_melt_237 : decode cX9_melt 237 = .ok (.isub, 1) := by decide +kernel
theorem dX9_melt_238 : decode cX9_melt 238 = .ok (.putfield 232, 3) := by decide +kernel
theorem dX9_melt_241 : decode cX9_melt 241 = .ok (.aload_n 0, 1) := by decide +kernel
theorem dX9_melt_242 : decode cX9_melt 242 = .ok (.dup, 1) := by decide +kernel
theorem dX9_melt_243 : decode cX9_melt 243 = .ok (.getfield 226, 3) := by decide +kernel
theorem dX9_melt_246 : decode cX9_melt 246 = .ok (.iconst 1, 1) := by decide +kernel
theorem dX9_melt_247 : decode cX9_melt 247 = .ok (.iadd, 1) := by decide +kernel
theorem dX9_melt_248 : decode cX9_melt 248 = .ok (.putfield 226, 3) := by decide +kernel
theorem dX9_melt_251 : decode cX9_melt 251 = .ok (.iconst 1, 1) := by decide +kernel
theorem dX9_melt_252 : decode cX9_melt 252 = .ok (.ireturn, 1) := by decide +kernel
theorem dX9_turnsRound_0 : decode cX9_turnsRound 0 = .ok (.aload_n 0, 1) := by decide +kernel
theorem dX9_turnsRound_1 : decode cX9_turnsRound 1 = .ok (.getfield 25, 3) := by decide +kernel
theorem dX9_turnsRound_4 : decode cX9_turnsRound 4 = .ok (.iload_n 1, 1) := by decide +kernel
theorem dX9_turnsRound_5 : decode cX9_turnsRound 5 = .ok (.baload, 1) := by decide +kernel
theorem dX9_turnsRound_6 : decode cX9_turnsRound 6 = .ok (.ifCond .eq 13, 3) := by decide +kernel
theorem dX9_turnsRound_9 : decode cX9_turnsRound 9 = .ok (.aload_n 0, 1) := by decide +kernel
theorem dX9_turnsRound_10 : decode cX9_turnsRound 10 = .ok (.getfield 16, 3) := by decide +kernel
theorem dX9_turnsRound_13 : decode cX9_turnsRound 13 = .ok (.iload_n 1, 1) := by decide +kernel
theorem dX9_turnsRound_14 : decode cX9_turnsRound 14 = .ok (.iaload, 1) := by decide +kernel
theorem dX9_turnsRound_15 : decode cX9_turnsRound 15 = .ok (.iconst 3, 1) := by decide +kernel
theorem dX9_turnsRound_16 : decode cX9_turnsRound 16 = .ok (.if_icmp .ne 5, 3) := by decide +kernel
theorem dX9_turnsRound_19 : decode cX9_turnsRound 19 = .ok (.iconst 0, 1) := by decide +kernel
theorem dX9_turnsRound_20 : decode cX9_turnsRound 20 = .ok (.ireturn, 1) := by decide +kernel
theorem dX9_turnsRound_21 : decode cX9_turnsRound 21 = .ok (.aload_n 0, 1) := by decide +kernel
theorem dX9_turnsRound_22 : decode cX9_turnsRound 22 = .ok (.getfield 25, 3) := by decide +kernel
theorem dX9_turnsRound_25 : decode cX9_turnsRound 25 = .ok (.iload_n 1, 1) := by decide +kernel
theorem dX9_turnsRound_26 : decode cX9_turnsRound 26 = .ok (.iconst 0, 1) := by decide +kernel
theorem dX9_turnsRound_27 : decode cX9_turnsRound 27 = .ok (.bastore, 1) := by decide +kernel
theorem dX9_turnsRound_28 : decode cX9_turnsRound 28 = .ok (.iconst 1, 1) := by decide +kernel
theorem dX9_turnsRound_29 : decode cX9_turnsRound 29 = .ok (.ireturn, 1) := by decide +kernel
theorem dX9_turn_0 : decode cX9_turn 0 = .ok (.aload_n 0, 1) := by decide +kernel
theorem dX9_turn_1 : decode cX9_turn 1 = .ok (.iconst 0, 1) := by decide +kernel
theorem dX9_turn_2 : decode cX9_turn 2 = .ok (.putfield 59, 3) := by decide +kernel
theorem dX9_turn_5 : decode cX9_turn 5 = .ok (.aload_n 0, 1) := by decide +kernel
theorem dX9_turn_6 : decode cX9_turn 6 = .ok (.iload_n 1, 1) := by decide +kernel
theorem dX9_turn_7 : decode cX9_turn 7 = .ok (.invokevirtual 301, 3) := by decide +kernel
theorem dX9_turn_10 : decode cX9_turn 10 = .ok (.ifCond .ne 14, 3) := by decide +kernel
theorem dX9_turn_13 : decode cX9_turn 13 = .ok (.aload_n 0, 1) := by decide +kernel
theorem dX9_turn_14 : decode cX9_turn 14 = .ok (.bipush 24, 2) := by decide +kernel
theorem dX9_turn_16 : decode cX9_turn 16 = .ok (.iload_n 1, 1) := by decide +kernel
theorem dX9_turn_17 : decode cX9_turn 17 = .ok (.iadd, 1) := by decide +kernel
theorem dX9_turn_18 : decode cX9_turn 18 = .ok (.invokevirtual 307, 3) := by decide +kernel
theorem dX9_turn_21 : decode cX9_turn 21 = .ok (.ifCond .ne 5, 3) := by decide +kernel
theorem dX9_turn_24 : decode cX9_turn 24 = .ok (.iconst 0, 1) := by decide +kernel
theorem dX9_turn_25 : decode cX9_turn 25 = .ok (.ireturn, 1) := by decide +kernel
theorem dX9_turn_26 : decode cX9_turn 26 = .ok (.aload_n 0, 1) := by decide +kernel
theorem dX9_turn_27 : decode cX9_turn 27 = .ok (.dup, 1) := by decide +kernel
theorem dX9_turn_28 : decode cX9_turn 28 = .ok (.getfield 226, 3) := by decide +kernel
theorem dX9_turn_31 : decode cX9_turn 31 = .ok (.iconst 1, 1) := by decide +kernel
theorem dX9_turn_32 : decode cX9_turn 32 = .ok (.iadd, 1) := by decide +kernel
theorem dX9_turn_33 : decode cX9_turn 33 = .ok (.putfield 226, 3) := by decide +kernel
theorem dX9_turn_36 : decode cX9_turn 36 = .ok (.iconst 1, 1) := by decide +kernel
theorem dX9_turn_37 : decode cX9_turn 37 = .ok (.ireturn, 1) := by decide +kernel
theorem dX9_eases_0 : decode cX9_eases 0 = .ok (.aload_n 0, 1) := by decide +kernel
theorem dX9_eases_1 : decode cX9_eases 1 = .ok (.iload_n 1, 1) := by decide +kernel
theorem dX9_eases_2 : decode cX9_eases 2 = .ok (.invokevirtual 283, 3) := by decide +kernel
theorem dX9_eases_5 : decode cX9_eases 5 = .ok (.istore_n 2, 1) := by decide +kernel
theorem dX9_eases_6 : decode cX9_eases 6 = .ok (.aload_n 0, 1) := by decide +kernel
theorem dX9_eases_7 : decode cX9_eases 7 = .ok (.getfield 29, 3) := by decide +kernel
theorem dX9_eases_10 : decode cX9_eases 10 = .ok (.iconst 2, 1) := by decide +kernel
theorem dX9_eases_11 : decode cX9_eases 11 = .ok (.iload_n 1, 1) := by decide +kernel
theorem dX9_eases_12 : decode cX9_eases 12 = .ok (.imul, 1) := by decide +kernel
theorem dX9_eases_13 : decode cX9_eases 13 = .ok (.iconst 1, 1) := by decide +kernel
theorem dX9_eases_14 : decode cX9_eases 14 = .ok (.iadd, 1) := by decide +kernel
theorem dX9_eases_15 : decode cX9_eases 15 = .ok (.iaload, 1) := by decide +kernel
theorem dX9_eases_16 : decode cX9_eases 16 = .ok (.ifCond .le 7, 3) := by decide +kernel
theorem dX9_eases_19 : decode cX9_eases 19 = .ok (.iconst 1, 1) := by decide +kernel
theorem dX9_eases_20 : decode cX9_eases 20 = .ok (.goto 4, 3) := by decide +kernel
theorem dX9_eases_23 : decode cX9_eases 23 = .ok (.iconst 0, 1) := by decide +kernel
theorem dX9_eases_24 : decode cX9_eases 24 = .ok (.istore_n 3, 1) := by decide +kernel
theorem dX9_eases_25 : decode cX9_eases 25 = .ok (.aload_n 0, 1) := by decide +kernel
theorem dX9_eases_26 : decode cX9_eases 26 = .ok (.iconst 0, 1) := by decide +kernel
theorem dX9_eases_27 : decode cX9_eases 27 = .ok (.putfield 62, 3) := by decide +kernel
theorem dX9_eases_30 : decode cX9_eases 30 = .ok (.iconst (-1), 1) := by decide +kernel
theorem dX9_eases_31 : decode cX9_eases 31 = .ok (.istore 4, 2) := by decide +kernel
theorem dX9_eases_33 : decode cX9_eases 33 = .ok (.iload_n 3, 1) := by decide +kernel
theorem dX9_eases_34 : decode cX9_eases 34 = .ok (.ifCond .eq 78, 3) := by decide +kernel
theorem dX9_eases_37 : decode cX9_eases 37 = .ok (.aload_n 0, 1) := by decide +kernel
theorem dX9_eases_38 : decode cX9_eases 38 = .ok (.bipush 10, 2) := by decide +kernel
theorem dX9_eases_40 : decode cX9_eases 40 = .ok (.invokevirtual 68, 3) := by decide +kernel
theorem dX9_eases_43 : decode cX9_eases 43 = .ok (.istore 5, 2) := by decide +kernel
theorem dX9_eases_45 : decode cX9_eases 45 = .ok (.aload_n 0, 1) := by decide +kernel
theorem dX9_eases_46 : decode cX9_eases 46 = .ok (.iload 5, 2) := by decide +kernel
theorem dX9_eases_48 : decode cX9_eases 48 = .ok (.aload_n 0, 1) := by decide +kernel
theorem dX9_eases_49 : decode cX9_eases 49 = .ok (.iconst 2, 1) := by decide +kernel
theorem dX9_eases_50 : decode cX9_eases 50 = .ok (.iload_n 1, 1) := by decide +kernel
theorem dX9_eases_51 : decode cX9_eases 51 = .ok (.imul, 1) := by decide +kernel
theorem dX9_eases_52 : decode cX9_eases 52 = .ok (.iconst 1, 1) := by decide +kernel
theorem dX9_eases_53 : decode cX9_eases 53 = .ok (.iadd, 1) := by decide +kernel
theorem dX9_eases_54 : decode cX9_eases 54 = .ok (.invokevirtual 310, 3) := by decide +kernel
theorem dX9_eases_57 : decode cX9_eases 57 = .ok (.invokevirtual 75, 3) := by decide +kernel
theorem dX9_eases_60 : decode cX9_eases 60 = .ok (.iload 5, 2) := by decide +kernel
theorem dX9_eases_62 : decode cX9_eases 62 = .ok (.istore 4, 2) := by decide +kernel
theorem dX9_eases_64 : decode cX9_eases 64 = .ok (.aload_n 0, 1) := by decide +kernel
theorem dX9_eases_65 : decode cX9_eases 65 = .ok (.getfield 29, 3) := by decide +kernel
theorem dX9_eases_68 : decode cX9_eases 68 = .ok (.iconst 2, 1) := by decide +kernel
theorem dX9_eases_69 : decode cX9_eases 69 = .ok (.iload_n 1, 1) := by decide +kernel
theorem dX9_eases_70 : decode cX9_eases 70 = .ok (.imul, 1) := by decide +kernel
theorem dX9_eases_71 : decode cX9_eases 71 = .ok (.iaload, 1) := by decide +kernel
theorem dX9_eases_72 : decode cX9_eases 72 = .ok (.ifCond .le 37, 3) := by decide +kernel
theorem dX9_eases_75 : decode cX9_eases 75 = .ok (.aload_n 0, 1) := by decide +kernel
theorem dX9_eases_76 : decode cX9_eases 76 = .ok (.sipush 1000, 3) := by decide +kernel
theorem dX9_eases_79 : decode cX9_eases 79 = .ok (.invokevirtual 68, 3) := by decide +kernel
theorem dX9_eases_82 : decode cX9_eases 82 = .ok (.istore 6, 2) := by decide +kernel
theorem dX9_eases_84 : decode cX9_eases 84 = .ok (.aload_n 0, 1) := by decide +kernel
theorem dX9_eases_85 : decode cX9_eases 85 = .ok (.iload 6, 2) := by decide +kernel
theorem dX9_eases_87 : decode cX9_eases 87 = .ok (.aload_n 0, 1) := by decide +kernel
theorem dX9_eases_88 : decode cX9_eases 88 = .ok (.iconst 2, 1) := by decide +kernel
theorem dX9_eases_89 : decode cX9_eases 89 = .ok (.iload_n 1, 1) := by decide +kernel
theorem dX9_eases_90 : decode cX9_eases 90 = .ok (.imul, 1) := by decide +kernel
theorem dX9_eases_91 : decode cX9_eases 91 = .ok (.invokevirtual 310, 3) := by decide +kernel
theorem dX9_eases_94 : decode cX9_eases 94 = .ok (.invokevirtual 75, 3) := by decide +kernel
theorem dX9_eases_97 : decode cX9_eases 97 = .ok (.aload_n 0, 1) := by decide +kernel
theorem dX9_eases_98 : decode cX9_eases 98 = .ok (.iload 6, 2) := by decide +kernel
theorem dX9_eases_100 : decode cX9_eases 100 = .ok (.iload 5, 2) := by decide +kernel
theorem dX9_eases_102 : decode cX9_eases 102 = .ok (.invokevirtual 75, 3) := by decide +kernel
theorem dX9_eases_105 : decode cX9_eases 105 = .ok (.iload 6, 2) := by decide +kernel
theorem dX9_eases_107 : decode cX9_eases 107 = .ok (.istore 4, 2) := by decide +kernel
theorem dX9_eases_109 : decode cX9_eases 109 = .ok (.goto 23, 3) := by decide +kernel
theorem dX9_eases_112 : decode cX9_eases 112 = .ok (.aload_n 0, 1) := by decide +kernel
theorem dX9_eases_113 : decode cX9_eases 113 = .ok (.getfield 29, 3) := by decide +kernel
theorem dX9_eases_116 : decode cX9_eases 116 = .ok (.iconst 2, 1) := by decide +kernel
theorem dX9_eases_117 : decode cX9_eases 117 = .ok (.iload_n 1, 1) := by decide +kernel
theorem dX9_eases_118 : decode cX9_eases 118 = .ok (.imul, 1) := by decide +kernel
theorem dX9_eases_119 : decode cX9_eases 119 = .ok (.iaload, 1) := by decide +kernel
theorem dX9_eases_120 : decode cX9_eases 120 = .ok (.ifCond .le 12, 3) := by decide +kernel
theorem dX9_eases_123 : decode cX9_eases 123 = .ok (.aload_n 0, 1) := by decide +kernel
theorem dX9_eases_124 : decode cX9_eases 124 = .ok (.iconst 2, 1) := by decide +kernel
theorem dX9_eases_125 : decode cX9_eases 125 = .ok (.iload_n 1, 1) := by decide +kernel
theorem dX9_eases_126 : decode cX9_eases 126 = .ok (.imul, 1) := by decide +kernel
theorem dX9_eases_127 : decode cX9_eases 127 = .ok (.invokevirtual 310, 3) := by decide +kernel
theorem dX9_eases_130 : decode cX9_eases 130 = .ok (.istore 4, 2) := by decide +kernel
theorem dX9_eases_132 : decode cX9_eases 132 = .ok (.iload 4, 2) := by decide +kernel
theorem dX9_eases_134 : decode cX9_eases 134 = .ok (.ifCond .ge 5, 3) := by decide +kernel
theorem dX9_eases_137 : decode cX9_eases 137 = .ok (.iconst 0, 1) := by decide +kernel
theorem dX9_eases_138 : decode cX9_eases 138 = .ok (.ireturn, 1) := by decide +kernel
theorem dX9_eases_139 : decode cX9_eases 139 = .ok (.aload_n 0, 1) := by decide +kernel
theorem dX9_eases_140 : decode cX9_eases 140 = .ok (.aload_n 0, 1) := by decide +kernel
theorem dX9_eases_141 : decode cX9_eases 141 = .ok (.iload 4, 2) := by decide +kernel
theorem dX9_eases_143 : decode cX9_eases 143 = .ok (.invokevirtual 79, 3) := by decide +kernel
theorem dX9_eases_146 : decode cX9_eases 146 = .ok (.iconst 2, 1) := by decide +kernel
theorem dX9_eases_147 : decode cX9_eases 147 = .ok (.iload_n 1, 1) := by decide +kernel
theorem dX9_eases_148 : decode cX9_eases 148 = .ok (.imul, 1) := by decide +kernel
theorem dX9_eases_149 : decode cX9_eases 149 = .ok (.invokevirtual 161, 3) := by decide +kernel
theorem dX9_eases_152 : decode cX9_eases 152 = .ok (.aload_n 0, 1) := by decide +kernel
theorem dX9_eases_153 : decode cX9_eases 153 = .ok (.getfield 29, 3) := by decide +kernel
theorem dX9_eases_156 : decode cX9_eases 156 = .ok (.iconst 2, 1) := by decide +kernel
theorem dX9_eases_157 : decode cX9_eases 157 = .ok (.iload_n 1, 1) := by decide +kernel
theorem dX9_eases_158 : decode cX9_eases 158 = .ok (.imul, 1) := by decide +kernel
theorem dX9_eases_159 : decode cX9_eases 159 = .ok (.iconst 1, 1) := by decide +kernel
theorem dX9_eases_160 : decode cX9_eases 160 = .ok (.iadd, 1) := by decide +kernel
theorem dX9_eases_161 : decode cX9_eases 161 = .ok (.iconst 0, 1) := by decide +kernel
theorem dX9_eases_162 : decode cX9_eases 162 = .ok (.iastore, 1) := by decide +kernel
theorem dX9_eases_163 : decode cX9_eases 163 = .ok (.iload_n 3, 1) := by decide +kernel
theorem dX9_eases_164 : decode cX9_eases 164 = .ok (.ifCond .ne 12, 3) := by decide +kernel
theorem dX9_eases_167 : decode cX9_eases 167 = .ok (.aload_n 0, 1) := by decide +kernel
theorem dX9_eases_168 : decode cX9_eases 168 = .ok (.iload_n 1, 1) := by decide +kernel
theorem dX9_eases_169 : decode cX9_eases 169 = .ok (.invokevirtual 283, 3) := by decide +kernel
theorem dX9_eases_172 : decode cX9_eases 172 = .ok (.iload_n 2, 1) := by decide +kernel
theorem dX9_eases_173 : decode cX9_eases 173 = .ok (.if_icmp .eq 7, 3) := by decide +kernel
theorem dX9_eases_176 : decode cX9_eases 176 = .ok (.iconst 1, 1) := by decide +kernel
theorem dX9_eases_177 : decode cX9_eases 177 = .ok (.goto 4, 3) := by decide +kernel
theorem dX9_eases_180 : decode cX9_eases 180 = .ok (.iconst 0, 1) := by decide +kernel
theorem dX9_eases_181 : decode cX9_eases 181 = .ok (.ireturn, 1) := by decide +kernel
theorem dX9_ease_0 : decode cX9_ease 0 = .ok (.aload_n 0, 1) := by decide +kernel
theorem dX9_ease_1 : decode cX9_ease 1 = .ok (.iconst 0, 1) := by decide +kernel
theorem dX9_ease_2 : decode cX9_ease 2 = .ok (.putfield 59, 3) := by decide +kernel
theorem dX9_ease_5 : decode cX9_ease 5 = .ok (.aload_n 0, 1) := by decide +kernel
theorem dX9_ease_6 : decode cX9_ease 6 = .ok (.iload_n 1, 1) := by decide +kernel
theorem dX9_ease_7 : decode cX9_ease 7 = .ok (.invokevirtual 301, 3) := by decide +kernel
theorem dX9_ease_10 : decode cX9_ease 10 = .ok (.ifCond .ne 14, 3) := by decide +kernel
theorem dX9_ease_13 : decode cX9_ease 13 = .ok (.aload_n 0, 1) := by decide +kernel
theorem dX9_ease_14 : decode cX9_ease 14 = .ok (.bipush 24, 2) := by decide +kernel
theorem dX9_ease_16 : decode cX9_ease 16 = .ok (.iload_n 1, 1) := by decide +kernel
theorem dX9_ease_17 : decode cX9_ease 17 = .ok (.iadd, 1) := by decide +kernel
theorem dX9_ease_18 : decode cX9_ease 18 = .ok (.invokevirtual 313, 3) := by decide +kernel
theorem dX9_ease_21 : decode cX9_ease 21 = .ok (.ifCond .ne 5, 3) := by decide +kernel
theorem dX9_ease_24 : decode cX9_ease 24 = .ok (.iconst 0, 1) := by decide +kernel
theorem dX9_ease_25 : decode cX9_ease 25 = .ok (.ireturn, 1) := by decide +kernel
theorem dX9_ease_26 : decode cX9_ease 26 = .ok (.aload_n 0, 1) := by decide +kernel
theorem dX9_ease_27 : decode cX9_ease 27 = .ok (.dup, 1) := by decide +kernel
theorem dX9_ease_28 : decode cX9_ease 28 = .ok (.getfield 226, 3) := by decide +kernel
theorem dX9_ease_31 : decode cX9_ease 31 = .ok (.iconst 1, 1) := by decide +kernel
theorem dX9_ease_32 : decode cX9_ease 32 = .ok (.iadd, 1) := by decide +kernel
theorem dX9_ease_33 : decode cX9_ease 33 = .ok (.putfield 226, 3) := by decide +kernel
theorem dX9_ease_36 : decode cX9_ease 36 = .ok (.iconst 1, 1) := by decide +kernel
theorem dX9_ease_37 : decode cX9_ease 37 = .ok (.ireturn, 1) := by decide +kernel
theorem dX9_again_0 : decode cX9_again 0 = .ok (.aload_n 0, 1) := by decide +kernel
theorem dX9_again_1 : decode cX9_again 1 = .ok (.iconst 0, 1) := by decide +kernel
theorem dX9_again_2 : decode cX9_again 2 = .ok (.putfield 59, 3) := by decide +kernel
theorem dX9_again_5 : decode cX9_again 5 = .ok (.aload_n 0, 1) := by decide +kernel
theorem dX9_again_6 : decode cX9_again 6 = .ok (.aload_n 0, 1) := by decide +kernel
theorem dX9_again_7 : decode cX9_again 7 = .ok (.getfield 219, 3) := by decide +kernel
theorem dX9_again_10 : decode cX9_again 10 = .ok (.ifCond .ne 7, 3) := by decide +kernel
theorem dX9_again_13 : decode cX9_again 13 = .ok (.iconst 1, 1) := by decide +kernel
theorem dX9_again_14 : decode cX9_again 14 = .ok (.goto 4, 3) := by decide +kernel
theorem dX9_again_17 : decode cX9_again 17 = .ok (.iconst 0, 1) := by decide +kernel
theorem dX9_again_18 : decode cX9_again 18 = .ok (.iconst 1, 1) := by decide +kernel
theorem dX9_again_19 : decode cX9_again 19 = .ok (.invokevirtual 209, 3) := by decide +kernel
theorem dX9_again_22 : decode cX9_again 22 = .ok (.ifCond .eq 4, 3) := by decide +kernel
theorem dX9_again_25 : decode cX9_again 25 = .ok (.return_, 1) := by decide +kernel
theorem dX9_again_26 : decode cX9_again 26 = .ok (.aload_n 0, 1) := by decide +kernel
theorem dX9_again_27 : decode cX9_again 27 = .ok (.invokevirtual 229, 3) := by decide +kernel
theorem dX9_again_30 : decode cX9_again 30 = .ok (.return_, 1) := by decide +kernel
theorem dX9_tries_0 : decode cX9_tries 0 = .ok (.aload_n 0, 1) := by decide +kernel
theorem dX9_tries_1 : decode cX9_tries 1 = .ok (.iload_n 2, 1) := by decide +kernel
theorem dX9_tries_2 : decode cX9_tries 2 = .ok (.iconst 1, 1) := by decide +kernel
theorem dX9_tries_3 : decode cX9_tries 3 = .ok (.iand, 1) := by decide +kernel
theorem dX9_tries_4 : decode cX9_tries 4 = .ok (.ifCond .ne 7, 3) := by decide +kernel
theorem dX9_tries_7 : decode cX9_tries 7 = .ok (.iconst 1, 1) := by decide +kernel
theorem dX9_tries_8 : decode cX9_tries 8 = .ok (.goto 9, 3) := by decide +kernel
theorem dX9_tries_11 : decode cX9_tries 11 = .ok (.aload_n 0, 1) := by decide +kernel
theorem dX9_tries_12 : decode cX9_tries 12 = .ok (.getfield 9, 3) := by decide +kernel
theorem dX9_tries_15 : decode cX9_tries 15 = .ok (.iload_n 1, 1) := by decide +kernel
theorem dX9_tries_16 : decode cX9_tries 16 = .ok (.iaload, 1) := by decide +kernel
theorem dX9_tries_17 : decode cX9_tries 17 = .ok (.putfield 316, 3) := by decide +kernel
theorem dX9_tries_20 : decode cX9_tries 20 = .ok (.iload_n 2, 1) := by decide +kernel
theorem dX9_tries_21 : decode cX9_tries 21 = .ok (.iconst 1, 1) := by decide +kernel
theorem dX9_tries_22 : decode cX9_tries 22 = .ok (.iand, 1) := by decide +kernel
theorem dX9_tries_23 : decode cX9_tries 23 = .ok (.ifCond .eq 15, 3) := by decide +kernel
theorem dX9_tries_26 : decode cX9_tries 26 = .ok (.aload_n 0, 1) := by decide +kernel
theorem dX9_tries_27 : decode cX9_tries 27 = .ok (.getfield 9, 3) := by decide +kernel
theorem dX9_tries_30 : decode cX9_tries 30 = .ok (.iload_n 1, 1) := by decide +kernel
theorem dX9_tries_31 : decode cX9_tries 31 = .ok (.iaload, 1) := by decide +kernel
theorem dX9_tries_32 : decode cX9_tries 32 = .ok (.iconst 2, 1) := by decide +kernel
theorem dX9_tries_33 : decode cX9_tries 33 = .ok (.if_icmp .ge 5, 3) := by decide +kernel
theorem dX9_tries_36 : decode cX9_tries 36 = .ok (.iconst (-1), 1) := by decide +kernel
theorem dX9_tries_37 : decode cX9_tries 37 = .ok (.ireturn, 1) := by decide +kernel
theorem dX9_tries_38 : decode cX9_tries 38 = .ok (.iconst 0, 1) := by decide +kernel
theorem dX9_tries_39 : decode cX9_tries 39 = .ok (.istore_n 3, 1) := by decide +kernel
theorem dX9_tries_40 : decode cX9_tries 40 = .ok (.iload_n 3, 1) := by decide +kernel
theorem dX9_tries_41 : decode cX9_tries 41 = .ok (.aload_n 0, 1) := by decide +kernel
theorem dX9_tries_42 : decode cX9_tries 42 = .ok (.getfield 316, 3) := by decide +kernel
theorem dX9_tries_45 : decode cX9_tries 45 = .ok (.if_icmp .ge 58, 3) := by decide +kernel
theorem dX9_tries_48 : decode cX9_tries 48 = .ok (.aload_n 0, 1) := by decide +kernel
theorem dX9_tries_49 : decode cX9_tries 49 = .ok (.iload_n 1, 1) := by decide +kernel
theorem dX9_tries_50 : decode cX9_tries 50 = .ok (.bipush 72, 2) := by decide +kernel
theorem dX9_tries_52 : decode cX9_tries 52 = .ok (.iload_n 3, 1) := by decide +kernel
theorem dX9_tries_53 : decode cX9_tries 53 = .ok (.iadd, 1) := by decide +kernel
theorem dX9_tries_54 : decode cX9_tries 54 = .ok (.invokevirtual 213, 3) := by decide +kernel
theorem dX9_tries_57 : decode cX9_tries 57 = .ok (.iload_n 2, 1) := by decide +kernel
theorem dX9_tries_58 : decode cX9_tries 58 = .ok (.iconst 1, 1) := by decide +kernel
theorem dX9_tries_59 : decode cX9_tries 59 = .ok (.iand, 1) := by decide +kernel
theorem dX9_tries_60 : decode cX9_tries 60 = .ok (.ifCond .ne 6, 3) := by decide +kernel
theorem dX9_tries_63 : decode cX9_tries 63 = .ok (.goto 34, 3) := by decide +kernel
theorem dX9_tries_66 : decode cX9_tries 66 = .ok (.aload_n 0, 1) := by decide +kernel
theorem dX9_tries_67 : decode cX9_tries 67 = .ok (.getfield 9, 3) := by decide +kernel
theorem dX9_tries_70 : decode cX9_tries 70 = .ok (.bipush 72, 2) := by decide +kernel
theorem dX9_tries_72 : decode cX9_tries 72 = .ok (.iload_n 3, 1) := by decide +kernel
theorem dX9_tries_73 : decode cX9_tries 73 = .ok (.iadd, 1) := by decide +kernel
theorem dX9_tries_74 : decode cX9_tries 74 = .ok (.iconst 1, 1) := by decide +kernel
theorem dX9_tries_75 : decode cX9_tries 75 = .ok (.iastore, 1) := by decide +kernel
theorem dX9_tries_76 : decode cX9_tries 76 = .ok (.aload_n 0, 1) := by decide +kernel
theorem dX9_tries_77 : decode cX9_tries 77 = .ok (.getfield 13, 3) := by decide +kernel
theorem dX9_tries_80 : decode cX9_tries 80 = .ok (.iconst 3, 1) := by decide +kernel
theorem dX9_tries_81 : decode cX9_tries 81 = .ok (.bipush 72, 2) := by decide +kernel
theorem dX9_tries_83 : decode cX9_tries 83 = .ok (.iload_n 3, 1) := by decide +kernel
theorem dX9_tries_84 : decode cX9_tries 84 = .ok (.iadd, 1) := by decide +kernel
theorem dX9_tries_85 : decode cX9_tries 85 = .ok (.imul, 1) := by decide +kernel
theorem dX9_tries_86 : decode cX9_tries 86 = .ok (.aload_n 0, 1) := by decide +kernel
theorem dX9_tries_87 : decode cX9_tries 87 = .ok (.getfield 13, 3) := by decide +kernel
theorem dX9_tries_90 : decode cX9_tries 90 = .ok (.iconst 3, 1) := by decide +kernel
theorem dX9_tries_91 : decode cX9_tries 91 = .ok (.iload_n 1, 1) := by decide +kernel
theorem dX9_tries_92 : decode cX9_tries 92 = .ok (.imul, 1) := by decide +kernel
theorem dX9_tries_93 : decode cX9_tries 93 = .ok (.iload_n 3, 1) := by decide +kernel
theorem dX9_tries_94 : decode cX9_tries 94 = .ok (.iadd, 1) := by decide +kernel
theorem dX9_tries_95 : decode cX9_tries 95 = .ok (.iaload, 1) := by decide +kernel
theorem dX9_tries_96 : decode cX9_tries 96 = .ok (.iastore, 1) := by decide +kernel
theorem dX9_tries_97 : decode cX9_tries 97 = .ok (.iinc 3 1, 3) := by decide +kernel
theorem dX9_tries_100 : decode cX9_tries 100 = .ok (.goto (-60), 3) := by decide +kernel
theorem dX9_tries_103 : decode cX9_tries 103 = .ok (.iconst 1, 1) := by decide +kernel
theorem dX9_tries_104 : decode cX9_tries 104 = .ok (.istore_n 3, 1) := by decide +kernel
theorem dX9_tries_105 : decode cX9_tries 105 = .ok (.bipush 72, 2) := by decide +kernel
theorem dX9_tries_107 : decode cX9_tries 107 = .ok (.istore 4, 2) := by decide +kernel
theorem dX9_tries_109 : decode cX9_tries 109 = .ok (.iload 4, 2) := by decide +kernel
theorem dX9_tries_111 : decode cX9_tries 111 = .ok (.bipush 72, 2) := by decide +kernel
theorem dX9_tries_113 : decode cX9_tries 113 = .ok (.aload_n 0, 1) := by decide +kernel
theorem dX9_tries_114 : decode cX9_tries 114 = .ok (.getfield 316, 3) := by decide +kernel
theorem dX9_tries_117 : decode cX9_tries 117 = .ok (.iadd, 1) := by decide +kernel
theorem dX9_tries_118 : decode cX9_tries 118 = .ok (.if_icmp .ge 59, 3) := by decide +kernel
theorem dX9_tries_121 : decode cX9_tries 121 = .ok (.iload_n 2, 1) := by decide +kernel
theorem dX9_tries_122 : decode cX9_tries 122 = .ok (.iconst 2, 1) := by decide +kernel
theorem dX9_tries_123 : decode cX9_tries 123 = .ok (.iand, 1) := by decide +kernel
theorem dX9_tries_124 : decode cX9_tries 124 = .ok (.ifCond .eq 22, 3) := by decide +kernel
theorem dX9_tries_127 : decode cX9_tries 127 = .ok (.iload_n 3, 1) := by decide +kernel
theorem dX9_tries_128 : decode cX9_tries 128 = .ok (.ifCond .eq 16, 3) := by decide +kernel
theorem dX9_tries_131 : decode cX9_tries 131 = .ok (.aload_n 0, 1) := by decide +kernel
theorem dX9_tries_132 : decode cX9_tries 132 = .ok (.iload 4, 2) := by decide +kernel
theorem dX9_tries_134 : decode cX9_tries 134 = .ok (.invokevirtual 307, 3) := by decide +kernel
theorem dX9_tries_137 : decode cX9_tries 137 = .ok (.ifCond .eq 7, 3) := by decide +kernel
theorem dX9_tries_140 : decode cX9_tries 140 = .ok (.iconst 1, 1) := by decide +kernel
theorem dX9_tries_141 : decode cX9_tries 141 = .ok (.goto 4, 3) := by decide +kernel
theorem dX9_tries_144 : decode cX9_tries 144 = .ok (.iconst 0, 1) := by decide +kernel
theorem dX9_tries_145 : decode cX9_tries 145 = .ok (.istore_n 3, 1) := by decide +kernel
theorem dX9_tries_146 : decode cX9_tries 146 = .ok (.iload_n 2, 1) := by decide +kernel
theorem dX9_tries_147 : decode cX9_tries 147 = .ok (.iconst 4, 1) := by decide +kernel
theorem dX9_tries_148 : decode cX9_tries 148 = .ok (.iand, 1) := by decide +kernel
theorem dX9_tries_149 : decode cX9_tries 149 = .ok (.ifCond .eq 22, 3) := by decide +kernel
theorem dX9_tries_152 : decode cX9_tries 152 = .ok (.iload_n 3, 1) := by decide +kernel
theorem dX9_tries_153 : decode cX9_tries 153 = .ok (.ifCond .eq 16, 3) := by decide +kernel
theorem dX9_tries_156 : decode cX9_tries 156 = .ok (.aload_n 0, 1) := by decide +kernel
theorem dX9_tries_157 : decode cX9_tries 157 = .ok (.iload 4, 2) := by decide +kernel
theorem dX9_tries_159 : decode cX9_tries 159 = .ok (.invokevirtual 313, 3) := by decide +kernel
theorem dX9_tries_162 : decode cX9_tries 162 = .ok (.ifCond .eq 7, 3) := by decide +kernel
theorem dX9_tries_165 : decode cX9_tries 165 = .ok (.iconst 1, 1) := by decide +kernel
theorem dX9_tries_166 : decode cX9_tries 166 = .ok (.goto 4, 3) := by decide +kernel
theorem dX9_tries_169 : decode cX9_tries 169 = .ok (.iconst 0, 1) := by decide +kernel
theorem dX9_tries_170 : decode cX9_tries 170 = .ok (.istore_n 3, 1) := by decide +kernel
theorem dX9_tries_171 : decode cX9_tries 171 = .ok (.iinc 4 1, 3) := by decide +kernel
theorem dX9_tries_174 : decode cX9_tries 174 = .ok (.goto (-65), 3) := by decide +kernel
theorem dX9_tries_177 : decode cX9_tries 177 = .ok (.iload_n 3, 1) := by decide +kernel
theorem dX9_tries_178 : decode cX9_tries 178 = .ok (.ifCond .eq 16, 3) := by decide +kernel
theorem dX9_tries_181 : decode cX9_tries 181 = .ok (.aload_n 0, 1) := by decide +kernel
theorem dX9_tries_182 : decode cX9_tries 182 = .ok (.bipush 72, 2) := by decide +kernel
theorem dX9_tries_184 : decode cX9_tries 184 = .ok (.aload_n 0, 1) := by decide +kernel
theorem dX9_tries_185 : decode cX9_tries 185 = .ok (.getfield 316, 3) := by decide +kernel
theorem dX9_tries_188 : decode cX9_tries 188 = .ok (.invokevirtual 289, 3) := by decide +kernel
theorem dX9_tries_191 : decode cX9_tries 191 = .ok (.goto 4, 3) := by decide +kernel
theorem dX9_tries_194 : decode cX9_tries 194 = .ok (.iconst (-1), 1) := by decide +kernel
theorem dX9_tries_195 : decode cX9_tries 195 = .ok (.ireturn, 1) := by decide +kernel
theorem dX9_plainest_0 : decode cX9_plainest 0 = .ok (.aload_n 0, 1) := by decide +kernel
theorem dX9_plainest_1 : decode cX9_plainest 1 = .ok (.iconst 0, 1) := by decide +kernel
theorem dX9_plainest_2 : decode cX9_plainest 2 = .ok (.putfield 59, 3) := by decide +kernel
theorem dX9_plainest_5 : decode cX9_plainest 5 = .ok (.aload_n 0, 1) := by decide +kernel
theorem dX9_plainest_6 : decode cX9_plainest 6 = .ok (.aload_n 0, 1) := by decide +kernel
theorem dX9_plainest_7 : decode cX9_plainest 7 = .ok (.getfield 219, 3) := by decide +kernel
theorem dX9_plainest_10 : decode cX9_plainest 10 = .ok (.ifCond .ne 7, 3) := by decide +kernel
theorem dX9_plainest_13 : decode cX9_plainest 13 = .ok (.iconst 1, 1) := by decide +kernel
theorem dX9_plainest_14 : decode cX9_plainest 14 = .ok (.goto 4, 3) := by decide +kernel
theorem dX9_plainest_17 : decode cX9_plainest 17 = .ok (.iconst 0, 1) := by decide +kernel
theorem dX9_plainest_18 : decode cX9_plainest 18 = .ok (.iconst 1, 1) := by decide +kernel
theorem dX9_plainest_19 : decode cX9_plainest 19 = .ok (.invokevirtual 209, 3) := by decide +kernel
theorem dX9_plainest_22 : decode cX9_plainest 22 = .ok (.ifCond .eq 5, 3) := by decide +kernel
theorem dX9_plainest_25 : decode cX9_plainest 25 = .ok (.iconst 0, 1) := by decide +kernel
theorem dX9_plainest_26 : decode cX9_plainest 26 = .ok (.ireturn, 1) := by decide +kernel
theorem dX9_plainest_27 : decode cX9_plainest 27 = .ok (.aload_n 0, 1) := by decide +kernel
theorem dX9_plainest_28 : decode cX9_plainest 28 = .ok (.iconst 0, 1) := by decide +kernel
theorem dX9_plainest_29 : decode cX9_plainest 29 = .ok (.putfield 232, 3) := by decide +kernel
theorem dX9_plainest_32 : decode cX9_plainest 32 = .ok (.iconst 0, 1) := by decide +kernel
theorem dX9_plainest_33 : decode cX9_plainest 33 = .ok (.istore_n 1, 1) := by decide +kernel
theorem dX9_plainest_34 : decode cX9_plainest 34 = .ok (.iload_n 1, 1) := by decide +kernel
theorem dX9_plainest_35 : decode cX9_plainest 35 = .ok (.iconst 0, 1) := by decide +kernel
theorem dX9_plainest_36 : decode cX9_plainest 36 = .ok (.aload_n 0, 1) := by decide +kernel
theorem dX9_plainest_37 : decode cX9_plainest 37 = .ok (.getfield 216, 3) := by decide +kernel
theorem dX9_plainest_40 : decode cX9_plainest 40 = .ok (.iadd, 1) := by decide +kernel
theorem dX9_plainest_41 : decode cX9_plainest 41 = .ok (.if_icmp .ge 132, 3) := by decide +kernel
theorem dX9_plainest_44 : decode cX9_plainest 44 = .ok (.iconst (-1), 1) := by decide +kernel
theorem dX9_plainest_45 : decode cX9_plainest 45 = .ok (.istore_n 2, 1) := by decide +kernel
theorem dX9_plainest_46 : decode cX9_plainest 46 = .ok (.iconst 0, 1) := by decide +kernel
theorem dX9_plainest_47 : decode cX9_plainest 47 = .ok (.istore_n 3, 1) := by decide +kernel
theorem dX9_plainest_48 : decode cX9_plainest 48 = .ok (.iconst 0, 1) := by decide +kernel
theorem dX9_plainest_49 : decode cX9_plainest 49 = .ok (.istore 4, 2) := by decide +kernel
theorem dX9_plainest_51 : decode cX9_plainest 51 = .ok (.iload 4, 2) := by decide +kernel
theorem dX9_plainest_53 : decode cX9_plainest 53 = .ok (.bipush 8, 2) := by decide +kernel
theorem dX9_plainest_55 : decode cX9_plainest 55 = .ok (.if_icmp .ge 54, 3) := by decide +kernel
theorem dX9_plainest_58 : decode cX9_plainest 58 = .ok (.aload_n 0, 1) := by decide +kernel
theorem dX9_plainest_59 : decode cX9_plainest 59 = .ok (.iload_n 1, 1) := by decide +kernel
theorem dX9_plainest_60 : decode cX9_plainest 60 = .ok (.iload 4, 2) := by decide +kernel
theorem dX9_plainest_62 : decode cX9_plainest 62 = .ok (.invokevirtual 319, 3) := by decide +kernel
theorem dX9_plainest_65 : decode cX9_plainest 65 = .ok (.istore 5, 2) := by decide +kernel
theorem dX9_plainest_67 : decode cX9_plainest 67 = .ok (.iload 5, 2) := by decide +kernel
theorem dX9_plainest_69 : decode cX9_plainest 69 = .ok (.ifCond .lt 34, 3) := by decide +kernel
theorem dX9_plainest_72 : decode cX9_plainest 72 = .ok (.iload_n 2, 1) := by decide +kernel
theorem dX9_plainest_73 : decode cX9_plainest 73 = .ok (.ifCond .lt 24, 3) := by decide +kernel
theorem dX9_plainest_76 : decode cX9_plainest 76 = .ok (.iload 5, 2) := by decide +kernel
theorem dX9_plainest_78 : decode cX9_plainest 78 = .ok (.iload_n 3, 1) := by decide +kernel
theorem dX9_plainest_79 : decode cX9_plainest 79 = .ok (.if_icmp .lt 18, 3) := by decide +kernel
theorem dX9_plainest_82 : decode cX9_plainest 82 = .ok (.iload 5, 2) := by decide +kernel
theorem dX9_plainest_84 : decode cX9_plainest 84 = .ok (.iload_n 3, 1) := by decide +kernel
theorem dX9_plainest_85 : decode cX9_plainest 85 = .ok (.if_icmp .ne 18, 3) := by decide +kernel
theorem dX9_plainest_88 : decode cX9_plainest 88 = .ok (.iload 4, 2) := by decide +kernel
theorem dX9_plainest_90 : decode cX9_plainest 90 = .ok (.iload_n 2, 1) := by decide +kernel
theorem dX9_plainest_91 : decode cX9_plainest 91 = .ok (.invokestatic 322, 3) := by decide +kernel
theorem dX9_plainest_94 : decode cX9_plainest 94 = .ok (.ifCond .eq 9, 3) := by decide +kernel
theorem dX9_plainest_97 : decode cX9_plainest 97 = .ok (.iload 4, 2) := by decide +kernel
theorem dX9_plainest_99 : decode cX9_plainest 99 = .ok (.istore_n 2, 1) := by decide +kernel
theorem dX9_plainest_100 : decode cX9_plainest 100 = .ok (.iload 5, 2) := by decide +kernel
theorem dX9_plainest_102 : decode cX9_plainest 102 = .ok (.istore_n 3, 1) := by decide +kernel
theorem dX9_plainest_103 : decode cX9_plainest 103 = .ok (.iinc 4 1, 3) := by decide +kernel
theorem dX9_plainest_106 : decode cX9_plainest 106 = .ok (.goto (-55), 3) := by decide +kernel
theorem dX9_plainest_109 : decode cX9_plainest 109 = .ok (.aload_n 0, 1) := by decide +kernel
theorem dX9_plainest_110 : decode cX9_plainest 110 = .ok (.iload_n 1, 1) := by decide +kernel
theorem dX9_plainest_111 : decode cX9_plainest 111 = .ok (.iload_n 2, 1) := by decide +kernel
theorem dX9_plainest_112 : decode cX9_plainest 112 = .ok (.invokevirtual 319, 3) := by decide +kernel
theorem dX9_plainest_115 : decode cX9_plainest 115 = .ok (.istore 4, 2) := by decide +kernel
theorem dX9_plainest_117 : decode cX9_plainest 117 = .ok (.iconst 0, 1) := by decide +kernel
theorem dX9_plainest_118 : decode cX9_plainest 118 = .ok (.istore 5, 2) := by decide +kernel
theorem dX9_plainest_120 : decode cX9_plainest 120 = .ok (.iload 5, 2) := by decide +kernel
theorem dX9_plainest_122 : decode cX9_plainest 122 = .ok (.aload_n 0, 1) := by decide +kernel
theorem dX9_plainest_123 : decode cX9_plainest 123 = .ok (.getfield 316, 3) := by decide +kernel
theorem dX9_plainest_126 : decode cX9_plainest 126 = .ok (.if_icmp .ge 28, 3) := by decide +kernel
theorem dX9_plainest_129 : decode cX9_plainest 129 = .ok (.aload_n 0, 1) := by decide +kernel
theorem dX9_plainest_130 : decode cX9_plainest 130 = .ok (.bipush 72, 2) := by decide +kernel
theorem dX9_plainest_132 : decode cX9_plainest 132 = .ok (.iload 5, 2) := by decide +kernel
theorem dX9_plainest_134 : decode cX9_plainest 134 = .ok (.iadd, 1) := by decide +kernel
theorem dX9_plainest_135 : decode cX9_plainest 135 = .ok (.bipush 24, 2) := by decide +kernel
theorem dX9_plainest_137 : decode cX9_plainest 137 = .ok (.aload_n 0, 1) := by decide +kernel
theorem dX9_plainest_138 : decode cX9_plainest 138 = .ok (.getfield 232, 3) := by decide +kernel
theorem dX9_plainest_141 : decode cX9_plainest 141 = .ok (.iadd, 1) := by decide +kernel
theorem dX9_plainest_142 : decode cX9_plainest 142 = .ok (.iload 5, 2) := by decide +kernel
theorem dX9_plainest_144 : decode cX9_plainest 144 = .ok (.iadd, 1) := by decide +kernel
theorem dX9_plainest_145 : decode cX9_plainest 145 = .ok (.invokevirtual 213, 3) := by decide +kernel
theorem dX9_plainest_148 : decode cX9_plainest 148 = .ok (.iinc 5 1, 3) := by decide +kernel
theorem dX9_plainest_151 : decode cX9_plainest 151 = .ok (.goto (-31), 3) := by decide +kernel
theorem dX9_plainest_154 : decode cX9_plainest 154 = .ok (.aload_n 0, 1) := by decide +kernel
theorem dX9_plainest_155 : decode cX9_plainest 155 = .ok (.dup, 1) := by decide +kernel
theorem dX9_plainest_156 : decode cX9_plainest 156 = .ok (.getfield 232, 3) := by decide +kernel
theorem dX9_plainest_159 : decode cX9_plainest 159 = .ok (.aload_n 0, 1) := by decide +kernel
theorem dX9_plainest_160 : decode cX9_plainest 160 = .ok (.getfield 316, 3) := by decide +kernel
theorem dX9_plainest_163 : decode cX9_plainest 163 = .ok (.iadd, 1) := by decide +kernel
theorem dX9_plainest_164 : decode cX9_plainest 164 = .ok (.putfield 232, 3) := by decide +kernel
theorem dX9_plainest_167 : decode cX9_plainest 167 = .ok (.iinc 1 1, 3) := by decide +kernel
theorem dX9_plainest_170 : decode cX9_plainest 170 = .ok (.goto (-136), 3) := by decide +kernel
theorem dX9_plainest_173 : decode cX9_plainest 173 = .ok (.aload_n 0, 1) := by decide +kernel
theorem dX9_plainest_174 : decode cX9_plainest 174 = .ok (.bipush 24, 2) := by decide +kernel
theorem dX9_plainest_176 : decode cX9_plainest 176 = .ok (.aload_n 0, 1) := by decide +kernel
theorem dX9_plainest_177 : decode cX9_plainest 177 = .ok (.getfield 232, 3) := by decide +kernel
theorem dX9_plainest_180 : decode cX9_plainest 180 = .ok (.invokevirtual 289, 3) := by decide +kernel
theorem dX9_plainest_183 : decode cX9_plainest 183 = .ok (.ireturn, 1) := by decide +kernel
theorem dX9_isFewer_0 : decode cX9_isFewer 0 = .ok (.iload_n 0, 1) := by decide +kernel
theorem dX9_isFewer_1 : decode cX9_isFewer 1 = .ok (.invokestatic 325, 3) := by decide +kernel
theorem dX9_isFewer_4 : decode cX9_isFewer 4 = .ok (.iload_n 1, 1) := by decide +kernel
theorem dX9_isFewer_5 : decode cX9_isFewer 5 = .ok (.invokestatic 325, 3) := by decide +kernel
theorem dX9_isFewer_8 : decode cX9_isFewer 8 = .ok (.isub, 1) := by decide +kernel
theorem dX9_isFewer_9 : decode cX9_isFewer 9 = .ok (.istore_n 2, 1) := by decide +kernel
theorem dX9_isFewer_10 : decode cX9_isFewer 10 = .ok (.iload_n 2, 1) := by decide +kernel
theorem dX9_isFewer_11 : decode cX9_isFewer 11 = .ok (.ifCond .eq 13, 3) := by decide +kernel
theorem dX9_isFewer_14 : decode cX9_isFewer 14 = .ok (.iload_n 2, 1) := by decide +kernel
theorem dX9_isFewer_15 : decode cX9_isFewer 15 = .ok (.ifCond .ge 7, 3) := by decide +kernel
theorem dX9_isFewer_18 : decode cX9_isFewer 18 = .ok (.iconst 1, 1) := by decide +kernel
theorem dX9_isFewer_19 : decode cX9_isFewer 19 = .ok (.goto 4, 3) := by decide +kernel
theorem dX9_isFewer_22 : decode cX9_isFewer 22 = .ok (.iconst 0, 1) := by decide +kernel
theorem dX9_isFewer_23 : decode cX9_isFewer 23 = .ok (.ireturn, 1) := by decide +kernel
theorem dX9_isFewer_24 : decode cX9_isFewer 24 = .ok (.iload_n 0, 1) := by decide +kernel
theorem dX9_isFewer_25 : decode cX9_isFewer 25 = .ok (.iconst 1, 1) := by decide +kernel
theorem dX9_isFewer_26 : decode cX9_isFewer 26 = .ok (.iand, 1) := by decide +kernel
theorem dX9_isFewer_27 : decode cX9_isFewer 27 = .ok (.iload_n 1, 1) := by decide +kernel
theorem dX9_isFewer_28 : decode cX9_isFewer 28 = .ok (.iconst 1, 1) := by decide +kernel
theorem dX9_isFewer_29 : decode cX9_isFewer 29 = .ok (.iand, 1) := by decide +kernel
theorem dX9_isFewer_30 : decode cX9_isFewer 30 = .ok (.if_icmp .eq 15, 3) := by decide +kernel
theorem dX9_isFewer_33 : decode cX9_isFewer 33 = .ok (.iload_n 0, 1) := by decide +kernel
theorem dX9_isFewer_34 : decode cX9_isFewer 34 = .ok (.iconst 1, 1) := by decide +kernel
theorem dX9_isFewer_35 : decode cX9_isFewer 35 = .ok (.iand, 1) := by decide +kernel
theorem dX9_isFewer_36 : decode cX9_isFewer 36 = .ok (.ifCond .ne 7, 3) := by decide +kernel
theorem dX9_isFewer_39 : decode cX9_isFewer 39 = .ok (.iconst 1, 1) := by decide +kernel
theorem dX9_isFewer_40 : decode cX9_isFewer 40 = .ok (.goto 4, 3) := by decide +kernel
theorem dX9_isFewer_43 : decode cX9_isFewer 43 = .ok (.iconst 0, 1) := by decide +kernel
theorem dX9_isFewer_44 : decode cX9_isFewer 44 = .ok (.ireturn, 1) := by decide +kernel
theorem dX9_isFewer_45 : decode cX9_isFewer 45 = .ok (.iload_n 0, 1) := by decide +kernel
theorem dX9_isFewer_46 : decode cX9_isFewer 46 = .ok (.iconst 2, 1) := by decide +kernel
theorem dX9_isFewer_47 : decode cX9_isFewer 47 = .ok (.iand, 1) := by decide +kernel
theorem dX9_isFewer_48 : decode cX9_isFewer 48 = .ok (.iload_n 1, 1) := by decide +kernel
theorem dX9_isFewer_49 : decode cX9_isFewer 49 = .ok (.iconst 2, 1) := by decide +kernel
theorem dX9_isFewer_50 : decode cX9_isFewer 50 = .ok (.iand, 1) := by decide +kernel
theorem dX9_isFewer_51 : decode cX9_isFewer 51 = .ok (.if_icmp .ge 7, 3) := by decide +kernel
theorem dX9_isFewer_54 : decode cX9_isFewer 54 = .ok (.iconst 1, 1) := by decide +kernel
theorem dX9_isFewer_55 : decode cX9_isFewer 55 = .ok (.goto 4, 3) := by decide +kernel
theorem dX9_isFewer_58 : decode cX9_isFewer 58 = .ok (.iconst 0, 1) := by decide +kernel
theorem dX9_isFewer_59 : decode cX9_isFewer 59 = .ok (.ireturn, 1) := by decide +kernel
theorem dX9_isSo_0 : decode cX9_isSo 0 = .ok (.aload_n 0, 1) := by decide +kernel
theorem dX9_isSo_1 : decode cX9_isSo 1 = .ok (.getfield 33, 3) := by decide +kernel
theorem dX9_isSo_4 : decode cX9_isSo 4 = .ok (.iload_n 1, 1) := by decide +kernel
theorem dX9_isSo_5 : decode cX9_isSo 5 = .ok (.aload_n 0, 1) := by decide +kernel
theorem dX9_isSo_6 : decode cX9_isSo 6 = .ok (.getfield 65, 3) := by decide +kernel
theorem dX9_isSo_9 : decode cX9_isSo 9 = .ok (.iadd, 1) := by decide +kernel
theorem dX9_isSo_10 : decode cX9_isSo 10 = .ok (.iaload, 1) := by decide +kernel
theorem dX9_isSo_11 : decode cX9_isSo 11 = .ok (.istore_n 3, 1) := by decide +kernel
theorem dX9_isSo_12 : decode cX9_isSo 12 = .ok (.aload_n 0, 1) := by decide +kernel
theorem dX9_isSo_13 : decode cX9_isSo 13 = .ok (.dup, 1) := by decide +kernel
theorem dX9_isSo_14 : decode cX9_isSo 14 = .ok (.getfield 65, 3) := by decide +kernel
theorem dX9_isSo_17 : decode cX9_isSo 17 = .ok (.iconst 1, 1) := by decide +kernel
theorem dX9_isSo_18 : decode cX9_isSo 18 = .ok (.iadd, 1) := by decide +kernel
theorem dX9_isSo_19 : decode cX9_isSo 19 = .ok (.putfield 65, 3) := by decide +kernel
theorem dX9_isSo_22 : decode cX9_isSo 22 = .ok (.iload_n 3, 1) := by decide +kernel
theorem dX9_isSo_23 : decode cX9_isSo 23 = .ok (.bipush 10, 2) := by decide +kernel
theorem dX9_isSo_25 : decode cX9_isSo 25 = .ok (.if_icmp .ge 18, 3) := by decide +kernel
theorem dX9_isSo_28 : decode cX9_isSo 28 = .ok (.iload_n 2, 1) := by decide +kernel
theorem dX9_isSo_29 : decode cX9_isSo 29 = .ok (.iload_n 3, 1) := by decide +kernel
theorem dX9_isSo_30 : decode cX9_isSo 30 = .ok (.ishr, 1) := by decide +kernel
theorem dX9_isSo_31 : decode cX9_isSo 31 = .ok (.iconst 1, 1) := by decide +kernel
theorem dX9_isSo_32 : decode cX9_isSo 32 = .ok (.iand, 1) := by decide +kernel
theorem dX9_isSo_33 : decode cX9_isSo 33 = .ok (.iconst 1, 1) := by decide +kernel
theorem dX9_isSo_34 : decode cX9_isSo 34 = .ok (.if_icmp .ne 7, 3) := by decide +kernel
theorem dX9_isSo_37 : decode cX9_isSo 37 = .ok (.iconst 1, 1) := by decide +kernel
theorem dX9_isSo_38 : decode cX9_isSo 38 = .ok (.goto 4, 3) := by decide +kernel
theorem dX9_isSo_41 : decode cX9_isSo 41 = .ok (.iconst 0, 1) := by decide +kernel
theorem dX9_isSo_42 : decode cX9_isSo 42 = .ok (.ireturn, 1) := by decide +kernel
theorem dX9_isSo_43 : decode cX9_isSo 43 = .ok (.iload_n 3, 1) := by decide +kernel
theorem dX9_isSo_44 : decode cX9_isSo 44 = .ok (.bipush 10, 2) := by decide +kernel
theorem dX9_isSo_46 : decode cX9_isSo 46 = .ok (.if_icmp .ne 18, 3) := by decide +kernel
theorem dX9_isSo_49 : decode cX9_isSo 49 = .ok (.aload_n 0, 1) := by decide +kernel
theorem dX9_isSo_50 : decode cX9_isSo 50 = .ok (.iload_n 1, 1) := by decide +kernel
theorem dX9_isSo_51 : decode cX9_isSo 51 = .ok (.iload_n 2, 1) := by decide +kernel
theorem dX9_isSo_52 : decode cX9_isSo 52 = .ok (.invokevirtual 330, 3) := by decide +kernel
theorem dX9_isSo_55 : decode cX9_isSo 55 = .ok (.ifCond .ne 7, 3) := by decide +kernel
theorem dX9_isSo_58 : decode cX9_isSo 58 = .ok (.iconst 1, 1) := by decide +kernel
theorem dX9_isSo_59 : decode cX9_isSo 59 = .ok (.goto 4, 3) := by decide +kernel
theorem dX9_isSo_62 : decode cX9_isSo 62 = .ok (.iconst 0, 1) := by decide +kernel
theorem dX9_isSo_63 : decode cX9_isSo 63 = .ok (.ireturn, 1) := by decide +kernel
theorem dX9_isSo_64 : decode cX9_isSo 64 = .ok (.iload_n 3, 1) := by decide +kernel
theorem dX9_isSo_65 : decode cX9_isSo 65 = .ok (.sipush 2000, 3) := by decide +kernel
theorem dX9_isSo_68 : decode cX9_isSo 68 = .ok (.if_icmp .lt 11, 3) := by decide +kernel
theorem dX9_isSo_71 : decode cX9_isSo 71 = .ok (.iload_n 3, 1) := by decide +kernel
theorem dX9_isSo_72 : decode cX9_isSo 72 = .ok (.sipush 2000, 3) := by decide +kernel
theorem dX9_isSo_75 : decode cX9_isSo 75 = .ok (.isub, 1) := by decide +kernel
theorem dX9_isSo_76 : decode cX9_isSo 76 = .ok (.goto 8, 3) := by decide +kernel
theorem dX9_isSo_79 : decode cX9_isSo 79 = .ok (.iload_n 3, 1) := by decide +kernel
theorem dX9_isSo_80 : decode cX9_isSo 80 = .ok (.sipush 1000, 3) := by decide +kernel
theorem dX9_isSo_83 : decode cX9_isSo 83 = .ok (.isub, 1) := by decide +kernel
theorem dX9_isSo_84 : decode cX9_isSo 84 = .ok (.istore 4, 2) := by decide +kernel
theorem dX9_isSo_86 : decode cX9_isSo 86 = .ok (.iconst 0, 1) := by decide +kernel
theorem dX9_isSo_87 : decode cX9_isSo 87 = .ok (.istore 5, 2) := by decide +kernel
theorem dX9_isSo_89 : decode cX9_isSo 89 = .ok (.iconst 1, 1) := by decide +kernel
theorem dX9_isSo_90 : decode cX9_isSo 90 = .ok (.istore 6, 2) := by decide +kernel
theorem dX9_isSo_92 : decode cX9_isSo 92 = .ok (.iconst 0, 1) := by decide +kernel
theorem dX9_isSo_93 : decode cX9_isSo 93 = .ok (.istore 7, 2) := by decide +kernel
theorem dX9_isSo_95 : decode cX9_isSo 95 = .ok (.iload 7, 2) := by decide +kernel
theorem dX9_isSo_97 : decode cX9_isSo 97 = .ok (.iload 4, 2) := by decide +kernel
theorem dX9_isSo_99 : decode cX9_isSo 99 = .ok (.if_icmp .ge 51, 3) := by decide +kernel
theorem dX9_isSo_102 : decode cX9_isSo 102 = .ok (.aload_n 0, 1) := by decide +kernel
theorem dX9_isSo_103 : decode cX9_isSo 103 = .ok (.iload_n 1, 1) := by decide +kernel
theorem dX9_isSo_104 : decode cX9_isSo 104 = .ok (.iload_n 2, 1) := by decide +kernel
theorem dX9_isSo_105 : decode cX9_isSo 105 = .ok (.invokevirtual 330, 3) := by decide +kernel
theorem dX9_isSo_108 : decode cX9_isSo 108 = .ok (.istore 8, 2) := by decide +kernel
theorem dX9_isSo_110 : decode cX9_isSo 110 = .ok (.iload 5, 2) := by decide +kernel
theorem dX9_isSo_112 : decode cX9_isSo 112 = .ok (.ifCond .ne 8, 3) := by decide +kernel
theorem dX9_isSo_115 : decode cX9_isSo 115 = .ok (.iload 8, 2) := by decide +kernel
theorem dX9_isSo_117 : decode cX9_isSo 117 = .ok (.ifCond .eq 7, 3) := by decide +kernel
theorem dX9_isSo_120 : decode cX9_isSo 120 = .ok (.iconst 1, 1) := by decide +kernel
theorem dX9_isSo_121 : decode cX9_isSo 121 = .ok (.goto 4, 3) := by decide +kernel
theorem dX9_isSo_124 : decode cX9_isSo 124 = .ok (.iconst 0, 1) := by decide +kernel
theorem dX9_isSo_125 : decode cX9_isSo 125 = .ok (.istore 5, 2) := by decide +kernel
theorem dX9_isSo_127 : decode cX9_isSo 127 = .ok (.iload 6, 2) := by decide +kernel
theorem dX9_isSo_129 : decode cX9_isSo 129 = .ok (.ifCond .eq 12, 3) := by decide +kernel
theorem dX9_isSo_132 : decode cX9_isSo 132 = .ok (.iload 8, 2) := by decide +kernel
theorem dX9_isSo_134 : decode cX9_isSo 134 = .ok (.ifCond .eq 7, 3) := by decide +kernel
theorem dX9_isSo_137 : decode cX9_isSo 137 = .ok (.iconst 1, 1) := by decide +kernel
theorem dX9_isSo_138 : decode cX9_isSo 138 = .ok (.goto 4, 3) := by decide +kernel
theorem dX9_isSo_141 : decode cX9_isSo 141 = .ok (.iconst 0, 1) := by decide +kernel
theorem dX9_isSo_142 : decode cX9_isSo 142 = .ok (.istore 6, 2) := by decide +kernel
theorem dX9_isSo_144 : decode cX9_isSo 144 = .ok (.iinc 7 1, 3) := by decide +kernel
theorem dX9_isSo_147 : decode cX9_isSo 147 = .ok (.goto (-52), 3) := by decide +kernel
theorem dX9_isSo_150 : decode cX9_isSo 150 = .ok (.iload_n 3, 1) := by decide +kernel
theorem dX9_isSo_151 : decode cX9_isSo 151 = .ok (.sipush 2000, 3) := by decide +kernel
theorem dX9_isSo_154 : decode cX9_isSo 154 = .ok (.if_icmp .lt 8, 3) := by decide +kernel
theorem dX9_isSo_157 : decode cX9_isSo 157 = .ok (.iload 5, 2) := by decide +kernel
theorem dX9_isSo_159 : decode cX9_isSo 159 = .ok (.goto 5, 3) := by decide +kernel
theorem dX9_isSo_162 : decode cX9_isSo 162 = .ok (.iload 6, 2) := by decide +kernel
theorem dX9_isSo_164 : decode cX9_isSo 164 = .ok (.ireturn, 1) := by decide +kernel
theorem dX9_counts_0 : decode cX9_counts 0 = .ok (.aload_n 0, 1) := by decide +kernel
theorem dX9_counts_1 : decode cX9_counts 1 = .ok (.iconst 0, 1) := by decide +kernel
theorem dX9_counts_2 : decode cX9_counts 2 = .ok (.putfield 65, 3) := by decide +kernel
theorem dX9_counts_5 : decode cX9_counts 5 = .ok (.aload_n 0, 1) := by decide +kernel
theorem dX9_counts_6 : decode cX9_counts 6 = .ok (.getfield 29, 3) := by decide +kernel
theorem dX9_counts_9 : decode cX9_counts 9 = .ok (.iconst 2, 1) := by decide +kernel
theorem dX9_counts_10 : decode cX9_counts 10 = .ok (.iload_n 1, 1) := by decide +kernel
theorem dX9_counts_11 : decode cX9_counts 11 = .ok (.imul, 1) := by decide +kernel
theorem dX9_counts_12 : decode cX9_counts 12 = .ok (.iaload, 1) := by decide +kernel
theorem dX9_counts_13 : decode cX9_counts 13 = .ok (.ifCond .le 20, 3) := by decide +kernel
theorem dX9_counts_16 : decode cX9_counts 16 = .ok (.aload_n 0, 1) := by decide +kernel
theorem dX9_counts_17 : decode cX9_counts 17 = .ok (.iconst 2, 1) := by decide +kernel
theorem dX9_counts_18 : decode cX9_counts 18 = .ok (.iload_n 1, 1) := by decide +kernel
theorem dX9_counts_19 : decode cX9_counts 19 = .ok (.imul, 1) := by decide +kernel
theorem dX9_counts_20 : decode cX9_counts 20 = .ok (.sipush 420, 3) := by decide +kernel
theorem dX9_counts_23 : decode cX9_counts 23 = .ok (.imul, 1) := by decide +kernel
theorem dX9_counts_24 : decode cX9_counts 24 = .ok (.iload_n 2, 1) := by decide +kernel
theorem dX9_counts_25 : decode cX9_counts 25 = .ok (.invokevirtual 330, 3) := by decide +kernel
theorem dX9_counts_28 : decode cX9_counts 28 = .ok (.ifCond .ne 5, 3) := by decide +kernel
theorem dX9_counts_31 : decode cX9_counts 31 = .ok (.iconst 0, 1) := by decide +kernel
theorem dX9_counts_32 : decode cX9_counts 32 = .ok (.ireturn, 1) := by decide +kernel
theorem dX9_counts_33 : decode cX9_counts 33 = .ok (.aload_n 0, 1) := by decide +kernel
theorem dX9_counts_34 : decode cX9_counts 34 = .ok (.iconst 0, 1) := by decide +kernel
theorem dX9_counts_35 : decode cX9_counts 35 = .ok (.putfield 65, 3) := by decide +kernel
theorem dX9_counts_38 : decode cX9_counts 38 = .ok (.aload_n 0, 1) := by decide +kernel
theorem dX9_counts_39 : decode cX9_counts 39 = .ok (.getfield 29, 3) := by decide +kernel
theorem dX9_counts_42 : decode cX9_counts 42 = .ok (.iconst 2, 1) := by decide +kernel
theorem dX9_counts_43 : decode cX9_counts 43 = .ok (.iload_n 1, 1) := by decide +kernel
theorem dX9_counts_44 : decode cX9_counts 44 = .ok (.imul, 1) := by decide +kernel
theorem dX9_counts_45 : decode cX9_counts 45 = .ok (.iconst 1, 1) := by decide +kernel
theorem dX9_counts_46 : decode cX9_counts 46 = .ok (.iadd, 1) := by decide +kernel
theorem dX9_counts_47 : decode cX9_counts 47 = .ok (.iaload, 1) := by decide +kernel
theorem dX9_counts_48 : decode cX9_counts 48 = .ok (.ifCond .eq 20, 3) := by decide +kernel
theorem dX9_counts_51 : decode cX9_counts 51 = .ok (.aload_n 0, 1) := by decide +kernel
theorem dX9_counts_52 : decode cX9_counts 52 = .ok (.iconst 2, 1) := by decide +kernel
theorem dX9_counts_53 : decode cX9_counts 53 = .ok (.iload_n 1, 1) := by decide +kernel
theorem dX9_counts_54 : decode cX9_counts 54 = .ok (.imul, 1) := by decide +kernel
theorem dX9_counts_55 : decode cX9_counts 55 = .ok (.iconst 1, 1) := by decide +kernel
theorem dX9_counts_56 : decode cX9_counts 56 = .ok (.iadd, 1) := by decide +kernel
theorem dX9_counts_57 : decode cX9_counts 57 = .ok (.sipush 420, 3) := by decide +kernel
theorem dX9_counts_60 : decode cX9_counts 60 = .ok (.imul, 1) := by decide +kernel
theorem dX9_counts_61 : decode cX9_counts 61 = .ok (.iload_n 2, 1) := by decide +kernel
theorem dX9_counts_62 : decode cX9_counts 62 = .ok (.invokevirtual 330, 3) := by decide +kernel
theorem dX9_counts_65 : decode cX9_counts 65 = .ok (.ifCond .ne 7, 3) := by decide +kernel
theorem dX9_counts_68 : decode cX9_counts 68 = .ok (.iconst 1, 1) := by decide +kernel
theorem dX9_counts_69 : decode cX9_counts 69 = .ok (.goto 4, 3) := by decide +kernel
theorem dX9_counts_72 : decode cX9_counts 72 = .ok (.iconst 0, 1) := by decide +kernel
theorem dX9_counts_73 : decode cX9_counts 73 = .ok (.ireturn, 1) := by decide +kernel
theorem dX9_hasAct_0 : decode cX9_hasAct 0 = .ok (.iconst 0, 1) := by decide +kernel
theorem dX9_hasAct_1 : decode cX9_hasAct 1 = .ok (.istore_n 3, 1) := by decide +kernel
theorem dX9_hasAct_2 : decode cX9_hasAct 2 = .ok (.iconst 0, 1) := by decide +kernel
theorem dX9_hasAct_3 : decode cX9_hasAct 3 = .ok (.istore 4, 2) := by decide +kernel
theorem dX9_hasAct_5 : decode cX9_hasAct 5 = .ok (.iload 4, 2) := by decide +kernel
theorem dX9_hasAct_7 : decode cX9_hasAct 7 = .ok (.aload_n 0, 1) := by decide +kernel
theorem dX9_hasAct_8 : decode cX9_hasAct 8 = .ok (.getfield 9, 3) := by decide +kernel
theorem dX9_hasAct_11 : decode cX9_hasAct 11 = .ok (.iload_n 1, 1) := by decide +kernel
theorem dX9_hasAct_12 : decode cX9_hasAct 12 = .ok (.iaload, 1) := by decide +kernel
theorem dX9_hasAct_13 : decode cX9_hasAct 13 = .ok (.if_icmp .ge 34, 3) := by decide +kernel
theorem dX9_hasAct_16 : decode cX9_hasAct 16 = .ok (.iload_n 3, 1) := by decide +kernel
theorem dX9_hasAct_17 : decode cX9_hasAct 17 = .ok (.ifCond .ne 18, 3) := by decide +kernel
theorem dX9_hasAct_20 : decode cX9_hasAct 20 = .ok (.aload_n 0, 1) := by decide +kernel
theorem dX9_hasAct_21 : decode cX9_hasAct 21 = .ok (.getfield 13, 3) := by decide +kernel
theorem dX9_hasAct_24 : decode cX9_hasAct 24 = .ok (.iconst 3, 1) := by decide +kernel
theorem dX9_hasAct_25 : decode cX9_hasAct 25 = .ok (.iload_n 1, 1) := by decide +kernel
theorem dX9_hasAct_26 : decode cX9_hasAct 26 = .ok (.imul, 1) := by decide +kernel
theorem dX9_hasAct_27 : decode cX9_hasAct 27 = .ok (.iload 4, 2) := by decide +kernel
theorem dX9_hasAct_29 : decode cX9_hasAct 29 = .ok (.iadd, 1) := by decide +kernel
theorem dX9_hasAct_30 : decode cX9_hasAct 30 = .ok (.iaload, 1) := by decide +kernel
theorem dX9_hasAct_31 : decode cX9_hasAct 31 = .ok (.iload_n 2, 1) := by decide +kernel
theorem dX9_hasAct_32 : decode cX9_hasAct 32 = .ok (.if_icmp .ne 7, 3) := by decide +kernel
theorem dX9_hasAct_35 : decode cX9_hasAct 35 = .ok (.iconst 1, 1) := by decide +kernel
theorem dX9_hasAct_36 : decode cX9_hasAct 36 = .ok (.goto 4, 3) := by decide +kernel
theorem dX9_hasAct_39 : decode cX9_hasAct 39 = .ok (.iconst 0, 1) := by decide +kernel
theorem dX9_hasAct_40 : decode cX9_hasAct 40 = .ok (.istore_n 3, 1) := by decide +kernel
theorem dX9_hasAct_41 : decode cX9_hasAct 41 = .ok (.iinc 4 1, 3) := by decide +kernel
theorem dX9_hasAct_44 : decode cX9_hasAct 44 = .ok (.goto (-39), 3) := by decide +kernel
theorem dX9_hasAct_47 : decode cX9_hasAct 47 = .ok (.iload_n 3, 1) := by decide +kernel
theorem dX9_hasAct_48 : decode cX9_hasAct 48 = .ok (.ireturn, 1) := by decide +kernel
theorem dX9_asks_0 : decode cX9_asks 0 = .ok (.iload_n 1, 1) := by decide +kernel
theorem dX9_asks_1 : decode cX9_asks 1 = .ok (.istore 8, 2) := by decide +kernel
theorem dX9_asks_3 : decode cX9_asks 3 = .ok (.iload 8, 2) := by decide +kernel
theorem dX9_asks_5 : decode cX9_asks 5 = .ok (.iload_n 1, 1) := by decide +kernel
theorem dX9_asks_6 : decode cX9_asks 6 = .ok (.iload_n 2, 1) := by decide +kernel
theorem dX9_asks_7 : decode cX9_asks 7 = .ok (.iadd, 1) := by decide +kernel
theorem dX9_asks_8 : decode cX9_asks 8 = .ok (.if_icmp .ge 68, 3) := by decide +kernel
theorem dX9_asks_11 : decode cX9_asks 11 = .ok (.aload_n 0, 1) := by decide +kernel
theorem dX9_asks_12 : decode cX9_asks 12 = .ok (.getfield 16, 3) := by decide +kernel
theorem dX9_asks_15 : decode cX9_asks 15 = .ok (.iload 8, 2) := by decide +kernel
theorem dX9_asks_17 : decode cX9_asks 17 = .ok (.iaload, 1) := by decide +kernel
theorem dX9_asks_18 : decode cX9_asks 18 = .ok (.iload 4, 2) := by decide +kernel
theorem dX9_asks_20 : decode cX9_asks 20 = .ok (.if_icmp .ne 50, 3) := by decide +kernel
theorem dX9_asks_23 : decode cX9_asks 23 = .ok (.aload_n 0, 1) := by decide +kernel
theorem dX9_asks_24 : decode cX9_asks 24 = .ok (.getfield 19, 3) := by decide +kernel
theorem dX9_asks_27 : decode cX9_asks 27 = .ok (.iload 8, 2) := by decide +kernel
theorem dX9_asks_29 : decode cX9_asks 29 = .ok (.iaload, 1) := by decide +kernel
theorem dX9_asks_30 : decode cX9_asks 30 = .ok (.iload 5, 2) := by decide +kernel
theorem dX9_asks_32 : decode cX9_asks 32 = .ok (.if_icmp .ne 38, 3) := by decide +kernel
theorem dX9_asks_35 : decode cX9_asks 35 = .ok (.aload_n 0, 1) := by decide +kernel
theorem dX9_asks_36 : decode cX9_asks 36 = .ok (.getfield 22, 3) := by decide +kernel
theorem dX9_asks_39 : decode cX9_asks 39 = .ok (.iload 8, 2) := by decide +kernel
theorem dX9_asks_41 : decode cX9_asks 41 = .ok (.iaload, 1) := by decide +kernel
theorem dX9_asks_42 : decode cX9_asks 42 = .ok (.iload 6, 2) := by decide +kernel
theorem dX9_asks_44 : decode cX9_asks 44 = .ok (.if_icmp .ne 26, 3) := by decide +kernel
theorem dX9_asks_47 : decode cX9_asks 47 = .ok (.aload_n 0, 1) := by decide +kernel
theorem dX9_asks_48 : decode cX9_asks 48 = .ok (.iload 8, 2) := by decide +kernel
theorem dX9_asks_50 : decode cX9_asks 50 = .ok (.iload 7, 2) := by decide +kernel
theorem dX9_asks_52 : decode cX9_asks 52 = .ok (.invokevirtual 333, 3) := by decide +kernel
theorem dX9_asks_55 : decode cX9_asks 55 = .ok (.ifCond .eq 15, 3) := by decide +kernel
theorem dX9_asks_58 : decode cX9_asks 58 = .ok (.aload_n 0, 1) := by decide +kernel
theorem dX9_asks_59 : decode cX9_asks 59 = .ok (.iload 8, 2) := by decide +kernel
theorem dX9_asks_61 : decode cX9_asks 61 = .ok (.iload_n 3, 1) := by decide +kernel
theorem dX9_asks_62 : decode cX9_asks 62 = .ok (.invokevirtual 336, 3) := by decide +kernel
theorem dX9_asks_65 : decode cX9_asks 65 = .ok (.ifCond .eq 5, 3) := by decide +kernel
theorem dX9_asks_68 : decode cX9_asks 68 = .ok (.iconst 1, 1) := by decide +kernel
theorem dX9_asks_69 : decode cX9_asks 69 = .ok (.ireturn, 1) := by decide +kernel
theorem dX9_asks_70 : decode cX9_asks 70 = .ok (.iinc 8 1, 3) := by decide +kernel
theorem dX9_asks_73 : decode cX9_asks 73 = .ok (.goto (-70), 3) := by decide +kernel
theorem dX9_asks_76 : decode cX9_asks 76 = .ok (.iconst 0, 1) := by decide +kernel
theorem dX9_asks_77 : decode cX9_asks 77 = .ok (.ireturn, 1) := by decide +kernel
theorem dX9_isWithin_0 : decode cX9_isWithin 0 = .ok (.iconst 0, 1) := by decide +kernel
theorem dX9_isWithin_1 : decode cX9_isWithin 1 = .ok (.istore 5, 2) := by decide +kernel
theorem dX9_isWithin_3 : decode cX9_isWithin 3 = .ok (.iload 5, 2) := by decide +kernel
theorem dX9_isWithin_5 : decode cX9_isWithin 5 = .ok (.bipush 64, 2) := by decide +kernel
theorem dX9_isWithin_7 : decode cX9_isWithin 7 = .ok (.if_icmp .ge 108, 3) := by decide +kernel
theorem dX9_isWithin_10 : decode cX9_isWithin 10 = .ok (.iload_n 1, 1) := by decide +kernel
theorem dX9_isWithin_11 : decode cX9_isWithin 11 = .ok (.istore 6, 2) := by decide +kernel
theorem dX9_isWithin_13 : decode cX9_isWithin 13 = .ok (.iload 6, 2) := by decide +kernel
theorem dX9_isWithin_15 : decode cX9_isWithin 15 = .ok (.iload_n 1, 1) := by decide +kernel
theorem dX9_isWithin_16 : decode cX9_isWithin 16 = .ok (.iload_n 2, 1) := by decide +kernel
theorem dX9_isWithin_17 : decode cX9_isWithin 17 = .ok (.iadd, 1) := by decide +kernel
theorem dX9_isWithin_18 : decode cX9_isWithin 18 = .ok (.if_icmp .ge 91, 3) := by decide +kernel
theorem dX9_isWithin_21 : decode cX9_isWithin 21 = .ok (.aload_n 0, 1) := by decide +kernel
theorem dX9_isWithin_22 : decode cX9_isWithin 22 = .ok (.iload 6, 2) := by decide +kernel
theorem dX9_isWithin_24 : decode cX9_isWithin 24 = .ok (.iload 5, 2) := by decide +kernel
theorem dX9_isWithin_26 : decode cX9_isWithin 26 = .ok (.invokevirtual 336, 3) := by decide +kernel
theorem dX9_isWithin_29 : decode cX9_isWithin 29 = .ok (.ifCond .ne 6, 3) := by decide +kernel
theorem dX9_isWithin_32 : decode cX9_isWithin 32 = .ok (.goto 71, 3) := by decide +kernel
theorem dX9_isWithin_35 : decode cX9_isWithin 35 = .ok (.iconst 0, 1) := by decide +kernel
theorem dX9_isWithin_36 : decode cX9_isWithin 36 = .ok (.istore 7, 2) := by decide +kernel
theorem dX9_isWithin_38 : decode cX9_isWithin 38 = .ok (.iload 7, 2) := by decide +kernel
theorem dX9_isWithin_40 : decode cX9_isWithin 40 = .ok (.aload_n 0, 1) := by decide +kernel
theorem dX9_isWithin_41 : decode cX9_isWithin 41 = .ok (.getfield 9, 3) := by decide +kernel
theorem dX9_isWithin_44 : decode cX9_isWithin 44 = .ok (.iload 6, 2) := by decide +kernel
theorem dX9_isWithin_46 : decode cX9_isWithin 46 = .ok (.iaload, 1) := by decide +kernel
theorem dX9_isWithin_47 : decode cX9_isWithin 47 = .ok (.if_icmp .ge 56, 3) := by decide +kernel
theorem dX9_isWithin_50 : decode cX9_isWithin 50 = .ok (.aload_n 0, 1) := by decide +kernel
theorem dX9_isWithin_51 : decode cX9_isWithin 51 = .ok (.iload_n 3, 1) := by decide +kernel
theorem dX9_isWithin_52 : decode cX9_isWithin 52 = .ok (.iload 4, 2) := by decide +kernel
theorem dX9_isWithin_54 : decode cX9_isWithin 54 = .ok (.iload 5, 2) := by decide +kernel
theorem dX9_isWithin_56 : decode cX9_isWithin 56 = .ok (.aload_n 0, 1) := by decide +kernel
theorem dX9_isWithin_57 : decode cX9_isWithin 57 = .ok (.getfield 16, 3) := by decide +kernel
theorem dX9_isWithin_60 : decode cX9_isWithin 60 = .ok (.iload 6, 2) := by decide +kernel
theorem dX9_isWithin_62 : decode cX9_isWithin 62 = .ok (.iaload, 1) := by decide +kernel
theorem dX9_isWithin_63 : decode cX9_isWithin 63 = .ok (.aload_n 0, 1) := by decide +kernel
theorem dX9_isWithin_64 : decode cX9_isWithin 64 = .ok (.getfield 19, 3) := by decide +kernel
theorem dX9_isWithin_67 : decode cX9_isWithin 67 = .ok (.iload 6, 2) := by decide +kernel
theorem dX9_isWithin_69 : decode cX9_isWithin 69 = .ok (.iaload, 1) := by decide +kernel
theorem dX9_isWithin_70 : decode cX9_isWithin 70 = .ok (.aload_n 0, 1) := by decide +kernel
theorem dX9_isWithin_71 : decode cX9_isWithin 71 = .ok (.getfield 22, 3) := by decide +kernel
theorem dX9_isWithin_74 : decode cX9_isWithin 74 = .ok (.iload 6, 2) := by decide +kernel
theorem dX9_isWithin_76 : decode cX9_isWithin 76 = .ok (.iaload, 1) := by decide +kernel
theorem dX9_isWithin_77 : decode cX9_isWithin 77 = .ok (.aload_n 0, 1) := by decide +kernel
theorem dX9_isWithin_78 : decode cX9_isWithin 78 = .ok (.getfield 13, 3) := by decide +kernel
theorem dX9_isWithin_81 : decode cX9_isWithin 81 = .ok (.iconst 3, 1) := by decide +kernel
theorem dX9_isWithin_82 : decode cX9_isWithin 82 = .ok (.iload 6, 2) := by decide +kernel
theorem dX9_isWithin_84 : decode cX9_isWithin 84 = .ok (.imul, 1) := by decide +kernel
theorem dX9_isWithin_85 : decode cX9_isWithin 85 = .ok (.iload 7, 2) := by decide +kernel
theorem dX9_isWithin_87 : decode cX9_isWithin 87 = .ok (.iadd, 1) := by decide +kernel
theorem dX9_isWithin_88 : decode cX9_isWithin 88 = .ok (.iaload, 1) := by decide +kernel
theorem dX9_isWithin_89 : decode cX9_isWithin 89 = .ok (.invokevirtual 339, 3) := by decide +kernel
theorem dX9_isWithin_92 : decode cX9_isWithin 92 = .ok (.ifCond .ne 5, 3) := by decide +kernel
theorem dX9_isWithin_95 : decode cX9_isWithin 95 = .ok (.iconst 0, 1) := by decide +kernel
theorem dX9_isWithin_96 : decode cX9_isWithin 96 = .ok (.ireturn, 1) := by decide +kernel
theorem dX9_isWithin_97 : decode cX9_isWithin 97 = .ok (.iinc 7 1, 3) := by decide +kernel
theorem dX9_isWithin_100 : decode cX9_isWithin 100 = .ok (.goto (-62), 3) := by decide +kernel
theorem dX9_isWithin_103 : decode cX9_isWithin 103 = .ok (.iinc 6 1, 3) := by decide +kernel
theorem dX9_isWithin_106 : decode cX9_isWithin 106 = .ok (.goto (-93), 3) := by decide +kernel
theorem dX9_isWithin_109 : decode cX9_isWithin 109 = .ok (.iinc 5 1, 3) := by decide +kernel
theorem dX9_isWithin_112 : decode cX9_isWithin 112 = .ok (.goto (-109), 3) := by decide +kernel
theorem dX9_isWithin_115 : decode cX9_isWithin 115 = .ok (.iconst 1, 1) := by decide +kernel
theorem dX9_isWithin_116 : decode cX9_isWithin 116 = .ok (.ireturn, 1) := by decide +kernel
theorem dX9_same_0 : decode cX9_same 0 = .ok (.aload_n 0, 1) := by decide +kernel
theorem dX9_same_1 : decode cX9_same 1 = .ok (.iconst 0, 1) := by decide +kernel
theorem dX9_same_2 : decode cX9_same 2 = .ok (.putfield 59, 3) := by decide +kernel
theorem dX9_same_5 : decode cX9_same 5 = .ok (.aload_n 0, 1) := by decide +kernel
theorem dX9_same_6 : decode cX9_same 6 = .ok (.aload_n 0, 1) := by decide +kernel
theorem dX9_same_7 : decode cX9_same 7 = .ok (.getfield 219, 3) := by decide +kernel
theorem dX9_same_10 : decode cX9_same 10 = .ok (.ifCond .ne 7, 3) := by decide +kernel
theorem dX9_same_13 : decode cX9_same 13 = .ok (.iconst 1, 1) := by decide +kernel
theorem dX9_same_14 : decode cX9_same 14 = .ok (.goto 4, 3) := by decide +kernel
theorem dX9_same_17 : decode cX9_same 17 = .ok (.iconst 0, 1) := by decide +kernel
theorem dX9_same_18 : decode cX9_same 18 = .ok (.iconst 1, 1) := by decide +kernel
theorem dX9_same_19 : decode cX9_same 19 = .ok (.invokevirtual 209, 3) := by decide +kernel
theorem dX9_same_22 : decode cX9_same 22 = .ok (.ifCond .eq 5, 3) := by decide +kernel
theorem dX9_same_25 : decode cX9_same 25 = .ok (.iconst 0, 1) := by decide +kernel
theorem dX9_same_26 : decode cX9_same 26 = .ok (.ireturn, 1) := by decide +kernel
theorem dX9_same_27 : decode cX9_same 27 = .ok (.aload_n 0, 1) := by decide +kernel
theorem dX9_same_28 : decode cX9_same 28 = .ok (.iconst 0, 1) := by decide +kernel
theorem dX9_same_29 : decode cX9_same 29 = .ok (.aload_n 0, 1) := by decide +kernel
theorem dX9_same_30 : decode cX9_same 30 = .ok (.getfield 216, 3) := by decide +kernel
theorem dX9_same_33 : decode cX9_same 33 = .ok (.bipush 24, 2) := by decide +kernel
theorem dX9_same_35 : decode cX9_same 35 = .ok (.aload_n 0, 1) := by decide +kernel
theorem dX9_same_36 : decode cX9_same 36 = .ok (.getfield 232, 3) := by decide +kernel
theorem dX9_same_39 : decode cX9_same 39 = .ok (.invokevirtual 343, 3) := by decide +kernel
theorem dX9_same_42 : decode cX9_same 42 = .ok (.ifCond .eq 25, 3) := by decide +kernel
theorem dX9_same_45 : decode cX9_same 45 = .ok (.aload_n 0, 1) := by decide +kernel
theorem dX9_same_46 : decode cX9_same 46 = .ok (.bipush 24, 2) := by decide +kernel
theorem dX9_same_48 : decode cX9_same 48 = .ok (.aload_n 0, 1) := by decide +kernel
theorem dX9_same_49 : decode cX9_same 49 = .ok (.getfield 232, 3) := by decide +kernel
theorem dX9_same_52 : decode cX9_same 52 = .ok (.iconst 0, 1) := by decide +kernel
theorem dX9_same_53 : decode cX9_same 53 = .ok (.aload_n 0, 1) := by decide +kernel
theorem dX9_same_54 : decode cX9_same 54 = .ok (.getfield 216, 3) := by decide +kernel
theorem dX9_same_57 : decode cX9_same 57 = .ok (.invokevirtual 343, 3) := by decide +kernel
theorem dX9_same_60 : decode cX9_same 60 = .ok (.ifCond .eq 7, 3) := by decide +kernel
theorem dX9_same_63 : decode cX9_same 63 = .ok (.iconst 1, 1) := by decide +kernel
theorem dX9_same_64 : decode cX9_same 64 = .ok (.goto 4, 3) := by decide +kernel
theorem dX9_same_67 : decode cX9_same 67 = .ok (.iconst 0, 1) := by decide +kernel
theorem dX9_same_68 : decode cX9_same 68 = .ok (.ireturn, 1) := by decide +kernel
theorem dX9_ask_0 : decode cX9_ask 0 = .ok (.aload_n 0, 1) := by decide +kernel
theorem dX9_ask_1 : decode cX9_ask 1 = .ok (.iconst 0, 1) := by decide +kernel
theorem dX9_ask_2 : decode cX9_ask 2 = .ok (.putfield 59, 3) := by decide +kernel
theorem dX9_ask_5 : decode cX9_ask 5 = .ok (.aload_n 0, 1) := by decide +kernel
theorem dX9_ask_6 : decode cX9_ask 6 = .ok (.aload_n 0, 1) := by decide +kernel
theorem dX9_ask_7 : decode cX9_ask 7 = .ok (.getfield 219, 3) := by decide +kernel
theorem dX9_ask_10 : decode cX9_ask 10 = .ok (.ifCond .ne 7, 3) := by decide +kernel
theorem dX9_ask_13 : decode cX9_ask 13 = .ok (.iconst 1, 1) := by decide +kernel
theorem dX9_ask_14 : decode cX9_ask 14 = .ok (.goto 4, 3) := by decide +kernel
theorem dX9_ask_17 : decode cX9_ask 17 = .ok (.iconst 0, 1) := by decide +kernel
theorem dX9_ask_18 : decode cX9_ask 18 = .ok (.iconst 1, 1) := by decide +kernel
theorem dX9_ask_19 : decode cX9_ask 19 = .ok (.invokevirtual 209, 3) := by decide +kernel
theorem dX9_ask_22 : decode cX9_ask 22 = .ok (.ifCond .eq 5, 3) := by decide +kernel
theorem dX9_ask_25 : decode cX9_ask 25 = .ok (.iconst 0, 1) := by decide +kernel
theorem dX9_ask_26 : decode cX9_ask 26 = .ok (.ireturn, 1) := by decide +kernel
theorem dX9_ask_27 : decode cX9_ask 27 = .ok (.iconst 0, 1) := by decide +kernel
theorem dX9_ask_28 : decode cX9_ask 28 = .ok (.istore 5, 2) := by decide +kernel
theorem dX9_ask_30 : decode cX9_ask 30 = .ok (.iload_n 1, 1) := by decide +kernel
theorem dX9_ask_31 : decode cX9_ask 31 = .ok (.ifCond .eq 7, 3) := by decide +kernel
theorem dX9_ask_34 : decode cX9_ask 34 = .ok (.iconst 0, 1) := by decide +kernel
theorem dX9_ask_35 : decode cX9_ask 35 = .ok (.goto 5, 3) := by decide +kernel
theorem dX9_ask_38 : decode cX9_ask 38 = .ok (.bipush 24, 2) := by decide +kernel
theorem dX9_ask_40 : decode cX9_ask 40 = .ok (.istore 6, 2) := by decide +kernel
theorem dX9_ask_42 : decode cX9_ask 42 = .ok (.iload 6, 2) := by decide +kernel
theorem dX9_ask_44 : decode cX9_ask 44 = .ok (.istore 7, 2) := by decide +kernel
theorem dX9_ask_46 : decode cX9_ask 46 = .ok (.iload 7, 2) := by decide +kernel
theorem dX9_ask_48 : decode cX9_ask 48 = .ok (.iload 6, 2) := by decide +kernel
theorem dX9_ask_50 : decode cX9_ask 50 = .ok (.iload_n 1, 1) := by decide +kernel
theorem dX9_ask_51 : decode cX9_ask 51 = .ok (.ifCond .eq 10, 3) := by decide +kernel
theorem dX9_ask_54 : decode cX9_ask 54 = .ok (.aload_n 0, 1) := by decide +kernel
theorem dX9_ask_55 : decode cX9_ask 55 = .ok (.getfield 216, 3) := by decide +kernel
theorem dX9_ask_58 : decode cX9_ask 58 = .ok (.goto 7, 3) := by decide +kernel
theorem dX9_ask_61 : decode cX9_ask 61 = .ok (.aload_n 0, 1) := by decide +kernel
theorem dX9_ask_62 : decode cX9_ask 62 = .ok (.getfield 232, 3) := by decide +kernel
theorem dX9_ask_65 : decode cX9_ask 65 = .ok (.iadd, 1) := by decide +kernel
theorem dX9_ask_66 : decode cX9_ask 66 = .ok (.if_icmp .ge 55, 3) := by decide +kernel
theorem dX9_ask_69 : decode cX9_ask 69 = .ok (.aload_n 0, 1) := by decide +kernel
theorem dX9_ask_70 : decode cX9_ask 70 = .ok (.getfield 16, 3) := by decide +kernel
theorem dX9_ask_73 : decode cX9_ask 73 = .ok (.iload 7, 2) := by decide +kernel
theorem dX9_ask_75 : decode cX9_ask 75 = .ok (.iaload, 1) := by decide +kernel
theorem dX9_ask_76 : decode cX9_ask 76 = .ok (.iload_n 2, 1) := by decide +kernel
theorem dX9_ask_77 : decode cX9_ask 77 = .ok (.if_icmp .ne 38, 3) := by decide +kernel
theorem dX9_ask_80 : decode cX9_ask 80 = .ok (.aload_n 0, 1) := by decide +kernel
theorem dX9_ask_81 : decode cX9_ask 81 = .ok (.iload 7, 2) := by decide +kernel
theorem dX9_ask_83 : decode cX9_ask 83 = .ok (.iload_n 3, 1) := by decide +kernel
theorem dX9_ask_84 : decode cX9_ask 84 = .ok (.invokevirtual 333, 3) := by decide +kernel
theorem dX9_ask_87 : decode cX9_ask 87 = .ok (.ifCond .eq 28, 3) := by decide +kernel
theorem dX9_ask_90 : decode cX9_ask 90 = .ok (.aload_n 0, 1) := by decide +kernel
theorem dX9_ask_91 : decode cX9_ask 91 = .ok (.iload 7, 2) := by decide +kernel
theorem dX9_ask_93 : decode cX9_ask 93 = .ok (.iload 4, 2) := by decide +kernel
theorem dX9_ask_95 : decode cX9_ask 95 = .ok (.invokevirtual 336, 3) := by decide +kernel
theorem dX9_ask_98 : decode cX9_ask 98 = .ok (.ifCond .eq 17, 3) := by decide +kernel
theorem dX9_ask_101 : decode cX9_ask 101 = .ok (.iload 5, 2) := by decide +kernel
theorem dX9_ask_103 : decode cX9_ask 103 = .ok (.iconst 1, 1) := by decide +kernel
theorem dX9_ask_104 : decode cX9_ask 104 = .ok (.aload_n 0, 1) := by decide +kernel
theorem dX9_ask_105 : decode cX9_ask 105 = .ok (.getfield 19, 3) := by decide +kernel
theorem dX9_ask_108 : decode cX9_ask 108 = .ok (.iload 7, 2) := by decide +kernel
theorem dX9_ask_110 : decode cX9_ask 110 = .ok (.iaload, 1) := by decide +kernel
theorem dX9_ask_111 : decode cX9_ask 111 = .ok (.ishl, 1) := by decide +kernel
theorem dX9_ask_112 : decode cX9_ask 112 = .ok (.ior, 1) := by decide +kernel
theorem dX9_ask_113 : decode cX9_ask 113 = .ok (.istore 5, 2) := by decide +kernel
theorem dX9_ask_115 : decode cX9_ask 115 = .ok (.iinc 7 1, 3) := by decide +kernel
theorem dX9_ask_118 : decode cX9_ask 118 = .ok (.goto (-72), 3) := by decide +kernel
theorem dX9_ask_121 : decode cX9_ask 121 = .ok (.iload 5, 2) := by decide +kernel
theorem dX9_ask_123 : decode cX9_ask 123 = .ok (.ireturn, 1) := by decide +kernel
theorem dX9_days_0 : decode cX9_days 0 = .ok (.aload_n 0, 1) := by decide +kernel
theorem dX9_days_1 : decode cX9_days 1 = .ok (.iconst 0, 1) := by decide +kernel
theorem dX9_days_2 : decode cX9_days 2 = .ok (.putfield 59, 3) := by decide +kernel
theorem dX9_days_5 : decode cX9_days 5 = .ok (.aload_n 0, 1) := by decide +kernel
theorem dX9_days_6 : decode cX9_days 6 = .ok (.aload_n 0, 1) := by decide +kernel
theorem dX9_days_7 : decode cX9_days 7 = .ok (.getfield 219, 3) := by decide +kernel
theorem dX9_days_10 : decode cX9_days 10 = .ok (.ifCond .ne 7, 3) := by decide +kernel
theorem dX9_days_13 : decode cX9_days 13 = .ok (.iconst 1, 1) := by decide +kernel
theorem dX9_days_14 : decode cX9_days 14 = .ok (.goto 4, 3) := by decide +kernel
theorem dX9_days_17 : decode cX9_days 17 = .ok (.iconst 0, 1) := by decide +kernel
theorem dX9_days_18 : decode cX9_days 18 = .ok (.iconst 1, 1) := by decide +kernel
theorem dX9_days_19 : decode cX9_days 19 = .ok (.invokevirtual 209, 3) := by decide +kernel
theorem dX9_days_22 : decode cX9_days 22 = .ok (.ifCond .eq 5, 3) := by decide +kernel
theorem dX9_days_25 : decode cX9_days 25 = .ok (.iconst 0, 1) := by decide +kernel
theorem dX9_days_26 : decode cX9_days 26 = .ok (.ireturn, 1) := by decide +kernel
theorem dX9_days_27 : decode cX9_days 27 = .ok (.iconst (-1), 1) := by decide +kernel
theorem dX9_days_28 : decode cX9_days 28 = .ok (.istore 4, 2) := by decide +kernel
theorem dX9_days_30 : decode cX9_days 30 = .ok (.bipush 24, 2) := by decide +kernel
theorem dX9_days_32 : decode cX9_days 32 = .ok (.istore 5, 2) := by decide +kernel
theorem dX9_days_34 : decode cX9_days 34 = .ok (.iload 5, 2) := by decide +kernel
theorem dX9_days_36 : decode cX9_days 36 = .ok (.bipush 24, 2) := by decide +kernel
theorem dX9_days_38 : decode cX9_days 38 = .ok (.aload_n 0, 1) := by decide +kernel
theorem dX9_days_39 : decode cX9_days 39 = .ok (.getfield 232, 3) := by decide +kernel
theorem dX9_days_42 : decode cX9_days 42 = .ok (.iadd, 1) := by decide +kernel
theorem dX9_days_43 : decode cX9_days 43 = .ok (.if_icmp .ge 92, 3) := by decide +kernel
theorem dX9_days_46 : decode cX9_days 46 = .ok (.aload_n 0, 1) := by decide +kernel
theorem dX9_days_47 : decode cX9_days 47 = .ok (.getfield 16, 3) := by decide +kernel
theorem dX9_days_50 : decode cX9_days 50 = .ok (.iload 5, 2) := by decide +kernel
theorem dX9_days_52 : decode cX9_days 52 = .ok (.iaload, 1) := by decide +kernel
theorem dX9_days_53 : decode cX9_days 53 = .ok (.iload_n 1, 1) := by decide +kernel
theorem dX9_days_54 : decode cX9_days 54 = .ok (.if_icmp .ne 75, 3) := by decide +kernel
theorem dX9_days_57 : decode cX9_days 57 = .ok (.aload_n 0, 1) := by decide +kernel
theorem dX9_days_58 : decode cX9_days 58 = .ok (.getfield 19, 3) := by decide +kernel
theorem dX9_days_61 : decode cX9_days 61 = .ok (.iload 5, 2) := by decide +kernel
theorem dX9_days_63 : decode cX9_days 63 = .ok (.iaload, 1) := by decide +kernel
theorem dX9_days_64 : decode cX9_days 64 = .ok (.ifCond .ne 65, 3) := by decide +kernel
theorem dX9_days_67 : decode cX9_days 67 = .ok (.aload_n 0, 1) := by decide +kernel
theorem dX9_days_68 : decode cX9_days 68 = .ok (.getfield 22, 3) := by decide +kernel
theorem dX9_days_71 : decode cX9_days 71 = .ok (.iload 5, 2) := by decide +kernel
theorem dX9_days_73 : decode cX9_days 73 = .ok (.iaload, 1) := by decide +kernel
theorem dX9_days_74 : decode cX9_days 74 = .ok (.ifCond .lt 55, 3) := by decide +kernel
theorem dX9_days_77 : decode cX9_days 77 = .ok (.aload_n 0, 1) := by decide +kernel
theorem dX9_days_78 : decode cX9_days 78 = .ok (.iload 5, 2) := by decide +kernel
theorem dX9_days_80 : decode cX9_days 80 = .ok (.iload_n 2, 1) := by decide +kernel
theorem dX9_days_81 : decode cX9_days 81 = .ok (.invokevirtual 333, 3) := by decide +kernel
theorem dX9_days_84 : decode cX9_days 84 = .ok (.ifCond .eq 45, 3) := by decide +kernel
theorem dX9_days_87 : decode cX9_days 87 = .ok (.aload_n 0, 1) := by decide +kernel
theorem dX9_days_88 : decode cX9_days 88 = .ok (.iload 5, 2) := by decide +kernel
theorem dX9_days_90 : decode cX9_days 90 = .ok (.iload_n 3, 1) := by decide +kernel
theorem dX9_days_91 : decode cX9_days 91 = .ok (.invokevirtual 336, 3) := by decide +kernel
theorem dX9_days_94 : decode cX9_days 94 = .ok (.ifCond .ne 6, 3) := by decide +kernel
theorem dX9_days_97 : decode cX9_days 97 = .ok (.goto 32, 3) := by decide +kernel
theorem dX9_days_100 : decode cX9_days 100 = .ok (.iload 4, 2) := by decide +kernel
theorem dX9_days_102 : decode cX9_days 102 = .ok (.ifCond .ge 13, 3) := by decide +kernel
theorem dX9_days_105 : decode cX9_days 105 = .ok (.aload_n 0, 1) := by decide +kernel
theorem dX9_days_106 : decode cX9_days 106 = .ok (.getfield 22, 3) := by decide +kernel
theorem dX9_days_109 : decode cX9_days 109 = .ok (.iload 5, 2) := by decide +kernel
theorem dX9_days_111 : decode cX9_days 111 = .ok (.iaload, 1) := by decide +kernel
theorem dX9_days_112 : decode cX9_days 112 = .ok (.goto 15, 3) := by decide +kernel
theorem dX9_days_115 : decode cX9_days 115 = .ok (.iload 4, 2) := by decide +kernel
theorem dX9_days_117 : decode cX9_days 117 = .ok (.aload_n 0, 1) := by decide +kernel
theorem dX9_days_118 : decode cX9_days 118 = .ok (.getfield 22, 3) := by decide +kernel
theorem dX9_days_121 : decode cX9_days 121 = .ok (.iload 5, 2) := by decide +kernel
theorem dX9_days_123 : decode cX9_days 123 = .ok (.iaload, 1) := by decide +kernel
theorem dX9_days_124 : decode cX9_days 124 = .ok (.invokestatic 347, 3) := by decide +kernel
theorem dX9_days_127 : decode cX9_days 127 = .ok (.istore 4, 2) := by decide +kernel
theorem dX9_days_129 : decode cX9_days 129 = .ok (.iinc 5 1, 3) := by decide +kernel
theorem dX9_days_132 : decode cX9_days 132 = .ok (.goto (-98), 3) := by decide +kernel
theorem dX9_days_135 : decode cX9_days 135 = .ok (.iload 4, 2) := by decide +kernel
theorem dX9_days_137 : decode cX9_days 137 = .ok (.ireturn, 1) := by decide +kernel
theorem dX9_look_0 : decode cX9_look 0 = .ok (.aload_n 0, 1) := by decide +kernel
theorem dX9_look_1 : decode cX9_look 1 = .ok (.iconst 0, 1) := by decide +kernel
theorem dX9_look_2 : decode cX9_look 2 = .ok (.putfield 59, 3) := by decide +kernel
theorem dX9_look_5 : decode cX9_look 5 = .ok (.aload_n 0, 1) := by decide +kernel
theorem dX9_look_6 : decode cX9_look 6 = .ok (.iload_n 1, 1) := by decide +kernel
theorem dX9_look_7 : decode cX9_look 7 = .ok (.invokevirtual 301, 3) := by decide +kernel
theorem dX9_look_10 : decode cX9_look 10 = .ok (.ifCond .eq 5, 3) := by decide +kernel
theorem dX9_look_13 : decode cX9_look 13 = .ok (.iconst 0, 1) := by decide +kernel
theorem dX9_look_14 : decode cX9_look 14 = .ok (.ireturn, 1) := by decide +kernel
theorem dX9_look_15 : decode cX9_look 15 = .ok (.bipush 24, 2) := by decide +kernel
theorem dX9_look_17 : decode cX9_look 17 = .ok (.iload_n 1, 1) := by decide +kernel
theorem dX9_look_18 : decode cX9_look 18 = .ok (.iadd, 1) := by decide +kernel
theorem dX9_look_19 : decode cX9_look 19 = .ok (.istore_n 3, 1) := by decide +kernel
theorem dX9_look_20 : decode cX9_look 20 = .ok (.iload_n 2, 1) := by decide +kernel
theorem dX9_look_21 : decode cX9_look 21 = .ok (.tableswitch 131 0 8 #[51, 58, 65, 72, 79, 94, 100, 106, 112], 51) := by decide +kernel
theorem dX9_look_72 : decode cX9_look 72 = .ok (.aload_n 0, 1) := by decide +kernel
theorem dX9_look_73 : decode cX9_look 73 = .ok (.getfield 9, 3) := by decide +kernel
theorem dX9_look_76 : decode cX9_look 76 = .ok (.iload_n 3, 1) := by decide +kernel
theorem dX9_look_77 : decode cX9_look 77 = .ok (.iaload, 1) := by decide +kernel
theorem dX9_look_78 : decode cX9_look 78 = .ok (.ireturn, 1) := by decide +kernel
theorem dX9_look_79 : decode cX9_look 79 = .ok (.aload_n 0, 1) := by decide +kernel
theorem dX9_look_80 : decode cX9_look 80 = .ok (.getfield 16, 3) := by decide +kernel
theorem dX9_look_83 : decode cX9_look 83 = .ok (.iload_n 3, 1) := by decide +kernel
theorem dX9_look_84 : decode cX9_look 84 = .ok (.iaload, 1) := by decide +kernel
theorem dX9_look_85 : decode cX9_look 85 = .ok (.ireturn, 1) := by decide +kernel
theorem dX9_look_86 : decode cX9_look 86 = .ok (.aload_n 0, 1) := by decide +kernel
theorem dX9_look_87 : decode cX9_look 87 = .ok (.getfield 19, 3) := by decide +kernel
theorem dX9_look_90 : decode cX9_look 90 = .ok (.iload_n 3, 1) := by decide +kernel
theorem dX9_look_91 : decode cX9_look 91 = .ok (.iaload, 1) := by decide +kernel
theorem dX9_look_92 : decode cX9_look 92 = .ok (.ireturn, 1) := by decide +kernel
theorem dX9_look_93 : decode cX9_look 93 = .ok (.aload_n 0, 1) := by decide +kernel
theorem dX9_look_94 : decode cX9_look 94 = .ok (.getfield 22, 3) := by decide +kernel
theorem dX9_look_97 : decode cX9_look 97 = .ok (.iload_n 3, 1) := by decide +kernel
theorem dX9_look_98 : decode cX9_look 98 = .ok (.iaload, 1) := by decide +kernel
theorem dX9_look_99 : decode cX9_look 99 = .ok (.ireturn, 1) := by decide +kernel
theorem dX9_look_100 : decode cX9_look 100 = .ok (.aload_n 0, 1) := by decide +kernel
theorem dX9_look_101 : decode cX9_look 101 = .ok (.getfield 25, 3) := by decide +kernel
theorem dX9_look_104 : decode cX9_look 104 = .ok (.iload_n 3, 1) := by decide +kernel
theorem dX9_look_105 : decode cX9_look 105 = .ok (.baload, 1) := by decide +kernel
theorem dX9_look_106 : decode cX9_look 106 = .ok (.ifCond .eq 7, 3) := by decide +kernel
theorem dX9_look_109 : decode cX9_look 109 = .ok (.iconst 1, 1) := by decide +kernel
theorem dX9_look_110 : decode cX9_look 110 = .ok (.goto 4, 3) := by decide +kernel
theorem dX9_look_113 : decode cX9_look 113 = .ok (.iconst 0, 1) := by decide +kernel
theorem dX9_look_114 : decode cX9_look 114 = .ok (.ireturn, 1) := by decide +kernel
theorem dX9_look_115 : decode cX9_look 115 = .ok (.aload_n 0, 1) := by decide +kernel
theorem dX9_look_116 : decode cX9_look 116 = .ok (.iload_n 3, 1) := by decide +kernel
theorem dX9_look_117 : decode cX9_look 117 = .ok (.invokevirtual 280, 3) := by decide +kernel
theorem dX9_look_120 : decode cX9_look 120 = .ok (.ireturn, 1) := by decide +kernel
theorem dX9_look_121 : decode cX9_look 121 = .ok (.aload_n 0, 1) := by decide +kernel
theorem dX9_look_122 : decode cX9_look 122 = .ok (.iload_n 3, 1) := by decide +kernel
theorem dX9_look_123 : decode cX9_look 123 = .ok (.invokevirtual 286, 3) := by decide +kernel
theorem dX9_look_126 : decode cX9_look 126 = .ok (.ireturn, 1) := by decide +kernel
theorem dX9_look_127 : decode cX9_look 127 = .ok (.aload_n 0, 1) := by decide +kernel
theorem dX9_look_128 : decode cX9_look 128 = .ok (.iload_n 3, 1) := by decide +kernel
theorem dX9_look_129 : decode cX9_look 129 = .ok (.invokevirtual 283, 3) := by decide +kernel
theorem dX9_look_132 : decode cX9_look 132 = .ok (.ireturn, 1) := by decide +kernel
theorem dX9_look_133 : decode cX9_look 133 = .ok (.aload_n 0, 1) := by decide +kernel
theorem dX9_look_134 : decode cX9_look 134 = .ok (.getfield 29, 3) := by decide +kernel
theorem dX9_look_137 : decode cX9_look 137 = .ok (.iconst 2, 1) := by decide +kernel
theorem dX9_look_138 : decode cX9_look 138 = .ok (.iload_n 3, 1) := by decide +kernel
theorem dX9_look_139 : decode cX9_look 139 = .ok (.imul, 1) := by decide +kernel
theorem dX9_look_140 : decode cX9_look 140 = .ok (.iconst 1, 1) := by decide +kernel
theorem dX9_look_141 : decode cX9_look 141 = .ok (.iadd, 1) := by decide +kernel
theorem dX9_look_142 : decode cX9_look 142 = .ok (.iaload, 1) := by decide +kernel
theorem dX9_look_143 : decode cX9_look 143 = .ok (.ifCond .le 7, 3) := by decide +kernel
theorem dX9_look_146 : decode cX9_look 146 = .ok (.iconst 1, 1) := by decide +kernel
theorem dX9_look_147 : decode cX9_look 147 = .ok (.goto 4, 3) := by decide +kernel
theorem dX9_look_150 : decode cX9_look 150 = .ok (.iconst 0, 1) := by decide +kernel
theorem dX9_look_151 : decode cX9_look 151 = .ok (.ireturn, 1) := by decide +kernel
theorem dX9_look_152 : decode cX9_look 152 = .ok (.aload_n 0, 1) := by decide +kernel
theorem dX9_look_153 : decode cX9_look 153 = .ok (.iconst 3, 1) := by decide +kernel
theorem dX9_look_154 : decode cX9_look 154 = .ok (.putfield 59, 3) := by decide +kernel
theorem dX9_look_157 : decode cX9_look 157 = .ok (.iconst 0, 1) := by decide +kernel
theorem dX9_look_158 : decode cX9_look 158 = .ok (.ireturn, 1) := by decide +kernel
theorem dX9_count_0 : decode cX9_count 0 = .ok (.aload_n 0, 1) := by decide +kernel
theorem dX9_count_1 : decode cX9_count 1 = .ok (.iconst 0, 1) := by decide +kernel
theorem dX9_count_2 : decode cX9_count 2 = .ok (.putfield 59, 3) := by decide +kernel
theorem dX9_count_5 : decode cX9_count 5 = .ok (.iload_n 1, 1) := by decide +kernel
theorem dX9_count_6 : decode cX9_count 6 = .ok (.tableswitch 81 0 4 #[34, 50, 66, 71, 76], 34) := by decide +kernel
theorem dX9_count_40 : decode cX9_count 40 = .ok (.aload_n 0, 1) := by decide +kernel
theorem dX9_count_41 : decode cX9_count 41 = .ok (.getfield 219, 3) := by decide +kernel
theorem dX9_count_44 : decode cX9_count 44 = .ok (.ifCond .eq 10, 3) := by decide +kernel
theorem dX9_count_47 : decode cX9_count 47 = .ok (.aload_n 0, 1) := by decide +kernel
theorem dX9_count_48 : decode cX9_count 48 = .ok (.getfield 216, 3) := by decide +kernel
theorem dX9_count_51 : decode cX9_count 51 = .ok (.goto 4, 3) := by decide +kernel
theorem dX9_count_54 : decode cX9_count 54 = .ok (.iconst 0, 1) := by decide +kernel
theorem dX9_count_55 : decode cX9_count 55 = .ok (.ireturn, 1) := by decide +kernel
theorem dX9_count_56 : decode cX9_count 56 = .ok (.aload_n 0, 1) := by decide +kernel
theorem dX9_count_57 : decode cX9_count 57 = .ok (.getfield 219, 3) := by decide +kernel
theorem dX9_count_60 : decode cX9_count 60 = .ok (.ifCond .eq 10, 3) := by decide +kernel
theorem dX9_count_63 : decode cX9_count 63 = .ok (.aload_n 0, 1) := by decide +kernel
theorem dX9_count_64 : decode cX9_count 64 = .ok (.getfield 232, 3) := by decide +kernel
theorem dX9_count_67 : decode cX9_count 67 = .ok (.goto 4, 3) := by decide +kernel
theorem dX9_count_70 : decode cX9_count 70 = .ok (.iconst 0, 1) := by decide +kernel
theorem dX9_count_71 : decode cX9_count 71 = .ok (.ireturn, 1) := by decide +kernel
theorem dX9_count_72 : decode cX9_count 72 = .ok (.aload_n 0, 1) := by decide +kernel
theorem dX9_count_73 : decode cX9_count 73 = .ok (.getfield 96, 3) := by decide +kernel
theorem dX9_count_76 : decode cX9_count 76 = .ok (.ireturn, 1) := by decide +kernel
theorem dX9_count_77 : decode cX9_count 77 = .ok (.aload_n 0, 1) := by decide +kernel
theorem dX9_count_78 : decode cX9_count 78 = .ok (.getfield 223, 3) := by decide +kernel
theorem dX9_count_81 : decode cX9_count 81 = .ok (.ireturn, 1) := by decide +kernel
theorem dX9_count_82 : decode cX9_count 82 = .ok (.aload_n 0, 1) := by decide +kernel
theorem dX9_count_83 : decode cX9_count 83 = .ok (.getfield 226, 3) := by decide +kernel
theorem dX9_count_86 : decode cX9_count 86 = .ok (.ireturn, 1) := by decide +kernel
theorem dX9_count_87 : decode cX9_count 87 = .ok (.iconst (-1), 1) := by decide +kernel
theorem dX9_count_88 : decode cX9_count 88 = .ok (.ireturn, 1) := by decide +kernel
end
section
theorem dL_letter_0 : decode cL_letter 0 = .ok (.aload_n 1, 1) := by decide +kernel
theorem dL_letter_1 : decode cL_letter 1 = .ok (.iconst 0, 1) := by decide +kernel
theorem dL_letter_2 : decode cL_letter 2 = .ok (.aload_n 0, 1) := by decide +kernel
theorem dL_letter_3 : decode cL_letter 3 = .ok (.invokevirtual 7, 3) := by decide +kernel
theorem dL_letter_6 : decode cL_letter 6 = .ok (.i2l, 1) := by decide +kernel
theorem dL_letter_7 : decode cL_letter 7 = .ok (.lastore, 1) := by decide +kernel
theorem dL_letter_8 : decode cL_letter 8 = .ok (.goto 6, 3) := by decide +kernel
theorem dL_letter_11 : decode cL_letter 11 = .ok (.astore_n 2, 1) := by decide +kernel
theorem dL_letter_12 : decode cL_letter 12 = .ok (.iconst 1, 1) := by decide +kernel
theorem dL_letter_13 : decode cL_letter 13 = .ok (.ireturn, 1) := by decide +kernel
theorem dL_letter_14 : decode cL_letter 14 = .ok (.iconst 0, 1) := by decide +kernel
theorem dL_letter_15 : decode cL_letter 15 = .ok (.ireturn, 1) := by decide +kernel
theorem dL_part_0 : decode cL_part 0 = .ok (.aload_n 2, 1) := by decide +kernel
theorem dL_part_1 : decode cL_part 1 = .ok (.iconst 0, 1) := by decide +kernel
theorem dL_part_2 : decode cL_part 2 = .ok (.aload_n 0, 1) := by decide +kernel
theorem dL_part_3 : decode cL_part 3 = .ok (.iload_n 1, 1) := by decide +kernel
theorem dL_part_4 : decode cL_part 4 = .ok (.invokevirtual 15, 3) := by decide +kernel
theorem dL_part_7 : decode cL_part 7 = .ok (.ifCond .eq 7, 3) := by decide +kernel
theorem dL_part_10 : decode cL_part 10 = .ok (.lconst 1, 1) := by decide +kernel
theorem dL_part_11 : decode cL_part 11 = .ok (.goto 4, 3) := by decide +kernel
theorem dL_part_14 : decode cL_part 14 = .ok (.lconst 0, 1) := by decide +kernel
theorem dL_part_15 : decode cL_part 15 = .ok (.lastore, 1) := by decide +kernel
theorem dL_part_16 : decode cL_part 16 = .ok (.goto 9, 3) := by decide +kernel
theorem dL_part_19 : decode cL_part 19 = .ok (.astore_n 3, 1) := by decide +kernel
theorem dL_part_20 : decode cL_part 20 = .ok (.iconst 1, 1) := by decide +kernel
theorem dL_part_21 : decode cL_part 21 = .ok (.ireturn, 1) := by decide +kernel
theorem dL_part_22 : decode cL_part 22 = .ok (.astore_n 3, 1) := by decide +kernel
theorem dL_part_23 : decode cL_part 23 = .ok (.iconst 2, 1) := by decide +kernel
theorem dL_part_24 : decode cL_part 24 = .ok (.ireturn, 1) := by decide +kernel
theorem dL_part_25 : decode cL_part 25 = .ok (.iconst 0, 1) := by decide +kernel
theorem dL_part_26 : decode cL_part 26 = .ok (.ireturn, 1) := by decide +kernel
theorem dL_melt_0 : decode cL_melt 0 = .ok (.aload_n 2, 1) := by decide +kernel
theorem dL_melt_1 : decode cL_melt 1 = .ok (.iconst 0, 1) := by decide +kernel
theorem dL_melt_2 : decode cL_melt 2 = .ok (.aload_n 0, 1) := by decide +kernel
theorem dL_melt_3 : decode cL_melt 3 = .ok (.iload_n 1, 1) := by decide +kernel
theorem dL_melt_4 : decode cL_melt 4 = .ok (.invokevirtual 23, 3) := by decide +kernel
theorem dL_melt_7 : decode cL_melt 7 = .ok (.ifCond .eq 7, 3) := by decide +kernel
theorem dL_melt_10 : decode cL_melt 10 = .ok (.lconst 1, 1) := by decide +kernel
theorem dL_melt_11 : decode cL_melt 11 = .ok (.goto 4, 3) := by decide +kernel
theorem dL_melt_14 : decode cL_melt 14 = .ok (.lconst 0, 1) := by decide +kernel
theorem dL_melt_15 : decode cL_melt 15 = .ok (.lastore, 1) := by decide +kernel
theorem dL_melt_16 : decode cL_melt 16 = .ok (.goto 9, 3) := by decide +kernel
theorem dL_melt_19 : decode cL_melt 19 = .ok (.astore_n 3, 1) := by decide +kernel
theorem dL_melt_20 : decode cL_melt 20 = .ok (.iconst 1, 1) := by decide +kernel
theorem dL_melt_21 : decode cL_melt 21 = .ok (.ireturn, 1) := by decide +kernel
theorem dL_melt_22 : decode cL_melt 22 = .ok (.astore_n 3, 1) := by decide +kernel
theorem dL_melt_23 : decode cL_melt 23 = .ok (.iconst 2, 1) := by decide +kernel
theorem dL_melt_24 : decode cL_melt 24 = .ok (.ireturn, 1) := by decide +kernel
theorem dL_melt_25 : decode cL_melt 25 = .ok (.iconst 0, 1) := by decide +kernel
theorem dL_melt_26 : decode cL_melt 26 = .ok (.ireturn, 1) := by decide +kernel
theorem dL_turn_0 : decode cL_turn 0 = .ok (.aload_n 2, 1) := by decide +kernel
theorem dL_turn_1 : decode cL_turn 1 = .ok (.iconst 0, 1) := by decide +kernel
theorem dL_turn_2 : decode cL_turn 2 = .ok (.aload_n 0, 1) := by decide +kernel
theorem dL_turn_3 : decode cL_turn 3 = .ok (.iload_n 1, 1) := by decide +kernel
theorem dL_turn_4 : decode cL_turn 4 = .ok (.invokevirtual 26, 3) := by decide +kernel
theorem dL_turn_7 : decode cL_turn 7 = .ok (.ifCond .eq 7, 3) := by decide +kernel
theorem dL_turn_10 : decode cL_turn 10 = .ok (.lconst 1, 1) := by decide +kernel
theorem dL_turn_11 : decode cL_turn 11 = .ok (.goto 4, 3) := by decide +kernel
theorem dL_turn_14 : decode cL_turn 14 = .ok (.lconst 0, 1) := by decide +kernel
theorem dL_turn_15 : decode cL_turn 15 = .ok (.lastore, 1) := by decide +kernel
theorem dL_turn_16 : decode cL_turn 16 = .ok (.goto 9, 3) := by decide +kernel
theorem dL_turn_19 : decode cL_turn 19 = .ok (.astore_n 3, 1) := by decide +kernel
theorem dL_turn_20 : decode cL_turn 20 = .ok (.iconst 1, 1) := by decide +kernel
theorem dL_turn_21 : decode cL_turn 21 = .ok (.ireturn, 1) := by decide +kernel
theorem dL_turn_22 : decode cL_turn 22 = .ok (.astore_n 3, 1) := by decide +kernel
theorem dL_turn_23 : decode cL_turn 23 = .ok (.iconst 2, 1) := by decide +kernel
theorem dL_turn_24 : decode cL_turn 24 = .ok (.ireturn, 1) := by decide +kernel
theorem dL_turn_25 : decode cL_turn 25 = .ok (.iconst 0, 1) := by decide +kernel
theorem dL_turn_26 : decode cL_turn 26 = .ok (.ireturn, 1) := by decide +kernel
theorem dL_ease_0 : decode cL_ease 0 = .ok (.aload_n 2, 1) := by decide +kernel
theorem dL_ease_1 : decode cL_ease 1 = .ok (.iconst 0, 1) := by decide +kernel
theorem dL_ease_2 : decode cL_ease 2 = .ok (.aload_n 0, 1) := by decide +kernel
theorem dL_ease_3 : decode cL_ease 3 = .ok (.iload_n 1, 1) := by decide +kernel
theorem dL_ease_4 : decode cL_ease 4 = .ok (.invokevirtual 29, 3) := by decide +kernel
theorem dL_ease_7 : decode cL_ease 7 = .ok (.ifCond .eq 7, 3) := by decide +kernel
theorem dL_ease_10 : decode cL_ease 10 = .ok (.lconst 1, 1) := by decide +kernel
theorem dL_ease_11 : decode cL_ease 11 = .ok (.goto 4, 3) := by decide +kernel
theorem dL_ease_14 : decode cL_ease 14 = .ok (.lconst 0, 1) := by decide +kernel
theorem dL_ease_15 : decode cL_ease 15 = .ok (.lastore, 1) := by decide +kernel
theorem dL_ease_16 : decode cL_ease 16 = .ok (.goto 9, 3) := by decide +kernel
theorem dL_ease_19 : decode cL_ease 19 = .ok (.astore_n 3, 1) := by decide +kernel
theorem dL_ease_20 : decode cL_ease 20 = .ok (.iconst 1, 1) := by decide +kernel
theorem dL_ease_21 : decode cL_ease 21 = .ok (.ireturn, 1) := by decide +kernel
theorem dL_ease_22 : decode cL_ease 22 = .ok (.astore_n 3, 1) := by decide +kernel
theorem dL_ease_23 : decode cL_ease 23 = .ok (.iconst 2, 1) := by decide +kernel
theorem dL_ease_24 : decode cL_ease 24 = .ok (.ireturn, 1) := by decide +kernel
theorem dL_ease_25 : decode cL_ease 25 = .ok (.iconst 0, 1) := by decide +kernel
theorem dL_ease_26 : decode cL_ease 26 = .ok (.ireturn, 1) := by decide +kernel
theorem dL_plainest_0 : decode cL_plainest 0 = .ok (.aload_n 1, 1) := by decide +kernel
theorem dL_plainest_1 : decode cL_plainest 1 = .ok (.iconst 0, 1) := by decide +kernel
theorem dL_plainest_2 : decode cL_plainest 2 = .ok (.aload_n 0, 1) := by decide +kernel
theorem dL_plainest_3 : decode cL_plainest 3 = .ok (.invokevirtual 32, 3) := by decide +kernel
theorem dL_plainest_6 : decode cL_plainest 6 = .ok (.i2l, 1) := by decide +kernel
theorem dL_plainest_7 : decode cL_plainest 7 = .ok (.lastore, 1) := by decide +kernel
theorem dL_plainest_8 : decode cL_plainest 8 = .ok (.goto 6, 3) := by decide +kernel
theorem dL_plainest_11 : decode cL_plainest 11 = .ok (.astore_n 2, 1) := by decide +kernel
theorem dL_plainest_12 : decode cL_plainest 12 = .ok (.iconst 1, 1) := by decide +kernel
theorem dL_plainest_13 : decode cL_plainest 13 = .ok (.ireturn, 1) := by decide +kernel
theorem dL_plainest_14 : decode cL_plainest 14 = .ok (.iconst 0, 1) := by decide +kernel
theorem dL_plainest_15 : decode cL_plainest 15 = .ok (.ireturn, 1) := by decide +kernel
theorem dL_again_0 : decode cL_again 0 = .ok (.aload_n 0, 1) := by decide +kernel
theorem dL_again_1 : decode cL_again 1 = .ok (.invokevirtual 35, 3) := by decide +kernel
theorem dL_again_4 : decode cL_again 4 = .ok (.goto 6, 3) := by decide +kernel
theorem dL_again_7 : decode cL_again 7 = .ok (.astore_n 1, 1) := by decide +kernel
theorem dL_again_8 : decode cL_again 8 = .ok (.iconst 1, 1) := by decide +kernel
theorem dL_again_9 : decode cL_again 9 = .ok (.ireturn, 1) := by decide +kernel
theorem dL_again_10 : decode cL_again 10 = .ok (.iconst 0, 1) := by decide +kernel
theorem dL_again_11 : decode cL_again 11 = .ok (.ireturn, 1) := by decide +kernel
theorem dL_cost_0 : decode cL_cost 0 = .ok (.aload_n 2, 1) := by decide +kernel
theorem dL_cost_1 : decode cL_cost 1 = .ok (.iconst 0, 1) := by decide +kernel
theorem dL_cost_2 : decode cL_cost 2 = .ok (.aload_n 0, 1) := by decide +kernel
theorem dL_cost_3 : decode cL_cost 3 = .ok (.iload_n 1, 1) := by decide +kernel
theorem dL_cost_4 : decode cL_cost 4 = .ok (.invokevirtual 38, 3) := by decide +kernel
theorem dL_cost_7 : decode cL_cost 7 = .ok (.i2l, 1) := by decide +kernel
theorem dL_cost_8 : decode cL_cost 8 = .ok (.lastore, 1) := by decide +kernel
theorem dL_cost_9 : decode cL_cost 9 = .ok (.goto 6, 3) := by decide +kernel
theorem dL_cost_12 : decode cL_cost 12 = .ok (.astore_n 3, 1) := by decide +kernel
theorem dL_cost_13 : decode cL_cost 13 = .ok (.iconst 1, 1) := by decide +kernel
theorem dL_cost_14 : decode cL_cost 14 = .ok (.ireturn, 1) := by decide +kernel
theorem dL_cost_15 : decode cL_cost 15 = .ok (.iconst 0, 1) := by decide +kernel
theorem dL_cost_16 : decode cL_cost 16 = .ok (.ireturn, 1) := by decide +kernel
theorem dL_look_0 : decode cL_look 0 = .ok (.aload_n 3, 1) := by decide +kernel
theorem dL_look_1 : decode cL_look 1 = .ok (.iconst 0, 1) := by decide +kernel
theorem dL_look_2 : decode cL_look 2 = .ok (.aload_n 0, 1) := by decide +kernel
theorem dL_look_3 : decode cL_look 3 = .ok (.iload_n 1, 1) := by decide +kernel
theorem dL_look_4 : decode cL_look 4 = .ok (.iload_n 2, 1) := by decide +kernel
theorem dL_look_5 : decode cL_look 5 = .ok (.invokevirtual 42, 3) := by decide +kernel
theorem dL_look_8 : decode cL_look 8 = .ok (.i2l, 1) := by decide +kernel
theorem dL_look_9 : decode cL_look 9 = .ok (.lastore, 1) := by decide +kernel
theorem dL_look_10 : decode cL_look 10 = .ok (.goto 15, 3) := by decide +kernel
theorem dL_look_13 : decode cL_look 13 = .ok (.astore 4, 2) := by decide +kernel
theorem dL_look_15 : decode cL_look 15 = .ok (.iconst 1, 1) := by decide +kernel
theorem dL_look_16 : decode cL_look 16 = .ok (.ireturn, 1) := by decide +kernel
theorem dL_look_17 : decode cL_look 17 = .ok (.astore 4, 2) := by decide +kernel
theorem dL_look_19 : decode cL_look 19 = .ok (.iconst 2, 1) := by decide +kernel
theorem dL_look_20 : decode cL_look 20 = .ok (.ireturn, 1) := by decide +kernel
theorem dL_look_21 : decode cL_look 21 = .ok (.astore 4, 2) := by decide +kernel
theorem dL_look_23 : decode cL_look 23 = .ok (.iconst 3, 1) := by decide +kernel
theorem dL_look_24 : decode cL_look 24 = .ok (.ireturn, 1) := by decide +kernel
theorem dL_look_25 : decode cL_look 25 = .ok (.iconst 0, 1) := by decide +kernel
theorem dL_look_26 : decode cL_look 26 = .ok (.ireturn, 1) := by decide +kernel
theorem dL_same_0 : decode cL_same 0 = .ok (.aload_n 1, 1) := by decide +kernel
theorem dL_same_1 : decode cL_same 1 = .ok (.iconst 0, 1) := by decide +kernel
theorem dL_same_2 : decode cL_same 2 = .ok (.aload_n 0, 1) := by decide +kernel
theorem dL_same_3 : decode cL_same 3 = .ok (.invokevirtual 48, 3) := by decide +kernel
theorem dL_same_6 : decode cL_same 6 = .ok (.ifCond .eq 7, 3) := by decide +kernel
theorem dL_same_9 : decode cL_same 9 = .ok (.lconst 1, 1) := by decide +kernel
theorem dL_same_10 : decode cL_same 10 = .ok (.goto 4, 3) := by decide +kernel
theorem dL_same_13 : decode cL_same 13 = .ok (.lconst 0, 1) := by decide +kernel
theorem dL_same_14 : decode cL_same 14 = .ok (.lastore, 1) := by decide +kernel
theorem dL_same_15 : decode cL_same 15 = .ok (.goto 6, 3) := by decide +kernel
theorem dL_same_18 : decode cL_same 18 = .ok (.astore_n 2, 1) := by decide +kernel
theorem dL_same_19 : decode cL_same 19 = .ok (.iconst 1, 1) := by decide +kernel
theorem dL_same_20 : decode cL_same 20 = .ok (.ireturn, 1) := by decide +kernel
theorem dL_same_21 : decode cL_same 21 = .ok (.iconst 0, 1) := by decide +kernel
theorem dL_same_22 : decode cL_same 22 = .ok (.ireturn, 1) := by decide +kernel
theorem dL_write_0 : decode cL_write 0 = .ok (.aload_n 1, 1) := by decide +kernel
theorem dL_write_1 : decode cL_write 1 = .ok (.iconst 0, 1) := by decide +kernel
theorem dL_write_2 : decode cL_write 2 = .ok (.aload_n 0, 1) := by decide +kernel
theorem dL_write_3 : decode cL_write 3 = .ok (.invokevirtual 52, 3) := by decide +kernel
theorem dL_write_6 : decode cL_write 6 = .ok (.i2l, 1) := by decide +kernel
theorem dL_write_7 : decode cL_write 7 = .ok (.lastore, 1) := by decide +kernel
theorem dL_write_8 : decode cL_write 8 = .ok (.goto 6, 3) := by decide +kernel
theorem dL_write_11 : decode cL_write 11 = .ok (.astore_n 2, 1) := by decide +kernel
theorem dL_write_12 : decode cL_write 12 = .ok (.iconst 1, 1) := by decide +kernel
theorem dL_write_13 : decode cL_write 13 = .ok (.ireturn, 1) := by decide +kernel
theorem dL_write_14 : decode cL_write 14 = .ok (.iconst 0, 1) := by decide +kernel
theorem dL_write_15 : decode cL_write 15 = .ok (.ireturn, 1) := by decide +kernel
theorem dL_ask_0 : decode cL_ask 0 = .ok (.aload 5, 2) := by decide +kernel
theorem dL_ask_2 : decode cL_ask 2 = .ok (.iconst 0, 1) := by decide +kernel
theorem dL_ask_3 : decode cL_ask 3 = .ok (.aload_n 0, 1) := by decide +kernel
theorem dL_ask_4 : decode cL_ask 4 = .ok (.iload_n 1, 1) := by decide +kernel
theorem dL_ask_5 : decode cL_ask 5 = .ok (.iload_n 2, 1) := by decide +kernel
theorem dL_ask_6 : decode cL_ask 6 = .ok (.iload_n 3, 1) := by decide +kernel
theorem dL_ask_7 : decode cL_ask 7 = .ok (.iload 4, 2) := by decide +kernel
theorem dL_ask_9 : decode cL_ask 9 = .ok (.invokevirtual 55, 3) := by decide +kernel
theorem dL_ask_12 : decode cL_ask 12 = .ok (.i2l, 1) := by decide +kernel
theorem dL_ask_13 : decode cL_ask 13 = .ok (.lastore, 1) := by decide +kernel
theorem dL_ask_14 : decode cL_ask 14 = .ok (.goto 7, 3) := by decide +kernel
theorem dL_ask_17 : decode cL_ask 17 = .ok (.astore 6, 2) := by decide +kernel
theorem dL_ask_19 : decode cL_ask 19 = .ok (.iconst 1, 1) := by decide +kernel
theorem dL_ask_20 : decode cL_ask 20 = .ok (.ireturn, 1) := by decide +kernel
theorem dL_ask_21 : decode cL_ask 21 = .ok (.iconst 0, 1) := by decide +kernel
theorem dL_ask_22 : decode cL_ask 22 = .ok (.ireturn, 1) := by decide +kernel
theorem dL_days_0 : decode cL_days 0 = .ok (.aload 4, 2) := by decide +kernel
theorem dL_days_2 : decode cL_days 2 = .ok (.iconst 0, 1) := by decide +kernel
theorem dL_days_3 : decode cL_days 3 = .ok (.aload_n 0, 1) := by decide +kernel
theorem dL_days_4 : decode cL_days 4 = .ok (.iload_n 1, 1) := by decide +kernel
theorem dL_days_5 : decode cL_days 5 = .ok (.iload_n 2, 1) := by decide +kernel
theorem dL_days_6 : decode cL_days 6 = .ok (.iload_n 3, 1) := by decide +kernel
theorem dL_days_7 : decode cL_days 7 = .ok (.invokevirtual 59, 3) := by decide +kernel
theorem dL_days_10 : decode cL_days 10 = .ok (.i2l, 1) := by decide +kernel
theorem dL_days_11 : decode cL_days 11 = .ok (.lastore, 1) := by decide +kernel
theorem dL_days_12 : decode cL_days 12 = .ok (.goto 7, 3) := by decide +kernel
theorem dL_days_15 : decode cL_days 15 = .ok (.astore 5, 2) := by decide +kernel
theorem dL_days_17 : decode cL_days 17 = .ok (.iconst 1, 1) := by decide +kernel
theorem dL_days_18 : decode cL_days 18 = .ok (.ireturn, 1) := by decide +kernel
theorem dL_days_19 : decode cL_days 19 = .ok (.iconst 0, 1) := by decide +kernel
theorem dL_days_20 : decode cL_days 20 = .ok (.ireturn, 1) := by decide +kernel
theorem dL_law_0 : decode cL_law 0 = .ok (.new 8, 3) := by decide +kernel
theorem dL_law_3 : decode cL_law 3 = .ok (.dup, 1) := by decide +kernel
theorem dL_law_4 : decode cL_law 4 = .ok (.invokespecial 63, 3) := by decide +kernel
theorem dL_law_7 : decode cL_law 7 = .ok (.astore_n 1, 1) := by decide +kernel
theorem dL_law_8 : decode cL_law 8 = .ok (.new 64, 3) := by decide +kernel
theorem dL_law_11 : decode cL_law 11 = .ok (.dup, 1) := by decide +kernel
theorem dL_law_12 : decode cL_law 12 = .ok (.invokespecial 66, 3) := by decide +kernel
theorem dL_law_15 : decode cL_law 15 = .ok (.astore_n 2, 1) := by decide +kernel
theorem dL_law_16 : decode cL_law 16 = .ok (.iconst 1, 1) := by decide +kernel
theorem dL_law_17 : decode cL_law 17 = .ok (.newarray .long, 2) := by decide +kernel
theorem dL_law_19 : decode cL_law 19 = .ok (.astore_n 3, 1) := by decide +kernel
theorem dL_law_20 : decode cL_law 20 = .ok (.iconst 0, 1) := by decide +kernel
theorem dL_law_21 : decode cL_law 21 = .ok (.istore 4, 2) := by decide +kernel
theorem dL_law_23 : decode cL_law 23 = .ok (.iload 4, 2) := by decide +kernel
theorem dL_law_25 : decode cL_law 25 = .ok (.aload_n 0, 1) := by decide +kernel
theorem dL_law_26 : decode cL_law 26 = .ok (.arraylength, 1) := by decide +kernel
theorem dL_law_27 : decode cL_law 27 = .ok (.bipush 6, 2) := by decide +kernel
theorem dL_law_29 : decode cL_law 29 = .ok (.isub, 1) := by decide +kernel
theorem dL_law_30 : decode cL_law 30 = .ok (.if_icmp .gt 1052, 3) := by decide +kernel
theorem dL_law_33 : decode cL_law 33 = .ok (.aload_n 0, 1) := by decide +kernel
theorem dL_law_34 : decode cL_law 34 = .ok (.iload 4, 2) := by decide +kernel
theorem dL_law_36 : decode cL_law 36 = .ok (.iaload, 1) := by decide +kernel
theorem dL_law_37 : decode cL_law 37 = .ok (.bipush 31, 2) := by decide +kernel
theorem dL_law_39 : decode cL_law 39 = .ok (.iand, 1) := by decide +kernel
theorem dL_law_40 : decode cL_law 40 = .ok (.tableswitch 1036 0 17 #[88, 161, 186, 230, 243, 306, 369, 432, 495, 539, 563, 635, 703, 754, 798, 823, 931, 1011], 88) := by decide +kernel
theorem dL_law_128 : decode cL_law 128 = .ok (.aload_n 1, 1) := by decide +kernel
theorem dL_law_129 : decode cL_law 129 = .ok (.aload_n 0, 1) := by decide +kernel
theorem dL_law_130 : decode cL_law 130 = .ok (.iload 4, 2) := by decide +kernel
theorem dL_law_132 : decode cL_law 132 = .ok (.iconst 1, 1) := by decide +kernel
theorem dL_law_133 : decode cL_law 133 = .ok (.iadd, 1) := by decide +kernel
theorem dL_law_134 : decode cL_law 134 = .ok (.iaload, 1) := by decide +kernel
theorem dL_law_135 : decode cL_law 135 = .ok (.aload_n 0, 1) := by decide +kernel
theorem dL_law_136 : decode cL_law 136 = .ok (.iload 4, 2) := by decide +kernel
theorem dL_law_138 : decode cL_law 138 = .ok (.iconst 2, 1) := by decide +kernel
theorem dL_law_139 : decode cL_law 139 = .ok (.iadd, 1) := by decide +kernel
theorem dL_law_140 : decode cL_law 140 = .ok (.iaload, 1) := by decide +kernel
theorem dL_law_141 : decode cL_law 141 = .ok (.aload_n 0, 1) := by decide +kernel
theorem dL_law_142 : decode cL_law 142 = .ok (.iload 4, 2) := by decide +kernel
theorem dL_law_144 : decode cL_law 144 = .ok (.iconst 3, 1) := by decide +kernel
theorem dL_law_145 : decode cL_law 145 = .ok (.iadd, 1) := by decide +kernel
theorem dL_law_146 : decode cL_law 146 = .ok (.iaload, 1) := by decide +kernel
theorem dL_law_147 : decode cL_law 147 = .ok (.aload_n 0, 1) := by decide +kernel
theorem dL_law_148 : decode cL_law 148 = .ok (.iload 4, 2) := by decide +kernel
theorem dL_law_150 : decode cL_law 150 = .ok (.iconst 4, 1) := by decide +kernel
theorem dL_law_151 : decode cL_law 151 = .ok (.iadd, 1) := by decide +kernel
theorem dL_law_152 : decode cL_law 152 = .ok (.iaload, 1) := by decide +kernel
theorem dL_law_153 : decode cL_law 153 = .ok (.aload_n 0, 1) := by decide +kernel
theorem dL_law_154 : decode cL_law 154 = .ok (.iload 4, 2) := by decide +kernel
theorem dL_law_156 : decode cL_law 156 = .ok (.iconst 5, 1) := by decide +kernel
theorem dL_law_157 : decode cL_law 157 = .ok (.iadd, 1) := by decide +kernel
theorem dL_law_158 : decode cL_law 158 = .ok (.iaload, 1) := by decide +kernel
theorem dL_law_159 : decode cL_law 159 = .ok (.invokevirtual 67, 3) := by decide +kernel
theorem dL_law_162 : decode cL_law 162 = .ok (.aload_n 2, 1) := by decide +kernel
theorem dL_law_163 : decode cL_law 163 = .ok (.aload_n 0, 1) := by decide +kernel
theorem dL_law_164 : decode cL_law 164 = .ok (.iload 4, 2) := by decide +kernel
theorem dL_law_166 : decode cL_law 166 = .ok (.iconst 1, 1) := by decide +kernel
theorem dL_law_167 : decode cL_law 167 = .ok (.iadd, 1) := by decide +kernel
theorem dL_law_168 : decode cL_law 168 = .ok (.iaload, 1) := by decide +kernel
theorem dL_law_169 : decode cL_law 169 = .ok (.aload_n 0, 1) := by decide +kernel
theorem dL_law_170 : decode cL_law 170 = .ok (.iload 4, 2) := by decide +kernel
theorem dL_law_172 : decode cL_law 172 = .ok (.iconst 2, 1) := by decide +kernel
theorem dL_law_173 : decode cL_law 173 = .ok (.iadd, 1) := by decide +kernel
theorem dL_law_174 : decode cL_law 174 = .ok (.iaload, 1) := by decide +kernel
theorem dL_law_175 : decode cL_law 175 = .ok (.aload_n 0, 1) := by decide +kernel
theorem dL_law_176 : decode cL_law 176 = .ok (.iload 4, 2) := by decide +kernel
theorem dL_law_178 : decode cL_law 178 = .ok (.iconst 3, 1) := by decide +kernel
theorem dL_law_179 : decode cL_law 179 = .ok (.iadd, 1) := by decide +kernel
theorem dL_law_180 : decode cL_law 180 = .ok (.iaload, 1) := by decide +kernel
theorem dL_law_181 : decode cL_law 181 = .ok (.aload_n 0, 1) := by decide +kernel
theorem dL_law_182 : decode cL_law 182 = .ok (.iload 4, 2) := by decide +kernel
theorem dL_law_184 : decode cL_law 184 = .ok (.iconst 4, 1) := by decide +kernel
theorem dL_law_185 : decode cL_law 185 = .ok (.iadd, 1) := by decide +kernel
theorem dL_law_186 : decode cL_law 186 = .ok (.iaload, 1) := by decide +kernel
theorem dL_law_187 : decode cL_law 187 = .ok (.aload_n 0, 1) := by decide +kernel
theorem dL_law_188 : decode cL_law 188 = .ok (.iload 4, 2) := by decide +kernel
theorem dL_law_190 : decode cL_law 190 = .ok (.iconst 5, 1) := by decide +kernel
theorem dL_law_191 : decode cL_law 191 = .ok (.iadd, 1) := by decide +kernel
theorem dL_law_192 : decode cL_law 192 = .ok (.iaload, 1) := by decide +kernel
theorem dL_law_193 : decode cL_law 193 = .ok (.invokevirtual 71, 3) := by decide +kernel
theorem dL_law_196 : decode cL_law 196 = .ok (.if_icmp .eq 880, 3) := by decide +kernel
theorem dL_law_199 : decode cL_law 199 = .ok (.iconst 0, 1) := by decide +kernel
theorem dL_law_200 : decode cL_law 200 = .ok (.ireturn, 1) := by decide +kernel
theorem dL_law_201 : decode cL_law 201 = .ok (.aload_n 1, 1) := by decide +kernel
theorem dL_law_202 : decode cL_law 202 = .ok (.aload_n 0, 1) := by decide +kernel
theorem dL_law_203 : decode cL_law 203 = .ok (.iload 4, 2) := by decide +kernel
theorem dL_law_205 : decode cL_law 205 = .ok (.iconst 1, 1) := by decide +kernel
theorem dL_law_206 : decode cL_law 206 = .ok (.iadd, 1) := by decide +kernel
theorem dL_law_207 : decode cL_law 207 = .ok (.iaload, 1) := by decide +kernel
theorem dL_law_208 : decode cL_law 208 = .ok (.invokevirtual 72, 3) := by decide +kernel
theorem dL_law_211 : decode cL_law 211 = .ok (.aload_n 2, 1) := by decide +kernel
theorem dL_law_212 : decode cL_law 212 = .ok (.aload_n 0, 1) := by decide +kernel
theorem dL_law_213 : decode cL_law 213 = .ok (.iload 4, 2) := by decide +kernel
theorem dL_law_215 : decode cL_law 215 = .ok (.iconst 1, 1) := by decide +kernel
theorem dL_law_216 : decode cL_law 216 = .ok (.iadd, 1) := by decide +kernel
theorem dL_law_217 : decode cL_law 217 = .ok (.iaload, 1) := by decide +kernel
theorem dL_law_218 : decode cL_law 218 = .ok (.invokevirtual 75, 3) := by decide +kernel
theorem dL_law_221 : decode cL_law 221 = .ok (.if_icmp .eq 855, 3) := by decide +kernel
theorem dL_law_224 : decode cL_law 224 = .ok (.iconst 0, 1) := by decide +kernel
theorem dL_law_225 : decode cL_law 225 = .ok (.ireturn, 1) := by decide +kernel
theorem dL_law_226 : decode cL_law 226 = .ok (.aload_n 1, 1) := by decide +kernel
theorem dL_law_227 : decode cL_law 227 = .ok (.aload_n 3, 1) := by decide +kernel
theorem dL_law_228 : decode cL_law 228 = .ok (.invokestatic 76, 3) := by decide +kernel
theorem dL_law_231 : decode cL_law 231 = .ok (.istore 5, 2) := by decide +kernel
theorem dL_law_233 : decode cL_law 233 = .ok (.aload_n 2, 1) := by decide +kernel
theorem dL_law_234 : decode cL_law 234 = .ok (.invokevirtual 81, 3) := by decide +kernel
theorem dL_law_237 : decode cL_law 237 = .ok (.istore 6, 2) := by decide +kernel
theorem dL_law_239 : decode cL_law 239 = .ok (.aload_n 2, 1) := by decide +kernel
theorem dL_law_240 : decode cL_law 240 = .ok (.invokevirtual 82, 3) := by decide +kernel
theorem dL_law_243 : decode cL_law 243 = .ok (.iload 5, 2) := by decide +kernel
theorem dL_law_245 : decode cL_law 245 = .ok (.if_icmp .eq 5, 3) := by decide +kernel
theorem dL_law_248 : decode cL_law 248 = .ok (.iconst 0, 1) := by decide +kernel
theorem dL_law_249 : decode cL_law 249 = .ok (.ireturn, 1) := by decide +kernel
theorem dL_law_250 : decode cL_law 250 = .ok (.iload 5, 2) := by decide +kernel
theorem dL_law_252 : decode cL_law 252 = .ok (.ifCond .ne 15, 3) := by decide +kernel
theorem dL_law_255 : decode cL_law 255 = .ok (.aload_n 3, 1) := by decide +kernel
theorem dL_law_256 : decode cL_law 256 = .ok (.iconst 0, 1) := by decide +kernel
theorem dL_law_257 : decode cL_law 257 = .ok (.laload, 1) := by decide +kernel
theorem dL_law_258 : decode cL_law 258 = .ok (.iload 6, 2) := by decide +kernel
theorem dL_law_260 : decode cL_law 260 = .ok (.i2l, 1) := by decide +kernel
theorem dL_law_261 : decode cL_law 261 = .ok (.lcmp, 1) := by decide +kernel
theorem dL_law_262 : decode cL_law 262 = .ok (.ifCond .eq 5, 3) := by decide +kernel
theorem dL_law_265 : decode cL_law 265 = .ok (.iconst 0, 1) := by decide +kernel
theorem dL_law_266 : decode cL_law 266 = .ok (.ireturn, 1) := by decide +kernel
theorem dL_law_267 : decode cL_law 267 = .ok (.goto 809, 3) := by decide +kernel
theorem dL_law_270 : decode cL_law 270 = .ok (.aload_n 1, 1) := by decide +kernel
theorem dL_law_271 : decode cL_law 271 = .ok (.invokevirtual 85, 3) := by decide +kernel
theorem dL_law_274 : decode cL_law 274 = .ok (.aload_n 2, 1) := by decide +kernel
theorem dL_law_275 : decode cL_law 275 = .ok (.invokevirtual 88, 3) := by decide +kernel
theorem dL_law_278 : decode cL_law 278 = .ok (.if_icmp .eq 798, 3) := by decide +kernel
theorem dL_law_281 : decode cL_law 281 = .ok (.iconst 0, 1) := by decide +kernel
theorem dL_law_282 : decode cL_law 282 = .ok (.ireturn, 1) := by decide +kernel
theorem dL_law_283 : decode cL_law 283 = .ok (.aload_n 1, 1) := by decide +kernel
theorem dL_law_284 : decode cL_law 284 = .ok (.aload_n 0, 1) := by decide +kernel
theorem dL_law_285 : decode cL_law 285 = .ok (.iload 4, 2) := by decide +kernel
theorem dL_law_287 : decode cL_law 287 = .ok (.iconst 1, 1) := by decide +kernel
theorem dL_law_288 : decode cL_law 288 = .ok (.iadd, 1) := by decide +kernel
theorem dL_law_289 : decode cL_law 289 = .ok (.iaload, 1) := by decide +kernel
theorem dL_law_290 : decode cL_law 290 = .ok (.aload_n 3, 1) := by decide +kernel
theorem dL_law_291 : decode cL_law 291 = .ok (.invokestatic 89, 3) := by decide +kernel
theorem dL_law_294 : decode cL_law 294 = .ok (.istore 5, 2) := by decide +kernel
theorem dL_law_296 : decode cL_law 296 = .ok (.aload_n 2, 1) := by decide +kernel
theorem dL_law_297 : decode cL_law 297 = .ok (.aload_n 0, 1) := by decide +kernel
theorem dL_law_298 : decode cL_law 298 = .ok (.iload 4, 2) := by decide +kernel
theorem dL_law_300 : decode cL_law 300 = .ok (.iconst 1, 1) := by decide +kernel
theorem dL_law_301 : decode cL_law 301 = .ok (.iadd, 1) := by decide +kernel
theorem dL_law_302 : decode cL_law 302 = .ok (.iaload, 1) := by decide +kernel
theorem dL_law_303 : decode cL_law 303 = .ok (.invokevirtual 92, 3) := by decide +kernel
theorem dL_law_306 : decode cL_law 306 = .ok (.istore 6, 2) := by decide +kernel
theorem dL_law_308 : decode cL_law 308 = .ok (.aload_n 2, 1) := by decide +kernel
theorem dL_law_309 : decode cL_law 309 = .ok (.invokevirtual 82, 3) := by decide +kernel
theorem dL_law_312 : decode cL_law 312 = .ok (.iload 5, 2) := by decide +kernel
theorem dL_law_314 : decode cL_law 314 = .ok (.if_icmp .eq 5, 3) := by decide +kernel
theorem dL_law_317 : decode cL_law 317 = .ok (.iconst 0, 1) := by decide +kernel
theorem dL_law_318 : decode cL_law 318 = .ok (.ireturn, 1) := by decide +kernel
theorem dL_law_319 : decode cL_law 319 = .ok (.iload 5, 2) := by decide +kernel
theorem dL_law_321 : decode cL_law 321 = .ok (.ifCond .ne 22, 3) := by decide +kernel
theorem dL_law_324 : decode cL_law 324 = .ok (.aload_n 3, 1) := by decide +kernel
theorem dL_law_325 : decode cL_law 325 = .ok (.iconst 0, 1) := by decide +kernel
theorem dL_law_326 : decode cL_law 326 = .ok (.laload, 1) := by decide +kernel
theorem dL_law_327 : decode cL_law 327 = .ok (.iload 6, 2) := by decide +kernel
theorem dL_law_329 : decode cL_law 329 = .ok (.ifCond .eq 7, 3) := by decide +kernel
theorem dL_law_332 : decode cL_law 332 = .ok (.lconst 1, 1) := by decide +kernel
theorem dL_law_333 : decode cL_law 333 = .ok (.goto 4, 3) := by decide +kernel
theorem dL_law_336 : decode cL_law 336 = .ok (.lconst 0, 1) := by decide +kernel
theorem dL_law_337 : decode cL_law 337 = .ok (.lcmp, 1) := by decide +kernel
theorem dL_law_338 : decode cL_law 338 = .ok (.ifCond .eq 5, 3) := by decide +kernel
theorem dL_law_341 : decode cL_law 341 = .ok (.iconst 0, 1) := by decide +kernel
theorem dL_law_342 : decode cL_law 342 = .ok (.ireturn, 1) := by decide +kernel
theorem dL_law_343 : decode cL_law 343 = .ok (.goto 733, 3) := by decide +kernel
theorem dL_law_346 : decode cL_law 346 = .ok (.aload_n 1, 1) := by decide +kernel
theorem dL_law_347 : decode cL_law 347 = .ok (.aload_n 0, 1) := by decide +kernel
theorem dL_law_348 : decode cL_law 348 = .ok (.iload 4, 2) := by decide +kernel
theorem dL_law_350 : decode cL_law 350 = .ok (.iconst 1, 1) := by decide +kernel
theorem dL_law_351 : decode cL_law 351 = .ok (.iadd, 1) := by decide +kernel
theorem dL_law_352 : decode cL_law 352 = .ok (.iaload, 1) := by decide +kernel
theorem dL_law_353 : decode cL_law 353 = .ok (.aload_n 3, 1) := by decide +kernel
theorem dL_law_354 : decode cL_law 354 = .ok (.invokestatic 93, 3) := by decide +kernel
theorem dL_law_357 : decode cL_law 357 = .ok (.istore 5, 2) := by decide +kernel
theorem dL_law_359 : decode cL_law 359 = .ok (.aload_n 2, 1) := by decide +kernel
theorem dL_law_360 : decode cL_law 360 = .ok (.aload_n 0, 1) := by decide +kernel
theorem dL_law_361 : decode cL_law 361 = .ok (.iload 4, 2) := by decide +kernel
theorem dL_law_363 : decode cL_law 363 = .ok (.iconst 1, 1) := by decide +kernel
theorem dL_law_364 : decode cL_law 364 = .ok (.iadd, 1) := by decide +kernel
theorem dL_law_365 : decode cL_law 365 = .ok (.iaload, 1) := by decide +kernel
theorem dL_law_366 : decode cL_law 366 = .ok (.invokevirtual 95, 3) := by decide +kernel
theorem dL_law_369 : decode cL_law 369 = .ok (.istore 6, 2) := by decide +kernel
theorem dL_law_371 : decode cL_law 371 = .ok (.aload_n 2, 1) := by decide +kernel
theorem dL_law_372 : decode cL_law 372 = .ok (.invokevirtual 82, 3) := by decide +kernel
theorem dL_law_375 : decode cL_law 375 = .ok (.iload 5, 2) := by decide +kernel
theorem dL_law_377 : decode cL_law 377 = .ok (.if_icmp .eq 5, 3) := by decide +kernel
theorem dL_law_380 : decode cL_law 380 = .ok (.iconst 0, 1) := by decide +kernel
theorem dL_law_381 : decode cL_law 381 = .ok (.ireturn, 1) := by decide +kernel
theorem dL_law_382 : decode cL_law 382 = .ok (.iload 5, 2) := by decide +kernel
theorem dL_law_384 : decode cL_law 384 = .ok (.ifCond .ne 22, 3) := by decide +kernel
theorem dL_law_387 : decode cL_law 387 = .ok (.aload_n 3, 1) := by decide +kernel
theorem dL_law_388 : decode cL_law 388 = .ok (.iconst 0, 1) := by decide +kernel
theorem dL_law_389 : decode cL_law 389 = .ok (.laload, 1) := by decide +kernel
theorem dL_law_390 : decode cL_law 390 = .ok (.iload 6, 2) := by decide +kernel
theorem dL_law_392 : decode cL_law 392 = .ok (.ifCond .eq 7, 3) := by decide +kernel
theorem dL_law_395 : decode cL_law 395 = .ok (.lconst 1, 1) := by decide +kernel
theorem dL_law_396 : decode cL_law 396 = .ok (.goto 4, 3) := by decide +kernel
theorem dL_law_399 : decode cL_law 399 = .ok (.lconst 0, 1) := by decide +kernel
theorem dL_law_400 : decode cL_law 400 = .ok (.lcmp, 1) := by decide +kernel
theorem dL_law_401 : decode cL_law 401 = .ok (.ifCond .eq 5, 3) := by decide +kernel
theorem dL_law_404 : decode cL_law 404 = .ok (.iconst 0, 1) := by decide +kernel
theorem dL_law_405 : decode cL_law 405 = .ok (.ireturn, 1) := by decide +kernel
theorem dL_law_406 : decode cL_law 406 = .ok (.goto 670, 3) := by decide +kernel
theorem dL_law_409 : decode cL_law 409 = .ok (.aload_n 1, 1) := by decide +kernel
theorem dL_law_410 : decode cL_law 410 = .ok (.aload_n 0, 1) := by decide +kernel
theorem dL_law_411 : decode cL_law 411 = .ok (.iload 4, 2) := by decide +kernel
theorem dL_law_413 : decode cL_law 413 = .ok (.iconst 1, 1) := by decide +kernel
theorem dL_law_414 : decode cL_law 414 = .ok (.iadd, 1) := by decide +kernel
theorem dL_law_415 : decode cL_law 415 = .ok (.iaload, 1) := by decide +kernel
theorem dL_law_416 : decode cL_law 416 = .ok (.aload_n 3, 1) := by decide +kernel
theorem dL_law_417 : decode cL_law 417 = .ok (.invokestatic 96, 3) := by decide +kernel
theorem dL_law_420 : decode cL_law 420 = .ok (.istore 5, 2) := by decide +kernel
theorem dL_law_422 : decode cL_law 422 = .ok (.aload_n 2, 1) := by decide +kernel
theorem dL_law_423 : decode cL_law 423 = .ok (.aload_n 0, 1) := by decide +kernel
theorem dL_law_424 : decode cL_law 424 = .ok (.iload 4, 2) := by decide +kernel
theorem dL_law_426 : decode cL_law 426 = .ok (.iconst 1, 1) := by decide +kernel
theorem dL_law_427 : decode cL_law 427 = .ok (.iadd, 1) := by decide +kernel
theorem dL_law_428 : decode cL_law 428 = .ok (.iaload, 1) := by decide +kernel
theorem dL_law_429 : decode cL_law 429 = .ok (.invokevirtual 98, 3) := by decide +kernel
theorem dL_law_432 : decode cL_law 432 = .ok (.istore 6, 2) := by decide +kernel
theorem dL_law_434 : decode cL_law 434 = .ok (.aload_n 2, 1) := by decide +kernel
theorem dL_law_435 : decode cL_law 435 = .ok (.invokevirtual 82, 3) := by decide +kernel
theorem dL_law_438 : decode cL_law 438 = .ok (.iload 5, 2) := by decide +kernel
theorem dL_law_440 : decode cL_law 440 = .ok (.if_icmp .eq 5, 3) := by decide +kernel
theorem dL_law_443 : decode cL_law 443 = .ok (.iconst 0, 1) := by decide +kernel
theorem dL_law_444 : decode cL_law 444 = .ok (.ireturn, 1) := by decide +kernel
theorem dL_law_445 : decode cL_law 445 = .ok (.iload 5, 2) := by decide +kernel
theorem dL_law_447 : decode cL_law 447 = .ok (.ifCond .ne 22, 3) := by decide +kernel
theorem dL_law_450 : decode cL_law 450 = .ok (.aload_n 3, 1) := by decide +kernel
theorem dL_law_451 : decode cL_law 451 = .ok (.iconst 0, 1) := by decide +kernel
theorem dL_law_452 : decode cL_law 452 = .ok (.laload, 1) := by decide +kernel
theorem dL_law_453 : decode cL_law 453 = .ok (.iload 6, 2) := by decide +kernel
theorem dL_law_455 : decode cL_law 455 = .ok (.ifCond .eq 7, 3) := by decide +kernel
theorem dL_law_458 : decode cL_law 458 = .ok (.lconst 1, 1) := by decide +kernel
theorem dL_law_459 : decode cL_law 459 = .ok (.goto 4, 3) := by decide +kernel
theorem dL_law_462 : decode cL_law 462 = .ok (.lconst 0, 1) := by decide +kernel
theorem dL_law_463 : decode cL_law 463 = .ok (.lcmp, 1) := by decide +kernel
theorem dL_law_464 : decode cL_law 464 = .ok (.ifCond .eq 5, 3) := by decide +kernel
theorem dL_law_467 : decode cL_law 467 = .ok (.iconst 0, 1) := by decide +kernel
theorem dL_law_468 : decode cL_law 468 = .ok (.ireturn, 1) := by decide +kernel
theorem dL_law_469 : decode cL_law 469 = .ok (.goto 607, 3) := by decide +kernel
theorem dL_law_472 : decode cL_law 472 = .ok (.aload_n 1, 1) := by decide +kernel
theorem dL_law_473 : decode cL_law 473 = .ok (.aload_n 0, 1) := by decide +kernel
theorem dL_law_474 : decode cL_law 474 = .ok (.iload 4, 2) := by decide +kernel
theorem dL_law_476 : decode cL_law 476 = .ok (.iconst 1, 1) := by decide +kernel
theorem dL_law_477 : decode cL_law 477 = .ok (.iadd, 1) := by decide +kernel
theorem dL_law_478 : decode cL_law 478 = .ok (.iaload, 1) := by decide +kernel
theorem dL_law_479 : decode cL_law 479 = .ok (.aload_n 3, 1) := by decide +kernel
theorem dL_law_480 : decode cL_law 480 = .ok (.invokestatic 99, 3) := by decide +kernel
theorem dL_law_483 : decode cL_law 483 = .ok (.istore 5, 2) := by decide +kernel
theorem dL_law_485 : decode cL_law 485 = .ok (.aload_n 2, 1) := by decide +kernel
theorem dL_law_486 : decode cL_law 486 = .ok (.aload_n 0, 1) := by decide +kernel
theorem dL_law_487 : decode cL_law 487 = .ok (.iload 4, 2) := by decide +kernel
theorem dL_law_489 : decode cL_law 489 = .ok (.iconst 1, 1) := by decide +kernel
theorem dL_law_490 : decode cL_law 490 = .ok (.iadd, 1) := by decide +kernel
theorem dL_law_491 : decode cL_law 491 = .ok (.iaload, 1) := by decide +kernel
theorem dL_law_492 : decode cL_law 492 = .ok (.invokevirtual 101, 3) := by decide +kernel
theorem dL_law_495 : decode cL_law 495 = .ok (.istore 6, 2) := by decide +kernel
theorem dL_law_497 : decode cL_law 497 = .ok (.aload_n 2, 1) := by decide +kernel
theorem dL_law_498 : decode cL_law 498 = .ok (.invokevirtual 82, 3) := by decide +kernel
theorem dL_law_501 : decode cL_law 501 = .ok (.iload 5, 2) := by decide +kernel
theorem dL_law_503 : decode cL_law 503 = .ok (.if_icmp .eq 5, 3) := by decide +kernel
theorem dL_law_506 : decode cL_law 506 = .ok (.iconst 0, 1) := by decide +kernel
theorem dL_law_507 : decode cL_law 507 = .ok (.ireturn, 1) := by decide +kernel
theorem dL_law_508 : decode cL_law 508 = .ok (.iload 5, 2) := by decide +kernel
theorem dL_law_510 : decode cL_law 510 = .ok (.ifCond .ne 22, 3) := by decide +kernel
theorem dL_law_513 : decode cL_law 513 = .ok (.aload_n 3, 1) := by decide +kernel
theorem dL_law_514 : decode cL_law 514 = .ok (.iconst 0, 1) := by decide +kernel
theorem dL_law_515 : decode cL_law 515 = .ok (.laload, 1) := by decide +kernel
theorem dL_law_516 : decode cL_law 516 = .ok (.iload 6, 2) := by decide +kernel
theorem dL_law_518 : decode cL_law 518 = .ok (.ifCond .eq 7, 3) := by decide +kernel
theorem dL_law_521 : decode cL_law 521 = .ok (.lconst 1, 1) := by decide +kernel
theorem dL_law_522 : decode cL_law 522 = .ok (.goto 4, 3) := by decide +kernel
theorem dL_law_525 : decode cL_law 525 = .ok (.lconst 0, 1) := by decide +kernel
theorem dL_law_526 : decode cL_law 526 = .ok (.lcmp, 1) := by decide +kernel
theorem dL_law_527 : decode cL_law 527 = .ok (.ifCond .eq 5, 3) := by decide +kernel
theorem dL_law_530 : decode cL_law 530 = .ok (.iconst 0, 1) := by decide +kernel
theorem dL_law_531 : decode cL_law 531 = .ok (.ireturn, 1) := by decide +kernel
theorem dL_law_532 : decode cL_law 532 = .ok (.goto 544, 3) := by decide +kernel
theorem dL_law_535 : decode cL_law 535 = .ok (.aload_n 1, 1) := by decide +kernel
theorem dL_law_536 : decode cL_law 536 = .ok (.aload_n 3, 1) := by decide +kernel
theorem dL_law_537 : decode cL_law 537 = .ok (.invokestatic 102, 3) := by decide +kernel
theorem dL_law_540 : decode cL_law 540 = .ok (.istore 5, 2) := by decide +kernel
theorem dL_law_542 : decode cL_law 542 = .ok (.aload_n 2, 1) := by decide +kernel
theorem dL_law_543 : decode cL_law 543 = .ok (.invokevirtual 104, 3) := by decide +kernel
theorem dL_law_546 : decode cL_law 546 = .ok (.istore 6, 2) := by decide +kernel
theorem dL_law_548 : decode cL_law 548 = .ok (.aload_n 2, 1) := by decide +kernel
theorem dL_law_549 : decode cL_law 549 = .ok (.invokevirtual 82, 3) := by decide +kernel
theorem dL_law_552 : decode cL_law 552 = .ok (.iload 5, 2) := by decide +kernel
theorem dL_law_554 : decode cL_law 554 = .ok (.if_icmp .eq 5, 3) := by decide +kernel
theorem dL_law_557 : decode cL_law 557 = .ok (.iconst 0, 1) := by decide +kernel
theorem dL_law_558 : decode cL_law 558 = .ok (.ireturn, 1) := by decide +kernel
theorem dL_law_559 : decode cL_law 559 = .ok (.iload 5, 2) := by decide +kernel
theorem dL_law_561 : decode cL_law 561 = .ok (.ifCond .ne 15, 3) := by decide +kernel
theorem dL_law_564 : decode cL_law 564 = .ok (.aload_n 3, 1) := by decide +kernel
theorem dL_law_565 : decode cL_law 565 = .ok (.iconst 0, 1) := by decide +kernel
theorem dL_law_566 : decode cL_law 566 = .ok (.laload, 1) := by decide +kernel
theorem dL_law_567 : decode cL_law 567 = .ok (.iload 6, 2) := by decide +kernel
theorem dL_law_569 : decode cL_law 569 = .ok (.i2l, 1) := by decide +kernel
theorem dL_law_570 : decode cL_law 570 = .ok (.lcmp, 1) := by decide +kernel
theorem dL_law_571 : decode cL_law 571 = .ok (.ifCond .eq 5, 3) := by decide +kernel
theorem dL_law_574 : decode cL_law 574 = .ok (.iconst 0, 1) := by decide +kernel
theorem dL_law_575 : decode cL_law 575 = .ok (.ireturn, 1) := by decide +kernel
theorem dL_law_576 : decode cL_law 576 = .ok (.goto 500, 3) := by decide +kernel
theorem dL_law_579 : decode cL_law 579 = .ok (.aload_n 1, 1) := by decide +kernel
theorem dL_law_580 : decode cL_law 580 = .ok (.invokestatic 105, 3) := by decide +kernel
theorem dL_law_583 : decode cL_law 583 = .ok (.istore 5, 2) := by decide +kernel
theorem dL_law_585 : decode cL_law 585 = .ok (.aload_n 2, 1) := by decide +kernel
theorem dL_law_586 : decode cL_law 586 = .ok (.invokevirtual 108, 3) := by decide +kernel
theorem dL_law_589 : decode cL_law 589 = .ok (.aload_n 2, 1) := by decide +kernel
theorem dL_law_590 : decode cL_law 590 = .ok (.invokevirtual 82, 3) := by decide +kernel
theorem dL_law_593 : decode cL_law 593 = .ok (.iload 5, 2) := by decide +kernel
theorem dL_law_595 : decode cL_law 595 = .ok (.if_icmp .eq 5, 3) := by decide +kernel
theorem dL_law_598 : decode cL_law 598 = .ok (.iconst 0, 1) := by decide +kernel
theorem dL_law_599 : decode cL_law 599 = .ok (.ireturn, 1) := by decide +kernel
theorem dL_law_600 : decode cL_law 600 = .ok (.goto 476, 3) := by decide +kernel
theorem dL_law_603 : decode cL_law 603 = .ok (.aload_n 1, 1) := by decide +kernel
theorem dL_law_604 : decode cL_law 604 = .ok (.aload_n 0, 1) := by decide +kernel
theorem dL_law_605 : decode cL_law 605 = .ok (.iload 4, 2) := by decide +kernel
theorem dL_law_607 : decode cL_law 607 = .ok (.iconst 1, 1) := by decide +kernel
theorem dL_law_608 : decode cL_law 608 = .ok (.iadd, 1) := by decide +kernel
theorem dL_law_609 : decode cL_law 609 = .ok (.iaload, 1) := by decide +kernel
theorem dL_law_610 : decode cL_law 610 = .ok (.ifCond .eq 7, 3) := by decide +kernel
theorem dL_law_613 : decode cL_law 613 = .ok (.iconst 1, 1) := by decide +kernel
theorem dL_law_614 : decode cL_law 614 = .ok (.goto 4, 3) := by decide +kernel
theorem dL_law_617 : decode cL_law 617 = .ok (.iconst 0, 1) := by decide +kernel
theorem dL_law_618 : decode cL_law 618 = .ok (.aload_n 3, 1) := by decide +kernel
theorem dL_law_619 : decode cL_law 619 = .ok (.invokestatic 109, 3) := by decide +kernel
theorem dL_law_622 : decode cL_law 622 = .ok (.istore 5, 2) := by decide +kernel
theorem dL_law_624 : decode cL_law 624 = .ok (.aload_n 2, 1) := by decide +kernel
theorem dL_law_625 : decode cL_law 625 = .ok (.aload_n 0, 1) := by decide +kernel
theorem dL_law_626 : decode cL_law 626 = .ok (.iload 4, 2) := by decide +kernel
theorem dL_law_628 : decode cL_law 628 = .ok (.iconst 1, 1) := by decide +kernel
theorem dL_law_629 : decode cL_law 629 = .ok (.iadd, 1) := by decide +kernel
theorem dL_law_630 : decode cL_law 630 = .ok (.iaload, 1) := by decide +kernel
theorem dL_law_631 : decode cL_law 631 = .ok (.ifCond .eq 7, 3) := by decide +kernel
theorem dL_law_634 : decode cL_law 634 = .ok (.iconst 1, 1) := by decide +kernel
theorem dL_law_635 : decode cL_law 635 = .ok (.goto 4, 3) := by decide +kernel
theorem dL_law_638 : decode cL_law 638 = .ok (.iconst 0, 1) := by decide +kernel
theorem dL_law_639 : decode cL_law 639 = .ok (.invokevirtual 112, 3) := by decide +kernel
theorem dL_law_642 : decode cL_law 642 = .ok (.istore 6, 2) := by decide +kernel
theorem dL_law_644 : decode cL_law 644 = .ok (.aload_n 2, 1) := by decide +kernel
theorem dL_law_645 : decode cL_law 645 = .ok (.invokevirtual 82, 3) := by decide +kernel
theorem dL_law_648 : decode cL_law 648 = .ok (.iload 5, 2) := by decide +kernel
theorem dL_law_650 : decode cL_law 650 = .ok (.if_icmp .eq 5, 3) := by decide +kernel
theorem dL_law_653 : decode cL_law 653 = .ok (.iconst 0, 1) := by decide +kernel
theorem dL_law_654 : decode cL_law 654 = .ok (.ireturn, 1) := by decide +kernel
theorem dL_law_655 : decode cL_law 655 = .ok (.iload 5, 2) := by decide +kernel
theorem dL_law_657 : decode cL_law 657 = .ok (.ifCond .ne 15, 3) := by decide +kernel
theorem dL_law_660 : decode cL_law 660 = .ok (.aload_n 3, 1) := by decide +kernel
theorem dL_law_661 : decode cL_law 661 = .ok (.iconst 0, 1) := by decide +kernel
theorem dL_law_662 : decode cL_law 662 = .ok (.laload, 1) := by decide +kernel
theorem dL_law_663 : decode cL_law 663 = .ok (.iload 6, 2) := by decide +kernel
theorem dL_law_665 : decode cL_law 665 = .ok (.i2l, 1) := by decide +kernel
theorem dL_law_666 : decode cL_law 666 = .ok (.lcmp, 1) := by decide +kernel
theorem dL_law_667 : decode cL_law 667 = .ok (.ifCond .eq 5, 3) := by decide +kernel
theorem dL_law_670 : decode cL_law 670 = .ok (.iconst 0, 1) := by decide +kernel
theorem dL_law_671 : decode cL_law 671 = .ok (.ireturn, 1) := by decide +kernel
theorem dL_law_672 : decode cL_law 672 = .ok (.goto 404, 3) := by decide +kernel
theorem dL_law_675 : decode cL_law 675 = .ok (.aload_n 1, 1) := by decide +kernel
theorem dL_law_676 : decode cL_law 676 = .ok (.aload_n 0, 1) := by decide +kernel
theorem dL_law_677 : decode cL_law 677 = .ok (.iload 4, 2) := by decide +kernel
theorem dL_law_679 : decode cL_law 679 = .ok (.iconst 1, 1) := by decide +kernel
theorem dL_law_680 : decode cL_law 680 = .ok (.iadd, 1) := by decide +kernel
theorem dL_law_681 : decode cL_law 681 = .ok (.iaload, 1) := by decide +kernel
theorem dL_law_682 : decode cL_law 682 = .ok (.aload_n 0, 1) := by decide +kernel
theorem dL_law_683 : decode cL_law 683 = .ok (.iload 4, 2) := by decide +kernel
theorem dL_law_685 : decode cL_law 685 = .ok (.iconst 2, 1) := by decide +kernel
theorem dL_law_686 : decode cL_law 686 = .ok (.iadd, 1) := by decide +kernel
theorem dL_law_687 : decode cL_law 687 = .ok (.iaload, 1) := by decide +kernel
theorem dL_law_688 : decode cL_law 688 = .ok (.aload_n 3, 1) := by decide +kernel
theorem dL_law_689 : decode cL_law 689 = .ok (.invokestatic 113, 3) := by decide +kernel
theorem dL_law_692 : decode cL_law 692 = .ok (.istore 5, 2) := by decide +kernel
theorem dL_law_694 : decode cL_law 694 = .ok (.aload_n 2, 1) := by decide +kernel
theorem dL_law_695 : decode cL_law 695 = .ok (.aload_n 0, 1) := by decide +kernel
theorem dL_law_696 : decode cL_law 696 = .ok (.iload 4, 2) := by decide +kernel
theorem dL_law_698 : decode cL_law 698 = .ok (.iconst 1, 1) := by decide +kernel
theorem dL_law_699 : decode cL_law 699 = .ok (.iadd, 1) := by decide +kernel
theorem dL_law_700 : decode cL_law 700 = .ok (.iaload, 1) := by decide +kernel
theorem dL_law_701 : decode cL_law 701 = .ok (.aload_n 0, 1) := by decide +kernel
theorem dL_law_702 : decode cL_law 702 = .ok (.iload 4, 2) := by decide +kernel
theorem dL_law_704 : decode cL_law 704 = .ok (.iconst 2, 1) := by decide +kernel
theorem dL_law_705 : decode cL_law 705 = .ok (.iadd, 1) := by decide +kernel
theorem dL_law_706 : decode cL_law 706 = .ok (.iaload, 1) := by decide +kernel
theorem dL_law_707 : decode cL_law 707 = .ok (.invokevirtual 116, 3) := by decide +kernel
theorem dL_law_710 : decode cL_law 710 = .ok (.istore 6, 2) := by decide +kernel
theorem dL_law_712 : decode cL_law 712 = .ok (.aload_n 2, 1) := by decide +kernel
theorem dL_law_713 : decode cL_law 713 = .ok (.invokevirtual 82, 3) := by decide +kernel
theorem dL_law_716 : decode cL_law 716 = .ok (.iload 5, 2) := by decide +kernel
theorem dL_law_718 : decode cL_law 718 = .ok (.if_icmp .eq 5, 3) := by decide +kernel
theorem dL_law_721 : decode cL_law 721 = .ok (.iconst 0, 1) := by decide +kernel
theorem dL_law_722 : decode cL_law 722 = .ok (.ireturn, 1) := by decide +kernel
theorem dL_law_723 : decode cL_law 723 = .ok (.iload 5, 2) := by decide +kernel
theorem dL_law_725 : decode cL_law 725 = .ok (.ifCond .ne 15, 3) := by decide +kernel
theorem dL_law_728 : decode cL_law 728 = .ok (.aload_n 3, 1) := by decide +kernel
theorem dL_law_729 : decode cL_law 729 = .ok (.iconst 0, 1) := by decide +kernel
theorem dL_law_730 : decode cL_law 730 = .ok (.laload, 1) := by decide +kernel
theorem dL_law_731 : decode cL_law 731 = .ok (.iload 6, 2) := by decide +kernel
theorem dL_law_733 : decode cL_law 733 = .ok (.i2l, 1) := by decide +kernel
theorem dL_law_734 : decode cL_law 734 = .ok (.lcmp, 1) := by decide +kernel
theorem dL_law_735 : decode cL_law 735 = .ok (.ifCond .eq 5, 3) := by decide +kernel
theorem dL_law_738 : decode cL_law 738 = .ok (.iconst 0, 1) := by decide +kernel
theorem dL_law_739 : decode cL_law 739 = .ok (.ireturn, 1) := by decide +kernel
theorem dL_law_740 : decode cL_law 740 = .ok (.goto 336, 3) := by decide +kernel
theorem dL_law_743 : decode cL_law 743 = .ok (.aload_n 1, 1) := by decide +kernel
theorem dL_law_744 : decode cL_law 744 = .ok (.aload_n 3, 1) := by decide +kernel
theorem dL_law_745 : decode cL_law 745 = .ok (.invokestatic 117, 3) := by decide +kernel
theorem dL_law_748 : decode cL_law 748 = .ok (.istore 5, 2) := by decide +kernel
theorem dL_law_750 : decode cL_law 750 = .ok (.aload_n 2, 1) := by decide +kernel
theorem dL_law_751 : decode cL_law 751 = .ok (.invokevirtual 119, 3) := by decide +kernel
theorem dL_law_754 : decode cL_law 754 = .ok (.istore 6, 2) := by decide +kernel
theorem dL_law_756 : decode cL_law 756 = .ok (.aload_n 2, 1) := by decide +kernel
theorem dL_law_757 : decode cL_law 757 = .ok (.invokevirtual 82, 3) := by decide +kernel
theorem dL_law_760 : decode cL_law 760 = .ok (.iload 5, 2) := by decide +kernel
theorem dL_law_762 : decode cL_law 762 = .ok (.if_icmp .eq 5, 3) := by decide +kernel
theorem dL_law_765 : decode cL_law 765 = .ok (.iconst 0, 1) := by decide +kernel
theorem dL_law_766 : decode cL_law 766 = .ok (.ireturn, 1) := by decide +kernel
theorem dL_law_767 : decode cL_law 767 = .ok (.iload 5, 2) := by decide +kernel
theorem dL_law_769 : decode cL_law 769 = .ok (.ifCond .ne 22, 3) := by decide +kernel
theorem dL_law_772 : decode cL_law 772 = .ok (.aload_n 3, 1) := by decide +kernel
theorem dL_law_773 : decode cL_law 773 = .ok (.iconst 0, 1) := by decide +kernel
theorem dL_law_774 : decode cL_law 774 = .ok (.laload, 1) := by decide +kernel
theorem dL_law_775 : decode cL_law 775 = .ok (.iload 6, 2) := by decide +kernel
theorem dL_law_777 : decode cL_law 777 = .ok (.ifCond .eq 7, 3) := by decide +kernel
theorem dL_law_780 : decode cL_law 780 = .ok (.lconst 1, 1) := by decide +kernel
theorem dL_law_781 : decode cL_law 781 = .ok (.goto 4, 3) := by decide +kernel
theorem dL_law_784 : decode cL_law 784 = .ok (.lconst 0, 1) := by decide +kernel
theorem dL_law_785 : decode cL_law 785 = .ok (.lcmp, 1) := by decide +kernel
theorem dL_law_786 : decode cL_law 786 = .ok (.ifCond .eq 5, 3) := by decide +kernel
theorem dL_law_789 : decode cL_law 789 = .ok (.iconst 0, 1) := by decide +kernel
theorem dL_law_790 : decode cL_law 790 = .ok (.ireturn, 1) := by decide +kernel
theorem dL_law_791 : decode cL_law 791 = .ok (.goto 285, 3) := by decide +kernel
theorem dL_law_794 : decode cL_law 794 = .ok (.aload_n 1, 1) := by decide +kernel
theorem dL_law_795 : decode cL_law 795 = .ok (.aload_n 3, 1) := by decide +kernel
theorem dL_law_796 : decode cL_law 796 = .ok (.invokestatic 120, 3) := by decide +kernel
theorem dL_law_799 : decode cL_law 799 = .ok (.istore 5, 2) := by decide +kernel
theorem dL_law_801 : decode cL_law 801 = .ok (.aload_n 2, 1) := by decide +kernel
theorem dL_law_802 : decode cL_law 802 = .ok (.invokevirtual 122, 3) := by decide +kernel
theorem dL_law_805 : decode cL_law 805 = .ok (.istore 6, 2) := by decide +kernel
theorem dL_law_807 : decode cL_law 807 = .ok (.aload_n 2, 1) := by decide +kernel
theorem dL_law_808 : decode cL_law 808 = .ok (.invokevirtual 82, 3) := by decide +kernel
theorem dL_law_811 : decode cL_law 811 = .ok (.iload 5, 2) := by decide +kernel
theorem dL_law_813 : decode cL_law 813 = .ok (.if_icmp .eq 5, 3) := by decide +kernel
theorem dL_law_816 : decode cL_law 816 = .ok (.iconst 0, 1) := by decide +kernel
theorem dL_law_817 : decode cL_law 817 = .ok (.ireturn, 1) := by decide +kernel
theorem dL_law_818 : decode cL_law 818 = .ok (.iload 5, 2) := by decide +kernel
theorem dL_law_820 : decode cL_law 820 = .ok (.ifCond .ne 15, 3) := by decide +kernel
theorem dL_law_823 : decode cL_law 823 = .ok (.aload_n 3, 1) := by decide +kernel
theorem dL_law_824 : decode cL_law 824 = .ok (.iconst 0, 1) := by decide +kernel
theorem dL_law_825 : decode cL_law 825 = .ok (.laload, 1) := by decide +kernel
theorem dL_law_826 : decode cL_law 826 = .ok (.iload 6, 2) := by decide +kernel
theorem dL_law_828 : decode cL_law 828 = .ok (.i2l, 1) := by decide +kernel
theorem dL_law_829 : decode cL_law 829 = .ok (.lcmp, 1) := by decide +kernel
theorem dL_law_830 : decode cL_law 830 = .ok (.ifCond .eq 5, 3) := by decide +kernel
theorem dL_law_833 : decode cL_law 833 = .ok (.iconst 0, 1) := by decide +kernel
theorem dL_law_834 : decode cL_law 834 = .ok (.ireturn, 1) := by decide +kernel
theorem dL_law_835 : decode cL_law 835 = .ok (.goto 241, 3) := by decide +kernel
theorem dL_law_838 : decode cL_law 838 = .ok (.aload_n 1, 1) := by decide +kernel
theorem dL_law_839 : decode cL_law 839 = .ok (.aload_n 0, 1) := by decide +kernel
theorem dL_law_840 : decode cL_law 840 = .ok (.iload 4, 2) := by decide +kernel
theorem dL_law_842 : decode cL_law 842 = .ok (.iconst 1, 1) := by decide +kernel
theorem dL_law_843 : decode cL_law 843 = .ok (.iadd, 1) := by decide +kernel
theorem dL_law_844 : decode cL_law 844 = .ok (.iaload, 1) := by decide +kernel
theorem dL_law_845 : decode cL_law 845 = .ok (.invokevirtual 123, 3) := by decide +kernel
theorem dL_law_848 : decode cL_law 848 = .ok (.aload_n 2, 1) := by decide +kernel
theorem dL_law_849 : decode cL_law 849 = .ok (.aload_n 0, 1) := by decide +kernel
theorem dL_law_850 : decode cL_law 850 = .ok (.iload 4, 2) := by decide +kernel
theorem dL_law_852 : decode cL_law 852 = .ok (.iconst 1, 1) := by decide +kernel
theorem dL_law_853 : decode cL_law 853 = .ok (.iadd, 1) := by decide +kernel
theorem dL_law_854 : decode cL_law 854 = .ok (.iaload, 1) := by decide +kernel
theorem dL_law_855 : decode cL_law 855 = .ok (.invokevirtual 127, 3) := by decide +kernel
theorem dL_law_858 : decode cL_law 858 = .ok (.if_icmp .eq 218, 3) := by decide +kernel
theorem dL_law_861 : decode cL_law 861 = .ok (.iconst 0, 1) := by decide +kernel
theorem dL_law_862 : decode cL_law 862 = .ok (.ireturn, 1) := by decide +kernel
theorem dL_law_863 : decode cL_law 863 = .ok (.aload_n 1, 1) := by decide +kernel
theorem dL_law_864 : decode cL_law 864 = .ok (.aload_n 0, 1) := by decide +kernel
theorem dL_law_865 : decode cL_law 865 = .ok (.iload 4, 2) := by decide +kernel
theorem dL_law_867 : decode cL_law 867 = .ok (.iconst 1, 1) := by decide +kernel
theorem dL_law_868 : decode cL_law 868 = .ok (.iadd, 1) := by decide +kernel
theorem dL_law_869 : decode cL_law 869 = .ok (.iaload, 1) := by decide +kernel
theorem dL_law_870 : decode cL_law 870 = .ok (.ifCond .eq 7, 3) := by decide +kernel
theorem dL_law_873 : decode cL_law 873 = .ok (.iconst 1, 1) := by decide +kernel
theorem dL_law_874 : decode cL_law 874 = .ok (.goto 4, 3) := by decide +kernel
theorem dL_law_877 : decode cL_law 877 = .ok (.iconst 0, 1) := by decide +kernel
theorem dL_law_878 : decode cL_law 878 = .ok (.aload_n 0, 1) := by decide +kernel
theorem dL_law_879 : decode cL_law 879 = .ok (.iload 4, 2) := by decide +kernel
theorem dL_law_881 : decode cL_law 881 = .ok (.iconst 2, 1) := by decide +kernel
theorem dL_law_882 : decode cL_law 882 = .ok (.iadd, 1) := by decide +kernel
theorem dL_law_883 : decode cL_law 883 = .ok (.iaload, 1) := by decide +kernel
theorem dL_law_884 : decode cL_law 884 = .ok (.aload_n 0, 1) := by decide +kernel
theorem dL_law_885 : decode cL_law 885 = .ok (.iload 4, 2) := by decide +kernel
theorem dL_law_887 : decode cL_law 887 = .ok (.iconst 3, 1) := by decide +kernel
theorem dL_law_888 : decode cL_law 888 = .ok (.iadd, 1) := by decide +kernel
theorem dL_law_889 : decode cL_law 889 = .ok (.iaload, 1) := by decide +kernel
theorem dL_law_890 : decode cL_law 890 = .ok (.aload_n 0, 1) := by decide +kernel
theorem dL_law_891 : decode cL_law 891 = .ok (.iload 4, 2) := by decide +kernel
theorem dL_law_893 : decode cL_law 893 = .ok (.iconst 4, 1) := by decide +kernel
theorem dL_law_894 : decode cL_law 894 = .ok (.iadd, 1) := by decide +kernel
theorem dL_law_895 : decode cL_law 895 = .ok (.iaload, 1) := by decide +kernel
theorem dL_law_896 : decode cL_law 896 = .ok (.aload_n 3, 1) := by decide +kernel
theorem dL_law_897 : decode cL_law 897 = .ok (.invokestatic 128, 3) := by decide +kernel
theorem dL_law_900 : decode cL_law 900 = .ok (.istore 5, 2) := by decide +kernel
theorem dL_law_902 : decode cL_law 902 = .ok (.aload_n 2, 1) := by decide +kernel
theorem dL_law_903 : decode cL_law 903 = .ok (.aload_n 0, 1) := by decide +kernel
theorem dL_law_904 : decode cL_law 904 = .ok (.iload 4, 2) := by decide +kernel
theorem dL_law_906 : decode cL_law 906 = .ok (.iconst 1, 1) := by decide +kernel
theorem dL_law_907 : decode cL_law 907 = .ok (.iadd, 1) := by decide +kernel
theorem dL_law_908 : decode cL_law 908 = .ok (.iaload, 1) := by decide +kernel
theorem dL_law_909 : decode cL_law 909 = .ok (.ifCond .eq 7, 3) := by decide +kernel
theorem dL_law_912 : decode cL_law 912 = .ok (.iconst 1, 1) := by decide +kernel
theorem dL_law_913 : decode cL_law 913 = .ok (.goto 4, 3) := by decide +kernel
theorem dL_law_916 : decode cL_law 916 = .ok (.iconst 0, 1) := by decide +kernel
theorem dL_law_917 : decode cL_law 917 = .ok (.aload_n 0, 1) := by decide +kernel
theorem dL_law_918 : decode cL_law 918 = .ok (.iload 4, 2) := by decide +kernel
theorem dL_law_920 : decode cL_law 920 = .ok (.iconst 2, 1) := by decide +kernel
theorem dL_law_921 : decode cL_law 921 = .ok (.iadd, 1) := by decide +kernel
theorem dL_law_922 : decode cL_law 922 = .ok (.iaload, 1) := by decide +kernel
theorem dL_law_923 : decode cL_law 923 = .ok (.aload_n 0, 1) := by decide +kernel
theorem dL_law_924 : decode cL_law 924 = .ok (.iload 4, 2) := by decide +kernel
theorem dL_law_926 : decode cL_law 926 = .ok (.iconst 3, 1) := by decide +kernel
theorem dL_law_927 : decode cL_law 927 = .ok (.iadd, 1) := by decide +kernel
theorem dL_law_928 : decode cL_law 928 = .ok (.iaload, 1) := by decide +kernel
theorem dL_law_929 : decode cL_law 929 = .ok (.aload_n 0, 1) := by decide +kernel
theorem dL_law_930 : decode cL_law 930 = .ok (.iload 4, 2) := by decide +kernel
theorem dL_law_932 : decode cL_law 932 = .ok (.iconst 4, 1) := by decide +kernel
theorem dL_law_933 : decode cL_law 933 = .ok (.iadd, 1) := by decide +kernel
theorem dL_law_934 : decode cL_law 934 = .ok (.iaload, 1) := by decide +kernel
theorem dL_law_935 : decode cL_law 935 = .ok (.invokevirtual 131, 3) := by decide +kernel
theorem dL_law_938 : decode cL_law 938 = .ok (.istore 6, 2) := by decide +kernel
theorem dL_law_940 : decode cL_law 940 = .ok (.aload_n 2, 1) := by decide +kernel
theorem dL_law_941 : decode cL_law 941 = .ok (.invokevirtual 82, 3) := by decide +kernel
theorem dL_law_944 : decode cL_law 944 = .ok (.iload 5, 2) := by decide +kernel
theorem dL_law_946 : decode cL_law 946 = .ok (.if_icmp .eq 5, 3) := by decide +kernel
theorem dL_law_949 : decode cL_law 949 = .ok (.iconst 0, 1) := by decide +kernel
theorem dL_law_950 : decode cL_law 950 = .ok (.ireturn, 1) := by decide +kernel
theorem dL_law_951 : decode cL_law 951 = .ok (.iload 5, 2) := by decide +kernel
theorem dL_law_953 : decode cL_law 953 = .ok (.ifCond .ne 15, 3) := by decide +kernel
theorem dL_law_956 : decode cL_law 956 = .ok (.aload_n 3, 1) := by decide +kernel
theorem dL_law_957 : decode cL_law 957 = .ok (.iconst 0, 1) := by decide +kernel
theorem dL_law_958 : decode cL_law 958 = .ok (.laload, 1) := by decide +kernel
theorem dL_law_959 : decode cL_law 959 = .ok (.iload 6, 2) := by decide +kernel
theorem dL_law_961 : decode cL_law 961 = .ok (.i2l, 1) := by decide +kernel
theorem dL_law_962 : decode cL_law 962 = .ok (.lcmp, 1) := by decide +kernel
theorem dL_law_963 : decode cL_law 963 = .ok (.ifCond .eq 5, 3) := by decide +kernel
theorem dL_law_966 : decode cL_law 966 = .ok (.iconst 0, 1) := by decide +kernel
theorem dL_law_967 : decode cL_law 967 = .ok (.ireturn, 1) := by decide +kernel
theorem dL_law_968 : decode cL_law 968 = .ok (.goto 108, 3) := by decide +kernel
theorem dL_law_971 : decode cL_law 971 = .ok (.aload_n 1, 1) := by decide +kernel
theorem dL_law_972 : decode cL_law 972 = .ok (.aload_n 0, 1) := by decide +kernel
theorem dL_law_973 : decode cL_law 973 = .ok (.iload 4, 2) := by decide +kernel
theorem dL_law_975 : decode cL_law 975 = .ok (.iconst 1, 1) := by decide +kernel
theorem dL_law_976 : decode cL_law 976 = .ok (.iadd, 1) := by decide +kernel
theorem dL_law_977 : decode cL_law 977 = .ok (.iaload, 1) := by decide +kernel
theorem dL_law_978 : decode cL_law 978 = .ok (.aload_n 0, 1) := by decide +kernel
theorem dL_law_979 : decode cL_law 979 = .ok (.iload 4, 2) := by decide +kernel
theorem dL_law_981 : decode cL_law 981 = .ok (.iconst 2, 1) := by decide +kernel
theorem dL_law_982 : decode cL_law 982 = .ok (.iadd, 1) := by decide +kernel
theorem dL_law_983 : decode cL_law 983 = .ok (.iaload, 1) := by decide +kernel
theorem dL_law_984 : decode cL_law 984 = .ok (.aload_n 0, 1) := by decide +kernel
theorem dL_law_985 : decode cL_law 985 = .ok (.iload 4, 2) := by decide +kernel
theorem dL_law_987 : decode cL_law 987 = .ok (.iconst 3, 1) := by decide +kernel
theorem dL_law_988 : decode cL_law 988 = .ok (.iadd, 1) := by decide +kernel
theorem dL_law_989 : decode cL_law 989 = .ok (.iaload, 1) := by decide +kernel
theorem dL_law_990 : decode cL_law 990 = .ok (.aload_n 3, 1) := by decide +kernel
theorem dL_law_991 : decode cL_law 991 = .ok (.invokestatic 132, 3) := by decide +kernel
theorem dL_law_994 : decode cL_law 994 = .ok (.istore 5, 2) := by decide +kernel
theorem dL_law_996 : decode cL_law 996 = .ok (.aload_n 2, 1) := by decide +kernel
theorem dL_law_997 : decode cL_law 997 = .ok (.aload_n 0, 1) := by decide +kernel
theorem dL_law_998 : decode cL_law 998 = .ok (.iload 4, 2) := by decide +kernel
theorem dL_law_1000 : decode cL_law 1000 = .ok (.iconst 1, 1) := by decide +kernel
theorem dL_law_1001 : decode cL_law 1001 = .ok (.iadd, 1) := by decide +kernel
theorem dL_law_1002 : decode cL_law 1002 = .ok (.iaload, 1) := by decide +kernel
theorem dL_law_1003 : decode cL_law 1003 = .ok (.aload_n 0, 1) := by decide +kernel
theorem dL_law_1004 : decode cL_law 1004 = .ok (.iload 4, 2) := by decide +kernel
theorem dL_law_1006 : decode cL_law 1006 = .ok (.iconst 2, 1) := by decide +kernel
theorem dL_law_1007 : decode cL_law 1007 = .ok (.iadd, 1) := by decide +kernel
theorem dL_law_1008 : decode cL_law 1008 = .ok (.iaload, 1) := by decide +kernel
theorem dL_law_1009 : decode cL_law 1009 = .ok (.aload_n 0, 1) := by decide +kernel
theorem dL_law_1010 : decode cL_law 1010 = .ok (.iload 4, 2) := by decide +kernel
theorem dL_law_1012 : decode cL_law 1012 = .ok (.iconst 3, 1) := by decide +kernel
theorem dL_law_1013 : decode cL_law 1013 = .ok (.iadd, 1) := by decide +kernel
theorem dL_law_1014 : decode cL_law 1014 = .ok (.iaload, 1) := by decide +kernel
theorem dL_law_1015 : decode cL_law 1015 = .ok (.invokevirtual 135, 3) := by decide +kernel
theorem dL_law_1018 : decode cL_law 1018 = .ok (.istore 6, 2) := by decide +kernel
theorem dL_law_1020 : decode cL_law 1020 = .ok (.aload_n 2, 1) := by decide +kernel
theorem dL_law_1021 : decode cL_law 1021 = .ok (.invokevirtual 82, 3) := by decide +kernel
theorem dL_law_1024 : decode cL_law 1024 = .ok (.iload 5, 2) := by decide +kernel
theorem dL_law_1026 : decode cL_law 1026 = .ok (.if_icmp .eq 5, 3) := by decide +kernel
theorem dL_law_1029 : decode cL_law 1029 = .ok (.iconst 0, 1) := by decide +kernel
theorem dL_law_1030 : decode cL_law 1030 = .ok (.ireturn, 1) := by decide +kernel
theorem dL_law_1031 : decode cL_law 1031 = .ok (.iload 5, 2) := by decide +kernel
theorem dL_law_1033 : decode cL_law 1033 = .ok (.ifCond .ne 15, 3) := by decide +kernel
theorem dL_law_1036 : decode cL_law 1036 = .ok (.aload_n 3, 1) := by decide +kernel
theorem dL_law_1037 : decode cL_law 1037 = .ok (.iconst 0, 1) := by decide +kernel
theorem dL_law_1038 : decode cL_law 1038 = .ok (.laload, 1) := by decide +kernel
theorem dL_law_1039 : decode cL_law 1039 = .ok (.iload 6, 2) := by decide +kernel
theorem dL_law_1041 : decode cL_law 1041 = .ok (.i2l, 1) := by decide +kernel
theorem dL_law_1042 : decode cL_law 1042 = .ok (.lcmp, 1) := by decide +kernel
theorem dL_law_1043 : decode cL_law 1043 = .ok (.ifCond .eq 5, 3) := by decide +kernel
theorem dL_law_1046 : decode cL_law 1046 = .ok (.iconst 0, 1) := by decide +kernel
theorem dL_law_1047 : decode cL_law 1047 = .ok (.ireturn, 1) := by decide +kernel
theorem dL_law_1048 : decode cL_law 1048 = .ok (.goto 28, 3) := by decide +kernel
theorem dL_law_1051 : decode cL_law 1051 = .ok (.aload_n 1, 1) := by decide +kernel
theorem dL_law_1052 : decode cL_law 1052 = .ok (.aload_n 0, 1) := by decide +kernel
theorem dL_law_1053 : decode cL_law 1053 = .ok (.iload 4, 2) := by decide +kernel
theorem dL_law_1055 : decode cL_law 1055 = .ok (.iconst 1, 1) := by decide +kernel
theorem dL_law_1056 : decode cL_law 1056 = .ok (.iadd, 1) := by decide +kernel
theorem dL_law_1057 : decode cL_law 1057 = .ok (.iaload, 1) := by decide +kernel
theorem dL_law_1058 : decode cL_law 1058 = .ok (.invokevirtual 136, 3) := by decide +kernel
theorem dL_law_1061 : decode cL_law 1061 = .ok (.aload_n 2, 1) := by decide +kernel
theorem dL_law_1062 : decode cL_law 1062 = .ok (.aload_n 0, 1) := by decide +kernel
theorem dL_law_1063 : decode cL_law 1063 = .ok (.iload 4, 2) := by decide +kernel
theorem dL_law_1065 : decode cL_law 1065 = .ok (.iconst 1, 1) := by decide +kernel
theorem dL_law_1066 : decode cL_law 1066 = .ok (.iadd, 1) := by decide +kernel
theorem dL_law_1067 : decode cL_law 1067 = .ok (.iaload, 1) := by decide +kernel
theorem dL_law_1068 : decode cL_law 1068 = .ok (.invokevirtual 139, 3) := by decide +kernel
theorem dL_law_1071 : decode cL_law 1071 = .ok (.if_icmp .eq 5, 3) := by decide +kernel
theorem dL_law_1074 : decode cL_law 1074 = .ok (.iconst 0, 1) := by decide +kernel
theorem dL_law_1075 : decode cL_law 1075 = .ok (.ireturn, 1) := by decide +kernel
theorem dL_law_1076 : decode cL_law 1076 = .ok (.iinc 4 6, 3) := by decide +kernel
theorem dL_law_1079 : decode cL_law 1079 = .ok (.goto (-1056), 3) := by decide +kernel
theorem dL_law_1082 : decode cL_law 1082 = .ok (.iconst 1, 1) := by decide +kernel
theorem dL_law_1083 : decode cL_law 1083 = .ok (.ireturn, 1) := by decide +kernel
end
section
theorem dJ5_init_d00df_0 : decode cJ5_init_d00df 0 = .ok (.aload_n 0, 1) := by decide +kernel
theorem dJ5_init_d00df_1 : decode cJ5_init_d00df 1 = .ok (.invokespecial 3, 3) := by decide +kernel
theorem dJ5_init_d00df_4 : decode cJ5_init_d00df 4 = .ok (.getstatic 18, 3) := by decide +kernel
theorem dJ5_init_d00df_7 : decode cJ5_init_d00df 7 = .ok (.ifCond .eq 18, 3) := by decide +kernel
theorem dJ5_init_d00df_10 : decode cJ5_init_d00df 10 = .ok (.aload_n 0, 1) := by decide +kernel
theorem dJ5_init_d00df_11 : decode cJ5_init_d00df 11 = .ok (.iload_n 1, 1) := by decide +kernel
theorem dJ5_init_d00df_12 : decode cJ5_init_d00df 12 = .ok (.newarray .byte, 2) := by decide +kernel
theorem dJ5_init_d00df_14 : decode cJ5_init_d00df 14 = .ok (.putfield 15, 3) := by decide +kernel
theorem dJ5_init_d00df_17 : decode cJ5_init_d00df 17 = .ok (.aload_n 0, 1) := by decide +kernel
theorem dJ5_init_d00df_18 : decode cJ5_init_d00df 18 = .ok (.iconst 0, 1) := by decide +kernel
theorem dJ5_init_d00df_19 : decode cJ5_init_d00df 19 = .ok (.putfield 22, 3) := by decide +kernel
theorem dJ5_init_d00df_22 : decode cJ5_init_d00df 22 = .ok (.goto 16, 3) := by decide +kernel
theorem dJ5_init_d00df_25 : decode cJ5_init_d00df 25 = .ok (.aload_n 0, 1) := by decide +kernel
theorem dJ5_init_d00df_26 : decode cJ5_init_d00df 26 = .ok (.iload_n 1, 1) := by decide +kernel
theorem dJ5_init_d00df_27 : decode cJ5_init_d00df 27 = .ok (.invokestatic 26, 3) := by decide +kernel
theorem dJ5_init_d00df_30 : decode cJ5_init_d00df 30 = .ok (.putfield 15, 3) := by decide +kernel
theorem dJ5_init_d00df_33 : decode cJ5_init_d00df 33 = .ok (.aload_n 0, 1) := by decide +kernel
theorem dJ5_init_d00df_34 : decode cJ5_init_d00df 34 = .ok (.iconst 1, 1) := by decide +kernel
theorem dJ5_init_d00df_35 : decode cJ5_init_d00df 35 = .ok (.putfield 22, 3) := by decide +kernel
theorem dJ5_init_d00df_38 : decode cJ5_init_d00df 38 = .ok (.return_, 1) := by decide +kernel
theorem dJ5_length_8abf5_0 : decode cJ5_length_8abf5 0 = .ok (.aload_n 0, 1) := by decide +kernel
theorem dJ5_length_8abf5_1 : decode cJ5_length_8abf5 1 = .ok (.getfield 79, 3) := by decide +kernel
theorem dJ5_length_8abf5_4 : decode cJ5_length_8abf5 4 = .ok (.ireturn, 1) := by decide +kernel
theorem dJ5_ensureCapacityInternal_d00df_0 : decode cJ5_ensureCapacityInternal_d00df 0 = .ok (.aload_n 0, 1) := by decide +kernel
theorem dJ5_ensureCapacityInternal_d00df_1 : decode cJ5_ensureCapacityInternal_d00df 1 = .ok (.getfield 15, 3) := by decide +kernel
theorem dJ5_ensureCapacityInternal_d00df_4 : decode cJ5_ensureCapacityInternal_d00df 4 = .ok (.arraylength, 1) := by decide +kernel
theorem dJ5_ensureCapacityInternal_d00df_5 : decode cJ5_ensureCapacityInternal_d00df 5 = .ok (.aload_n 0, 1) := by decide +kernel
theorem dJ5_ensureCapacityInternal_d00df_6 : decode cJ5_ensureCapacityInternal_d00df 6 = .ok (.getfield 22, 3) := by decide +kernel
theorem dJ5_ensureCapacityInternal_d00df_9 : decode cJ5_ensureCapacityInternal_d00df 9 = .ok (.ishr, 1) := by decide +kernel
theorem dJ5_ensureCapacityInternal_d00df_10 : decode cJ5_ensureCapacityInternal_d00df 10 = .ok (.istore_n 2, 1) := by decide +kernel
theorem dJ5_ensureCapacityInternal_d00df_11 : decode cJ5_ensureCapacityInternal_d00df 11 = .ok (.iload_n 1, 1) := by decide +kernel
theorem dJ5_ensureCapacityInternal_d00df_12 : decode cJ5_ensureCapacityInternal_d00df 12 = .ok (.iload_n 2, 1) := by decide +kernel
theorem dJ5_ensureCapacityInternal_d00df_13 : decode cJ5_ensureCapacityInternal_d00df 13 = .ok (.isub, 1) := by decide +kernel
theorem dJ5_ensureCapacityInternal_d00df_14 : decode cJ5_ensureCapacityInternal_d00df 14 = .ok (.ifCond .le 24, 3) := by decide +kernel
theorem dJ5_ensureCapacityInternal_d00df_17 : decode cJ5_ensureCapacityInternal_d00df 17 = .ok (.aload_n 0, 1) := by decide +kernel
theorem dJ5_ensureCapacityInternal_d00df_18 : decode cJ5_ensureCapacityInternal_d00df 18 = .ok (.aload_n 0, 1) := by decide +kernel
theorem dJ5_ensureCapacityInternal_d00df_19 : decode cJ5_ensureCapacityInternal_d00df 19 = .ok (.getfield 15, 3) := by decide +kernel
theorem dJ5_ensureCapacityInternal_d00df_22 : decode cJ5_ensureCapacityInternal_d00df 22 = .ok (.aload_n 0, 1) := by decide +kernel
theorem dJ5_ensureCapacityInternal_d00df_23 : decode cJ5_ensureCapacityInternal_d00df 23 = .ok (.iload_n 1, 1) := by decide +kernel
theorem dJ5_ensureCapacityInternal_d00df_24 : decode cJ5_ensureCapacityInternal_d00df 24 = .ok (.invokevirtual 104, 3) := by decide +kernel
theorem dJ5_ensureCapacityInternal_d00df_27 : decode cJ5_ensureCapacityInternal_d00df 27 = .ok (.aload_n 0, 1) := by decide +kernel
theorem dJ5_ensureCapacityInternal_d00df_28 : decode cJ5_ensureCapacityInternal_d00df 28 = .ok (.getfield 22, 3) := by decide +kernel
theorem dJ5_ensureCapacityInternal_d00df_31 : decode cJ5_ensureCapacityInternal_d00df 31 = .ok (.ishl, 1) := by decide +kernel
theorem dJ5_ensureCapacityInternal_d00df_32 : decode cJ5_ensureCapacityInternal_d00df 32 = .ok (.invokestatic 108, 3) := by decide +kernel
theorem dJ5_ensureCapacityInternal_d00df_35 : decode cJ5_ensureCapacityInternal_d00df 35 = .ok (.putfield 15, 3) := by decide +kernel
theorem dJ5_ensureCapacityInternal_d00df_38 : decode cJ5_ensureCapacityInternal_d00df 38 = .ok (.return_, 1) := by decide +kernel
theorem dJ5_newCapacity_0f7a4_0 : decode cJ5_newCapacity_0f7a4 0 = .ok (.aload_n 0, 1) := by decide +kernel
theorem dJ5_newCapacity_0f7a4_1 : decode cJ5_newCapacity_0f7a4 1 = .ok (.getfield 15, 3) := by decide +kernel
theorem dJ5_newCapacity_0f7a4_4 : decode cJ5_newCapacity_0f7a4 4 = .ok (.arraylength, 1) := by decide +kernel
theorem dJ5_newCapacity_0f7a4_5 : decode cJ5_newCapacity_0f7a4 5 = .ok (.istore_n 2, 1) := by decide +kernel
theorem dJ5_newCapacity_0f7a4_6 : decode cJ5_newCapacity_0f7a4 6 = .ok (.iload_n 1, 1) := by decide +kernel
theorem dJ5_newCapacity_0f7a4_7 : decode cJ5_newCapacity_0f7a4 7 = .ok (.aload_n 0, 1) := by decide +kernel
theorem dJ5_newCapacity_0f7a4_8 : decode cJ5_newCapacity_0f7a4 8 = .ok (.getfield 22, 3) := by decide +kernel
theorem dJ5_newCapacity_0f7a4_11 : decode cJ5_newCapacity_0f7a4 11 = .ok (.ishl, 1) := by decide +kernel
theorem dJ5_newCapacity_0f7a4_12 : decode cJ5_newCapacity_0f7a4 12 = .ok (.istore_n 3, 1) := by decide +kernel
theorem dJ5_newCapacity_0f7a4_13 : decode cJ5_newCapacity_0f7a4 13 = .ok (.iload_n 3, 1) := by decide +kernel
theorem dJ5_newCapacity_0f7a4_14 : decode cJ5_newCapacity_0f7a4 14 = .ok (.iload_n 2, 1) := by decide +kernel
theorem dJ5_newCapacity_0f7a4_15 : decode cJ5_newCapacity_0f7a4 15 = .ok (.isub, 1) := by decide +kernel
theorem dJ5_newCapacity_0f7a4_16 : decode cJ5_newCapacity_0f7a4 16 = .ok (.istore 4, 2) := by decide +kernel
theorem dJ5_newCapacity_0f7a4_18 : decode cJ5_newCapacity_0f7a4 18 = .ok (.iload_n 2, 1) := by decide +kernel
theorem dJ5_newCapacity_0f7a4_19 : decode cJ5_newCapacity_0f7a4 19 = .ok (.iload 4, 2) := by decide +kernel
theorem dJ5_newCapacity_0f7a4_21 : decode cJ5_newCapacity_0f7a4 21 = .ok (.iload_n 2, 1) := by decide +kernel
theorem dJ5_newCapacity_0f7a4_22 : decode cJ5_newCapacity_0f7a4 22 = .ok (.iconst 2, 1) := by decide +kernel
theorem dJ5_newCapacity_0f7a4_23 : decode cJ5_newCapacity_0f7a4 23 = .ok (.aload_n 0, 1) := by decide +kernel
theorem dJ5_newCapacity_0f7a4_24 : decode cJ5_newCapacity_0f7a4 24 = .ok (.getfield 22, 3) := by decide +kernel
theorem dJ5_newCapacity_0f7a4_27 : decode cJ5_newCapacity_0f7a4 27 = .ok (.ishl, 1) := by decide +kernel
theorem dJ5_newCapacity_0f7a4_28 : decode cJ5_newCapacity_0f7a4 28 = .ok (.iadd, 1) := by decide +kernel
theorem dJ5_newCapacity_0f7a4_29 : decode cJ5_newCapacity_0f7a4 29 = .ok (.invokestatic 114, 3) := by decide +kernel
theorem dJ5_newCapacity_0f7a4_32 : decode cJ5_newCapacity_0f7a4 32 = .ok (.istore 5, 2) := by decide +kernel
theorem dJ5_newCapacity_0f7a4_34 : decode cJ5_newCapacity_0f7a4 34 = .ok (.iload 5, 2) := by decide +kernel
theorem dJ5_newCapacity_0f7a4_36 : decode cJ5_newCapacity_0f7a4 36 = .ok (.ldc 39, 2) := by decide +kernel
theorem dJ5_newCapacity_0f7a4_38 : decode cJ5_newCapacity_0f7a4 38 = .ok (.if_icmp .ne 13, 3) := by decide +kernel
theorem dJ5_newCapacity_0f7a4_41 : decode cJ5_newCapacity_0f7a4 41 = .ok (.new 120, 3) := by decide +kernel
theorem dJ5_newCapacity_0f7a4_44 : decode cJ5_newCapacity_0f7a4 44 = .ok (.dup, 1) := by decide +kernel
theorem dJ5_newCapacity_0f7a4_45 : decode cJ5_newCapacity_0f7a4 45 = .ok (.ldc 122, 2) := by decide +kernel
theorem dJ5_newCapacity_0f7a4_47 : decode cJ5_newCapacity_0f7a4 47 = .ok (.invokespecial 124, 3) := by decide +kernel
theorem dJ5_newCapacity_0f7a4_50 : decode cJ5_newCapacity_0f7a4 50 = .ok (.athrow, 1) := by decide +kernel
theorem dJ5_newCapacity_0f7a4_51 : decode cJ5_newCapacity_0f7a4 51 = .ok (.iload 5, 2) := by decide +kernel
theorem dJ5_newCapacity_0f7a4_53 : decode cJ5_newCapacity_0f7a4 53 = .ok (.aload_n 0, 1) := by decide +kernel
theorem dJ5_newCapacity_0f7a4_54 : decode cJ5_newCapacity_0f7a4 54 = .ok (.getfield 22, 3) := by decide +kernel
theorem dJ5_newCapacity_0f7a4_57 : decode cJ5_newCapacity_0f7a4 57 = .ok (.ishr, 1) := by decide +kernel
theorem dJ5_newCapacity_0f7a4_58 : decode cJ5_newCapacity_0f7a4 58 = .ok (.ireturn, 1) := by decide +kernel
theorem dJ5_inflate_da8c8_0 : decode cJ5_inflate_da8c8 0 = .ok (.aload_n 0, 1) := by decide +kernel
theorem dJ5_inflate_da8c8_1 : decode cJ5_inflate_da8c8 1 = .ok (.invokevirtual 83, 3) := by decide +kernel
theorem dJ5_inflate_da8c8_4 : decode cJ5_inflate_da8c8 4 = .ok (.ifCond .ne 4, 3) := by decide +kernel
theorem dJ5_inflate_da8c8_7 : decode cJ5_inflate_da8c8 7 = .ok (.return_, 1) := by decide +kernel
theorem dJ5_inflate_da8c8_8 : decode cJ5_inflate_da8c8 8 = .ok (.aload_n 0, 1) := by decide +kernel
theorem dJ5_inflate_da8c8_9 : decode cJ5_inflate_da8c8 9 = .ok (.getfield 15, 3) := by decide +kernel
theorem dJ5_inflate_da8c8_12 : decode cJ5_inflate_da8c8 12 = .ok (.arraylength, 1) := by decide +kernel
theorem dJ5_inflate_da8c8_13 : decode cJ5_inflate_da8c8 13 = .ok (.invokestatic 26, 3) := by decide +kernel
theorem dJ5_inflate_da8c8_16 : decode cJ5_inflate_da8c8 16 = .ok (.astore_n 1, 1) := by decide +kernel
theorem dJ5_inflate_da8c8_17 : decode cJ5_inflate_da8c8 17 = .ok (.aload_n 0, 1) := by decide +kernel
theorem dJ5_inflate_da8c8_18 : decode cJ5_inflate_da8c8 18 = .ok (.getfield 15, 3) := by decide +kernel
theorem dJ5_inflate_da8c8_21 : decode cJ5_inflate_da8c8 21 = .ok (.iconst 0, 1) := by decide +kernel
theorem dJ5_inflate_da8c8_22 : decode cJ5_inflate_da8c8 22 = .ok (.aload_n 1, 1) := by decide +kernel
theorem dJ5_inflate_da8c8_23 : decode cJ5_inflate_da8c8 23 = .ok (.iconst 0, 1) := by decide +kernel
theorem dJ5_inflate_da8c8_24 : decode cJ5_inflate_da8c8 24 = .ok (.aload_n 0, 1) := by decide +kernel
theorem dJ5_inflate_da8c8_25 : decode cJ5_inflate_da8c8 25 = .ok (.getfield 79, 3) := by decide +kernel
theorem dJ5_inflate_da8c8_28 : decode cJ5_inflate_da8c8 28 = .ok (.invokestatic 125, 3) := by decide +kernel
theorem dJ5_inflate_da8c8_31 : decode cJ5_inflate_da8c8 31 = .ok (.aload_n 0, 1) := by decide +kernel
theorem dJ5_inflate_da8c8_32 : decode cJ5_inflate_da8c8 32 = .ok (.aload_n 1, 1) := by decide +kernel
theorem dJ5_inflate_da8c8_33 : decode cJ5_inflate_da8c8 33 = .ok (.putfield 15, 3) := by decide +kernel
theorem dJ5_inflate_da8c8_36 : decode cJ5_inflate_da8c8 36 = .ok (.aload_n 0, 1) := by decide +kernel
theorem dJ5_inflate_da8c8_37 : decode cJ5_inflate_da8c8 37 = .ok (.iconst 1, 1) := by decide +kernel
theorem dJ5_inflate_da8c8_38 : decode cJ5_inflate_da8c8 38 = .ok (.putfield 22, 3) := by decide +kernel
theorem dJ5_inflate_da8c8_41 : decode cJ5_inflate_da8c8 41 = .ok (.return_, 1) := by decide +kernel
theorem dJ5_append_cf1ce_0 : decode cJ5_append_cf1ce 0 = .ok (.aload_n 1, 1) := by decide +kernel
theorem dJ5_append_cf1ce_1 : decode cJ5_append_cf1ce 1 = .ok (.ifnonnull 8, 3) := by decide +kernel
theorem dJ5_append_cf1ce_4 : decode cJ5_append_cf1ce 4 = .ok (.aload_n 0, 1) := by decide +kernel
theorem dJ5_append_cf1ce_5 : decode cJ5_append_cf1ce 5 = .ok (.invokevirtual 204, 3) := by decide +kernel
theorem dJ5_append_cf1ce_8 : decode cJ5_append_cf1ce 8 = .ok (.areturn, 1) := by decide +kernel
theorem dJ5_append_cf1ce_9 : decode cJ5_append_cf1ce 9 = .ok (.aload_n 1, 1) := by decide +kernel
theorem dJ5_append_cf1ce_10 : decode cJ5_append_cf1ce 10 = .ok (.invokevirtual 32, 3) := by decide +kernel
theorem dJ5_append_cf1ce_13 : decode cJ5_append_cf1ce 13 = .ok (.istore_n 2, 1) := by decide +kernel
theorem dJ5_append_cf1ce_14 : decode cJ5_append_cf1ce 14 = .ok (.aload_n 0, 1) := by decide +kernel
theorem dJ5_append_cf1ce_15 : decode cJ5_append_cf1ce 15 = .ok (.aload_n 0, 1) := by decide +kernel
theorem dJ5_append_cf1ce_16 : decode cJ5_append_cf1ce 16 = .ok (.getfield 79, 3) := by decide +kernel
theorem dJ5_append_cf1ce_19 : decode cJ5_append_cf1ce 19 = .ok (.iload_n 2, 1) := by decide +kernel
theorem dJ5_append_cf1ce_20 : decode cJ5_append_cf1ce 20 = .ok (.iadd, 1) := by decide +kernel
theorem dJ5_append_cf1ce_21 : decode cJ5_append_cf1ce 21 = .ok (.invokevirtual 100, 3) := by decide +kernel
theorem dJ5_append_cf1ce_24 : decode cJ5_append_cf1ce 24 = .ok (.aload_n 0, 1) := by decide +kernel
theorem dJ5_append_cf1ce_25 : decode cJ5_append_cf1ce 25 = .ok (.aload_n 0, 1) := by decide +kernel
theorem dJ5_append_cf1ce_26 : decode cJ5_append_cf1ce 26 = .ok (.getfield 79, 3) := by decide +kernel
theorem dJ5_append_cf1ce_29 : decode cJ5_append_cf1ce 29 = .ok (.aload_n 1, 1) := by decide +kernel
theorem dJ5_append_cf1ce_30 : decode cJ5_append_cf1ce 30 = .ok (.invokevirtual 208, 3) := by decide +kernel
theorem dJ5_append_cf1ce_33 : decode cJ5_append_cf1ce 33 = .ok (.aload_n 0, 1) := by decide +kernel
theorem dJ5_append_cf1ce_34 : decode cJ5_append_cf1ce 34 = .ok (.dup, 1) := by decide +kernel
theorem dJ5_append_cf1ce_35 : decode cJ5_append_cf1ce 35 = .ok (.getfield 79, 3) := by decide +kernel
theorem dJ5_append_cf1ce_38 : decode cJ5_append_cf1ce 38 = .ok (.iload_n 2, 1) := by decide +kernel
theorem dJ5_append_cf1ce_39 : decode cJ5_append_cf1ce 39 = .ok (.iadd, 1) := by decide +kernel
theorem dJ5_append_cf1ce_40 : decode cJ5_append_cf1ce 40 = .ok (.putfield 79, 3) := by decide +kernel
theorem dJ5_append_cf1ce_43 : decode cJ5_append_cf1ce 43 = .ok (.aload_n 0, 1) := by decide +kernel
theorem dJ5_append_cf1ce_44 : decode cJ5_append_cf1ce 44 = .ok (.areturn, 1) := by decide +kernel
theorem dJ5_appendNull_278bc_0 : decode cJ5_appendNull_278bc 0 = .ok (.aload_n 0, 1) := by decide +kernel
theorem dJ5_appendNull_278bc_1 : decode cJ5_appendNull_278bc 1 = .ok (.aload_n 0, 1) := by decide +kernel
theorem dJ5_appendNull_278bc_2 : decode cJ5_appendNull_278bc 2 = .ok (.getfield 79, 3) := by decide +kernel
theorem dJ5_appendNull_278bc_5 : decode cJ5_appendNull_278bc 5 = .ok (.iconst 4, 1) := by decide +kernel
theorem dJ5_appendNull_278bc_6 : decode cJ5_appendNull_278bc 6 = .ok (.iadd, 1) := by decide +kernel
theorem dJ5_appendNull_278bc_7 : decode cJ5_appendNull_278bc 7 = .ok (.invokevirtual 100, 3) := by decide +kernel
theorem dJ5_appendNull_278bc_10 : decode cJ5_appendNull_278bc 10 = .ok (.aload_n 0, 1) := by decide +kernel
theorem dJ5_appendNull_278bc_11 : decode cJ5_appendNull_278bc 11 = .ok (.getfield 79, 3) := by decide +kernel
theorem dJ5_appendNull_278bc_14 : decode cJ5_appendNull_278bc 14 = .ok (.istore_n 1, 1) := by decide +kernel
theorem dJ5_appendNull_278bc_15 : decode cJ5_appendNull_278bc 15 = .ok (.aload_n 0, 1) := by decide +kernel
theorem dJ5_appendNull_278bc_16 : decode cJ5_appendNull_278bc 16 = .ok (.getfield 15, 3) := by decide +kernel
theorem dJ5_appendNull_278bc_19 : decode cJ5_appendNull_278bc 19 = .ok (.astore_n 2, 1) := by decide +kernel
theorem dJ5_appendNull_278bc_20 : decode cJ5_appendNull_278bc 20 = .ok (.aload_n 0, 1) := by decide +kernel
theorem dJ5_appendNull_278bc_21 : decode cJ5_appendNull_278bc 21 = .ok (.invokevirtual 83, 3) := by decide +kernel
theorem dJ5_appendNull_278bc_24 : decode cJ5_appendNull_278bc 24 = .ok (.ifCond .eq 38, 3) := by decide +kernel
theorem dJ5_appendNull_278bc_27 : decode cJ5_appendNull_278bc 27 = .ok (.aload_n 2, 1) := by decide +kernel
theorem dJ5_appendNull_278bc_28 : decode cJ5_appendNull_278bc 28 = .ok (.iload_n 1, 1) := by decide +kernel
theorem dJ5_appendNull_278bc_29 : decode cJ5_appendNull_278bc 29 = .ok (.iinc 1 1, 3) := by decide +kernel
theorem dJ5_appendNull_278bc_32 : decode cJ5_appendNull_278bc 32 = .ok (.bipush 110, 2) := by decide +kernel
theorem dJ5_appendNull_278bc_34 : decode cJ5_appendNull_278bc 34 = .ok (.bastore, 1) := by decide +kernel
theorem dJ5_appendNull_278bc_35 : decode cJ5_appendNull_278bc 35 = .ok (.aload_n 2, 1) := by decide +kernel
theorem dJ5_appendNull_278bc_36 : decode cJ5_appendNull_278bc 36 = .ok (.iload_n 1, 1) := by decide +kernel
theorem dJ5_appendNull_278bc_37 : decode cJ5_appendNull_278bc 37 = .ok (.iinc 1 1, 3) := by decide +kernel
theorem dJ5_appendNull_278bc_40 : decode cJ5_appendNull_278bc 40 = .ok (.bipush 117, 2) := by decide +kernel
theorem dJ5_appendNull_278bc_42 : decode cJ5_appendNull_278bc 42 = .ok (.bastore, 1) := by decide +kernel
theorem dJ5_appendNull_278bc_43 : decode cJ5_appendNull_278bc 43 = .ok (.aload_n 2, 1) := by decide +kernel
theorem dJ5_appendNull_278bc_44 : decode cJ5_appendNull_278bc 44 = .ok (.iload_n 1, 1) := by decide +kernel
theorem dJ5_appendNull_278bc_45 : decode cJ5_appendNull_278bc 45 = .ok (.iinc 1 1, 3) := by decide +kernel
theorem dJ5_appendNull_278bc_48 : decode cJ5_appendNull_278bc 48 = .ok (.bipush 108, 2) := by decide +kernel
theorem dJ5_appendNull_278bc_50 : decode cJ5_appendNull_278bc 50 = .ok (.bastore, 1) := by decide +kernel
theorem dJ5_appendNull_278bc_51 : decode cJ5_appendNull_278bc 51 = .ok (.aload_n 2, 1) := by decide +kernel
theorem dJ5_appendNull_278bc_52 : decode cJ5_appendNull_278bc 52 = .ok (.iload_n 1, 1) := by decide +kernel
theorem dJ5_appendNull_278bc_53 : decode cJ5_appendNull_278bc 53 = .ok (.iinc 1 1, 3) := by decide +kernel
theorem dJ5_appendNull_278bc_56 : decode cJ5_appendNull_278bc 56 = .ok (.bipush 108, 2) := by decide +kernel
theorem dJ5_appendNull_278bc_58 : decode cJ5_appendNull_278bc 58 = .ok (.bastore, 1) := by decide +kernel
theorem dJ5_appendNull_278bc_59 : decode cJ5_appendNull_278bc 59 = .ok (.goto 17, 3) := by decide +kernel
theorem dJ5_appendNull_278bc_62 : decode cJ5_appendNull_278bc 62 = .ok (.aload_n 2, 1) := by decide +kernel
theorem dJ5_appendNull_278bc_63 : decode cJ5_appendNull_278bc 63 = .ok (.iload_n 1, 1) := by decide +kernel
theorem dJ5_appendNull_278bc_64 : decode cJ5_appendNull_278bc 64 = .ok (.bipush 110, 2) := by decide +kernel
theorem dJ5_appendNull_278bc_66 : decode cJ5_appendNull_278bc 66 = .ok (.bipush 117, 2) := by decide +kernel
theorem dJ5_appendNull_278bc_68 : decode cJ5_appendNull_278bc 68 = .ok (.bipush 108, 2) := by decide +kernel
theorem dJ5_appendNull_278bc_70 : decode cJ5_appendNull_278bc 70 = .ok (.bipush 108, 2) := by decide +kernel
theorem dJ5_appendNull_278bc_72 : decode cJ5_appendNull_278bc 72 = .ok (.invokestatic 226, 3) := by decide +kernel
theorem dJ5_appendNull_278bc_75 : decode cJ5_appendNull_278bc 75 = .ok (.istore_n 1, 1) := by decide +kernel
theorem dJ5_appendNull_278bc_76 : decode cJ5_appendNull_278bc 76 = .ok (.aload_n 0, 1) := by decide +kernel
theorem dJ5_appendNull_278bc_77 : decode cJ5_appendNull_278bc 77 = .ok (.iload_n 1, 1) := by decide +kernel
theorem dJ5_appendNull_278bc_78 : decode cJ5_appendNull_278bc 78 = .ok (.putfield 79, 3) := by decide +kernel
theorem dJ5_appendNull_278bc_81 : decode cJ5_appendNull_278bc 81 = .ok (.aload_n 0, 1) := by decide +kernel
theorem dJ5_appendNull_278bc_82 : decode cJ5_appendNull_278bc 82 = .ok (.areturn, 1) := by decide +kernel
theorem dJ5_append_c97b9_0 : decode cJ5_append_c97b9 0 = .ok (.aload_n 0, 1) := by decide +kernel
theorem dJ5_append_c97b9_1 : decode cJ5_append_c97b9 1 = .ok (.getfield 79, 3) := by decide +kernel
theorem dJ5_append_c97b9_4 : decode cJ5_append_c97b9 4 = .ok (.istore_n 2, 1) := by decide +kernel
theorem dJ5_append_c97b9_5 : decode cJ5_append_c97b9 5 = .ok (.iload_n 2, 1) := by decide +kernel
theorem dJ5_append_c97b9_6 : decode cJ5_append_c97b9 6 = .ok (.iload_n 1, 1) := by decide +kernel
theorem dJ5_append_c97b9_7 : decode cJ5_append_c97b9 7 = .ok (.invokestatic 245, 3) := by decide +kernel
theorem dJ5_append_c97b9_10 : decode cJ5_append_c97b9 10 = .ok (.iadd, 1) := by decide +kernel
theorem dJ5_append_c97b9_11 : decode cJ5_append_c97b9 11 = .ok (.istore_n 3, 1) := by decide +kernel
theorem dJ5_append_c97b9_12 : decode cJ5_append_c97b9 12 = .ok (.aload_n 0, 1) := by decide +kernel
theorem dJ5_append_c97b9_13 : decode cJ5_append_c97b9 13 = .ok (.iload_n 3, 1) := by decide +kernel
theorem dJ5_append_c97b9_14 : decode cJ5_append_c97b9 14 = .ok (.invokevirtual 100, 3) := by decide +kernel
theorem dJ5_append_c97b9_17 : decode cJ5_append_c97b9 17 = .ok (.aload_n 0, 1) := by decide +kernel
theorem dJ5_append_c97b9_18 : decode cJ5_append_c97b9 18 = .ok (.invokevirtual 83, 3) := by decide +kernel
theorem dJ5_append_c97b9_21 : decode cJ5_append_c97b9 21 = .ok (.ifCond .eq 16, 3) := by decide +kernel
theorem dJ5_append_c97b9_24 : decode cJ5_append_c97b9 24 = .ok (.iload_n 1, 1) := by decide +kernel
theorem dJ5_append_c97b9_25 : decode cJ5_append_c97b9 25 = .ok (.iload_n 3, 1) := by decide +kernel
theorem dJ5_append_c97b9_26 : decode cJ5_append_c97b9 26 = .ok (.aload_n 0, 1) := by decide +kernel
theorem dJ5_append_c97b9_27 : decode cJ5_append_c97b9 27 = .ok (.getfield 15, 3) := by decide +kernel
theorem dJ5_append_c97b9_30 : decode cJ5_append_c97b9 30 = .ok (.invokestatic 248, 3) := by decide +kernel
theorem dJ5_append_c97b9_33 : decode cJ5_append_c97b9 33 = .ok (.pop, 1) := by decide +kernel
theorem dJ5_append_c97b9_34 : decode cJ5_append_c97b9 34 = .ok (.goto 14, 3) := by decide +kernel
theorem dJ5_append_c97b9_37 : decode cJ5_append_c97b9 37 = .ok (.iload_n 1, 1) := by decide +kernel
theorem dJ5_append_c97b9_38 : decode cJ5_append_c97b9 38 = .ok (.iload_n 2, 1) := by decide +kernel
theorem dJ5_append_c97b9_39 : decode cJ5_append_c97b9 39 = .ok (.iload_n 3, 1) := by decide +kernel
theorem dJ5_append_c97b9_40 : decode cJ5_append_c97b9 40 = .ok (.aload_n 0, 1) := by decide +kernel
theorem dJ5_append_c97b9_41 : decode cJ5_append_c97b9 41 = .ok (.getfield 15, 3) := by decide +kernel
theorem dJ5_append_c97b9_44 : decode cJ5_append_c97b9 44 = .ok (.invokestatic 251, 3) := by decide +kernel
theorem dJ5_append_c97b9_47 : decode cJ5_append_c97b9 47 = .ok (.pop, 1) := by decide +kernel
theorem dJ5_append_c97b9_48 : decode cJ5_append_c97b9 48 = .ok (.aload_n 0, 1) := by decide +kernel
theorem dJ5_append_c97b9_49 : decode cJ5_append_c97b9 49 = .ok (.iload_n 3, 1) := by decide +kernel
theorem dJ5_append_c97b9_50 : decode cJ5_append_c97b9 50 = .ok (.putfield 79, 3) := by decide +kernel
theorem dJ5_append_c97b9_53 : decode cJ5_append_c97b9 53 = .ok (.aload_n 0, 1) := by decide +kernel
theorem dJ5_append_c97b9_54 : decode cJ5_append_c97b9 54 = .ok (.areturn, 1) := by decide +kernel
theorem dJ5_getValue_6d5f1_0 : decode cJ5_getValue_6d5f1 0 = .ok (.aload_n 0, 1) := by decide +kernel
theorem dJ5_getValue_6d5f1_1 : decode cJ5_getValue_6d5f1 1 = .ok (.getfield 15, 3) := by decide +kernel
theorem dJ5_getValue_6d5f1_4 : decode cJ5_getValue_6d5f1 4 = .ok (.areturn, 1) := by decide +kernel
theorem dJ5_isLatin1_aae02_0 : decode cJ5_isLatin1_aae02 0 = .ok (.getstatic 18, 3) := by decide +kernel
theorem dJ5_isLatin1_aae02_3 : decode cJ5_isLatin1_aae02 3 = .ok (.ifCond .eq 14, 3) := by decide +kernel
theorem dJ5_isLatin1_aae02_6 : decode cJ5_isLatin1_aae02 6 = .ok (.aload_n 0, 1) := by decide +kernel
theorem dJ5_isLatin1_aae02_7 : decode cJ5_isLatin1_aae02 7 = .ok (.getfield 22, 3) := by decide +kernel
theorem dJ5_isLatin1_aae02_10 : decode cJ5_isLatin1_aae02 10 = .ok (.ifCond .ne 7, 3) := by decide +kernel
theorem dJ5_isLatin1_aae02_13 : decode cJ5_isLatin1_aae02 13 = .ok (.iconst 1, 1) := by decide +kernel
theorem dJ5_isLatin1_aae02_14 : decode cJ5_isLatin1_aae02 14 = .ok (.goto 4, 3) := by decide +kernel
theorem dJ5_isLatin1_aae02_17 : decode cJ5_isLatin1_aae02 17 = .ok (.iconst 0, 1) := by decide +kernel
theorem dJ5_isLatin1_aae02_18 : decode cJ5_isLatin1_aae02 18 = .ok (.ireturn, 1) := by decide +kernel
theorem dJ5_inflateIfNeededFor_a7421_0 : decode cJ5_inflateIfNeededFor_a7421 0 = .ok (.getstatic 18, 3) := by decide +kernel
theorem dJ5_inflateIfNeededFor_a7421_3 : decode cJ5_inflateIfNeededFor_a7421 3 = .ok (.ifCond .eq 18, 3) := by decide +kernel
theorem dJ5_inflateIfNeededFor_a7421_6 : decode cJ5_inflateIfNeededFor_a7421 6 = .ok (.aload_n 0, 1) := by decide +kernel
theorem dJ5_inflateIfNeededFor_a7421_7 : decode cJ5_inflateIfNeededFor_a7421 7 = .ok (.getfield 22, 3) := by decide +kernel
theorem dJ5_inflateIfNeededFor_a7421_10 : decode cJ5_inflateIfNeededFor_a7421 10 = .ok (.aload_n 1, 1) := by decide +kernel
theorem dJ5_inflateIfNeededFor_a7421_11 : decode cJ5_inflateIfNeededFor_a7421 11 = .ok (.invokevirtual 40, 3) := by decide +kernel
theorem dJ5_inflateIfNeededFor_a7421_14 : decode cJ5_inflateIfNeededFor_a7421 14 = .ok (.if_icmp .eq 7, 3) := by decide +kernel
theorem dJ5_inflateIfNeededFor_a7421_17 : decode cJ5_inflateIfNeededFor_a7421 17 = .ok (.aload_n 0, 1) := by decide +kernel
theorem dJ5_inflateIfNeededFor_a7421_18 : decode cJ5_inflateIfNeededFor_a7421 18 = .ok (.invokevirtual 195, 3) := by decide +kernel
theorem dJ5_inflateIfNeededFor_a7421_21 : decode cJ5_inflateIfNeededFor_a7421 21 = .ok (.return_, 1) := by decide +kernel
theorem dJ5_putStringAt_47b60_0 : decode cJ5_putStringAt_47b60 0 = .ok (.aload_n 0, 1) := by decide +kernel
theorem dJ5_putStringAt_47b60_1 : decode cJ5_putStringAt_47b60 1 = .ok (.aload_n 2, 1) := by decide +kernel
theorem dJ5_putStringAt_47b60_2 : decode cJ5_putStringAt_47b60 2 = .ok (.invokevirtual 397, 3) := by decide +kernel
theorem dJ5_putStringAt_47b60_5 : decode cJ5_putStringAt_47b60 5 = .ok (.aload_n 2, 1) := by decide +kernel
theorem dJ5_putStringAt_47b60_6 : decode cJ5_putStringAt_47b60 6 = .ok (.aload_n 0, 1) := by decide +kernel
theorem dJ5_putStringAt_47b60_7 : decode cJ5_putStringAt_47b60 7 = .ok (.getfield 15, 3) := by decide +kernel
theorem dJ5_putStringAt_47b60_10 : decode cJ5_putStringAt_47b60 10 = .ok (.iload_n 1, 1) := by decide +kernel
theorem dJ5_putStringAt_47b60_11 : decode cJ5_putStringAt_47b60 11 = .ok (.aload_n 0, 1) := by decide +kernel
theorem dJ5_putStringAt_47b60_12 : decode cJ5_putStringAt_47b60 12 = .ok (.getfield 22, 3) := by decide +kernel
theorem dJ5_putStringAt_47b60_15 : decode cJ5_putStringAt_47b60 15 = .ok (.invokevirtual 399, 3) := by decide +kernel
theorem dJ5_putStringAt_47b60_18 : decode cJ5_putStringAt_47b60 18 = .ok (.return_, 1) := by decide +kernel
theorem dJ6_getChars_ba4f3_0 : decode cJ6_getChars_ba4f3 0 = .ok (.iload_n 1, 1) := by decide +kernel
theorem dJ6_getChars_ba4f3_1 : decode cJ6_getChars_ba4f3 1 = .ok (.istore 5, 2) := by decide +kernel
theorem dJ6_getChars_ba4f3_3 : decode cJ6_getChars_ba4f3 3 = .ok (.iload_n 0, 1) := by decide +kernel
theorem dJ6_getChars_ba4f3_4 : decode cJ6_getChars_ba4f3 4 = .ok (.ifCond .ge 7, 3) := by decide +kernel
theorem dJ6_getChars_ba4f3_7 : decode cJ6_getChars_ba4f3 7 = .ok (.iconst 1, 1) := by decide +kernel
theorem dJ6_getChars_ba4f3_8 : decode cJ6_getChars_ba4f3 8 = .ok (.goto 4, 3) := by decide +kernel
theorem dJ6_getChars_ba4f3_11 : decode cJ6_getChars_ba4f3 11 = .ok (.iconst 0, 1) := by decide +kernel
theorem dJ6_getChars_ba4f3_12 : decode cJ6_getChars_ba4f3 12 = .ok (.istore 6, 2) := by decide +kernel
theorem dJ6_getChars_ba4f3_14 : decode cJ6_getChars_ba4f3 14 = .ok (.iload 6, 2) := by decide +kernel
theorem dJ6_getChars_ba4f3_16 : decode cJ6_getChars_ba4f3 16 = .ok (.ifCond .ne 6, 3) := by decide +kernel
theorem dJ6_getChars_ba4f3_19 : decode cJ6_getChars_ba4f3 19 = .ok (.iload_n 0, 1) := by decide +kernel
theorem dJ6_getChars_ba4f3_20 : decode cJ6_getChars_ba4f3 20 = .ok (.ineg, 1) := by decide +kernel
theorem dJ6_getChars_ba4f3_21 : decode cJ6_getChars_ba4f3 21 = .ok (.istore_n 0, 1) := by decide +kernel
theorem dJ6_getChars_ba4f3_22 : decode cJ6_getChars_ba4f3 22 = .ok (.iload_n 0, 1) := by decide +kernel
theorem dJ6_getChars_ba4f3_23 : decode cJ6_getChars_ba4f3 23 = .ok (.bipush (-100), 2) := by decide +kernel
theorem dJ6_getChars_ba4f3_25 : decode cJ6_getChars_ba4f3 25 = .ok (.if_icmp .gt 47, 3) := by decide +kernel
theorem dJ6_getChars_ba4f3_28 : decode cJ6_getChars_ba4f3 28 = .ok (.iload_n 0, 1) := by decide +kernel
theorem dJ6_getChars_ba4f3_29 : decode cJ6_getChars_ba4f3 29 = .ok (.bipush 100, 2) := by decide +kernel
theorem dJ6_getChars_ba4f3_31 : decode cJ6_getChars_ba4f3 31 = .ok (.idiv, 1) := by decide +kernel
theorem dJ6_getChars_ba4f3_32 : decode cJ6_getChars_ba4f3 32 = .ok (.istore_n 3, 1) := by decide +kernel
theorem dJ6_getChars_ba4f3_33 : decode cJ6_getChars_ba4f3 33 = .ok (.iload_n 3, 1) := by decide +kernel
theorem dJ6_getChars_ba4f3_34 : decode cJ6_getChars_ba4f3 34 = .ok (.bipush 100, 2) := by decide +kernel
theorem dJ6_getChars_ba4f3_36 : decode cJ6_getChars_ba4f3 36 = .ok (.imul, 1) := by decide +kernel
theorem dJ6_getChars_ba4f3_37 : decode cJ6_getChars_ba4f3 37 = .ok (.iload_n 0, 1) := by decide +kernel
theorem dJ6_getChars_ba4f3_38 : decode cJ6_getChars_ba4f3 38 = .ok (.isub, 1) := by decide +kernel
theorem dJ6_getChars_ba4f3_39 : decode cJ6_getChars_ba4f3 39 = .ok (.istore 4, 2) := by decide +kernel
theorem dJ6_getChars_ba4f3_41 : decode cJ6_getChars_ba4f3 41 = .ok (.iload_n 3, 1) := by decide +kernel
theorem dJ6_getChars_ba4f3_42 : decode cJ6_getChars_ba4f3 42 = .ok (.istore_n 0, 1) := by decide +kernel
theorem dJ6_getChars_ba4f3_43 : decode cJ6_getChars_ba4f3 43 = .ok (.aload_n 2, 1) := by decide +kernel
theorem dJ6_getChars_ba4f3_44 : decode cJ6_getChars_ba4f3 44 = .ok (.iinc 5 (-1), 3) := by decide +kernel
theorem dJ6_getChars_ba4f3_47 : decode cJ6_getChars_ba4f3 47 = .ok (.iload 5, 2) := by decide +kernel
theorem dJ6_getChars_ba4f3_49 : decode cJ6_getChars_ba4f3 49 = .ok (.getstatic 83, 3) := by decide +kernel
theorem dJ6_getChars_ba4f3_52 : decode cJ6_getChars_ba4f3 52 = .ok (.iload 4, 2) := by decide +kernel
theorem dJ6_getChars_ba4f3_54 : decode cJ6_getChars_ba4f3 54 = .ok (.baload, 1) := by decide +kernel
theorem dJ6_getChars_ba4f3_55 : decode cJ6_getChars_ba4f3 55 = .ok (.bastore, 1) := by decide +kernel
theorem dJ6_getChars_ba4f3_56 : decode cJ6_getChars_ba4f3 56 = .ok (.aload_n 2, 1) := by decide +kernel
theorem dJ6_getChars_ba4f3_57 : decode cJ6_getChars_ba4f3 57 = .ok (.iinc 5 (-1), 3) := by decide +kernel
theorem dJ6_getChars_ba4f3_60 : decode cJ6_getChars_ba4f3 60 = .ok (.iload 5, 2) := by decide +kernel
theorem dJ6_getChars_ba4f3_62 : decode cJ6_getChars_ba4f3 62 = .ok (.getstatic 87, 3) := by decide +kernel
theorem dJ6_getChars_ba4f3_65 : decode cJ6_getChars_ba4f3 65 = .ok (.iload 4, 2) := by decide +kernel
theorem dJ6_getChars_ba4f3_67 : decode cJ6_getChars_ba4f3 67 = .ok (.baload, 1) := by decide +kernel
theorem dJ6_getChars_ba4f3_68 : decode cJ6_getChars_ba4f3 68 = .ok (.bastore, 1) := by decide +kernel
theorem dJ6_getChars_ba4f3_69 : decode cJ6_getChars_ba4f3 69 = .ok (.goto (-47), 3) := by decide +kernel
theorem dJ6_getChars_ba4f3_72 : decode cJ6_getChars_ba4f3 72 = .ok (.aload_n 2, 1) := by decide +kernel
theorem dJ6_getChars_ba4f3_73 : decode cJ6_getChars_ba4f3 73 = .ok (.iinc 5 (-1), 3) := by decide +kernel
theorem dJ6_getChars_ba4f3_76 : decode cJ6_getChars_ba4f3 76 = .ok (.iload 5, 2) := by decide +kernel
theorem dJ6_getChars_ba4f3_78 : decode cJ6_getChars_ba4f3 78 = .ok (.getstatic 83, 3) := by decide +kernel
theorem dJ6_getChars_ba4f3_81 : decode cJ6_getChars_ba4f3 81 = .ok (.iload_n 0, 1) := by decide +kernel
theorem dJ6_getChars_ba4f3_82 : decode cJ6_getChars_ba4f3 82 = .ok (.ineg, 1) := by decide +kernel
theorem dJ6_getChars_ba4f3_83 : decode cJ6_getChars_ba4f3 83 = .ok (.baload, 1) := by decide +kernel
theorem dJ6_getChars_ba4f3_84 : decode cJ6_getChars_ba4f3 84 = .ok (.bastore, 1) := by decide +kernel
theorem dJ6_getChars_ba4f3_85 : decode cJ6_getChars_ba4f3 85 = .ok (.iload_n 0, 1) := by decide +kernel
theorem dJ6_getChars_ba4f3_86 : decode cJ6_getChars_ba4f3 86 = .ok (.bipush (-9), 2) := by decide +kernel
theorem dJ6_getChars_ba4f3_88 : decode cJ6_getChars_ba4f3 88 = .ok (.if_icmp .ge 16, 3) := by decide +kernel
theorem dJ6_getChars_ba4f3_91 : decode cJ6_getChars_ba4f3 91 = .ok (.aload_n 2, 1) := by decide +kernel
theorem dJ6_getChars_ba4f3_92 : decode cJ6_getChars_ba4f3 92 = .ok (.iinc 5 (-1), 3) := by decide +kernel
theorem dJ6_getChars_ba4f3_95 : decode cJ6_getChars_ba4f3 95 = .ok (.iload 5, 2) := by decide +kernel
theorem dJ6_getChars_ba4f3_97 : decode cJ6_getChars_ba4f3 97 = .ok (.getstatic 87, 3) := by decide +kernel
theorem dJ6_getChars_ba4f3_100 : decode cJ6_getChars_ba4f3 100 = .ok (.iload_n 0, 1) := by decide +kernel
theorem dJ6_getChars_ba4f3_101 : decode cJ6_getChars_ba4f3 101 = .ok (.ineg, 1) := by decide +kernel
theorem dJ6_getChars_ba4f3_102 : decode cJ6_getChars_ba4f3 102 = .ok (.baload, 1) := by decide +kernel
theorem dJ6_getChars_ba4f3_103 : decode cJ6_getChars_ba4f3 103 = .ok (.bastore, 1) := by decide +kernel
theorem dJ6_getChars_ba4f3_104 : decode cJ6_getChars_ba4f3 104 = .ok (.iload 6, 2) := by decide +kernel
theorem dJ6_getChars_ba4f3_106 : decode cJ6_getChars_ba4f3 106 = .ok (.ifCond .eq 12, 3) := by decide +kernel
theorem dJ6_getChars_ba4f3_109 : decode cJ6_getChars_ba4f3 109 = .ok (.aload_n 2, 1) := by decide +kernel
theorem dJ6_getChars_ba4f3_110 : decode cJ6_getChars_ba4f3 110 = .ok (.iinc 5 (-1), 3) := by decide +kernel
theorem dJ6_getChars_ba4f3_113 : decode cJ6_getChars_ba4f3 113 = .ok (.iload 5, 2) := by decide +kernel
theorem dJ6_getChars_ba4f3_115 : decode cJ6_getChars_ba4f3 115 = .ok (.bipush 45, 2) := by decide +kernel
theorem dJ6_getChars_ba4f3_117 : decode cJ6_getChars_ba4f3 117 = .ok (.bastore, 1) := by decide +kernel
theorem dJ6_getChars_ba4f3_118 : decode cJ6_getChars_ba4f3 118 = .ok (.iload 5, 2) := by decide +kernel
theorem dJ6_getChars_ba4f3_120 : decode cJ6_getChars_ba4f3 120 = .ok (.ireturn, 1) := by decide +kernel
theorem dJ6_stringSize_0f7a4_0 : decode cJ6_stringSize_0f7a4 0 = .ok (.iconst 1, 1) := by decide +kernel
theorem dJ6_stringSize_0f7a4_1 : decode cJ6_stringSize_0f7a4 1 = .ok (.istore_n 1, 1) := by decide +kernel
theorem dJ6_stringSize_0f7a4_2 : decode cJ6_stringSize_0f7a4 2 = .ok (.iload_n 0, 1) := by decide +kernel
theorem dJ6_stringSize_0f7a4_3 : decode cJ6_stringSize_0f7a4 3 = .ok (.ifCond .lt 8, 3) := by decide +kernel
theorem dJ6_stringSize_0f7a4_6 : decode cJ6_stringSize_0f7a4 6 = .ok (.iconst 0, 1) := by decide +kernel
theorem dJ6_stringSize_0f7a4_7 : decode cJ6_stringSize_0f7a4 7 = .ok (.istore_n 1, 1) := by decide +kernel
theorem dJ6_stringSize_0f7a4_8 : decode cJ6_stringSize_0f7a4 8 = .ok (.iload_n 0, 1) := by decide +kernel
theorem dJ6_stringSize_0f7a4_9 : decode cJ6_stringSize_0f7a4 9 = .ok (.ineg, 1) := by decide +kernel
theorem dJ6_stringSize_0f7a4_10 : decode cJ6_stringSize_0f7a4 10 = .ok (.istore_n 0, 1) := by decide +kernel
theorem dJ6_stringSize_0f7a4_11 : decode cJ6_stringSize_0f7a4 11 = .ok (.bipush (-10), 2) := by decide +kernel
theorem dJ6_stringSize_0f7a4_13 : decode cJ6_stringSize_0f7a4 13 = .ok (.istore_n 2, 1) := by decide +kernel
theorem dJ6_stringSize_0f7a4_14 : decode cJ6_stringSize_0f7a4 14 = .ok (.iconst 1, 1) := by decide +kernel
theorem dJ6_stringSize_0f7a4_15 : decode cJ6_stringSize_0f7a4 15 = .ok (.istore_n 3, 1) := by decide +kernel
theorem dJ6_stringSize_0f7a4_16 : decode cJ6_stringSize_0f7a4 16 = .ok (.iload_n 3, 1) := by decide +kernel
theorem dJ6_stringSize_0f7a4_17 : decode cJ6_stringSize_0f7a4 17 = .ok (.bipush 10, 2) := by decide +kernel
theorem dJ6_stringSize_0f7a4_19 : decode cJ6_stringSize_0f7a4 19 = .ok (.if_icmp .ge 23, 3) := by decide +kernel
theorem dJ6_stringSize_0f7a4_22 : decode cJ6_stringSize_0f7a4 22 = .ok (.iload_n 0, 1) := by decide +kernel
theorem dJ6_stringSize_0f7a4_23 : decode cJ6_stringSize_0f7a4 23 = .ok (.iload_n 2, 1) := by decide +kernel
theorem dJ6_stringSize_0f7a4_24 : decode cJ6_stringSize_0f7a4 24 = .ok (.if_icmp .le 7, 3) := by decide +kernel
theorem dJ6_stringSize_0f7a4_27 : decode cJ6_stringSize_0f7a4 27 = .ok (.iload_n 3, 1) := by decide +kernel
theorem dJ6_stringSize_0f7a4_28 : decode cJ6_stringSize_0f7a4 28 = .ok (.iload_n 1, 1) := by decide +kernel
theorem dJ6_stringSize_0f7a4_29 : decode cJ6_stringSize_0f7a4 29 = .ok (.iadd, 1) := by decide +kernel
theorem dJ6_stringSize_0f7a4_30 : decode cJ6_stringSize_0f7a4 30 = .ok (.ireturn, 1) := by decide +kernel
theorem dJ6_stringSize_0f7a4_31 : decode cJ6_stringSize_0f7a4 31 = .ok (.bipush 10, 2) := by decide +kernel
theorem dJ6_stringSize_0f7a4_33 : decode cJ6_stringSize_0f7a4 33 = .ok (.iload_n 2, 1) := by decide +kernel
theorem dJ6_stringSize_0f7a4_34 : decode cJ6_stringSize_0f7a4 34 = .ok (.imul, 1) := by decide +kernel
theorem dJ6_stringSize_0f7a4_35 : decode cJ6_stringSize_0f7a4 35 = .ok (.istore_n 2, 1) := by decide +kernel
theorem dJ6_stringSize_0f7a4_36 : decode cJ6_stringSize_0f7a4 36 = .ok (.iinc 3 1, 3) := by decide +kernel
theorem dJ6_stringSize_0f7a4_39 : decode cJ6_stringSize_0f7a4 39 = .ok (.goto (-23), 3) := by decide +kernel
theorem dJ6_stringSize_0f7a4_42 : decode cJ6_stringSize_0f7a4 42 = .ok (.bipush 10, 2) := by decide +kernel
theorem dJ6_stringSize_0f7a4_44 : decode cJ6_stringSize_0f7a4 44 = .ok (.iload_n 1, 1) := by decide +kernel
theorem dJ6_stringSize_0f7a4_45 : decode cJ6_stringSize_0f7a4 45 = .ok (.iadd, 1) := by decide +kernel
theorem dJ6_stringSize_0f7a4_46 : decode cJ6_stringSize_0f7a4 46 = .ok (.ireturn, 1) := by decide +kernel
theorem dJ6_bitCount_0f7a4_0 : decode cJ6_bitCount_0f7a4 0 = .ok (.iload_n 0, 1) := by decide +kernel
theorem dJ6_bitCount_0f7a4_1 : decode cJ6_bitCount_0f7a4 1 = .ok (.iload_n 0, 1) := by decide +kernel
theorem dJ6_bitCount_0f7a4_2 : decode cJ6_bitCount_0f7a4 2 = .ok (.iconst 1, 1) := by decide +kernel
theorem dJ6_bitCount_0f7a4_3 : decode cJ6_bitCount_0f7a4 3 = .ok (.iushr, 1) := by decide +kernel
theorem dJ6_bitCount_0f7a4_4 : decode cJ6_bitCount_0f7a4 4 = .ok (.ldc_w 265, 3) := by decide +kernel
theorem dJ6_bitCount_0f7a4_7 : decode cJ6_bitCount_0f7a4 7 = .ok (.iand, 1) := by decide +kernel
theorem dJ6_bitCount_0f7a4_8 : decode cJ6_bitCount_0f7a4 8 = .ok (.isub, 1) := by decide +kernel
theorem dJ6_bitCount_0f7a4_9 : decode cJ6_bitCount_0f7a4 9 = .ok (.istore_n 0, 1) := by decide +kernel
theorem dJ6_bitCount_0f7a4_10 : decode cJ6_bitCount_0f7a4 10 = .ok (.iload_n 0, 1) := by decide +kernel
theorem dJ6_bitCount_0f7a4_11 : decode cJ6_bitCount_0f7a4 11 = .ok (.ldc_w 266, 3) := by decide +kernel
theorem dJ6_bitCount_0f7a4_14 : decode cJ6_bitCount_0f7a4 14 = .ok (.iand, 1) := by decide +kernel
theorem dJ6_bitCount_0f7a4_15 : decode cJ6_bitCount_0f7a4 15 = .ok (.iload_n 0, 1) := by decide +kernel
theorem dJ6_bitCount_0f7a4_16 : decode cJ6_bitCount_0f7a4 16 = .ok (.iconst 2, 1) := by decide +kernel
theorem dJ6_bitCount_0f7a4_17 : decode cJ6_bitCount_0f7a4 17 = .ok (.iushr, 1) := by decide +kernel
theorem dJ6_bitCount_0f7a4_18 : decode cJ6_bitCount_0f7a4 18 = .ok (.ldc_w 266, 3) := by decide +kernel
theorem dJ6_bitCount_0f7a4_21 : decode cJ6_bitCount_0f7a4 21 = .ok (.iand, 1) := by decide +kernel
theorem dJ6_bitCount_0f7a4_22 : decode cJ6_bitCount_0f7a4 22 = .ok (.iadd, 1) := by decide +kernel
theorem dJ6_bitCount_0f7a4_23 : decode cJ6_bitCount_0f7a4 23 = .ok (.istore_n 0, 1) := by decide +kernel
theorem dJ6_bitCount_0f7a4_24 : decode cJ6_bitCount_0f7a4 24 = .ok (.iload_n 0, 1) := by decide +kernel
theorem dJ6_bitCount_0f7a4_25 : decode cJ6_bitCount_0f7a4 25 = .ok (.iload_n 0, 1) := by decide +kernel
theorem dJ6_bitCount_0f7a4_26 : decode cJ6_bitCount_0f7a4 26 = .ok (.iconst 4, 1) := by decide +kernel
theorem dJ6_bitCount_0f7a4_27 : decode cJ6_bitCount_0f7a4 27 = .ok (.iushr, 1) := by decide +kernel
theorem dJ6_bitCount_0f7a4_28 : decode cJ6_bitCount_0f7a4 28 = .ok (.iadd, 1) := by decide +kernel
theorem dJ6_bitCount_0f7a4_29 : decode cJ6_bitCount_0f7a4 29 = .ok (.ldc_w 267, 3) := by decide +kernel
theorem dJ6_bitCount_0f7a4_32 : decode cJ6_bitCount_0f7a4 32 = .ok (.iand, 1) := by decide +kernel
theorem dJ6_bitCount_0f7a4_33 : decode cJ6_bitCount_0f7a4 33 = .ok (.istore_n 0, 1) := by decide +kernel
theorem dJ6_bitCount_0f7a4_34 : decode cJ6_bitCount_0f7a4 34 = .ok (.iload_n 0, 1) := by decide +kernel
theorem dJ6_bitCount_0f7a4_35 : decode cJ6_bitCount_0f7a4 35 = .ok (.iload_n 0, 1) := by decide +kernel
theorem dJ6_bitCount_0f7a4_36 : decode cJ6_bitCount_0f7a4 36 = .ok (.bipush 8, 2) := by decide +kernel
theorem dJ6_bitCount_0f7a4_38 : decode cJ6_bitCount_0f7a4 38 = .ok (.iushr, 1) := by decide +kernel
theorem dJ6_bitCount_0f7a4_39 : decode cJ6_bitCount_0f7a4 39 = .ok (.iadd, 1) := by decide +kernel
theorem dJ6_bitCount_0f7a4_40 : decode cJ6_bitCount_0f7a4 40 = .ok (.istore_n 0, 1) := by decide +kernel
theorem dJ6_bitCount_0f7a4_41 : decode cJ6_bitCount_0f7a4 41 = .ok (.iload_n 0, 1) := by decide +kernel
theorem dJ6_bitCount_0f7a4_42 : decode cJ6_bitCount_0f7a4 42 = .ok (.iload_n 0, 1) := by decide +kernel
theorem dJ6_bitCount_0f7a4_43 : decode cJ6_bitCount_0f7a4 43 = .ok (.bipush 16, 2) := by decide +kernel
theorem dJ6_bitCount_0f7a4_45 : decode cJ6_bitCount_0f7a4 45 = .ok (.iushr, 1) := by decide +kernel
theorem dJ6_bitCount_0f7a4_46 : decode cJ6_bitCount_0f7a4 46 = .ok (.iadd, 1) := by decide +kernel
theorem dJ6_bitCount_0f7a4_47 : decode cJ6_bitCount_0f7a4 47 = .ok (.istore_n 0, 1) := by decide +kernel
theorem dJ6_bitCount_0f7a4_48 : decode cJ6_bitCount_0f7a4 48 = .ok (.iload_n 0, 1) := by decide +kernel
theorem dJ6_bitCount_0f7a4_49 : decode cJ6_bitCount_0f7a4 49 = .ok (.bipush 63, 2) := by decide +kernel
theorem dJ6_bitCount_0f7a4_51 : decode cJ6_bitCount_0f7a4 51 = .ok (.iand, 1) := by decide +kernel
theorem dJ6_bitCount_0f7a4_52 : decode cJ6_bitCount_0f7a4 52 = .ok (.ireturn, 1) := by decide +kernel
theorem dJ9_max_7cf53_0 : decode cJ9_max_7cf53 0 = .ok (.iload_n 0, 1) := by decide +kernel
theorem dJ9_max_7cf53_1 : decode cJ9_max_7cf53 1 = .ok (.iload_n 1, 1) := by decide +kernel
theorem dJ9_max_7cf53_2 : decode cJ9_max_7cf53 2 = .ok (.if_icmp .lt 7, 3) := by decide +kernel
theorem dJ9_max_7cf53_5 : decode cJ9_max_7cf53 5 = .ok (.iload_n 0, 1) := by decide +kernel
theorem dJ9_max_7cf53_6 : decode cJ9_max_7cf53 6 = .ok (.goto 4, 3) := by decide +kernel
theorem dJ9_max_7cf53_9 : decode cJ9_max_7cf53 9 = .ok (.iload_n 1, 1) := by decide +kernel
theorem dJ9_max_7cf53_10 : decode cJ9_max_7cf53 10 = .ok (.ireturn, 1) := by decide +kernel
theorem dJ9_min_7cf53_0 : decode cJ9_min_7cf53 0 = .ok (.iload_n 0, 1) := by decide +kernel
theorem dJ9_min_7cf53_1 : decode cJ9_min_7cf53 1 = .ok (.iload_n 1, 1) := by decide +kernel
theorem dJ9_min_7cf53_2 : decode cJ9_min_7cf53 2 = .ok (.if_icmp .gt 7, 3) := by decide +kernel
theorem dJ9_min_7cf53_5 : decode cJ9_min_7cf53 5 = .ok (.iload_n 0, 1) := by decide +kernel
theorem dJ9_min_7cf53_6 : decode cJ9_min_7cf53 6 = .ok (.goto 4, 3) := by decide +kernel
theorem dJ9_min_7cf53_9 : decode cJ9_min_7cf53 9 = .ok (.iload_n 1, 1) := by decide +kernel
theorem dJ9_min_7cf53_10 : decode cJ9_min_7cf53 10 = .ok (.ireturn, 1) := by decide +kernel
theorem dJ0_init_81219_0 : decode cJ0_init_81219 0 = .ok (.aload_n 0, 1) := by decide +kernel
theorem dJ0_init_81219_1 : decode cJ0_init_81219 1 = .ok (.aload_n 1, 1) := by decide +kernel
theorem dJ0_init_81219_2 : decode cJ0_init_81219 2 = .ok (.aconst_null, 1) := by decide +kernel
theorem dJ0_init_81219_3 : decode cJ0_init_81219 3 = .ok (.invokespecial 489, 3) := by decide +kernel
theorem dJ0_init_81219_6 : decode cJ0_init_81219 6 = .ok (.return_, 1) := by decide +kernel
theorem dJ0_length_8abf5_0 : decode cJ0_length_8abf5 0 = .ok (.aload_n 0, 1) := by decide +kernel
theorem dJ0_length_8abf5_1 : decode cJ0_length_8abf5 1 = .ok (.getfield 9, 3) := by decide +kernel
theorem dJ0_length_8abf5_4 : decode cJ0_length_8abf5 4 = .ok (.arraylength, 1) := by decide +kernel
theorem dJ0_length_8abf5_5 : decode cJ0_length_8abf5 5 = .ok (.aload_n 0, 1) := by decide +kernel
theorem dJ0_length_8abf5_6 : decode cJ0_length_8abf5 6 = .ok (.invokevirtual 335, 3) := by decide +kernel
theorem dJ0_length_8abf5_9 : decode cJ0_length_8abf5 9 = .ok (.ishr, 1) := by decide +kernel
theorem dJ0_length_8abf5_10 : decode cJ0_length_8abf5 10 = .ok (.ireturn, 1) := by decide +kernel
theorem dJ0_charAt_5068e_0 : decode cJ0_charAt_5068e 0 = .ok (.aload_n 0, 1) := by decide +kernel
theorem dJ0_charAt_5068e_1 : decode cJ0_charAt_5068e 1 = .ok (.invokevirtual 492, 3) := by decide +kernel
theorem dJ0_charAt_5068e_4 : decode cJ0_charAt_5068e 4 = .ok (.ifCond .eq 12, 3) := by decide +kernel
theorem dJ0_charAt_5068e_7 : decode cJ0_charAt_5068e 7 = .ok (.aload_n 0, 1) := by decide +kernel
theorem dJ0_charAt_5068e_8 : decode cJ0_charAt_5068e 8 = .ok (.getfield 9, 3) := by decide +kernel
theorem dJ0_charAt_5068e_11 : decode cJ0_charAt_5068e 11 = .ok (.iload_n 1, 1) := by decide +kernel
theorem dJ0_charAt_5068e_12 : decode cJ0_charAt_5068e 12 = .ok (.invokestatic 495, 3) := by decide +kernel
theorem dJ0_charAt_5068e_15 : decode cJ0_charAt_5068e 15 = .ok (.ireturn, 1) := by decide +kernel
theorem dJ0_charAt_5068e_16 : decode cJ0_charAt_5068e 16 = .ok (.aload_n 0, 1) := by decide +kernel
theorem dJ0_charAt_5068e_17 : decode cJ0_charAt_5068e 17 = .ok (.getfield 9, 3) := by decide +kernel
theorem dJ0_charAt_5068e_20 : decode cJ0_charAt_5068e 20 = .ok (.iload_n 1, 1) := by decide +kernel
theorem dJ0_charAt_5068e_21 : decode cJ0_charAt_5068e 21 = .ok (.invokestatic 498, 3) := by decide +kernel
theorem dJ0_charAt_5068e_24 : decode cJ0_charAt_5068e 24 = .ok (.ireturn, 1) := by decide +kernel
theorem dJ0_getBytes_840e7_0 : decode cJ0_getBytes_840e7 0 = .ok (.aload_n 0, 1) := by decide +kernel
theorem dJ0_getBytes_840e7_1 : decode cJ0_getBytes_840e7 1 = .ok (.invokevirtual 335, 3) := by decide +kernel
theorem dJ0_getBytes_840e7_4 : decode cJ0_getBytes_840e7 4 = .ok (.iload_n 3, 1) := by decide +kernel
theorem dJ0_getBytes_840e7_5 : decode cJ0_getBytes_840e7 5 = .ok (.if_icmp .ne 23, 3) := by decide +kernel
theorem dJ0_getBytes_840e7_8 : decode cJ0_getBytes_840e7 8 = .ok (.aload_n 0, 1) := by decide +kernel
theorem dJ0_getBytes_840e7_9 : decode cJ0_getBytes_840e7 9 = .ok (.getfield 9, 3) := by decide +kernel
theorem dJ0_getBytes_840e7_12 : decode cJ0_getBytes_840e7 12 = .ok (.iconst 0, 1) := by decide +kernel
theorem dJ0_getBytes_840e7_13 : decode cJ0_getBytes_840e7 13 = .ok (.aload_n 1, 1) := by decide +kernel
theorem dJ0_getBytes_840e7_14 : decode cJ0_getBytes_840e7 14 = .ok (.iload_n 2, 1) := by decide +kernel
theorem dJ0_getBytes_840e7_15 : decode cJ0_getBytes_840e7 15 = .ok (.iload_n 3, 1) := by decide +kernel
theorem dJ0_getBytes_840e7_16 : decode cJ0_getBytes_840e7 16 = .ok (.ishl, 1) := by decide +kernel
theorem dJ0_getBytes_840e7_17 : decode cJ0_getBytes_840e7 17 = .ok (.aload_n 0, 1) := by decide +kernel
theorem dJ0_getBytes_840e7_18 : decode cJ0_getBytes_840e7 18 = .ok (.getfield 9, 3) := by decide +kernel
theorem dJ0_getBytes_840e7_21 : decode cJ0_getBytes_840e7 21 = .ok (.arraylength, 1) := by decide +kernel
theorem dJ0_getBytes_840e7_22 : decode cJ0_getBytes_840e7 22 = .ok (.invokestatic 212, 3) := by decide +kernel
theorem dJ0_getBytes_840e7_25 : decode cJ0_getBytes_840e7 25 = .ok (.goto 18, 3) := by decide +kernel
theorem dJ0_getBytes_840e7_28 : decode cJ0_getBytes_840e7 28 = .ok (.aload_n 0, 1) := by decide +kernel
theorem dJ0_getBytes_840e7_29 : decode cJ0_getBytes_840e7 29 = .ok (.getfield 9, 3) := by decide +kernel
theorem dJ0_getBytes_840e7_32 : decode cJ0_getBytes_840e7 32 = .ok (.iconst 0, 1) := by decide +kernel
theorem dJ0_getBytes_840e7_33 : decode cJ0_getBytes_840e7 33 = .ok (.aload_n 1, 1) := by decide +kernel
theorem dJ0_getBytes_840e7_34 : decode cJ0_getBytes_840e7 34 = .ok (.iload_n 2, 1) := by decide +kernel
theorem dJ0_getBytes_840e7_35 : decode cJ0_getBytes_840e7 35 = .ok (.aload_n 0, 1) := by decide +kernel
theorem dJ0_getBytes_840e7_36 : decode cJ0_getBytes_840e7 36 = .ok (.getfield 9, 3) := by decide +kernel
theorem dJ0_getBytes_840e7_39 : decode cJ0_getBytes_840e7 39 = .ok (.arraylength, 1) := by decide +kernel
theorem dJ0_getBytes_840e7_40 : decode cJ0_getBytes_840e7 40 = .ok (.invokestatic 106, 3) := by decide +kernel
theorem dJ0_getBytes_840e7_43 : decode cJ0_getBytes_840e7 43 = .ok (.return_, 1) := by decide +kernel
theorem dJ0_init_db425_0 : decode cJ0_init_db425 0 = .ok (.aload_n 0, 1) := by decide +kernel
theorem dJ0_init_db425_1 : decode cJ0_init_db425 1 = .ok (.invokespecial 1, 3) := by decide +kernel
theorem dJ0_init_db425_4 : decode cJ0_init_db425 4 = .ok (.aload_n 1, 1) := by decide +kernel
theorem dJ0_init_db425_5 : decode cJ0_init_db425 5 = .ok (.invokevirtual 552, 3) := by decide +kernel
theorem dJ0_init_db425_8 : decode cJ0_init_db425 8 = .ok (.astore_n 3, 1) := by decide +kernel
theorem dJ0_init_db425_9 : decode cJ0_init_db425 9 = .ok (.aload_n 1, 1) := by decide +kernel
theorem dJ0_init_db425_10 : decode cJ0_init_db425 10 = .ok (.invokevirtual 549, 3) := by decide +kernel
theorem dJ0_init_db425_13 : decode cJ0_init_db425 13 = .ok (.istore 4, 2) := by decide +kernel
theorem dJ0_init_db425_15 : decode cJ0_init_db425 15 = .ok (.aload_n 1, 1) := by decide +kernel
theorem dJ0_init_db425_16 : decode cJ0_init_db425 16 = .ok (.invokevirtual 1047, 3) := by decide +kernel
theorem dJ0_init_db425_19 : decode cJ0_init_db425 19 = .ok (.ifCond .eq 22, 3) := by decide +kernel
theorem dJ0_init_db425_22 : decode cJ0_init_db425 22 = .ok (.aload_n 0, 1) := by decide +kernel
theorem dJ0_init_db425_23 : decode cJ0_init_db425 23 = .ok (.iconst 0, 1) := by decide +kernel
theorem dJ0_init_db425_24 : decode cJ0_init_db425 24 = .ok (.putfield 15, 3) := by decide +kernel
theorem dJ0_init_db425_27 : decode cJ0_init_db425 27 = .ok (.aload_n 0, 1) := by decide +kernel
theorem dJ0_init_db425_28 : decode cJ0_init_db425 28 = .ok (.aload_n 3, 1) := by decide +kernel
theorem dJ0_init_db425_29 : decode cJ0_init_db425 29 = .ok (.iconst 0, 1) := by decide +kernel
theorem dJ0_init_db425_30 : decode cJ0_init_db425 30 = .ok (.iload 4, 2) := by decide +kernel
theorem dJ0_init_db425_32 : decode cJ0_init_db425 32 = .ok (.invokestatic 54, 3) := by decide +kernel
theorem dJ0_init_db425_35 : decode cJ0_init_db425 35 = .ok (.putfield 9, 3) := by decide +kernel
theorem dJ0_init_db425_38 : decode cJ0_init_db425 38 = .ok (.goto 59, 3) := by decide +kernel
theorem dJ0_init_db425_41 : decode cJ0_init_db425 41 = .ok (.getstatic 38, 3) := by decide +kernel
theorem dJ0_init_db425_44 : decode cJ0_init_db425 44 = .ok (.ifCond .eq 35, 3) := by decide +kernel
theorem dJ0_init_db425_47 : decode cJ0_init_db425 47 = .ok (.aload_n 1, 1) := by decide +kernel
theorem dJ0_init_db425_48 : decode cJ0_init_db425 48 = .ok (.getfield 1048, 3) := by decide +kernel
theorem dJ0_init_db425_51 : decode cJ0_init_db425 51 = .ok (.ifCond .eq 28, 3) := by decide +kernel
theorem dJ0_init_db425_54 : decode cJ0_init_db425 54 = .ok (.aload_n 0, 1) := by decide +kernel
theorem dJ0_init_db425_55 : decode cJ0_init_db425 55 = .ok (.aload_n 3, 1) := by decide +kernel
theorem dJ0_init_db425_56 : decode cJ0_init_db425 56 = .ok (.iconst 0, 1) := by decide +kernel
theorem dJ0_init_db425_57 : decode cJ0_init_db425 57 = .ok (.iload 4, 2) := by decide +kernel
theorem dJ0_init_db425_59 : decode cJ0_init_db425 59 = .ok (.invokestatic 1051, 3) := by decide +kernel
theorem dJ0_init_db425_62 : decode cJ0_init_db425 62 = .ok (.putfield 9, 3) := by decide +kernel
theorem dJ0_init_db425_65 : decode cJ0_init_db425 65 = .ok (.aload_n 0, 1) := by decide +kernel
theorem dJ0_init_db425_66 : decode cJ0_init_db425 66 = .ok (.aload_n 0, 1) := by decide +kernel
theorem dJ0_init_db425_67 : decode cJ0_init_db425 67 = .ok (.getfield 9, 3) := by decide +kernel
theorem dJ0_init_db425_70 : decode cJ0_init_db425 70 = .ok (.iload 4, 2) := by decide +kernel
theorem dJ0_init_db425_72 : decode cJ0_init_db425 72 = .ok (.invokestatic 47, 3) := by decide +kernel
theorem dJ0_init_db425_75 : decode cJ0_init_db425 75 = .ok (.putfield 15, 3) := by decide +kernel
theorem dJ0_init_db425_78 : decode cJ0_init_db425 78 = .ok (.return_, 1) := by decide +kernel
theorem dJ0_init_db425_79 : decode cJ0_init_db425 79 = .ok (.aload_n 0, 1) := by decide +kernel
theorem dJ0_init_db425_80 : decode cJ0_init_db425 80 = .ok (.iconst 1, 1) := by decide +kernel
theorem dJ0_init_db425_81 : decode cJ0_init_db425 81 = .ok (.putfield 15, 3) := by decide +kernel
theorem dJ0_init_db425_84 : decode cJ0_init_db425 84 = .ok (.aload_n 0, 1) := by decide +kernel
theorem dJ0_init_db425_85 : decode cJ0_init_db425 85 = .ok (.aload_n 3, 1) := by decide +kernel
theorem dJ0_init_db425_86 : decode cJ0_init_db425 86 = .ok (.iconst 0, 1) := by decide +kernel
theorem dJ0_init_db425_87 : decode cJ0_init_db425 87 = .ok (.iload 4, 2) := by decide +kernel
theorem dJ0_init_db425_89 : decode cJ0_init_db425 89 = .ok (.iconst 1, 1) := by decide +kernel
theorem dJ0_init_db425_90 : decode cJ0_init_db425 90 = .ok (.ishl, 1) := by decide +kernel
theorem dJ0_init_db425_91 : decode cJ0_init_db425 91 = .ok (.invokestatic 54, 3) := by decide +kernel
theorem dJ0_init_db425_94 : decode cJ0_init_db425 94 = .ok (.putfield 9, 3) := by decide +kernel
theorem dJ0_init_db425_97 : decode cJ0_init_db425 97 = .ok (.return_, 1) := by decide +kernel
theorem dJ0_coder_7d493_0 : decode cJ0_coder_7d493 0 = .ok (.getstatic 38, 3) := by decide +kernel
theorem dJ0_coder_7d493_3 : decode cJ0_coder_7d493 3 = .ok (.ifCond .eq 10, 3) := by decide +kernel
theorem dJ0_coder_7d493_6 : decode cJ0_coder_7d493 6 = .ok (.aload_n 0, 1) := by decide +kernel
theorem dJ0_coder_7d493_7 : decode cJ0_coder_7d493 7 = .ok (.getfield 15, 3) := by decide +kernel
theorem dJ0_coder_7d493_10 : decode cJ0_coder_7d493 10 = .ok (.goto 4, 3) := by decide +kernel
theorem dJ0_coder_7d493_13 : decode cJ0_coder_7d493 13 = .ok (.iconst 1, 1) := by decide +kernel
theorem dJ0_coder_7d493_14 : decode cJ0_coder_7d493 14 = .ok (.ireturn, 1) := by decide +kernel
theorem dJ0_isLatin1_aae02_0 : decode cJ0_isLatin1_aae02 0 = .ok (.getstatic 38, 3) := by decide +kernel
theorem dJ0_isLatin1_aae02_3 : decode cJ0_isLatin1_aae02 3 = .ok (.ifCond .eq 14, 3) := by decide +kernel
theorem dJ0_isLatin1_aae02_6 : decode cJ0_isLatin1_aae02 6 = .ok (.aload_n 0, 1) := by decide +kernel
theorem dJ0_isLatin1_aae02_7 : decode cJ0_isLatin1_aae02 7 = .ok (.getfield 15, 3) := by decide +kernel
theorem dJ0_isLatin1_aae02_10 : decode cJ0_isLatin1_aae02 10 = .ok (.ifCond .ne 7, 3) := by decide +kernel
theorem dJ0_isLatin1_aae02_13 : decode cJ0_isLatin1_aae02 13 = .ok (.iconst 1, 1) := by decide +kernel
theorem dJ0_isLatin1_aae02_14 : decode cJ0_isLatin1_aae02 14 = .ok (.goto 4, 3) := by decide +kernel
theorem dJ0_isLatin1_aae02_17 : decode cJ0_isLatin1_aae02 17 = .ok (.iconst 0, 1) := by decide +kernel
theorem dJ0_isLatin1_aae02_18 : decode cJ0_isLatin1_aae02 18 = .ok (.ireturn, 1) := by decide +kernel
theorem dJ0_checkIndex_df160_0 : decode cJ0_checkIndex_df160 0 = .ok (.iload_n 0, 1) := by decide +kernel
theorem dJ0_checkIndex_df160_1 : decode cJ0_checkIndex_df160 1 = .ok (.iload_n 1, 1) := by decide +kernel
theorem dJ0_checkIndex_df160_2 : decode cJ0_checkIndex_df160 2 = .ok (.getstatic 1053, 3) := by decide +kernel
theorem dJ0_checkIndex_df160_5 : decode cJ0_checkIndex_df160 5 = .ok (.invokestatic 1059, 3) := by decide +kernel
theorem dJ0_checkIndex_df160_8 : decode cJ0_checkIndex_df160 8 = .ok (.pop, 1) := by decide +kernel
theorem dJ0_checkIndex_df160_9 : decode cJ0_checkIndex_df160 9 = .ok (.return_, 1) := by decide +kernel
theorem dJ0_checkBoundsOffCount_cabcc_0 : decode cJ0_checkBoundsOffCount_cabcc 0 = .ok (.iload_n 0, 1) := by decide +kernel
theorem dJ0_checkBoundsOffCount_cabcc_1 : decode cJ0_checkBoundsOffCount_cabcc 1 = .ok (.iload_n 1, 1) := by decide +kernel
theorem dJ0_checkBoundsOffCount_cabcc_2 : decode cJ0_checkBoundsOffCount_cabcc 2 = .ok (.iload_n 2, 1) := by decide +kernel
theorem dJ0_checkBoundsOffCount_cabcc_3 : decode cJ0_checkBoundsOffCount_cabcc 3 = .ok (.getstatic 1053, 3) := by decide +kernel
theorem dJ0_checkBoundsOffCount_cabcc_6 : decode cJ0_checkBoundsOffCount_cabcc 6 = .ok (.invokestatic 1065, 3) := by decide +kernel
theorem dJ0_checkBoundsOffCount_cabcc_9 : decode cJ0_checkBoundsOffCount_cabcc 9 = .ok (.ireturn, 1) := by decide +kernel
theorem dJ0_checkBoundsBeginEnd_23922_0 : decode cJ0_checkBoundsBeginEnd_23922 0 = .ok (.iload_n 0, 1) := by decide +kernel
theorem dJ0_checkBoundsBeginEnd_23922_1 : decode cJ0_checkBoundsBeginEnd_23922 1 = .ok (.iload_n 1, 1) := by decide +kernel
theorem dJ0_checkBoundsBeginEnd_23922_2 : decode cJ0_checkBoundsBeginEnd_23922 2 = .ok (.iload_n 2, 1) := by decide +kernel
theorem dJ0_checkBoundsBeginEnd_23922_3 : decode cJ0_checkBoundsBeginEnd_23922 3 = .ok (.getstatic 1053, 3) := by decide +kernel
theorem dJ0_checkBoundsBeginEnd_23922_6 : decode cJ0_checkBoundsBeginEnd_23922 6 = .ok (.invokestatic 1062, 3) := by decide +kernel
theorem dJ0_checkBoundsBeginEnd_23922_9 : decode cJ0_checkBoundsBeginEnd_23922 9 = .ok (.pop, 1) := by decide +kernel
theorem dJ0_checkBoundsBeginEnd_23922_10 : decode cJ0_checkBoundsBeginEnd_23922 10 = .ok (.return_, 1) := by decide +kernel
theorem dJ4_init_da8c8_0 : decode cJ4_init_da8c8 0 = .ok (.aload_n 0, 1) := by decide +kernel
theorem dJ4_init_da8c8_1 : decode cJ4_init_da8c8 1 = .ok (.bipush 16, 2) := by decide +kernel
theorem dJ4_init_da8c8_3 : decode cJ4_init_da8c8 3 = .ok (.invokespecial 1, 3) := by decide +kernel
theorem dJ4_init_da8c8_6 : decode cJ4_init_da8c8 6 = .ok (.return_, 1) := by decide +kernel
theorem dJ4_append_15ec4_0 : decode cJ4_append_15ec4 0 = .ok (.aload_n 0, 1) := by decide +kernel
theorem dJ4_append_15ec4_1 : decode cJ4_append_15ec4 1 = .ok (.aload_n 1, 1) := by decide +kernel
theorem dJ4_append_15ec4_2 : decode cJ4_append_15ec4 2 = .ok (.invokespecial 29, 3) := by decide +kernel
theorem dJ4_append_15ec4_5 : decode cJ4_append_15ec4 5 = .ok (.pop, 1) := by decide +kernel
theorem dJ4_append_15ec4_6 : decode cJ4_append_15ec4 6 = .ok (.aload_n 0, 1) := by decide +kernel
theorem dJ4_append_15ec4_7 : decode cJ4_append_15ec4 7 = .ok (.areturn, 1) := by decide +kernel
theorem dJ4_append_bf812_0 : decode cJ4_append_bf812 0 = .ok (.aload_n 0, 1) := by decide +kernel
theorem dJ4_append_bf812_1 : decode cJ4_append_bf812 1 = .ok (.iload_n 1, 1) := by decide +kernel
theorem dJ4_append_bf812_2 : decode cJ4_append_bf812 2 = .ok (.invokespecial 53, 3) := by decide +kernel
theorem dJ4_append_bf812_5 : decode cJ4_append_bf812 5 = .ok (.pop, 1) := by decide +kernel
theorem dJ4_append_bf812_6 : decode cJ4_append_bf812 6 = .ok (.aload_n 0, 1) := by decide +kernel
theorem dJ4_append_bf812_7 : decode cJ4_append_bf812 7 = .ok (.areturn, 1) := by decide +kernel
theorem dJ4_toString_0e30d_0 : decode cJ4_toString_0e30d 0 = .ok (.new 18, 3) := by decide +kernel
theorem dJ4_toString_0e30d_3 : decode cJ4_toString_0e30d 3 = .ok (.dup, 1) := by decide +kernel
theorem dJ4_toString_0e30d_4 : decode cJ4_toString_0e30d 4 = .ok (.aload_n 0, 1) := by decide +kernel
theorem dJ4_toString_0e30d_5 : decode cJ4_toString_0e30d 5 = .ok (.invokespecial 137, 3) := by decide +kernel
theorem dJ4_toString_0e30d_8 : decode cJ4_toString_0e30d 8 = .ok (.areturn, 1) := by decide +kernel
theorem dJ4_length_8abf5_0 : decode cJ4_length_8abf5 0 = .ok (.aload_n 0, 1) := by decide +kernel
theorem dJ4_length_8abf5_1 : decode cJ4_length_8abf5 1 = .ok (.invokespecial 343, 3) := by decide +kernel
theorem dJ4_length_8abf5_4 : decode cJ4_length_8abf5 4 = .ok (.ireturn, 1) := by decide +kernel
theorem dJ1_charAt_3b067_0 : decode cJ1_charAt_3b067 0 = .ok (.iload_n 1, 1) := by decide +kernel
theorem dJ1_charAt_3b067_1 : decode cJ1_charAt_3b067 1 = .ok (.aload_n 0, 1) := by decide +kernel
theorem dJ1_charAt_3b067_2 : decode cJ1_charAt_3b067 2 = .ok (.arraylength, 1) := by decide +kernel
theorem dJ1_charAt_3b067_3 : decode cJ1_charAt_3b067 3 = .ok (.invokestatic 9, 3) := by decide +kernel
theorem dJ1_charAt_3b067_6 : decode cJ1_charAt_3b067 6 = .ok (.aload_n 0, 1) := by decide +kernel
theorem dJ1_charAt_3b067_7 : decode cJ1_charAt_3b067 7 = .ok (.iload_n 1, 1) := by decide +kernel
theorem dJ1_charAt_3b067_8 : decode cJ1_charAt_3b067 8 = .ok (.baload, 1) := by decide +kernel
theorem dJ1_charAt_3b067_9 : decode cJ1_charAt_3b067 9 = .ok (.sipush 255, 3) := by decide +kernel
theorem dJ1_charAt_3b067_12 : decode cJ1_charAt_3b067 12 = .ok (.iand, 1) := by decide +kernel
theorem dJ1_charAt_3b067_13 : decode cJ1_charAt_3b067 13 = .ok (.i2c, 1) := by decide +kernel
theorem dJ1_charAt_3b067_14 : decode cJ1_charAt_3b067 14 = .ok (.ireturn, 1) := by decide +kernel
theorem dJ1_inflate_0e8fd_0 : decode cJ1_inflate_0e8fd 0 = .ok (.aload_n 0, 1) := by decide +kernel
theorem dJ1_inflate_0e8fd_1 : decode cJ1_inflate_0e8fd 1 = .ok (.iload_n 1, 1) := by decide +kernel
theorem dJ1_inflate_0e8fd_2 : decode cJ1_inflate_0e8fd 2 = .ok (.aload_n 2, 1) := by decide +kernel
theorem dJ1_inflate_0e8fd_3 : decode cJ1_inflate_0e8fd 3 = .ok (.iload_n 3, 1) := by decide +kernel
theorem dJ1_inflate_0e8fd_4 : decode cJ1_inflate_0e8fd 4 = .ok (.iload 4, 2) := by decide +kernel
theorem dJ1_inflate_0e8fd_6 : decode cJ1_inflate_0e8fd 6 = .ok (.invokestatic 240, 3) := by decide +kernel
theorem dJ1_inflate_0e8fd_9 : decode cJ1_inflate_0e8fd 9 = .ok (.return_, 1) := by decide +kernel
theorem dJ2_newBytesFor_77867_0 : decode cJ2_newBytesFor_77867 0 = .ok (.iload_n 0, 1) := by decide +kernel
theorem dJ2_newBytesFor_77867_1 : decode cJ2_newBytesFor_77867 1 = .ok (.invokestatic 11, 3) := by decide +kernel
theorem dJ2_newBytesFor_77867_4 : decode cJ2_newBytesFor_77867 4 = .ok (.newarray .byte, 2) := by decide +kernel
theorem dJ2_newBytesFor_77867_6 : decode cJ2_newBytesFor_77867 6 = .ok (.areturn, 1) := by decide +kernel
theorem dJ2_newBytesLength_0f7a4_0 : decode cJ2_newBytesLength_0f7a4 0 = .ok (.iload_n 0, 1) := by decide +kernel
theorem dJ2_newBytesLength_0f7a4_1 : decode cJ2_newBytesLength_0f7a4 1 = .ok (.ifCond .ge 11, 3) := by decide +kernel
theorem dJ2_newBytesLength_0f7a4_4 : decode cJ2_newBytesLength_0f7a4 4 = .ok (.new 17, 3) := by decide +kernel
theorem dJ2_newBytesLength_0f7a4_7 : decode cJ2_newBytesLength_0f7a4 7 = .ok (.dup, 1) := by decide +kernel
theorem dJ2_newBytesLength_0f7a4_8 : decode cJ2_newBytesLength_0f7a4 8 = .ok (.invokespecial 19, 3) := by decide +kernel
theorem dJ2_newBytesLength_0f7a4_11 : decode cJ2_newBytesLength_0f7a4 11 = .ok (.athrow, 1) := by decide +kernel
theorem dJ2_newBytesLength_0f7a4_12 : decode cJ2_newBytesLength_0f7a4 12 = .ok (.iload_n 0, 1) := by decide +kernel
theorem dJ2_newBytesLength_0f7a4_13 : decode cJ2_newBytesLength_0f7a4 13 = .ok (.ldc 20, 2) := by decide +kernel
theorem dJ2_newBytesLength_0f7a4_15 : decode cJ2_newBytesLength_0f7a4 15 = .ok (.if_icmp .lt 40, 3) := by decide +kernel
theorem dJ2_newBytesLength_0f7a4_18 : decode cJ2_newBytesLength_0f7a4 18 = .ok (.new 21, 3) := by decide +kernel
theorem dJ2_newBytesLength_0f7a4_21 : decode cJ2_newBytesLength_0f7a4 21 = .ok (.dup, 1) := by decide +kernel
theorem dJ2_newBytesLength_0f7a4_22 : decode cJ2_newBytesLength_0f7a4 22 = .ok (.new 23, 3) := by decide +kernel
theorem dJ2_newBytesLength_0f7a4_25 : decode cJ2_newBytesLength_0f7a4 25 = .ok (.dup, 1) := by decide +kernel
theorem dJ2_newBytesLength_0f7a4_26 : decode cJ2_newBytesLength_0f7a4 26 = .ok (.invokespecial 25, 3) := by decide +kernel
theorem dJ2_newBytesLength_0f7a4_29 : decode cJ2_newBytesLength_0f7a4 29 = .ok (.ldc 26, 2) := by decide +kernel
theorem dJ2_newBytesLength_0f7a4_31 : decode cJ2_newBytesLength_0f7a4 31 = .ok (.invokevirtual 28, 3) := by decide +kernel
theorem dJ2_newBytesLength_0f7a4_34 : decode cJ2_newBytesLength_0f7a4 34 = .ok (.iload_n 0, 1) := by decide +kernel
theorem dJ2_newBytesLength_0f7a4_35 : decode cJ2_newBytesLength_0f7a4 35 = .ok (.invokevirtual 32, 3) := by decide +kernel
theorem dJ2_newBytesLength_0f7a4_38 : decode cJ2_newBytesLength_0f7a4 38 = .ok (.ldc 35, 2) := by decide +kernel
theorem dJ2_newBytesLength_0f7a4_40 : decode cJ2_newBytesLength_0f7a4 40 = .ok (.invokevirtual 28, 3) := by decide +kernel
theorem dJ2_newBytesLength_0f7a4_43 : decode cJ2_newBytesLength_0f7a4 43 = .ok (.ldc 20, 2) := by decide +kernel
theorem dJ2_newBytesLength_0f7a4_45 : decode cJ2_newBytesLength_0f7a4 45 = .ok (.invokevirtual 32, 3) := by decide +kernel
theorem dJ2_newBytesLength_0f7a4_48 : decode cJ2_newBytesLength_0f7a4 48 = .ok (.invokevirtual 37, 3) := by decide +kernel
theorem dJ2_newBytesLength_0f7a4_51 : decode cJ2_newBytesLength_0f7a4 51 = .ok (.invokespecial 41, 3) := by decide +kernel
theorem dJ2_newBytesLength_0f7a4_54 : decode cJ2_newBytesLength_0f7a4 54 = .ok (.athrow, 1) := by decide +kernel
theorem dJ2_newBytesLength_0f7a4_55 : decode cJ2_newBytesLength_0f7a4 55 = .ok (.iload_n 0, 1) := by decide +kernel
theorem dJ2_newBytesLength_0f7a4_56 : decode cJ2_newBytesLength_0f7a4 56 = .ok (.iconst 1, 1) := by decide +kernel
theorem dJ2_newBytesLength_0f7a4_57 : decode cJ2_newBytesLength_0f7a4 57 = .ok (.ishl, 1) := by decide +kernel
theorem dJ2_newBytesLength_0f7a4_58 : decode cJ2_newBytesLength_0f7a4 58 = .ok (.ireturn, 1) := by decide +kernel
theorem dJ2_putChar_b72d1_0 : decode cJ2_putChar_b72d1 0 = .ok (.getstatic 44, 3) := by decide +kernel
theorem dJ2_putChar_b72d1_3 : decode cJ2_putChar_b72d1 3 = .ok (.ifCond .ne 25, 3) := by decide +kernel
theorem dJ2_putChar_b72d1_6 : decode cJ2_putChar_b72d1 6 = .ok (.iload_n 1, 1) := by decide +kernel
theorem dJ2_putChar_b72d1_7 : decode cJ2_putChar_b72d1 7 = .ok (.ifCond .lt 11, 3) := by decide +kernel
theorem dJ2_putChar_b72d1_10 : decode cJ2_putChar_b72d1 10 = .ok (.iload_n 1, 1) := by decide +kernel
theorem dJ2_putChar_b72d1_11 : decode cJ2_putChar_b72d1 11 = .ok (.aload_n 0, 1) := by decide +kernel
theorem dJ2_putChar_b72d1_12 : decode cJ2_putChar_b72d1 12 = .ok (.invokestatic 48, 3) := by decide +kernel
theorem dJ2_putChar_b72d1_15 : decode cJ2_putChar_b72d1 15 = .ok (.if_icmp .lt 13, 3) := by decide +kernel
theorem dJ2_putChar_b72d1_18 : decode cJ2_putChar_b72d1 18 = .ok (.new 52, 3) := by decide +kernel
theorem dJ2_putChar_b72d1_21 : decode cJ2_putChar_b72d1 21 = .ok (.dup, 1) := by decide +kernel
theorem dJ2_putChar_b72d1_22 : decode cJ2_putChar_b72d1 22 = .ok (.ldc 54, 2) := by decide +kernel
theorem dJ2_putChar_b72d1_24 : decode cJ2_putChar_b72d1 24 = .ok (.invokespecial 56, 3) := by decide +kernel
theorem dJ2_putChar_b72d1_27 : decode cJ2_putChar_b72d1 27 = .ok (.athrow, 1) := by decide +kernel
theorem dJ2_putChar_b72d1_28 : decode cJ2_putChar_b72d1 28 = .ok (.iload_n 1, 1) := by decide +kernel
theorem dJ2_putChar_b72d1_29 : decode cJ2_putChar_b72d1 29 = .ok (.iconst 1, 1) := by decide +kernel
theorem dJ2_putChar_b72d1_30 : decode cJ2_putChar_b72d1 30 = .ok (.ishl, 1) := by decide +kernel
theorem dJ2_putChar_b72d1_31 : decode cJ2_putChar_b72d1 31 = .ok (.istore_n 1, 1) := by decide +kernel
theorem dJ2_putChar_b72d1_32 : decode cJ2_putChar_b72d1 32 = .ok (.aload_n 0, 1) := by decide +kernel
theorem dJ2_putChar_b72d1_33 : decode cJ2_putChar_b72d1 33 = .ok (.iload_n 1, 1) := by decide +kernel
theorem dJ2_putChar_b72d1_34 : decode cJ2_putChar_b72d1 34 = .ok (.iinc 1 1, 3) := by decide +kernel
theorem dJ2_putChar_b72d1_37 : decode cJ2_putChar_b72d1 37 = .ok (.iload_n 2, 1) := by decide +kernel
theorem dJ2_putChar_b72d1_38 : decode cJ2_putChar_b72d1 38 = .ok (.getstatic 59, 3) := by decide +kernel
theorem dJ2_putChar_b72d1_41 : decode cJ2_putChar_b72d1 41 = .ok (.ishr, 1) := by decide +kernel
theorem dJ2_putChar_b72d1_42 : decode cJ2_putChar_b72d1 42 = .ok (.i2b, 1) := by decide +kernel
theorem dJ2_putChar_b72d1_43 : decode cJ2_putChar_b72d1 43 = .ok (.bastore, 1) := by decide +kernel
theorem dJ2_putChar_b72d1_44 : decode cJ2_putChar_b72d1 44 = .ok (.aload_n 0, 1) := by decide +kernel
theorem dJ2_putChar_b72d1_45 : decode cJ2_putChar_b72d1 45 = .ok (.iload_n 1, 1) := by decide +kernel
theorem dJ2_putChar_b72d1_46 : decode cJ2_putChar_b72d1 46 = .ok (.iload_n 2, 1) := by decide +kernel
theorem dJ2_putChar_b72d1_47 : decode cJ2_putChar_b72d1 47 = .ok (.getstatic 63, 3) := by decide +kernel
theorem dJ2_putChar_b72d1_50 : decode cJ2_putChar_b72d1 50 = .ok (.ishr, 1) := by decide +kernel
theorem dJ2_putChar_b72d1_51 : decode cJ2_putChar_b72d1 51 = .ok (.i2b, 1) := by decide +kernel
theorem dJ2_putChar_b72d1_52 : decode cJ2_putChar_b72d1 52 = .ok (.bastore, 1) := by decide +kernel
theorem dJ2_putChar_b72d1_53 : decode cJ2_putChar_b72d1 53 = .ok (.return_, 1) := by decide +kernel
theorem dJ2_getChar_3b067_0 : decode cJ2_getChar_3b067 0 = .ok (.getstatic 44, 3) := by decide +kernel
theorem dJ2_getChar_3b067_3 : decode cJ2_getChar_3b067 3 = .ok (.ifCond .ne 25, 3) := by decide +kernel
theorem dJ2_getChar_3b067_6 : decode cJ2_getChar_3b067 6 = .ok (.iload_n 1, 1) := by decide +kernel
theorem dJ2_getChar_3b067_7 : decode cJ2_getChar_3b067 7 = .ok (.ifCond .lt 11, 3) := by decide +kernel
theorem dJ2_getChar_3b067_10 : decode cJ2_getChar_3b067 10 = .ok (.iload_n 1, 1) := by decide +kernel
theorem dJ2_getChar_3b067_11 : decode cJ2_getChar_3b067 11 = .ok (.aload_n 0, 1) := by decide +kernel
theorem dJ2_getChar_3b067_12 : decode cJ2_getChar_3b067 12 = .ok (.invokestatic 48, 3) := by decide +kernel
theorem dJ2_getChar_3b067_15 : decode cJ2_getChar_3b067 15 = .ok (.if_icmp .lt 13, 3) := by decide +kernel
theorem dJ2_getChar_3b067_18 : decode cJ2_getChar_3b067 18 = .ok (.new 52, 3) := by decide +kernel
theorem dJ2_getChar_3b067_21 : decode cJ2_getChar_3b067 21 = .ok (.dup, 1) := by decide +kernel
theorem dJ2_getChar_3b067_22 : decode cJ2_getChar_3b067 22 = .ok (.ldc 54, 2) := by decide +kernel
theorem dJ2_getChar_3b067_24 : decode cJ2_getChar_3b067 24 = .ok (.invokespecial 56, 3) := by decide +kernel
theorem dJ2_getChar_3b067_27 : decode cJ2_getChar_3b067 27 = .ok (.athrow, 1) := by decide +kernel
theorem dJ2_getChar_3b067_28 : decode cJ2_getChar_3b067 28 = .ok (.iload_n 1, 1) := by decide +kernel
theorem dJ2_getChar_3b067_29 : decode cJ2_getChar_3b067 29 = .ok (.iconst 1, 1) := by decide +kernel
theorem dJ2_getChar_3b067_30 : decode cJ2_getChar_3b067 30 = .ok (.ishl, 1) := by decide +kernel
theorem dJ2_getChar_3b067_31 : decode cJ2_getChar_3b067 31 = .ok (.istore_n 1, 1) := by decide +kernel
theorem dJ2_getChar_3b067_32 : decode cJ2_getChar_3b067 32 = .ok (.aload_n 0, 1) := by decide +kernel
theorem dJ2_getChar_3b067_33 : decode cJ2_getChar_3b067 33 = .ok (.iload_n 1, 1) := by decide +kernel
theorem dJ2_getChar_3b067_34 : decode cJ2_getChar_3b067 34 = .ok (.iinc 1 1, 3) := by decide +kernel
theorem dJ2_getChar_3b067_37 : decode cJ2_getChar_3b067 37 = .ok (.baload, 1) := by decide +kernel
theorem dJ2_getChar_3b067_38 : decode cJ2_getChar_3b067 38 = .ok (.sipush 255, 3) := by decide +kernel
theorem dJ2_getChar_3b067_41 : decode cJ2_getChar_3b067 41 = .ok (.iand, 1) := by decide +kernel
theorem dJ2_getChar_3b067_42 : decode cJ2_getChar_3b067 42 = .ok (.getstatic 59, 3) := by decide +kernel
theorem dJ2_getChar_3b067_45 : decode cJ2_getChar_3b067 45 = .ok (.ishl, 1) := by decide +kernel
theorem dJ2_getChar_3b067_46 : decode cJ2_getChar_3b067 46 = .ok (.aload_n 0, 1) := by decide +kernel
theorem dJ2_getChar_3b067_47 : decode cJ2_getChar_3b067 47 = .ok (.iload_n 1, 1) := by decide +kernel
theorem dJ2_getChar_3b067_48 : decode cJ2_getChar_3b067 48 = .ok (.baload, 1) := by decide +kernel
theorem dJ2_getChar_3b067_49 : decode cJ2_getChar_3b067 49 = .ok (.sipush 255, 3) := by decide +kernel
theorem dJ2_getChar_3b067_52 : decode cJ2_getChar_3b067 52 = .ok (.iand, 1) := by decide +kernel
theorem dJ2_getChar_3b067_53 : decode cJ2_getChar_3b067 53 = .ok (.getstatic 63, 3) := by decide +kernel
theorem dJ2_getChar_3b067_56 : decode cJ2_getChar_3b067 56 = .ok (.ishl, 1) := by decide +kernel
theorem dJ2_getChar_3b067_57 : decode cJ2_getChar_3b067 57 = .ok (.ior, 1) := by decide +kernel
theorem dJ2_getChar_3b067_58 : decode cJ2_getChar_3b067 58 = .ok (.i2c, 1) := by decide +kernel
theorem dJ2_getChar_3b067_59 : decode cJ2_getChar_3b067 59 = .ok (.ireturn, 1) := by decide +kernel
theorem dJ2_length_9d52b_0 : decode cJ2_length_9d52b 0 = .ok (.aload_n 0, 1) := by decide +kernel
theorem dJ2_length_9d52b_1 : decode cJ2_length_9d52b 1 = .ok (.arraylength, 1) := by decide +kernel
theorem dJ2_length_9d52b_2 : decode cJ2_length_9d52b 2 = .ok (.iconst 1, 1) := by decide +kernel
theorem dJ2_length_9d52b_3 : decode cJ2_length_9d52b 3 = .ok (.ishr, 1) := by decide +kernel
theorem dJ2_length_9d52b_4 : decode cJ2_length_9d52b 4 = .ok (.ireturn, 1) := by decide +kernel
theorem dJ2_coderFromArrayLen_85cad_0 : decode cJ2_coderFromArrayLen_85cad 0 = .ok (.iload_n 1, 1) := by decide +kernel
theorem dJ2_coderFromArrayLen_85cad_1 : decode cJ2_coderFromArrayLen_85cad 1 = .ok (.aload_n 0, 1) := by decide +kernel
theorem dJ2_coderFromArrayLen_85cad_2 : decode cJ2_coderFromArrayLen_85cad 2 = .ok (.arraylength, 1) := by decide +kernel
theorem dJ2_coderFromArrayLen_85cad_3 : decode cJ2_coderFromArrayLen_85cad 3 = .ok (.isub, 1) := by decide +kernel
theorem dJ2_coderFromArrayLen_85cad_4 : decode cJ2_coderFromArrayLen_85cad 4 = .ok (.bipush 31, 2) := by decide +kernel
theorem dJ2_coderFromArrayLen_85cad_6 : decode cJ2_coderFromArrayLen_85cad 6 = .ok (.iushr, 1) := by decide +kernel
theorem dJ2_coderFromArrayLen_85cad_7 : decode cJ2_coderFromArrayLen_85cad 7 = .ok (.i2b, 1) := by decide +kernel
theorem dJ2_coderFromArrayLen_85cad_8 : decode cJ2_coderFromArrayLen_85cad 8 = .ok (.ireturn, 1) := by decide +kernel
theorem dJ2_compress_39247_0 : decode cJ2_compress_39247 0 = .ok (.iload_n 2, 1) := by decide +kernel
theorem dJ2_compress_39247_1 : decode cJ2_compress_39247 1 = .ok (.newarray .byte, 2) := by decide +kernel
theorem dJ2_compress_39247_3 : decode cJ2_compress_39247 3 = .ok (.astore_n 3, 1) := by decide +kernel
theorem dJ2_compress_39247_4 : decode cJ2_compress_39247 4 = .ok (.aload_n 0, 1) := by decide +kernel
theorem dJ2_compress_39247_5 : decode cJ2_compress_39247 5 = .ok (.iload_n 1, 1) := by decide +kernel
theorem dJ2_compress_39247_6 : decode cJ2_compress_39247 6 = .ok (.aload_n 3, 1) := by decide +kernel
theorem dJ2_compress_39247_7 : decode cJ2_compress_39247 7 = .ok (.iconst 0, 1) := by decide +kernel
theorem dJ2_compress_39247_8 : decode cJ2_compress_39247 8 = .ok (.iload_n 2, 1) := by decide +kernel
theorem dJ2_compress_39247_9 : decode cJ2_compress_39247 9 = .ok (.invokestatic 123, 3) := by decide +kernel
theorem dJ2_compress_39247_12 : decode cJ2_compress_39247 12 = .ok (.istore 4, 2) := by decide +kernel
theorem dJ2_compress_39247_14 : decode cJ2_compress_39247 14 = .ok (.iload 4, 2) := by decide +kernel
theorem dJ2_compress_39247_16 : decode cJ2_compress_39247 16 = .ok (.iload_n 2, 1) := by decide +kernel
theorem dJ2_compress_39247_17 : decode cJ2_compress_39247 17 = .ok (.if_icmp .eq 47, 3) := by decide +kernel
theorem dJ2_compress_39247_20 : decode cJ2_compress_39247 20 = .ok (.aload_n 0, 1) := by decide +kernel
theorem dJ2_compress_39247_21 : decode cJ2_compress_39247 21 = .ok (.iload_n 1, 1) := by decide +kernel
theorem dJ2_compress_39247_22 : decode cJ2_compress_39247 22 = .ok (.iconst 1, 1) := by decide +kernel
theorem dJ2_compress_39247_23 : decode cJ2_compress_39247 23 = .ok (.ishl, 1) := by decide +kernel
theorem dJ2_compress_39247_24 : decode cJ2_compress_39247 24 = .ok (.iload_n 1, 1) := by decide +kernel
theorem dJ2_compress_39247_25 : decode cJ2_compress_39247 25 = .ok (.iload_n 2, 1) := by decide +kernel
theorem dJ2_compress_39247_26 : decode cJ2_compress_39247 26 = .ok (.iadd, 1) := by decide +kernel
theorem dJ2_compress_39247_27 : decode cJ2_compress_39247 27 = .ok (.invokestatic 11, 3) := by decide +kernel
theorem dJ2_compress_39247_30 : decode cJ2_compress_39247 30 = .ok (.invokestatic 126, 3) := by decide +kernel
theorem dJ2_compress_39247_33 : decode cJ2_compress_39247 33 = .ok (.astore 5, 2) := by decide +kernel
theorem dJ2_compress_39247_35 : decode cJ2_compress_39247 35 = .ok (.aload 5, 2) := by decide +kernel
theorem dJ2_compress_39247_37 : decode cJ2_compress_39247 37 = .ok (.iload 4, 2) := by decide +kernel
theorem dJ2_compress_39247_39 : decode cJ2_compress_39247 39 = .ok (.invokestatic 71, 3) := by decide +kernel
theorem dJ2_compress_39247_42 : decode cJ2_compress_39247 42 = .ok (.sipush 255, 3) := by decide +kernel
theorem dJ2_compress_39247_45 : decode cJ2_compress_39247 45 = .ok (.if_icmp .gt 16, 3) := by decide +kernel
theorem dJ2_compress_39247_48 : decode cJ2_compress_39247 48 = .ok (.aload 5, 2) := by decide +kernel
theorem dJ2_compress_39247_50 : decode cJ2_compress_39247 50 = .ok (.iconst 0, 1) := by decide +kernel
theorem dJ2_compress_39247_51 : decode cJ2_compress_39247 51 = .ok (.aload_n 3, 1) := by decide +kernel
theorem dJ2_compress_39247_52 : decode cJ2_compress_39247 52 = .ok (.iconst 0, 1) := by decide +kernel
theorem dJ2_compress_39247_53 : decode cJ2_compress_39247 53 = .ok (.iload_n 2, 1) := by decide +kernel
theorem dJ2_compress_39247_54 : decode cJ2_compress_39247 54 = .ok (.invokestatic 123, 3) := by decide +kernel
theorem dJ2_compress_39247_57 : decode cJ2_compress_39247 57 = .ok (.iload_n 2, 1) := by decide +kernel
theorem dJ2_compress_39247_58 : decode cJ2_compress_39247 58 = .ok (.if_icmp .eq 6, 3) := by decide +kernel
theorem dJ2_compress_39247_61 : decode cJ2_compress_39247 61 = .ok (.aload 5, 2) := by decide +kernel
theorem dJ2_compress_39247_63 : decode cJ2_compress_39247 63 = .ok (.areturn, 1) := by decide +kernel
theorem dJ2_compress_39247_64 : decode cJ2_compress_39247 64 = .ok (.aload_n 3, 1) := by decide +kernel
theorem dJ2_compress_39247_65 : decode cJ2_compress_39247 65 = .ok (.areturn, 1) := by decide +kernel
theorem dJ2_compress_5af95_0 : decode cJ2_compress_5af95 0 = .ok (.iload_n 1, 1) := by decide +kernel
theorem dJ2_compress_5af95_1 : decode cJ2_compress_5af95 1 = .ok (.iload 4, 2) := by decide +kernel
theorem dJ2_compress_5af95_3 : decode cJ2_compress_5af95 3 = .ok (.aload_n 0, 1) := by decide +kernel
theorem dJ2_compress_5af95_4 : decode cJ2_compress_5af95 4 = .ok (.invokestatic 173, 3) := by decide +kernel
theorem dJ2_compress_5af95_7 : decode cJ2_compress_5af95 7 = .ok (.iconst 0, 1) := by decide +kernel
theorem dJ2_compress_5af95_8 : decode cJ2_compress_5af95 8 = .ok (.istore 5, 2) := by decide +kernel
theorem dJ2_compress_5af95_10 : decode cJ2_compress_5af95 10 = .ok (.iload 5, 2) := by decide +kernel
theorem dJ2_compress_5af95_12 : decode cJ2_compress_5af95 12 = .ok (.iload 4, 2) := by decide +kernel
theorem dJ2_compress_5af95_14 : decode cJ2_compress_5af95 14 = .ok (.if_icmp .ge 39, 3) := by decide +kernel
theorem dJ2_compress_5af95_17 : decode cJ2_compress_5af95 17 = .ok (.aload_n 0, 1) := by decide +kernel
theorem dJ2_compress_5af95_18 : decode cJ2_compress_5af95 18 = .ok (.iload_n 1, 1) := by decide +kernel
theorem dJ2_compress_5af95_19 : decode cJ2_compress_5af95 19 = .ok (.invokestatic 71, 3) := by decide +kernel
theorem dJ2_compress_5af95_22 : decode cJ2_compress_5af95 22 = .ok (.istore 6, 2) := by decide +kernel
theorem dJ2_compress_5af95_24 : decode cJ2_compress_5af95 24 = .ok (.iload 6, 2) := by decide +kernel
theorem dJ2_compress_5af95_26 : decode cJ2_compress_5af95 26 = .ok (.sipush 255, 3) := by decide +kernel
theorem dJ2_compress_5af95_29 : decode cJ2_compress_5af95 29 = .ok (.if_icmp .le 6, 3) := by decide +kernel
theorem dJ2_compress_5af95_32 : decode cJ2_compress_5af95 32 = .ok (.iload 5, 2) := by decide +kernel
theorem dJ2_compress_5af95_34 : decode cJ2_compress_5af95 34 = .ok (.ireturn, 1) := by decide +kernel
theorem dJ2_compress_5af95_35 : decode cJ2_compress_5af95 35 = .ok (.aload_n 2, 1) := by decide +kernel
theorem dJ2_compress_5af95_36 : decode cJ2_compress_5af95 36 = .ok (.iload_n 3, 1) := by decide +kernel
theorem dJ2_compress_5af95_37 : decode cJ2_compress_5af95 37 = .ok (.iload 6, 2) := by decide +kernel
theorem dJ2_compress_5af95_39 : decode cJ2_compress_5af95 39 = .ok (.i2b, 1) := by decide +kernel
theorem dJ2_compress_5af95_40 : decode cJ2_compress_5af95 40 = .ok (.bastore, 1) := by decide +kernel
theorem dJ2_compress_5af95_41 : decode cJ2_compress_5af95 41 = .ok (.iinc 1 1, 3) := by decide +kernel
theorem dJ2_compress_5af95_44 : decode cJ2_compress_5af95 44 = .ok (.iinc 3 1, 3) := by decide +kernel
theorem dJ2_compress_5af95_47 : decode cJ2_compress_5af95 47 = .ok (.iinc 5 1, 3) := by decide +kernel
theorem dJ2_compress_5af95_50 : decode cJ2_compress_5af95 50 = .ok (.goto (-40), 3) := by decide +kernel
theorem dJ2_compress_5af95_53 : decode cJ2_compress_5af95 53 = .ok (.iload 4, 2) := by decide +kernel
theorem dJ2_compress_5af95_55 : decode cJ2_compress_5af95 55 = .ok (.ireturn, 1) := by decide +kernel
theorem dJ2_getChars_46870_0 : decode cJ2_getChars_46870 0 = .ok (.iload_n 1, 1) := by decide +kernel
theorem dJ2_getChars_46870_1 : decode cJ2_getChars_46870 1 = .ok (.iload_n 2, 1) := by decide +kernel
theorem dJ2_getChars_46870_2 : decode cJ2_getChars_46870 2 = .ok (.aload_n 3, 1) := by decide +kernel
theorem dJ2_getChars_46870_3 : decode cJ2_getChars_46870 3 = .ok (.invokestatic 96, 3) := by decide +kernel
theorem dJ2_getChars_46870_6 : decode cJ2_getChars_46870 6 = .ok (.iload_n 0, 1) := by decide +kernel
theorem dJ2_getChars_46870_7 : decode cJ2_getChars_46870 7 = .ok (.iload_n 2, 1) := by decide +kernel
theorem dJ2_getChars_46870_8 : decode cJ2_getChars_46870 8 = .ok (.aload_n 3, 1) := by decide +kernel
theorem dJ2_getChars_46870_9 : decode cJ2_getChars_46870 9 = .ok (.invokestatic 393, 3) := by decide +kernel
theorem dJ2_getChars_46870_12 : decode cJ2_getChars_46870 12 = .ok (.istore 4, 2) := by decide +kernel
theorem dJ2_getChars_46870_14 : decode cJ2_getChars_46870 14 = .ok (.getstatic 44, 3) := by decide +kernel
theorem dJ2_getChars_46870_17 : decode cJ2_getChars_46870 17 = .ok (.ifCond .ne 17, 3) := by decide +kernel
theorem dJ2_getChars_46870_20 : decode cJ2_getChars_46870 20 = .ok (.iload_n 1, 1) := by decide +kernel
theorem dJ2_getChars_46870_21 : decode cJ2_getChars_46870 21 = .ok (.iload 4, 2) := by decide +kernel
theorem dJ2_getChars_46870_23 : decode cJ2_getChars_46870 23 = .ok (.if_icmp .eq 11, 3) := by decide +kernel
theorem dJ2_getChars_46870_26 : decode cJ2_getChars_46870 26 = .ok (.new 52, 3) := by decide +kernel
theorem dJ2_getChars_46870_29 : decode cJ2_getChars_46870 29 = .ok (.dup, 1) := by decide +kernel
theorem dJ2_getChars_46870_30 : decode cJ2_getChars_46870 30 = .ok (.invokespecial 66, 3) := by decide +kernel
theorem dJ2_getChars_46870_33 : decode cJ2_getChars_46870 33 = .ok (.athrow, 1) := by decide +kernel
theorem dJ2_getChars_46870_34 : decode cJ2_getChars_46870 34 = .ok (.iload 4, 2) := by decide +kernel
theorem dJ2_getChars_46870_36 : decode cJ2_getChars_46870 36 = .ok (.ireturn, 1) := by decide +kernel
theorem dJ2_putCharsAt_cd4e5_0 : decode cJ2_putCharsAt_cd4e5 0 = .ok (.iload_n 1, 1) := by decide +kernel
theorem dJ2_putCharsAt_cd4e5_1 : decode cJ2_putCharsAt_cd4e5 1 = .ok (.iconst 4, 1) := by decide +kernel
theorem dJ2_putCharsAt_cd4e5_2 : decode cJ2_putCharsAt_cd4e5 2 = .ok (.iadd, 1) := by decide +kernel
theorem dJ2_putCharsAt_cd4e5_3 : decode cJ2_putCharsAt_cd4e5 3 = .ok (.istore 6, 2) := by decide +kernel
theorem dJ2_putCharsAt_cd4e5_5 : decode cJ2_putCharsAt_cd4e5 5 = .ok (.iload_n 1, 1) := by decide +kernel
theorem dJ2_putCharsAt_cd4e5_6 : decode cJ2_putCharsAt_cd4e5 6 = .ok (.iload 6, 2) := by decide +kernel
theorem dJ2_putCharsAt_cd4e5_8 : decode cJ2_putCharsAt_cd4e5 8 = .ok (.aload_n 0, 1) := by decide +kernel
theorem dJ2_putCharsAt_cd4e5_9 : decode cJ2_putCharsAt_cd4e5 9 = .ok (.invokestatic 96, 3) := by decide +kernel
theorem dJ2_putCharsAt_cd4e5_12 : decode cJ2_putCharsAt_cd4e5 12 = .ok (.aload_n 0, 1) := by decide +kernel
theorem dJ2_putCharsAt_cd4e5_13 : decode cJ2_putCharsAt_cd4e5 13 = .ok (.iload_n 1, 1) := by decide +kernel
theorem dJ2_putCharsAt_cd4e5_14 : decode cJ2_putCharsAt_cd4e5 14 = .ok (.iinc 1 1, 3) := by decide +kernel
theorem dJ2_putCharsAt_cd4e5_17 : decode cJ2_putCharsAt_cd4e5 17 = .ok (.iload_n 2, 1) := by decide +kernel
theorem dJ2_putCharsAt_cd4e5_18 : decode cJ2_putCharsAt_cd4e5 18 = .ok (.invokestatic 111, 3) := by decide +kernel
theorem dJ2_putCharsAt_cd4e5_21 : decode cJ2_putCharsAt_cd4e5 21 = .ok (.aload_n 0, 1) := by decide +kernel
theorem dJ2_putCharsAt_cd4e5_22 : decode cJ2_putCharsAt_cd4e5 22 = .ok (.iload_n 1, 1) := by decide +kernel
theorem dJ2_putCharsAt_cd4e5_23 : decode cJ2_putCharsAt_cd4e5 23 = .ok (.iinc 1 1, 3) := by decide +kernel
theorem dJ2_putCharsAt_cd4e5_26 : decode cJ2_putCharsAt_cd4e5 26 = .ok (.iload_n 3, 1) := by decide +kernel
theorem dJ2_putCharsAt_cd4e5_27 : decode cJ2_putCharsAt_cd4e5 27 = .ok (.invokestatic 111, 3) := by decide +kernel
theorem dJ2_putCharsAt_cd4e5_30 : decode cJ2_putCharsAt_cd4e5 30 = .ok (.aload_n 0, 1) := by decide +kernel
theorem dJ2_putCharsAt_cd4e5_31 : decode cJ2_putCharsAt_cd4e5 31 = .ok (.iload_n 1, 1) := by decide +kernel
theorem dJ2_putCharsAt_cd4e5_32 : decode cJ2_putCharsAt_cd4e5 32 = .ok (.iinc 1 1, 3) := by decide +kernel
theorem dJ2_putCharsAt_cd4e5_35 : decode cJ2_putCharsAt_cd4e5 35 = .ok (.iload 4, 2) := by decide +kernel
theorem dJ2_putCharsAt_cd4e5_37 : decode cJ2_putCharsAt_cd4e5 37 = .ok (.invokestatic 111, 3) := by decide +kernel
theorem dJ2_putCharsAt_cd4e5_40 : decode cJ2_putCharsAt_cd4e5 40 = .ok (.aload_n 0, 1) := by decide +kernel
theorem dJ2_putCharsAt_cd4e5_41 : decode cJ2_putCharsAt_cd4e5 41 = .ok (.iload_n 1, 1) := by decide +kernel
theorem dJ2_putCharsAt_cd4e5_42 : decode cJ2_putCharsAt_cd4e5 42 = .ok (.iinc 1 1, 3) := by decide +kernel
theorem dJ2_putCharsAt_cd4e5_45 : decode cJ2_putCharsAt_cd4e5 45 = .ok (.iload 5, 2) := by decide +kernel
theorem dJ2_putCharsAt_cd4e5_47 : decode cJ2_putCharsAt_cd4e5 47 = .ok (.invokestatic 111, 3) := by decide +kernel
theorem dJ2_putCharsAt_cd4e5_50 : decode cJ2_putCharsAt_cd4e5 50 = .ok (.getstatic 44, 3) := by decide +kernel
theorem dJ2_putCharsAt_cd4e5_53 : decode cJ2_putCharsAt_cd4e5 53 = .ok (.ifCond .ne 17, 3) := by decide +kernel
theorem dJ2_putCharsAt_cd4e5_56 : decode cJ2_putCharsAt_cd4e5 56 = .ok (.iload_n 1, 1) := by decide +kernel
theorem dJ2_putCharsAt_cd4e5_57 : decode cJ2_putCharsAt_cd4e5 57 = .ok (.iload 6, 2) := by decide +kernel
theorem dJ2_putCharsAt_cd4e5_59 : decode cJ2_putCharsAt_cd4e5 59 = .ok (.if_icmp .eq 11, 3) := by decide +kernel
theorem dJ2_putCharsAt_cd4e5_62 : decode cJ2_putCharsAt_cd4e5 62 = .ok (.new 52, 3) := by decide +kernel
theorem dJ2_putCharsAt_cd4e5_65 : decode cJ2_putCharsAt_cd4e5 65 = .ok (.dup, 1) := by decide +kernel
theorem dJ2_putCharsAt_cd4e5_66 : decode cJ2_putCharsAt_cd4e5 66 = .ok (.invokespecial 66, 3) := by decide +kernel
theorem dJ2_putCharsAt_cd4e5_69 : decode cJ2_putCharsAt_cd4e5 69 = .ok (.athrow, 1) := by decide +kernel
theorem dJ2_putCharsAt_cd4e5_70 : decode cJ2_putCharsAt_cd4e5 70 = .ok (.iload 6, 2) := by decide +kernel
theorem dJ2_putCharsAt_cd4e5_72 : decode cJ2_putCharsAt_cd4e5 72 = .ok (.ireturn, 1) := by decide +kernel
theorem dJ2_charAt_3b067_0 : decode cJ2_charAt_3b067 0 = .ok (.iload_n 1, 1) := by decide +kernel
theorem dJ2_charAt_3b067_1 : decode cJ2_charAt_3b067 1 = .ok (.aload_n 0, 1) := by decide +kernel
theorem dJ2_charAt_3b067_2 : decode cJ2_charAt_3b067 2 = .ok (.invokestatic 67, 3) := by decide +kernel
theorem dJ2_charAt_3b067_5 : decode cJ2_charAt_3b067 5 = .ok (.aload_n 0, 1) := by decide +kernel
theorem dJ2_charAt_3b067_6 : decode cJ2_charAt_3b067 6 = .ok (.iload_n 1, 1) := by decide +kernel
theorem dJ2_charAt_3b067_7 : decode cJ2_charAt_3b067 7 = .ok (.invokestatic 71, 3) := by decide +kernel
theorem dJ2_charAt_3b067_10 : decode cJ2_charAt_3b067 10 = .ok (.ireturn, 1) := by decide +kernel
theorem dJ2_inflate_0e8fd_0 : decode cJ2_inflate_0e8fd 0 = .ok (.iload_n 3, 1) := by decide +kernel
theorem dJ2_inflate_0e8fd_1 : decode cJ2_inflate_0e8fd 1 = .ok (.iload 4, 2) := by decide +kernel
theorem dJ2_inflate_0e8fd_3 : decode cJ2_inflate_0e8fd 3 = .ok (.aload_n 2, 1) := by decide +kernel
theorem dJ2_inflate_0e8fd_4 : decode cJ2_inflate_0e8fd 4 = .ok (.invokestatic 173, 3) := by decide +kernel
theorem dJ2_inflate_0e8fd_7 : decode cJ2_inflate_0e8fd 7 = .ok (.iconst 0, 1) := by decide +kernel
theorem dJ2_inflate_0e8fd_8 : decode cJ2_inflate_0e8fd 8 = .ok (.istore 5, 2) := by decide +kernel
theorem dJ2_inflate_0e8fd_10 : decode cJ2_inflate_0e8fd 10 = .ok (.iload 5, 2) := by decide +kernel
theorem dJ2_inflate_0e8fd_12 : decode cJ2_inflate_0e8fd 12 = .ok (.iload 4, 2) := by decide +kernel
theorem dJ2_inflate_0e8fd_14 : decode cJ2_inflate_0e8fd 14 = .ok (.if_icmp .ge 27, 3) := by decide +kernel
theorem dJ2_inflate_0e8fd_17 : decode cJ2_inflate_0e8fd 17 = .ok (.aload_n 2, 1) := by decide +kernel
theorem dJ2_inflate_0e8fd_18 : decode cJ2_inflate_0e8fd 18 = .ok (.iload_n 3, 1) := by decide +kernel
theorem dJ2_inflate_0e8fd_19 : decode cJ2_inflate_0e8fd 19 = .ok (.iinc 3 1, 3) := by decide +kernel
theorem dJ2_inflate_0e8fd_22 : decode cJ2_inflate_0e8fd 22 = .ok (.aload_n 0, 1) := by decide +kernel
theorem dJ2_inflate_0e8fd_23 : decode cJ2_inflate_0e8fd 23 = .ok (.iload_n 1, 1) := by decide +kernel
theorem dJ2_inflate_0e8fd_24 : decode cJ2_inflate_0e8fd 24 = .ok (.iinc 1 1, 3) := by decide +kernel
theorem dJ2_inflate_0e8fd_27 : decode cJ2_inflate_0e8fd 27 = .ok (.baload, 1) := by decide +kernel
theorem dJ2_inflate_0e8fd_28 : decode cJ2_inflate_0e8fd 28 = .ok (.sipush 255, 3) := by decide +kernel
theorem dJ2_inflate_0e8fd_31 : decode cJ2_inflate_0e8fd 31 = .ok (.iand, 1) := by decide +kernel
theorem dJ2_inflate_0e8fd_32 : decode cJ2_inflate_0e8fd 32 = .ok (.invokestatic 111, 3) := by decide +kernel
theorem dJ2_inflate_0e8fd_35 : decode cJ2_inflate_0e8fd 35 = .ok (.iinc 5 1, 3) := by decide +kernel
theorem dJ2_inflate_0e8fd_38 : decode cJ2_inflate_0e8fd 38 = .ok (.goto (-28), 3) := by decide +kernel
theorem dJ2_inflate_0e8fd_41 : decode cJ2_inflate_0e8fd 41 = .ok (.return_, 1) := by decide +kernel
theorem dJ2_getChars_ba4f3_0 : decode cJ2_getChars_ba4f3 0 = .ok (.iload_n 1, 1) := by decide +kernel
theorem dJ2_getChars_ba4f3_1 : decode cJ2_getChars_ba4f3 1 = .ok (.istore 5, 2) := by decide +kernel
theorem dJ2_getChars_ba4f3_3 : decode cJ2_getChars_ba4f3 3 = .ok (.iload_n 0, 1) := by decide +kernel
theorem dJ2_getChars_ba4f3_4 : decode cJ2_getChars_ba4f3 4 = .ok (.ifCond .ge 7, 3) := by decide +kernel
theorem dJ2_getChars_ba4f3_7 : decode cJ2_getChars_ba4f3 7 = .ok (.iconst 1, 1) := by decide +kernel
theorem dJ2_getChars_ba4f3_8 : decode cJ2_getChars_ba4f3 8 = .ok (.goto 4, 3) := by decide +kernel
theorem dJ2_getChars_ba4f3_11 : decode cJ2_getChars_ba4f3 11 = .ok (.iconst 0, 1) := by decide +kernel
theorem dJ2_getChars_ba4f3_12 : decode cJ2_getChars_ba4f3 12 = .ok (.istore 6, 2) := by decide +kernel
theorem dJ2_getChars_ba4f3_14 : decode cJ2_getChars_ba4f3 14 = .ok (.iload 6, 2) := by decide +kernel
theorem dJ2_getChars_ba4f3_16 : decode cJ2_getChars_ba4f3 16 = .ok (.ifCond .ne 6, 3) := by decide +kernel
theorem dJ2_getChars_ba4f3_19 : decode cJ2_getChars_ba4f3 19 = .ok (.iload_n 0, 1) := by decide +kernel
theorem dJ2_getChars_ba4f3_20 : decode cJ2_getChars_ba4f3 20 = .ok (.ineg, 1) := by decide +kernel
theorem dJ2_getChars_ba4f3_21 : decode cJ2_getChars_ba4f3 21 = .ok (.istore_n 0, 1) := by decide +kernel
theorem dJ2_getChars_ba4f3_22 : decode cJ2_getChars_ba4f3 22 = .ok (.iload_n 0, 1) := by decide +kernel
theorem dJ2_getChars_ba4f3_23 : decode cJ2_getChars_ba4f3 23 = .ok (.bipush (-100), 2) := by decide +kernel
theorem dJ2_getChars_ba4f3_25 : decode cJ2_getChars_ba4f3 25 = .ok (.if_icmp .gt 51, 3) := by decide +kernel
theorem dJ2_getChars_ba4f3_28 : decode cJ2_getChars_ba4f3 28 = .ok (.iload_n 0, 1) := by decide +kernel
theorem dJ2_getChars_ba4f3_29 : decode cJ2_getChars_ba4f3 29 = .ok (.bipush 100, 2) := by decide +kernel
theorem dJ2_getChars_ba4f3_31 : decode cJ2_getChars_ba4f3 31 = .ok (.idiv, 1) := by decide +kernel
theorem dJ2_getChars_ba4f3_32 : decode cJ2_getChars_ba4f3 32 = .ok (.istore_n 3, 1) := by decide +kernel
theorem dJ2_getChars_ba4f3_33 : decode cJ2_getChars_ba4f3 33 = .ok (.iload_n 3, 1) := by decide +kernel
theorem dJ2_getChars_ba4f3_34 : decode cJ2_getChars_ba4f3 34 = .ok (.bipush 100, 2) := by decide +kernel
theorem dJ2_getChars_ba4f3_36 : decode cJ2_getChars_ba4f3 36 = .ok (.imul, 1) := by decide +kernel
theorem dJ2_getChars_ba4f3_37 : decode cJ2_getChars_ba4f3 37 = .ok (.iload_n 0, 1) := by decide +kernel
theorem dJ2_getChars_ba4f3_38 : decode cJ2_getChars_ba4f3 38 = .ok (.isub, 1) := by decide +kernel
theorem dJ2_getChars_ba4f3_39 : decode cJ2_getChars_ba4f3 39 = .ok (.istore 4, 2) := by decide +kernel
theorem dJ2_getChars_ba4f3_41 : decode cJ2_getChars_ba4f3 41 = .ok (.iload_n 3, 1) := by decide +kernel
theorem dJ2_getChars_ba4f3_42 : decode cJ2_getChars_ba4f3 42 = .ok (.istore_n 0, 1) := by decide +kernel
theorem dJ2_getChars_ba4f3_43 : decode cJ2_getChars_ba4f3 43 = .ok (.aload_n 2, 1) := by decide +kernel
theorem dJ2_getChars_ba4f3_44 : decode cJ2_getChars_ba4f3 44 = .ok (.iinc 5 (-1), 3) := by decide +kernel
theorem dJ2_getChars_ba4f3_47 : decode cJ2_getChars_ba4f3 47 = .ok (.iload 5, 2) := by decide +kernel
theorem dJ2_getChars_ba4f3_49 : decode cJ2_getChars_ba4f3 49 = .ok (.getstatic 403, 3) := by decide +kernel
theorem dJ2_getChars_ba4f3_52 : decode cJ2_getChars_ba4f3 52 = .ok (.iload 4, 2) := by decide +kernel
theorem dJ2_getChars_ba4f3_54 : decode cJ2_getChars_ba4f3 54 = .ok (.baload, 1) := by decide +kernel
theorem dJ2_getChars_ba4f3_55 : decode cJ2_getChars_ba4f3 55 = .ok (.invokestatic 111, 3) := by decide +kernel
theorem dJ2_getChars_ba4f3_58 : decode cJ2_getChars_ba4f3 58 = .ok (.aload_n 2, 1) := by decide +kernel
theorem dJ2_getChars_ba4f3_59 : decode cJ2_getChars_ba4f3 59 = .ok (.iinc 5 (-1), 3) := by decide +kernel
theorem dJ2_getChars_ba4f3_62 : decode cJ2_getChars_ba4f3 62 = .ok (.iload 5, 2) := by decide +kernel
theorem dJ2_getChars_ba4f3_64 : decode cJ2_getChars_ba4f3 64 = .ok (.getstatic 407, 3) := by decide +kernel
theorem dJ2_getChars_ba4f3_67 : decode cJ2_getChars_ba4f3 67 = .ok (.iload 4, 2) := by decide +kernel
theorem dJ2_getChars_ba4f3_69 : decode cJ2_getChars_ba4f3 69 = .ok (.baload, 1) := by decide +kernel
theorem dJ2_getChars_ba4f3_70 : decode cJ2_getChars_ba4f3 70 = .ok (.invokestatic 111, 3) := by decide +kernel
theorem dJ2_getChars_ba4f3_73 : decode cJ2_getChars_ba4f3 73 = .ok (.goto (-51), 3) := by decide +kernel
theorem dJ2_getChars_ba4f3_76 : decode cJ2_getChars_ba4f3 76 = .ok (.aload_n 2, 1) := by decide +kernel
theorem dJ2_getChars_ba4f3_77 : decode cJ2_getChars_ba4f3 77 = .ok (.iinc 5 (-1), 3) := by decide +kernel
theorem dJ2_getChars_ba4f3_80 : decode cJ2_getChars_ba4f3 80 = .ok (.iload 5, 2) := by decide +kernel
theorem dJ2_getChars_ba4f3_82 : decode cJ2_getChars_ba4f3 82 = .ok (.getstatic 403, 3) := by decide +kernel
theorem dJ2_getChars_ba4f3_85 : decode cJ2_getChars_ba4f3 85 = .ok (.iload_n 0, 1) := by decide +kernel
theorem dJ2_getChars_ba4f3_86 : decode cJ2_getChars_ba4f3 86 = .ok (.ineg, 1) := by decide +kernel
theorem dJ2_getChars_ba4f3_87 : decode cJ2_getChars_ba4f3 87 = .ok (.baload, 1) := by decide +kernel
theorem dJ2_getChars_ba4f3_88 : decode cJ2_getChars_ba4f3 88 = .ok (.invokestatic 111, 3) := by decide +kernel
theorem dJ2_getChars_ba4f3_91 : decode cJ2_getChars_ba4f3 91 = .ok (.iload_n 0, 1) := by decide +kernel
theorem dJ2_getChars_ba4f3_92 : decode cJ2_getChars_ba4f3 92 = .ok (.bipush (-9), 2) := by decide +kernel
theorem dJ2_getChars_ba4f3_94 : decode cJ2_getChars_ba4f3 94 = .ok (.if_icmp .ge 18, 3) := by decide +kernel
theorem dJ2_getChars_ba4f3_97 : decode cJ2_getChars_ba4f3 97 = .ok (.aload_n 2, 1) := by decide +kernel
theorem dJ2_getChars_ba4f3_98 : decode cJ2_getChars_ba4f3 98 = .ok (.iinc 5 (-1), 3) := by decide +kernel
theorem dJ2_getChars_ba4f3_101 : decode cJ2_getChars_ba4f3 101 = .ok (.iload 5, 2) := by decide +kernel
theorem dJ2_getChars_ba4f3_103 : decode cJ2_getChars_ba4f3 103 = .ok (.getstatic 407, 3) := by decide +kernel
theorem dJ2_getChars_ba4f3_106 : decode cJ2_getChars_ba4f3 106 = .ok (.iload_n 0, 1) := by decide +kernel
theorem dJ2_getChars_ba4f3_107 : decode cJ2_getChars_ba4f3 107 = .ok (.ineg, 1) := by decide +kernel
theorem dJ2_getChars_ba4f3_108 : decode cJ2_getChars_ba4f3 108 = .ok (.baload, 1) := by decide +kernel
theorem dJ2_getChars_ba4f3_109 : decode cJ2_getChars_ba4f3 109 = .ok (.invokestatic 111, 3) := by decide +kernel
theorem dJ2_getChars_ba4f3_112 : decode cJ2_getChars_ba4f3 112 = .ok (.iload 6, 2) := by decide +kernel
theorem dJ2_getChars_ba4f3_114 : decode cJ2_getChars_ba4f3 114 = .ok (.ifCond .eq 14, 3) := by decide +kernel
theorem dJ2_getChars_ba4f3_117 : decode cJ2_getChars_ba4f3 117 = .ok (.aload_n 2, 1) := by decide +kernel
theorem dJ2_getChars_ba4f3_118 : decode cJ2_getChars_ba4f3 118 = .ok (.iinc 5 (-1), 3) := by decide +kernel
theorem dJ2_getChars_ba4f3_121 : decode cJ2_getChars_ba4f3 121 = .ok (.iload 5, 2) := by decide +kernel
theorem dJ2_getChars_ba4f3_123 : decode cJ2_getChars_ba4f3 123 = .ok (.bipush 45, 2) := by decide +kernel
theorem dJ2_getChars_ba4f3_125 : decode cJ2_getChars_ba4f3 125 = .ok (.invokestatic 111, 3) := by decide +kernel
theorem dJ2_getChars_ba4f3_128 : decode cJ2_getChars_ba4f3 128 = .ok (.iload 5, 2) := by decide +kernel
theorem dJ2_getChars_ba4f3_130 : decode cJ2_getChars_ba4f3 130 = .ok (.ireturn, 1) := by decide +kernel
theorem dJ2_checkIndex_2214a_0 : decode cJ2_checkIndex_2214a 0 = .ok (.iload_n 0, 1) := by decide +kernel
theorem dJ2_checkIndex_2214a_1 : decode cJ2_checkIndex_2214a 1 = .ok (.aload_n 1, 1) := by decide +kernel
theorem dJ2_checkIndex_2214a_2 : decode cJ2_checkIndex_2214a 2 = .ok (.invokestatic 48, 3) := by decide +kernel
theorem dJ2_checkIndex_2214a_5 : decode cJ2_checkIndex_2214a 5 = .ok (.invokestatic 414, 3) := by decide +kernel
theorem dJ2_checkIndex_2214a_8 : decode cJ2_checkIndex_2214a 8 = .ok (.return_, 1) := by decide +kernel
theorem dJ2_checkBoundsBeginEnd_d044e_0 : decode cJ2_checkBoundsBeginEnd_d044e 0 = .ok (.iload_n 0, 1) := by decide +kernel
theorem dJ2_checkBoundsBeginEnd_d044e_1 : decode cJ2_checkBoundsBeginEnd_d044e 1 = .ok (.iload_n 1, 1) := by decide +kernel
theorem dJ2_checkBoundsBeginEnd_d044e_2 : decode cJ2_checkBoundsBeginEnd_d044e 2 = .ok (.aload_n 2, 1) := by decide +kernel
theorem dJ2_checkBoundsBeginEnd_d044e_3 : decode cJ2_checkBoundsBeginEnd_d044e 3 = .ok (.invokestatic 48, 3) := by decide +kernel
theorem dJ2_checkBoundsBeginEnd_d044e_6 : decode cJ2_checkBoundsBeginEnd_d044e 6 = .ok (.invokestatic 241, 3) := by decide +kernel
theorem dJ2_checkBoundsBeginEnd_d044e_9 : decode cJ2_checkBoundsBeginEnd_d044e 9 = .ok (.return_, 1) := by decide +kernel
theorem dJ2_checkBoundsOffCount_d044e_0 : decode cJ2_checkBoundsOffCount_d044e 0 = .ok (.iload_n 0, 1) := by decide +kernel
theorem dJ2_checkBoundsOffCount_d044e_1 : decode cJ2_checkBoundsOffCount_d044e 1 = .ok (.iload_n 1, 1) := by decide +kernel
theorem dJ2_checkBoundsOffCount_d044e_2 : decode cJ2_checkBoundsOffCount_d044e 2 = .ok (.aload_n 2, 1) := by decide +kernel
theorem dJ2_checkBoundsOffCount_d044e_3 : decode cJ2_checkBoundsOffCount_d044e 3 = .ok (.invokestatic 48, 3) := by decide +kernel
theorem dJ2_checkBoundsOffCount_d044e_6 : decode cJ2_checkBoundsOffCount_d044e 6 = .ok (.invokestatic 419, 3) := by decide +kernel
theorem dJ2_checkBoundsOffCount_d044e_9 : decode cJ2_checkBoundsOffCount_d044e 9 = .ok (.pop, 1) := by decide +kernel
theorem dJ2_checkBoundsOffCount_d044e_10 : decode cJ2_checkBoundsOffCount_d044e 10 = .ok (.return_, 1) := by decide +kernel
theorem dJxa1e45_init_da8c8_0 : decode cJxa1e45_init_da8c8 0 = .ok (.aload_n 0, 1) := by decide +kernel
theorem dJxa1e45_init_da8c8_1 : decode cJxa1e45_init_da8c8 1 = .ok (.invokespecial 1, 3) := by decide +kernel
theorem dJxa1e45_init_da8c8_4 : decode cJxa1e45_init_da8c8 4 = .ok (.return_, 1) := by decide +kernel
theorem dJxc12de_init_da8c8_0 : decode cJxc12de_init_da8c8 0 = .ok (.aload_n 0, 1) := by decide +kernel
theorem dJxc12de_init_da8c8_1 : decode cJxc12de_init_da8c8 1 = .ok (.invokespecial 1, 3) := by decide +kernel
theorem dJxc12de_init_da8c8_4 : decode cJxc12de_init_da8c8 4 = .ok (.aload_n 0, 1) := by decide +kernel
theorem dJxc12de_init_da8c8_5 : decode cJxc12de_init_da8c8 5 = .ok (.iconst 0, 1) := by decide +kernel
theorem dJxc12de_init_da8c8_6 : decode cJxc12de_init_da8c8 6 = .ok (.putfield 7, 3) := by decide +kernel
theorem dJxc12de_init_da8c8_9 : decode cJxc12de_init_da8c8 9 = .ok (.return_, 1) := by decide +kernel
theorem dJx4a65c_init_da8c8_0 : decode cJx4a65c_init_da8c8 0 = .ok (.aload_n 0, 1) := by decide +kernel
theorem dJx4a65c_init_da8c8_1 : decode cJx4a65c_init_da8c8 1 = .ok (.invokespecial 1, 3) := by decide +kernel
theorem dJx4a65c_init_da8c8_4 : decode cJx4a65c_init_da8c8 4 = .ok (.aload_n 0, 1) := by decide +kernel
theorem dJx4a65c_init_da8c8_5 : decode cJx4a65c_init_da8c8 5 = .ok (.getstatic 39, 3) := by decide +kernel
theorem dJx4a65c_init_da8c8_8 : decode cJx4a65c_init_da8c8 8 = .ok (.putfield 9, 3) := by decide +kernel
theorem dJx4a65c_init_da8c8_11 : decode cJx4a65c_init_da8c8 11 = .ok (.return_, 1) := by decide +kernel
theorem dJx4a65c_grow_92f84_0 : decode cJx4a65c_grow_92f84 0 = .ok (.aload_n 0, 1) := by decide +kernel
theorem dJx4a65c_grow_92f84_1 : decode cJx4a65c_grow_92f84 1 = .ok (.getfield 9, 3) := by decide +kernel
theorem dJx4a65c_grow_92f84_4 : decode cJx4a65c_grow_92f84 4 = .ok (.arraylength, 1) := by decide +kernel
theorem dJx4a65c_grow_92f84_5 : decode cJx4a65c_grow_92f84 5 = .ok (.istore_n 2, 1) := by decide +kernel
theorem dJx4a65c_grow_92f84_6 : decode cJx4a65c_grow_92f84 6 = .ok (.iload_n 2, 1) := by decide +kernel
theorem dJx4a65c_grow_92f84_7 : decode cJx4a65c_grow_92f84 7 = .ok (.ifCond .gt 13, 3) := by decide +kernel
theorem dJx4a65c_grow_92f84_10 : decode cJx4a65c_grow_92f84 10 = .ok (.aload_n 0, 1) := by decide +kernel
theorem dJx4a65c_grow_92f84_11 : decode cJx4a65c_grow_92f84 11 = .ok (.getfield 9, 3) := by decide +kernel
theorem dJx4a65c_grow_92f84_14 : decode cJx4a65c_grow_92f84 14 = .ok (.getstatic 39, 3) := by decide +kernel
theorem dJx4a65c_grow_92f84_17 : decode cJx4a65c_grow_92f84 17 = .ok (.if_acmp .eq 28, 3) := by decide +kernel
theorem dJx4a65c_grow_92f84_20 : decode cJx4a65c_grow_92f84 20 = .ok (.iload_n 2, 1) := by decide +kernel
theorem dJx4a65c_grow_92f84_21 : decode cJx4a65c_grow_92f84 21 = .ok (.iload_n 1, 1) := by decide +kernel
theorem dJx4a65c_grow_92f84_22 : decode cJx4a65c_grow_92f84 22 = .ok (.iload_n 2, 1) := by decide +kernel
theorem dJx4a65c_grow_92f84_23 : decode cJx4a65c_grow_92f84 23 = .ok (.isub, 1) := by decide +kernel
theorem dJx4a65c_grow_92f84_24 : decode cJx4a65c_grow_92f84 24 = .ok (.iload_n 2, 1) := by decide +kernel
theorem dJx4a65c_grow_92f84_25 : decode cJx4a65c_grow_92f84 25 = .ok (.iconst 1, 1) := by decide +kernel
theorem dJx4a65c_grow_92f84_26 : decode cJx4a65c_grow_92f84 26 = .ok (.ishr, 1) := by decide +kernel
theorem dJx4a65c_grow_92f84_27 : decode cJx4a65c_grow_92f84 27 = .ok (.invokestatic 73, 3) := by decide +kernel
theorem dJx4a65c_grow_92f84_30 : decode cJx4a65c_grow_92f84 30 = .ok (.istore_n 3, 1) := by decide +kernel
theorem dJx4a65c_grow_92f84_31 : decode cJx4a65c_grow_92f84 31 = .ok (.aload_n 0, 1) := by decide +kernel
theorem dJx4a65c_grow_92f84_32 : decode cJx4a65c_grow_92f84 32 = .ok (.aload_n 0, 1) := by decide +kernel
theorem dJx4a65c_grow_92f84_33 : decode cJx4a65c_grow_92f84 33 = .ok (.getfield 9, 3) := by decide +kernel
theorem dJx4a65c_grow_92f84_36 : decode cJx4a65c_grow_92f84 36 = .ok (.iload_n 3, 1) := by decide +kernel
theorem dJx4a65c_grow_92f84_37 : decode cJx4a65c_grow_92f84 37 = .ok (.invokestatic 66, 3) := by decide +kernel
theorem dJx4a65c_grow_92f84_40 : decode cJx4a65c_grow_92f84 40 = .ok (.dup_x1, 1) := by decide +kernel
theorem dJx4a65c_grow_92f84_41 : decode cJx4a65c_grow_92f84 41 = .ok (.putfield 9, 3) := by decide +kernel
theorem dJx4a65c_grow_92f84_44 : decode cJx4a65c_grow_92f84 44 = .ok (.areturn, 1) := by decide +kernel
theorem dJx4a65c_grow_92f84_45 : decode cJx4a65c_grow_92f84 45 = .ok (.aload_n 0, 1) := by decide +kernel
theorem dJx4a65c_grow_92f84_46 : decode cJx4a65c_grow_92f84 46 = .ok (.bipush 10, 2) := by decide +kernel
theorem dJx4a65c_grow_92f84_48 : decode cJx4a65c_grow_92f84 48 = .ok (.iload_n 1, 1) := by decide +kernel
theorem dJx4a65c_grow_92f84_49 : decode cJx4a65c_grow_92f84 49 = .ok (.invokestatic 79, 3) := by decide +kernel
theorem dJx4a65c_grow_92f84_52 : decode cJx4a65c_grow_92f84 52 = .ok (.anewarray 7, 3) := by decide +kernel
theorem dJx4a65c_grow_92f84_55 : decode cJx4a65c_grow_92f84 55 = .ok (.dup_x1, 1) := by decide +kernel
theorem dJx4a65c_grow_92f84_56 : decode cJx4a65c_grow_92f84 56 = .ok (.putfield 9, 3) := by decide +kernel
theorem dJx4a65c_grow_92f84_59 : decode cJx4a65c_grow_92f84 59 = .ok (.areturn, 1) := by decide +kernel
theorem dJx4a65c_grow_d5877_0 : decode cJx4a65c_grow_d5877 0 = .ok (.aload_n 0, 1) := by decide +kernel
theorem dJx4a65c_grow_d5877_1 : decode cJx4a65c_grow_d5877 1 = .ok (.aload_n 0, 1) := by decide +kernel
theorem dJx4a65c_grow_d5877_2 : decode cJx4a65c_grow_d5877 2 = .ok (.getfield 48, 3) := by decide +kernel
theorem dJx4a65c_grow_d5877_5 : decode cJx4a65c_grow_d5877 5 = .ok (.iconst 1, 1) := by decide +kernel
theorem dJx4a65c_grow_d5877_6 : decode cJx4a65c_grow_d5877 6 = .ok (.iadd, 1) := by decide +kernel
theorem dJx4a65c_grow_d5877_7 : decode cJx4a65c_grow_d5877 7 = .ok (.invokevirtual 69, 3) := by decide +kernel
theorem dJx4a65c_grow_d5877_10 : decode cJx4a65c_grow_d5877 10 = .ok (.areturn, 1) := by decide +kernel
theorem dJx4a65c_size_8abf5_0 : decode cJx4a65c_size_8abf5 0 = .ok (.aload_n 0, 1) := by decide +kernel
theorem dJx4a65c_size_8abf5_1 : decode cJx4a65c_size_8abf5 1 = .ok (.getfield 48, 3) := by decide +kernel
theorem dJx4a65c_size_8abf5_4 : decode cJx4a65c_size_8abf5 4 = .ok (.ireturn, 1) := by decide +kernel
theorem dJx4a65c_elementData_915e3_0 : decode cJx4a65c_elementData_915e3 0 = .ok (.aload_n 0, 1) := by decide +kernel
theorem dJx4a65c_elementData_915e3_1 : decode cJx4a65c_elementData_915e3 1 = .ok (.getfield 9, 3) := by decide +kernel
theorem dJx4a65c_elementData_915e3_4 : decode cJx4a65c_elementData_915e3 4 = .ok (.iload_n 1, 1) := by decide +kernel
theorem dJx4a65c_elementData_915e3_5 : decode cJx4a65c_elementData_915e3 5 = .ok (.aaload, 1) := by decide +kernel
theorem dJx4a65c_elementData_915e3_6 : decode cJx4a65c_elementData_915e3 6 = .ok (.areturn, 1) := by decide +kernel
theorem dJx4a65c_get_915e3_0 : decode cJx4a65c_get_915e3 0 = .ok (.iload_n 1, 1) := by decide +kernel
theorem dJx4a65c_get_915e3_1 : decode cJx4a65c_get_915e3 1 = .ok (.aload_n 0, 1) := by decide +kernel
theorem dJx4a65c_get_915e3_2 : decode cJx4a65c_get_915e3 2 = .ok (.getfield 48, 3) := by decide +kernel
theorem dJx4a65c_get_915e3_5 : decode cJx4a65c_get_915e3 5 = .ok (.invokestatic 118, 3) := by decide +kernel
theorem dJx4a65c_get_915e3_8 : decode cJx4a65c_get_915e3 8 = .ok (.pop, 1) := by decide +kernel
theorem dJx4a65c_get_915e3_9 : decode cJx4a65c_get_915e3 9 = .ok (.aload_n 0, 1) := by decide +kernel
theorem dJx4a65c_get_915e3_10 : decode cJx4a65c_get_915e3 10 = .ok (.iload_n 1, 1) := by decide +kernel
theorem dJx4a65c_get_915e3_11 : decode cJx4a65c_get_915e3 11 = .ok (.invokevirtual 123, 3) := by decide +kernel
theorem dJx4a65c_get_915e3_14 : decode cJx4a65c_get_915e3 14 = .ok (.areturn, 1) := by decide +kernel
theorem dJx4a65c_set_bcc79_0 : decode cJx4a65c_set_bcc79 0 = .ok (.iload_n 1, 1) := by decide +kernel
theorem dJx4a65c_set_bcc79_1 : decode cJx4a65c_set_bcc79 1 = .ok (.aload_n 0, 1) := by decide +kernel
theorem dJx4a65c_set_bcc79_2 : decode cJx4a65c_set_bcc79 2 = .ok (.getfield 48, 3) := by decide +kernel
theorem dJx4a65c_set_bcc79_5 : decode cJx4a65c_set_bcc79 5 = .ok (.invokestatic 118, 3) := by decide +kernel
theorem dJx4a65c_set_bcc79_8 : decode cJx4a65c_set_bcc79 8 = .ok (.pop, 1) := by decide +kernel
theorem dJx4a65c_set_bcc79_9 : decode cJx4a65c_set_bcc79 9 = .ok (.aload_n 0, 1) := by decide +kernel
theorem dJx4a65c_set_bcc79_10 : decode cJx4a65c_set_bcc79 10 = .ok (.iload_n 1, 1) := by decide +kernel
theorem dJx4a65c_set_bcc79_11 : decode cJx4a65c_set_bcc79 11 = .ok (.invokevirtual 123, 3) := by decide +kernel
theorem dJx4a65c_set_bcc79_14 : decode cJx4a65c_set_bcc79 14 = .ok (.astore_n 3, 1) := by decide +kernel
theorem dJx4a65c_set_bcc79_15 : decode cJx4a65c_set_bcc79 15 = .ok (.aload_n 0, 1) := by decide +kernel
theorem dJx4a65c_set_bcc79_16 : decode cJx4a65c_set_bcc79 16 = .ok (.getfield 9, 3) := by decide +kernel
theorem dJx4a65c_set_bcc79_19 : decode cJx4a65c_set_bcc79 19 = .ok (.iload_n 1, 1) := by decide +kernel
theorem dJx4a65c_set_bcc79_20 : decode cJx4a65c_set_bcc79 20 = .ok (.aload_n 2, 1) := by decide +kernel
theorem dJx4a65c_set_bcc79_21 : decode cJx4a65c_set_bcc79 21 = .ok (.aastore, 1) := by decide +kernel
theorem dJx4a65c_set_bcc79_22 : decode cJx4a65c_set_bcc79 22 = .ok (.aload_n 3, 1) := by decide +kernel
theorem dJx4a65c_set_bcc79_23 : decode cJx4a65c_set_bcc79 23 = .ok (.areturn, 1) := by decide +kernel
theorem dJx4a65c_add_72be8_0 : decode cJx4a65c_add_72be8 0 = .ok (.iload_n 3, 1) := by decide +kernel
theorem dJx4a65c_add_72be8_1 : decode cJx4a65c_add_72be8 1 = .ok (.aload_n 2, 1) := by decide +kernel
theorem dJx4a65c_add_72be8_2 : decode cJx4a65c_add_72be8 2 = .ok (.arraylength, 1) := by decide +kernel
theorem dJx4a65c_add_72be8_3 : decode cJx4a65c_add_72be8 3 = .ok (.if_icmp .ne 8, 3) := by decide +kernel
theorem dJx4a65c_add_72be8_6 : decode cJx4a65c_add_72be8 6 = .ok (.aload_n 0, 1) := by decide +kernel
theorem dJx4a65c_add_72be8_7 : decode cJx4a65c_add_72be8 7 = .ok (.invokevirtual 129, 3) := by decide +kernel
theorem dJx4a65c_add_72be8_10 : decode cJx4a65c_add_72be8 10 = .ok (.astore_n 2, 1) := by decide +kernel
theorem dJx4a65c_add_72be8_11 : decode cJx4a65c_add_72be8 11 = .ok (.aload_n 2, 1) := by decide +kernel
theorem dJx4a65c_add_72be8_12 : decode cJx4a65c_add_72be8 12 = .ok (.iload_n 3, 1) := by decide +kernel
theorem dJx4a65c_add_72be8_13 : decode cJx4a65c_add_72be8 13 = .ok (.aload_n 1, 1) := by decide +kernel
theorem dJx4a65c_add_72be8_14 : decode cJx4a65c_add_72be8 14 = .ok (.aastore, 1) := by decide +kernel
theorem dJx4a65c_add_72be8_15 : decode cJx4a65c_add_72be8 15 = .ok (.aload_n 0, 1) := by decide +kernel
theorem dJx4a65c_add_72be8_16 : decode cJx4a65c_add_72be8 16 = .ok (.iload_n 3, 1) := by decide +kernel
theorem dJx4a65c_add_72be8_17 : decode cJx4a65c_add_72be8 17 = .ok (.iconst 1, 1) := by decide +kernel
theorem dJx4a65c_add_72be8_18 : decode cJx4a65c_add_72be8 18 = .ok (.iadd, 1) := by decide +kernel
theorem dJx4a65c_add_72be8_19 : decode cJx4a65c_add_72be8 19 = .ok (.putfield 48, 3) := by decide +kernel
theorem dJx4a65c_add_72be8_22 : decode cJx4a65c_add_72be8 22 = .ok (.return_, 1) := by decide +kernel
theorem dJx4a65c_add_9ea2d_0 : decode cJx4a65c_add_9ea2d 0 = .ok (.aload_n 0, 1) := by decide +kernel
theorem dJx4a65c_add_9ea2d_1 : decode cJx4a65c_add_9ea2d 1 = .ok (.dup, 1) := by decide +kernel
theorem dJx4a65c_add_9ea2d_2 : decode cJx4a65c_add_9ea2d 2 = .ok (.getfield 63, 3) := by decide +kernel
theorem dJx4a65c_add_9ea2d_5 : decode cJx4a65c_add_9ea2d 5 = .ok (.iconst 1, 1) := by decide +kernel
theorem dJx4a65c_add_9ea2d_6 : decode cJx4a65c_add_9ea2d 6 = .ok (.iadd, 1) := by decide +kernel
theorem dJx4a65c_add_9ea2d_7 : decode cJx4a65c_add_9ea2d 7 = .ok (.putfield 63, 3) := by decide +kernel
theorem dJx4a65c_add_9ea2d_10 : decode cJx4a65c_add_9ea2d 10 = .ok (.aload_n 0, 1) := by decide +kernel
theorem dJx4a65c_add_9ea2d_11 : decode cJx4a65c_add_9ea2d 11 = .ok (.aload_n 1, 1) := by decide +kernel
theorem dJx4a65c_add_9ea2d_12 : decode cJx4a65c_add_9ea2d 12 = .ok (.aload_n 0, 1) := by decide +kernel
theorem dJx4a65c_add_9ea2d_13 : decode cJx4a65c_add_9ea2d 13 = .ok (.getfield 9, 3) := by decide +kernel
theorem dJx4a65c_add_9ea2d_16 : decode cJx4a65c_add_9ea2d 16 = .ok (.aload_n 0, 1) := by decide +kernel
theorem dJx4a65c_add_9ea2d_17 : decode cJx4a65c_add_9ea2d 17 = .ok (.getfield 48, 3) := by decide +kernel
theorem dJx4a65c_add_9ea2d_20 : decode cJx4a65c_add_9ea2d 20 = .ok (.invokevirtual 131, 3) := by decide +kernel
theorem dJx4a65c_add_9ea2d_23 : decode cJx4a65c_add_9ea2d 23 = .ok (.iconst 1, 1) := by decide +kernel
theorem dJx4a65c_add_9ea2d_24 : decode cJx4a65c_add_9ea2d 24 = .ok (.ireturn, 1) := by decide +kernel
theorem dJx4a65c_add_7a177_0 : decode cJx4a65c_add_7a177 0 = .ok (.aload_n 0, 1) := by decide +kernel
theorem dJx4a65c_add_7a177_1 : decode cJx4a65c_add_7a177 1 = .ok (.iload_n 1, 1) := by decide +kernel
theorem dJx4a65c_add_7a177_2 : decode cJx4a65c_add_7a177 2 = .ok (.invokevirtual 135, 3) := by decide +kernel
theorem dJx4a65c_add_7a177_5 : decode cJx4a65c_add_7a177 5 = .ok (.aload_n 0, 1) := by decide +kernel
theorem dJx4a65c_add_7a177_6 : decode cJx4a65c_add_7a177 6 = .ok (.dup, 1) := by decide +kernel
theorem dJx4a65c_add_7a177_7 : decode cJx4a65c_add_7a177 7 = .ok (.getfield 63, 3) := by decide +kernel
theorem dJx4a65c_add_7a177_10 : decode cJx4a65c_add_7a177 10 = .ok (.iconst 1, 1) := by decide +kernel
theorem dJx4a65c_add_7a177_11 : decode cJx4a65c_add_7a177 11 = .ok (.iadd, 1) := by decide +kernel
theorem dJx4a65c_add_7a177_12 : decode cJx4a65c_add_7a177 12 = .ok (.putfield 63, 3) := by decide +kernel
theorem dJx4a65c_add_7a177_15 : decode cJx4a65c_add_7a177 15 = .ok (.aload_n 0, 1) := by decide +kernel
theorem dJx4a65c_add_7a177_16 : decode cJx4a65c_add_7a177 16 = .ok (.getfield 48, 3) := by decide +kernel
theorem dJx4a65c_add_7a177_19 : decode cJx4a65c_add_7a177 19 = .ok (.dup, 1) := by decide +kernel
theorem dJx4a65c_add_7a177_20 : decode cJx4a65c_add_7a177 20 = .ok (.istore_n 3, 1) := by decide +kernel
theorem dJx4a65c_add_7a177_21 : decode cJx4a65c_add_7a177 21 = .ok (.aload_n 0, 1) := by decide +kernel
theorem dJx4a65c_add_7a177_22 : decode cJx4a65c_add_7a177 22 = .ok (.getfield 9, 3) := by decide +kernel
theorem dJx4a65c_add_7a177_25 : decode cJx4a65c_add_7a177 25 = .ok (.dup, 1) := by decide +kernel
theorem dJx4a65c_add_7a177_26 : decode cJx4a65c_add_7a177 26 = .ok (.astore 4, 2) := by decide +kernel
theorem dJx4a65c_add_7a177_28 : decode cJx4a65c_add_7a177 28 = .ok (.arraylength, 1) := by decide +kernel
theorem dJx4a65c_add_7a177_29 : decode cJx4a65c_add_7a177 29 = .ok (.if_icmp .ne 9, 3) := by decide +kernel
theorem dJx4a65c_add_7a177_32 : decode cJx4a65c_add_7a177 32 = .ok (.aload_n 0, 1) := by decide +kernel
theorem dJx4a65c_add_7a177_33 : decode cJx4a65c_add_7a177 33 = .ok (.invokevirtual 129, 3) := by decide +kernel
theorem dJx4a65c_add_7a177_36 : decode cJx4a65c_add_7a177 36 = .ok (.astore 4, 2) := by decide +kernel
theorem dJx4a65c_add_7a177_38 : decode cJx4a65c_add_7a177 38 = .ok (.aload 4, 2) := by decide +kernel
theorem dJx4a65c_add_7a177_40 : decode cJx4a65c_add_7a177 40 = .ok (.iload_n 1, 1) := by decide +kernel
theorem dJx4a65c_add_7a177_41 : decode cJx4a65c_add_7a177 41 = .ok (.aload 4, 2) := by decide +kernel
theorem dJx4a65c_add_7a177_43 : decode cJx4a65c_add_7a177 43 = .ok (.iload_n 1, 1) := by decide +kernel
theorem dJx4a65c_add_7a177_44 : decode cJx4a65c_add_7a177 44 = .ok (.iconst 1, 1) := by decide +kernel
theorem dJx4a65c_add_7a177_45 : decode cJx4a65c_add_7a177 45 = .ok (.iadd, 1) := by decide +kernel
theorem dJx4a65c_add_7a177_46 : decode cJx4a65c_add_7a177 46 = .ok (.iload_n 3, 1) := by decide +kernel
theorem dJx4a65c_add_7a177_47 : decode cJx4a65c_add_7a177 47 = .ok (.iload_n 1, 1) := by decide +kernel
theorem dJx4a65c_add_7a177_48 : decode cJx4a65c_add_7a177 48 = .ok (.isub, 1) := by decide +kernel
theorem dJx4a65c_add_7a177_49 : decode cJx4a65c_add_7a177 49 = .ok (.invokestatic 112, 3) := by decide +kernel
theorem dJx4a65c_add_7a177_52 : decode cJx4a65c_add_7a177 52 = .ok (.aload 4, 2) := by decide +kernel
theorem dJx4a65c_add_7a177_54 : decode cJx4a65c_add_7a177 54 = .ok (.iload_n 1, 1) := by decide +kernel
theorem dJx4a65c_add_7a177_55 : decode cJx4a65c_add_7a177 55 = .ok (.aload_n 2, 1) := by decide +kernel
theorem dJx4a65c_add_7a177_56 : decode cJx4a65c_add_7a177 56 = .ok (.aastore, 1) := by decide +kernel
theorem dJx4a65c_add_7a177_57 : decode cJx4a65c_add_7a177 57 = .ok (.aload_n 0, 1) := by decide +kernel
theorem dJx4a65c_add_7a177_58 : decode cJx4a65c_add_7a177 58 = .ok (.iload_n 3, 1) := by decide +kernel
theorem dJx4a65c_add_7a177_59 : decode cJx4a65c_add_7a177 59 = .ok (.iconst 1, 1) := by decide +kernel
theorem dJx4a65c_add_7a177_60 : decode cJx4a65c_add_7a177 60 = .ok (.iadd, 1) := by decide +kernel
theorem dJx4a65c_add_7a177_61 : decode cJx4a65c_add_7a177 61 = .ok (.putfield 48, 3) := by decide +kernel
theorem dJx4a65c_add_7a177_64 : decode cJx4a65c_add_7a177 64 = .ok (.return_, 1) := by decide +kernel
theorem dJx4a65c_remove_915e3_0 : decode cJx4a65c_remove_915e3 0 = .ok (.iload_n 1, 1) := by decide +kernel
theorem dJx4a65c_remove_915e3_1 : decode cJx4a65c_remove_915e3 1 = .ok (.aload_n 0, 1) := by decide +kernel
theorem dJx4a65c_remove_915e3_2 : decode cJx4a65c_remove_915e3 2 = .ok (.getfield 48, 3) := by decide +kernel
theorem dJx4a65c_remove_915e3_5 : decode cJx4a65c_remove_915e3 5 = .ok (.invokestatic 118, 3) := by decide +kernel
theorem dJx4a65c_remove_915e3_8 : decode cJx4a65c_remove_915e3 8 = .ok (.pop, 1) := by decide +kernel
theorem dJx4a65c_remove_915e3_9 : decode cJx4a65c_remove_915e3 9 = .ok (.aload_n 0, 1) := by decide +kernel
theorem dJx4a65c_remove_915e3_10 : decode cJx4a65c_remove_915e3 10 = .ok (.getfield 9, 3) := by decide +kernel
theorem dJx4a65c_remove_915e3_13 : decode cJx4a65c_remove_915e3 13 = .ok (.astore_n 2, 1) := by decide +kernel
theorem dJx4a65c_remove_915e3_14 : decode cJx4a65c_remove_915e3 14 = .ok (.aload_n 2, 1) := by decide +kernel
theorem dJx4a65c_remove_915e3_15 : decode cJx4a65c_remove_915e3 15 = .ok (.iload_n 1, 1) := by decide +kernel
theorem dJx4a65c_remove_915e3_16 : decode cJx4a65c_remove_915e3 16 = .ok (.aaload, 1) := by decide +kernel
theorem dJx4a65c_remove_915e3_17 : decode cJx4a65c_remove_915e3 17 = .ok (.astore_n 3, 1) := by decide +kernel
theorem dJx4a65c_remove_915e3_18 : decode cJx4a65c_remove_915e3 18 = .ok (.aload_n 0, 1) := by decide +kernel
theorem dJx4a65c_remove_915e3_19 : decode cJx4a65c_remove_915e3 19 = .ok (.aload_n 2, 1) := by decide +kernel
theorem dJx4a65c_remove_915e3_20 : decode cJx4a65c_remove_915e3 20 = .ok (.iload_n 1, 1) := by decide +kernel
theorem dJx4a65c_remove_915e3_21 : decode cJx4a65c_remove_915e3 21 = .ok (.invokevirtual 144, 3) := by decide +kernel
theorem dJx4a65c_remove_915e3_24 : decode cJx4a65c_remove_915e3 24 = .ok (.aload_n 3, 1) := by decide +kernel
theorem dJx4a65c_remove_915e3_25 : decode cJx4a65c_remove_915e3 25 = .ok (.areturn, 1) := by decide +kernel
theorem dJx4a65c_fastRemove_b59b0_0 : decode cJx4a65c_fastRemove_b59b0 0 = .ok (.aload_n 0, 1) := by decide +kernel
theorem dJx4a65c_fastRemove_b59b0_1 : decode cJx4a65c_fastRemove_b59b0 1 = .ok (.dup, 1) := by decide +kernel
theorem dJx4a65c_fastRemove_b59b0_2 : decode cJx4a65c_fastRemove_b59b0 2 = .ok (.getfield 63, 3) := by decide +kernel
theorem dJx4a65c_fastRemove_b59b0_5 : decode cJx4a65c_fastRemove_b59b0 5 = .ok (.iconst 1, 1) := by decide +kernel
theorem dJx4a65c_fastRemove_b59b0_6 : decode cJx4a65c_fastRemove_b59b0 6 = .ok (.iadd, 1) := by decide +kernel
theorem dJx4a65c_fastRemove_b59b0_7 : decode cJx4a65c_fastRemove_b59b0 7 = .ok (.putfield 63, 3) := by decide +kernel
theorem dJx4a65c_fastRemove_b59b0_10 : decode cJx4a65c_fastRemove_b59b0 10 = .ok (.aload_n 0, 1) := by decide +kernel
theorem dJx4a65c_fastRemove_b59b0_11 : decode cJx4a65c_fastRemove_b59b0 11 = .ok (.getfield 48, 3) := by decide +kernel
theorem dJx4a65c_fastRemove_b59b0_14 : decode cJx4a65c_fastRemove_b59b0 14 = .ok (.iconst 1, 1) := by decide +kernel
theorem dJx4a65c_fastRemove_b59b0_15 : decode cJx4a65c_fastRemove_b59b0 15 = .ok (.isub, 1) := by decide +kernel
theorem dJx4a65c_fastRemove_b59b0_16 : decode cJx4a65c_fastRemove_b59b0 16 = .ok (.dup, 1) := by decide +kernel
theorem dJx4a65c_fastRemove_b59b0_17 : decode cJx4a65c_fastRemove_b59b0 17 = .ok (.istore_n 3, 1) := by decide +kernel
theorem dJx4a65c_fastRemove_b59b0_18 : decode cJx4a65c_fastRemove_b59b0 18 = .ok (.iload_n 2, 1) := by decide +kernel
theorem dJx4a65c_fastRemove_b59b0_19 : decode cJx4a65c_fastRemove_b59b0 19 = .ok (.if_icmp .le 15, 3) := by decide +kernel
theorem dJx4a65c_fastRemove_b59b0_22 : decode cJx4a65c_fastRemove_b59b0 22 = .ok (.aload_n 1, 1) := by decide +kernel
theorem dJx4a65c_fastRemove_b59b0_23 : decode cJx4a65c_fastRemove_b59b0 23 = .ok (.iload_n 2, 1) := by decide +kernel
theorem dJx4a65c_fastRemove_b59b0_24 : decode cJx4a65c_fastRemove_b59b0 24 = .ok (.iconst 1, 1) := by decide +kernel
theorem dJx4a65c_fastRemove_b59b0_25 : decode cJx4a65c_fastRemove_b59b0 25 = .ok (.iadd, 1) := by decide +kernel
theorem dJx4a65c_fastRemove_b59b0_26 : decode cJx4a65c_fastRemove_b59b0 26 = .ok (.aload_n 1, 1) := by decide +kernel
theorem dJx4a65c_fastRemove_b59b0_27 : decode cJx4a65c_fastRemove_b59b0 27 = .ok (.iload_n 2, 1) := by decide +kernel
theorem dJx4a65c_fastRemove_b59b0_28 : decode cJx4a65c_fastRemove_b59b0 28 = .ok (.iload_n 3, 1) := by decide +kernel
theorem dJx4a65c_fastRemove_b59b0_29 : decode cJx4a65c_fastRemove_b59b0 29 = .ok (.iload_n 2, 1) := by decide +kernel
theorem dJx4a65c_fastRemove_b59b0_30 : decode cJx4a65c_fastRemove_b59b0 30 = .ok (.isub, 1) := by decide +kernel
theorem dJx4a65c_fastRemove_b59b0_31 : decode cJx4a65c_fastRemove_b59b0 31 = .ok (.invokestatic 112, 3) := by decide +kernel
theorem dJx4a65c_fastRemove_b59b0_34 : decode cJx4a65c_fastRemove_b59b0 34 = .ok (.aload_n 1, 1) := by decide +kernel
theorem dJx4a65c_fastRemove_b59b0_35 : decode cJx4a65c_fastRemove_b59b0 35 = .ok (.aload_n 0, 1) := by decide +kernel
theorem dJx4a65c_fastRemove_b59b0_36 : decode cJx4a65c_fastRemove_b59b0 36 = .ok (.iload_n 3, 1) := by decide +kernel
theorem dJx4a65c_fastRemove_b59b0_37 : decode cJx4a65c_fastRemove_b59b0 37 = .ok (.dup_x1, 1) := by decide +kernel
theorem dJx4a65c_fastRemove_b59b0_38 : decode cJx4a65c_fastRemove_b59b0 38 = .ok (.putfield 48, 3) := by decide +kernel
theorem dJx4a65c_fastRemove_b59b0_41 : decode cJx4a65c_fastRemove_b59b0 41 = .ok (.aconst_null, 1) := by decide +kernel
theorem dJx4a65c_fastRemove_b59b0_42 : decode cJx4a65c_fastRemove_b59b0 42 = .ok (.aastore, 1) := by decide +kernel
theorem dJx4a65c_fastRemove_b59b0_43 : decode cJx4a65c_fastRemove_b59b0 43 = .ok (.return_, 1) := by decide +kernel
theorem dJx4a65c_clear_da8c8_0 : decode cJx4a65c_clear_da8c8 0 = .ok (.aload_n 0, 1) := by decide +kernel
theorem dJx4a65c_clear_da8c8_1 : decode cJx4a65c_clear_da8c8 1 = .ok (.dup, 1) := by decide +kernel
theorem dJx4a65c_clear_da8c8_2 : decode cJx4a65c_clear_da8c8 2 = .ok (.getfield 63, 3) := by decide +kernel
theorem dJx4a65c_clear_da8c8_5 : decode cJx4a65c_clear_da8c8 5 = .ok (.iconst 1, 1) := by decide +kernel
theorem dJx4a65c_clear_da8c8_6 : decode cJx4a65c_clear_da8c8 6 = .ok (.iadd, 1) := by decide +kernel
theorem dJx4a65c_clear_da8c8_7 : decode cJx4a65c_clear_da8c8 7 = .ok (.putfield 63, 3) := by decide +kernel
theorem dJx4a65c_clear_da8c8_10 : decode cJx4a65c_clear_da8c8 10 = .ok (.aload_n 0, 1) := by decide +kernel
theorem dJx4a65c_clear_da8c8_11 : decode cJx4a65c_clear_da8c8 11 = .ok (.getfield 9, 3) := by decide +kernel
theorem dJx4a65c_clear_da8c8_14 : decode cJx4a65c_clear_da8c8 14 = .ok (.astore_n 1, 1) := by decide +kernel
theorem dJx4a65c_clear_da8c8_15 : decode cJx4a65c_clear_da8c8 15 = .ok (.aload_n 0, 1) := by decide +kernel
theorem dJx4a65c_clear_da8c8_16 : decode cJx4a65c_clear_da8c8 16 = .ok (.getfield 48, 3) := by decide +kernel
theorem dJx4a65c_clear_da8c8_19 : decode cJx4a65c_clear_da8c8 19 = .ok (.istore_n 2, 1) := by decide +kernel
theorem dJx4a65c_clear_da8c8_20 : decode cJx4a65c_clear_da8c8 20 = .ok (.aload_n 0, 1) := by decide +kernel
theorem dJx4a65c_clear_da8c8_21 : decode cJx4a65c_clear_da8c8 21 = .ok (.iconst 0, 1) := by decide +kernel
theorem dJx4a65c_clear_da8c8_22 : decode cJx4a65c_clear_da8c8 22 = .ok (.dup_x1, 1) := by decide +kernel
theorem dJx4a65c_clear_da8c8_23 : decode cJx4a65c_clear_da8c8 23 = .ok (.putfield 48, 3) := by decide +kernel
theorem dJx4a65c_clear_da8c8_26 : decode cJx4a65c_clear_da8c8 26 = .ok (.istore_n 3, 1) := by decide +kernel
theorem dJx4a65c_clear_da8c8_27 : decode cJx4a65c_clear_da8c8 27 = .ok (.iload_n 3, 1) := by decide +kernel
theorem dJx4a65c_clear_da8c8_28 : decode cJx4a65c_clear_da8c8 28 = .ok (.iload_n 2, 1) := by decide +kernel
theorem dJx4a65c_clear_da8c8_29 : decode cJx4a65c_clear_da8c8 29 = .ok (.if_icmp .ge 13, 3) := by decide +kernel
theorem dJx4a65c_clear_da8c8_32 : decode cJx4a65c_clear_da8c8 32 = .ok (.aload_n 1, 1) := by decide +kernel
theorem dJx4a65c_clear_da8c8_33 : decode cJx4a65c_clear_da8c8 33 = .ok (.iload_n 3, 1) := by decide +kernel
theorem dJx4a65c_clear_da8c8_34 : decode cJx4a65c_clear_da8c8 34 = .ok (.aconst_null, 1) := by decide +kernel
theorem dJx4a65c_clear_da8c8_35 : decode cJx4a65c_clear_da8c8 35 = .ok (.aastore, 1) := by decide +kernel
theorem dJx4a65c_clear_da8c8_36 : decode cJx4a65c_clear_da8c8 36 = .ok (.iinc 3 1, 3) := by decide +kernel
theorem dJx4a65c_clear_da8c8_39 : decode cJx4a65c_clear_da8c8 39 = .ok (.goto (-12), 3) := by decide +kernel
theorem dJx4a65c_clear_da8c8_42 : decode cJx4a65c_clear_da8c8 42 = .ok (.return_, 1) := by decide +kernel
theorem dJx4a65c_rangeCheckForAdd_d00df_0 : decode cJx4a65c_rangeCheckForAdd_d00df 0 = .ok (.iload_n 1, 1) := by decide +kernel
theorem dJx4a65c_rangeCheckForAdd_d00df_1 : decode cJx4a65c_rangeCheckForAdd_d00df 1 = .ok (.aload_n 0, 1) := by decide +kernel
theorem dJx4a65c_rangeCheckForAdd_d00df_2 : decode cJx4a65c_rangeCheckForAdd_d00df 2 = .ok (.getfield 48, 3) := by decide +kernel
theorem dJx4a65c_rangeCheckForAdd_d00df_5 : decode cJx4a65c_rangeCheckForAdd_d00df 5 = .ok (.if_icmp .gt 7, 3) := by decide +kernel
theorem dJx4a65c_rangeCheckForAdd_d00df_8 : decode cJx4a65c_rangeCheckForAdd_d00df 8 = .ok (.iload_n 1, 1) := by decide +kernel
theorem dJx4a65c_rangeCheckForAdd_d00df_9 : decode cJx4a65c_rangeCheckForAdd_d00df 9 = .ok (.ifCond .ge 16, 3) := by decide +kernel
theorem dJx4a65c_rangeCheckForAdd_d00df_12 : decode cJx4a65c_rangeCheckForAdd_d00df 12 = .ok (.new 187, 3) := by decide +kernel
theorem dJx4a65c_rangeCheckForAdd_d00df_15 : decode cJx4a65c_rangeCheckForAdd_d00df 15 = .ok (.dup, 1) := by decide +kernel
theorem dJx4a65c_rangeCheckForAdd_d00df_16 : decode cJx4a65c_rangeCheckForAdd_d00df 16 = .ok (.aload_n 0, 1) := by decide +kernel
theorem dJx4a65c_rangeCheckForAdd_d00df_17 : decode cJx4a65c_rangeCheckForAdd_d00df 17 = .ok (.iload_n 1, 1) := by decide +kernel
theorem dJx4a65c_rangeCheckForAdd_d00df_18 : decode cJx4a65c_rangeCheckForAdd_d00df 18 = .ok (.invokevirtual 198, 3) := by decide +kernel
theorem dJx4a65c_rangeCheckForAdd_d00df_21 : decode cJx4a65c_rangeCheckForAdd_d00df 21 = .ok (.invokespecial 193, 3) := by decide +kernel
theorem dJx4a65c_rangeCheckForAdd_d00df_24 : decode cJx4a65c_rangeCheckForAdd_d00df 24 = .ok (.athrow, 1) := by decide +kernel
theorem dJx4a65c_rangeCheckForAdd_d00df_25 : decode cJx4a65c_rangeCheckForAdd_d00df 25 = .ok (.return_, 1) := by decide +kernel
theorem dJx4a65c_outOfBoundsMsg_b52d3_0 : decode cJx4a65c_outOfBoundsMsg_b52d3 0 = .ok (.new 20, 3) := by decide +kernel
theorem dJx4a65c_outOfBoundsMsg_b52d3_3 : decode cJx4a65c_outOfBoundsMsg_b52d3 3 = .ok (.dup, 1) := by decide +kernel
theorem dJx4a65c_outOfBoundsMsg_b52d3_4 : decode cJx4a65c_outOfBoundsMsg_b52d3 4 = .ok (.invokespecial 22, 3) := by decide +kernel
theorem dJx4a65c_outOfBoundsMsg_b52d3_7 : decode cJx4a65c_outOfBoundsMsg_b52d3 7 = .ok (.ldc 201, 2) := by decide +kernel
theorem dJx4a65c_outOfBoundsMsg_b52d3_9 : decode cJx4a65c_outOfBoundsMsg_b52d3 9 = .ok (.invokevirtual 25, 3) := by decide +kernel
theorem dJx4a65c_outOfBoundsMsg_b52d3_12 : decode cJx4a65c_outOfBoundsMsg_b52d3 12 = .ok (.iload_n 1, 1) := by decide +kernel
theorem dJx4a65c_outOfBoundsMsg_b52d3_13 : decode cJx4a65c_outOfBoundsMsg_b52d3 13 = .ok (.invokevirtual 29, 3) := by decide +kernel
theorem dJx4a65c_outOfBoundsMsg_b52d3_16 : decode cJx4a65c_outOfBoundsMsg_b52d3 16 = .ok (.ldc 203, 2) := by decide +kernel
theorem dJx4a65c_outOfBoundsMsg_b52d3_18 : decode cJx4a65c_outOfBoundsMsg_b52d3 18 = .ok (.invokevirtual 25, 3) := by decide +kernel
theorem dJx4a65c_outOfBoundsMsg_b52d3_21 : decode cJx4a65c_outOfBoundsMsg_b52d3 21 = .ok (.aload_n 0, 1) := by decide +kernel
theorem dJx4a65c_outOfBoundsMsg_b52d3_22 : decode cJx4a65c_outOfBoundsMsg_b52d3 22 = .ok (.getfield 48, 3) := by decide +kernel
theorem dJx4a65c_outOfBoundsMsg_b52d3_25 : decode cJx4a65c_outOfBoundsMsg_b52d3 25 = .ok (.invokevirtual 29, 3) := by decide +kernel
theorem dJx4a65c_outOfBoundsMsg_b52d3_28 : decode cJx4a65c_outOfBoundsMsg_b52d3 28 = .ok (.invokevirtual 32, 3) := by decide +kernel
theorem dJx4a65c_outOfBoundsMsg_b52d3_31 : decode cJx4a65c_outOfBoundsMsg_b52d3 31 = .ok (.areturn, 1) := by decide +kernel
theorem dJ7_copyOf_1904c_0 : decode cJ7_copyOf_1904c 0 = .ok (.aload_n 0, 1) := by decide +kernel
theorem dJ7_copyOf_1904c_1 : decode cJ7_copyOf_1904c 1 = .ok (.iload_n 1, 1) := by decide +kernel
theorem dJ7_copyOf_1904c_2 : decode cJ7_copyOf_1904c 2 = .ok (.aload_n 0, 1) := by decide +kernel
theorem dJ7_copyOf_1904c_3 : decode cJ7_copyOf_1904c 3 = .ok (.invokevirtual 86, 3) := by decide +kernel
theorem dJ7_copyOf_1904c_6 : decode cJ7_copyOf_1904c 6 = .ok (.invokestatic 300, 3) := by decide +kernel
theorem dJ7_copyOf_1904c_9 : decode cJ7_copyOf_1904c 9 = .ok (.areturn, 1) := by decide +kernel
theorem dJ7_copyOf_6403c_0 : decode cJ7_copyOf_6403c 0 = .ok (.aload_n 2, 1) := by decide +kernel
theorem dJ7_copyOf_6403c_1 : decode cJ7_copyOf_6403c 1 = .ok (.ldc 110, 2) := by decide +kernel
theorem dJ7_copyOf_6403c_3 : decode cJ7_copyOf_6403c 3 = .ok (.if_acmp .ne 10, 3) := by decide +kernel
theorem dJ7_copyOf_6403c_6 : decode cJ7_copyOf_6403c 6 = .ok (.iload_n 1, 1) := by decide +kernel
theorem dJ7_copyOf_6403c_7 : decode cJ7_copyOf_6403c 7 = .ok (.anewarray 2, 3) := by decide +kernel
theorem dJ7_copyOf_6403c_10 : decode cJ7_copyOf_6403c 10 = .ok (.goto 14, 3) := by decide +kernel
theorem dJ7_copyOf_6403c_13 : decode cJ7_copyOf_6403c 13 = .ok (.aload_n 2, 1) := by decide +kernel
theorem dJ7_copyOf_6403c_14 : decode cJ7_copyOf_6403c 14 = .ok (.invokevirtual 90, 3) := by decide +kernel
theorem dJ7_copyOf_6403c_17 : decode cJ7_copyOf_6403c 17 = .ok (.iload_n 1, 1) := by decide +kernel
theorem dJ7_copyOf_6403c_18 : decode cJ7_copyOf_6403c 18 = .ok (.invokestatic 95, 3) := by decide +kernel
theorem dJ7_copyOf_6403c_21 : decode cJ7_copyOf_6403c 21 = .ok (.checkcast 110, 3) := by decide +kernel
theorem dJ7_copyOf_6403c_24 : decode cJ7_copyOf_6403c 24 = .ok (.astore_n 3, 1) := by decide +kernel
theorem dJ7_copyOf_6403c_25 : decode cJ7_copyOf_6403c 25 = .ok (.aload_n 0, 1) := by decide +kernel
theorem dJ7_copyOf_6403c_26 : decode cJ7_copyOf_6403c 26 = .ok (.iconst 0, 1) := by decide +kernel
theorem dJ7_copyOf_6403c_27 : decode cJ7_copyOf_6403c 27 = .ok (.aload_n 3, 1) := by decide +kernel
theorem dJ7_copyOf_6403c_28 : decode cJ7_copyOf_6403c 28 = .ok (.iconst 0, 1) := by decide +kernel
theorem dJ7_copyOf_6403c_29 : decode cJ7_copyOf_6403c 29 = .ok (.aload_n 0, 1) := by decide +kernel
theorem dJ7_copyOf_6403c_30 : decode cJ7_copyOf_6403c 30 = .ok (.arraylength, 1) := by decide +kernel
theorem dJ7_copyOf_6403c_31 : decode cJ7_copyOf_6403c 31 = .ok (.iload_n 1, 1) := by decide +kernel
theorem dJ7_copyOf_6403c_32 : decode cJ7_copyOf_6403c 32 = .ok (.invokestatic 304, 3) := by decide +kernel
theorem dJ7_copyOf_6403c_35 : decode cJ7_copyOf_6403c 35 = .ok (.invokestatic 150, 3) := by decide +kernel
theorem dJ7_copyOf_6403c_38 : decode cJ7_copyOf_6403c 38 = .ok (.aload_n 3, 1) := by decide +kernel
theorem dJ7_copyOf_6403c_39 : decode cJ7_copyOf_6403c 39 = .ok (.areturn, 1) := by decide +kernel
theorem dJ7_copyOf_9075b_0 : decode cJ7_copyOf_9075b 0 = .ok (.iload_n 1, 1) := by decide +kernel
theorem dJ7_copyOf_9075b_1 : decode cJ7_copyOf_9075b 1 = .ok (.aload_n 0, 1) := by decide +kernel
theorem dJ7_copyOf_9075b_2 : decode cJ7_copyOf_9075b 2 = .ok (.arraylength, 1) := by decide +kernel
theorem dJ7_copyOf_9075b_3 : decode cJ7_copyOf_9075b 3 = .ok (.if_icmp .ne 11, 3) := by decide +kernel
theorem dJ7_copyOf_9075b_6 : decode cJ7_copyOf_9075b 6 = .ok (.aload_n 0, 1) := by decide +kernel
theorem dJ7_copyOf_9075b_7 : decode cJ7_copyOf_9075b 7 = .ok (.invokevirtual 310, 3) := by decide +kernel
theorem dJ7_copyOf_9075b_10 : decode cJ7_copyOf_9075b 10 = .ok (.checkcast 311, 3) := by decide +kernel
theorem dJ7_copyOf_9075b_13 : decode cJ7_copyOf_9075b 13 = .ok (.areturn, 1) := by decide +kernel
theorem dJ7_copyOf_9075b_14 : decode cJ7_copyOf_9075b 14 = .ok (.iload_n 1, 1) := by decide +kernel
theorem dJ7_copyOf_9075b_15 : decode cJ7_copyOf_9075b 15 = .ok (.newarray .byte, 2) := by decide +kernel
theorem dJ7_copyOf_9075b_17 : decode cJ7_copyOf_9075b 17 = .ok (.astore_n 2, 1) := by decide +kernel
theorem dJ7_copyOf_9075b_18 : decode cJ7_copyOf_9075b 18 = .ok (.aload_n 0, 1) := by decide +kernel
theorem dJ7_copyOf_9075b_19 : decode cJ7_copyOf_9075b 19 = .ok (.iconst 0, 1) := by decide +kernel
theorem dJ7_copyOf_9075b_20 : decode cJ7_copyOf_9075b 20 = .ok (.aload_n 2, 1) := by decide +kernel
theorem dJ7_copyOf_9075b_21 : decode cJ7_copyOf_9075b 21 = .ok (.iconst 0, 1) := by decide +kernel
theorem dJ7_copyOf_9075b_22 : decode cJ7_copyOf_9075b 22 = .ok (.aload_n 0, 1) := by decide +kernel
theorem dJ7_copyOf_9075b_23 : decode cJ7_copyOf_9075b 23 = .ok (.arraylength, 1) := by decide +kernel
theorem dJ7_copyOf_9075b_24 : decode cJ7_copyOf_9075b 24 = .ok (.iload_n 1, 1) := by decide +kernel
theorem dJ7_copyOf_9075b_25 : decode cJ7_copyOf_9075b 25 = .ok (.invokestatic 304, 3) := by decide +kernel
theorem dJ7_copyOf_9075b_28 : decode cJ7_copyOf_9075b 28 = .ok (.invokestatic 150, 3) := by decide +kernel
theorem dJ7_copyOf_9075b_31 : decode cJ7_copyOf_9075b 31 = .ok (.aload_n 2, 1) := by decide +kernel
theorem dJ7_copyOf_9075b_32 : decode cJ7_copyOf_9075b 32 = .ok (.areturn, 1) := by decide +kernel
theorem dJ7_checkLength_df160_0 : decode cJ7_checkLength_df160 0 = .ok (.iload_n 1, 1) := by decide +kernel
theorem dJ7_checkLength_df160_1 : decode cJ7_checkLength_df160 1 = .ok (.iload_n 0, 1) := by decide +kernel
theorem dJ7_checkLength_df160_2 : decode cJ7_checkLength_df160 2 = .ok (.if_icmp .ge 35, 3) := by decide +kernel
theorem dJ7_checkLength_df160_5 : decode cJ7_checkLength_df160 5 = .ok (.new 43, 3) := by decide +kernel
theorem dJ7_checkLength_df160_8 : decode cJ7_checkLength_df160 8 = .ok (.dup, 1) := by decide +kernel
theorem dJ7_checkLength_df160_9 : decode cJ7_checkLength_df160 9 = .ok (.new 45, 3) := by decide +kernel
theorem dJ7_checkLength_df160_12 : decode cJ7_checkLength_df160 12 = .ok (.dup, 1) := by decide +kernel
theorem dJ7_checkLength_df160_13 : decode cJ7_checkLength_df160 13 = .ok (.invokespecial 47, 3) := by decide +kernel
theorem dJ7_checkLength_df160_16 : decode cJ7_checkLength_df160 16 = .ok (.iload_n 0, 1) := by decide +kernel
theorem dJ7_checkLength_df160_17 : decode cJ7_checkLength_df160 17 = .ok (.invokevirtual 54, 3) := by decide +kernel
theorem dJ7_checkLength_df160_20 : decode cJ7_checkLength_df160 20 = .ok (.ldc_w 337, 3) := by decide +kernel
theorem dJ7_checkLength_df160_23 : decode cJ7_checkLength_df160 23 = .ok (.invokevirtual 50, 3) := by decide +kernel
theorem dJ7_checkLength_df160_26 : decode cJ7_checkLength_df160 26 = .ok (.iload_n 1, 1) := by decide +kernel
theorem dJ7_checkLength_df160_27 : decode cJ7_checkLength_df160 27 = .ok (.invokevirtual 54, 3) := by decide +kernel
theorem dJ7_checkLength_df160_30 : decode cJ7_checkLength_df160 30 = .ok (.invokevirtual 61, 3) := by decide +kernel
theorem dJ7_checkLength_df160_33 : decode cJ7_checkLength_df160 33 = .ok (.invokespecial 65, 3) := by decide +kernel
theorem dJ7_checkLength_df160_36 : decode cJ7_checkLength_df160 36 = .ok (.athrow, 1) := by decide +kernel
theorem dJ7_checkLength_df160_37 : decode cJ7_checkLength_df160 37 = .ok (.return_, 1) := by decide +kernel
theorem dJ7_copyOfRange_39247_0 : decode cJ7_copyOfRange_39247 0 = .ok (.iload_n 1, 1) := by decide +kernel
theorem dJ7_copyOfRange_39247_1 : decode cJ7_copyOfRange_39247 1 = .ok (.ifCond .ne 9, 3) := by decide +kernel
theorem dJ7_copyOfRange_39247_4 : decode cJ7_copyOfRange_39247 4 = .ok (.iload_n 2, 1) := by decide +kernel
theorem dJ7_copyOfRange_39247_5 : decode cJ7_copyOfRange_39247 5 = .ok (.aload_n 0, 1) := by decide +kernel
theorem dJ7_copyOfRange_39247_6 : decode cJ7_copyOfRange_39247 6 = .ok (.arraylength, 1) := by decide +kernel
theorem dJ7_copyOfRange_39247_7 : decode cJ7_copyOfRange_39247 7 = .ok (.if_icmp .eq 10, 3) := by decide +kernel
theorem dJ7_copyOfRange_39247_10 : decode cJ7_copyOfRange_39247 10 = .ok (.aload_n 0, 1) := by decide +kernel
theorem dJ7_copyOfRange_39247_11 : decode cJ7_copyOfRange_39247 11 = .ok (.iload_n 1, 1) := by decide +kernel
theorem dJ7_copyOfRange_39247_12 : decode cJ7_copyOfRange_39247 12 = .ok (.iload_n 2, 1) := by decide +kernel
theorem dJ7_copyOfRange_39247_13 : decode cJ7_copyOfRange_39247 13 = .ok (.invokestatic 339, 3) := by decide +kernel
theorem dJ7_copyOfRange_39247_16 : decode cJ7_copyOfRange_39247 16 = .ok (.areturn, 1) := by decide +kernel
theorem dJ7_copyOfRange_39247_17 : decode cJ7_copyOfRange_39247 17 = .ok (.aload_n 0, 1) := by decide +kernel
theorem dJ7_copyOfRange_39247_18 : decode cJ7_copyOfRange_39247 18 = .ok (.invokevirtual 310, 3) := by decide +kernel
theorem dJ7_copyOfRange_39247_21 : decode cJ7_copyOfRange_39247 21 = .ok (.checkcast 311, 3) := by decide +kernel
theorem dJ7_copyOfRange_39247_24 : decode cJ7_copyOfRange_39247 24 = .ok (.areturn, 1) := by decide +kernel
theorem dJ7_copyOfRangeByte_39247_0 : decode cJ7_copyOfRangeByte_39247 0 = .ok (.iload_n 1, 1) := by decide +kernel
theorem dJ7_copyOfRangeByte_39247_1 : decode cJ7_copyOfRangeByte_39247 1 = .ok (.iload_n 2, 1) := by decide +kernel
theorem dJ7_copyOfRangeByte_39247_2 : decode cJ7_copyOfRangeByte_39247 2 = .ok (.invokestatic 343, 3) := by decide +kernel
theorem dJ7_copyOfRangeByte_39247_5 : decode cJ7_copyOfRangeByte_39247 5 = .ok (.iload_n 2, 1) := by decide +kernel
theorem dJ7_copyOfRangeByte_39247_6 : decode cJ7_copyOfRangeByte_39247 6 = .ok (.iload_n 1, 1) := by decide +kernel
theorem dJ7_copyOfRangeByte_39247_7 : decode cJ7_copyOfRangeByte_39247 7 = .ok (.isub, 1) := by decide +kernel
theorem dJ7_copyOfRangeByte_39247_8 : decode cJ7_copyOfRangeByte_39247 8 = .ok (.istore_n 3, 1) := by decide +kernel
theorem dJ7_copyOfRangeByte_39247_9 : decode cJ7_copyOfRangeByte_39247 9 = .ok (.iload_n 3, 1) := by decide +kernel
theorem dJ7_copyOfRangeByte_39247_10 : decode cJ7_copyOfRangeByte_39247 10 = .ok (.newarray .byte, 2) := by decide +kernel
theorem dJ7_copyOfRangeByte_39247_12 : decode cJ7_copyOfRangeByte_39247 12 = .ok (.astore 4, 2) := by decide +kernel
theorem dJ7_copyOfRangeByte_39247_14 : decode cJ7_copyOfRangeByte_39247 14 = .ok (.aload_n 0, 1) := by decide +kernel
theorem dJ7_copyOfRangeByte_39247_15 : decode cJ7_copyOfRangeByte_39247 15 = .ok (.iload_n 1, 1) := by decide +kernel
theorem dJ7_copyOfRangeByte_39247_16 : decode cJ7_copyOfRangeByte_39247 16 = .ok (.aload 4, 2) := by decide +kernel
theorem dJ7_copyOfRangeByte_39247_18 : decode cJ7_copyOfRangeByte_39247 18 = .ok (.iconst 0, 1) := by decide +kernel
theorem dJ7_copyOfRangeByte_39247_19 : decode cJ7_copyOfRangeByte_39247 19 = .ok (.aload_n 0, 1) := by decide +kernel
theorem dJ7_copyOfRangeByte_39247_20 : decode cJ7_copyOfRangeByte_39247 20 = .ok (.arraylength, 1) := by decide +kernel
theorem dJ7_copyOfRangeByte_39247_21 : decode cJ7_copyOfRangeByte_39247 21 = .ok (.iload_n 1, 1) := by decide +kernel
theorem dJ7_copyOfRangeByte_39247_22 : decode cJ7_copyOfRangeByte_39247 22 = .ok (.isub, 1) := by decide +kernel
theorem dJ7_copyOfRangeByte_39247_23 : decode cJ7_copyOfRangeByte_39247 23 = .ok (.iload_n 3, 1) := by decide +kernel
theorem dJ7_copyOfRangeByte_39247_24 : decode cJ7_copyOfRangeByte_39247 24 = .ok (.invokestatic 304, 3) := by decide +kernel
theorem dJ7_copyOfRangeByte_39247_27 : decode cJ7_copyOfRangeByte_39247 27 = .ok (.invokestatic 150, 3) := by decide +kernel
theorem dJ7_copyOfRangeByte_39247_30 : decode cJ7_copyOfRangeByte_39247 30 = .ok (.aload 4, 2) := by decide +kernel
theorem dJ7_copyOfRangeByte_39247_32 : decode cJ7_copyOfRangeByte_39247 32 = .ok (.areturn, 1) := by decide +kernel
theorem dJ15_checkIndex_7cf53_0 : decode cJ15_checkIndex_7cf53 0 = .ok (.iload_n 0, 1) := by decide +kernel
theorem dJ15_checkIndex_7cf53_1 : decode cJ15_checkIndex_7cf53 1 = .ok (.iload_n 1, 1) := by decide +kernel
theorem dJ15_checkIndex_7cf53_2 : decode cJ15_checkIndex_7cf53 2 = .ok (.aconst_null, 1) := by decide +kernel
theorem dJ15_checkIndex_7cf53_3 : decode cJ15_checkIndex_7cf53 3 = .ok (.invokestatic 105, 3) := by decide +kernel
theorem dJ15_checkIndex_7cf53_6 : decode cJ15_checkIndex_7cf53 6 = .ok (.ireturn, 1) := by decide +kernel
theorem dJ8_newLength_cabcc_0 : decode cJ8_newLength_cabcc 0 = .ok (.iload_n 0, 1) := by decide +kernel
theorem dJ8_newLength_cabcc_1 : decode cJ8_newLength_cabcc 1 = .ok (.iload_n 1, 1) := by decide +kernel
theorem dJ8_newLength_cabcc_2 : decode cJ8_newLength_cabcc 2 = .ok (.iload_n 2, 1) := by decide +kernel
theorem dJ8_newLength_cabcc_3 : decode cJ8_newLength_cabcc 3 = .ok (.invokestatic 194, 3) := by decide +kernel
theorem dJ8_newLength_cabcc_6 : decode cJ8_newLength_cabcc 6 = .ok (.iadd, 1) := by decide +kernel
theorem dJ8_newLength_cabcc_7 : decode cJ8_newLength_cabcc 7 = .ok (.istore_n 3, 1) := by decide +kernel
theorem dJ8_newLength_cabcc_8 : decode cJ8_newLength_cabcc 8 = .ok (.iconst 0, 1) := by decide +kernel
theorem dJ8_newLength_cabcc_9 : decode cJ8_newLength_cabcc 9 = .ok (.iload_n 3, 1) := by decide +kernel
theorem dJ8_newLength_cabcc_10 : decode cJ8_newLength_cabcc 10 = .ok (.if_icmp .ge 11, 3) := by decide +kernel
theorem dJ8_newLength_cabcc_13 : decode cJ8_newLength_cabcc 13 = .ok (.iload_n 3, 1) := by decide +kernel
theorem dJ8_newLength_cabcc_14 : decode cJ8_newLength_cabcc 14 = .ok (.ldc 200, 2) := by decide +kernel
theorem dJ8_newLength_cabcc_16 : decode cJ8_newLength_cabcc 16 = .ok (.if_icmp .gt 5, 3) := by decide +kernel
theorem dJ8_newLength_cabcc_19 : decode cJ8_newLength_cabcc 19 = .ok (.iload_n 3, 1) := by decide +kernel
theorem dJ8_newLength_cabcc_20 : decode cJ8_newLength_cabcc 20 = .ok (.ireturn, 1) := by decide +kernel
theorem dJ8_newLength_cabcc_21 : decode cJ8_newLength_cabcc 21 = .ok (.iload_n 0, 1) := by decide +kernel
theorem dJ8_newLength_cabcc_22 : decode cJ8_newLength_cabcc 22 = .ok (.iload_n 1, 1) := by decide +kernel
theorem dJ8_newLength_cabcc_23 : decode cJ8_newLength_cabcc 23 = .ok (.invokestatic 201, 3) := by decide +kernel
theorem dJ8_newLength_cabcc_26 : decode cJ8_newLength_cabcc 26 = .ok (.ireturn, 1) := by decide +kernel
theorem dJ8_hugeLength_7cf53_0 : decode cJ8_hugeLength_7cf53 0 = .ok (.iload_n 0, 1) := by decide +kernel
theorem dJ8_hugeLength_7cf53_1 : decode cJ8_hugeLength_7cf53 1 = .ok (.iload_n 1, 1) := by decide +kernel
theorem dJ8_hugeLength_7cf53_2 : decode cJ8_hugeLength_7cf53 2 = .ok (.iadd, 1) := by decide +kernel
theorem dJ8_hugeLength_7cf53_3 : decode cJ8_hugeLength_7cf53 3 = .ok (.istore_n 2, 1) := by decide +kernel
theorem dJ8_hugeLength_7cf53_4 : decode cJ8_hugeLength_7cf53 4 = .ok (.iload_n 2, 1) := by decide +kernel
theorem dJ8_hugeLength_7cf53_5 : decode cJ8_hugeLength_7cf53 5 = .ok (.ifCond .ge 44, 3) := by decide +kernel
theorem dJ8_hugeLength_7cf53_8 : decode cJ8_hugeLength_7cf53 8 = .ok (.new 204, 3) := by decide +kernel
theorem dJ8_hugeLength_7cf53_11 : decode cJ8_hugeLength_7cf53 11 = .ok (.dup, 1) := by decide +kernel
theorem dJ8_hugeLength_7cf53_12 : decode cJ8_hugeLength_7cf53 12 = .ok (.new 89, 3) := by decide +kernel
theorem dJ8_hugeLength_7cf53_15 : decode cJ8_hugeLength_7cf53 15 = .ok (.dup, 1) := by decide +kernel
theorem dJ8_hugeLength_7cf53_16 : decode cJ8_hugeLength_7cf53 16 = .ok (.invokespecial 91, 3) := by decide +kernel
theorem dJ8_hugeLength_7cf53_19 : decode cJ8_hugeLength_7cf53 19 = .ok (.ldc 206, 2) := by decide +kernel
theorem dJ8_hugeLength_7cf53_21 : decode cJ8_hugeLength_7cf53 21 = .ok (.invokevirtual 94, 3) := by decide +kernel
theorem dJ8_hugeLength_7cf53_24 : decode cJ8_hugeLength_7cf53 24 = .ok (.iload_n 0, 1) := by decide +kernel
theorem dJ8_hugeLength_7cf53_25 : decode cJ8_hugeLength_7cf53 25 = .ok (.invokevirtual 98, 3) := by decide +kernel
theorem dJ8_hugeLength_7cf53_28 : decode cJ8_hugeLength_7cf53 28 = .ok (.ldc 208, 2) := by decide +kernel
theorem dJ8_hugeLength_7cf53_30 : decode cJ8_hugeLength_7cf53 30 = .ok (.invokevirtual 94, 3) := by decide +kernel
theorem dJ8_hugeLength_7cf53_33 : decode cJ8_hugeLength_7cf53 33 = .ok (.iload_n 1, 1) := by decide +kernel
theorem dJ8_hugeLength_7cf53_34 : decode cJ8_hugeLength_7cf53 34 = .ok (.invokevirtual 98, 3) := by decide +kernel
theorem dJ8_hugeLength_7cf53_37 : decode cJ8_hugeLength_7cf53 37 = .ok (.ldc 210, 2) := by decide +kernel
theorem dJ8_hugeLength_7cf53_39 : decode cJ8_hugeLength_7cf53 39 = .ok (.invokevirtual 94, 3) := by decide +kernel
theorem dJ8_hugeLength_7cf53_42 : decode cJ8_hugeLength_7cf53 42 = .ok (.invokevirtual 101, 3) := by decide +kernel
theorem dJ8_hugeLength_7cf53_45 : decode cJ8_hugeLength_7cf53 45 = .ok (.invokespecial 212, 3) := by decide +kernel
theorem dJ8_hugeLength_7cf53_48 : decode cJ8_hugeLength_7cf53 48 = .ok (.athrow, 1) := by decide +kernel
theorem dJ8_hugeLength_7cf53_49 : decode cJ8_hugeLength_7cf53 49 = .ok (.iload_n 2, 1) := by decide +kernel
theorem dJ8_hugeLength_7cf53_50 : decode cJ8_hugeLength_7cf53 50 = .ok (.ldc 200, 2) := by decide +kernel
theorem dJ8_hugeLength_7cf53_52 : decode cJ8_hugeLength_7cf53 52 = .ok (.if_icmp .gt 6, 3) := by decide +kernel
theorem dJ8_hugeLength_7cf53_55 : decode cJ8_hugeLength_7cf53 55 = .ok (.ldc 200, 2) := by decide +kernel
theorem dJ8_hugeLength_7cf53_57 : decode cJ8_hugeLength_7cf53 57 = .ok (.ireturn, 1) := by decide +kernel
theorem dJ8_hugeLength_7cf53_58 : decode cJ8_hugeLength_7cf53 58 = .ok (.iload_n 2, 1) := by decide +kernel
theorem dJ8_hugeLength_7cf53_59 : decode cJ8_hugeLength_7cf53 59 = .ok (.ireturn, 1) := by decide +kernel
theorem dJ3_checkIndex_8e157_0 : decode cJ3_checkIndex_8e157 0 = .ok (.iload_n 0, 1) := by decide +kernel
theorem dJ3_checkIndex_8e157_1 : decode cJ3_checkIndex_8e157 1 = .ok (.ifCond .lt 8, 3) := by decide +kernel
theorem dJ3_checkIndex_8e157_4 : decode cJ3_checkIndex_8e157 4 = .ok (.iload_n 0, 1) := by decide +kernel
theorem dJ3_checkIndex_8e157_5 : decode cJ3_checkIndex_8e157 5 = .ok (.iload_n 1, 1) := by decide +kernel
theorem dJ3_checkIndex_8e157_6 : decode cJ3_checkIndex_8e157 6 = .ok (.if_icmp .lt 10, 3) := by decide +kernel
theorem dJ3_checkIndex_8e157_9 : decode cJ3_checkIndex_8e157 9 = .ok (.aload_n 2, 1) := by decide +kernel
theorem dJ3_checkIndex_8e157_10 : decode cJ3_checkIndex_8e157 10 = .ok (.iload_n 0, 1) := by decide +kernel
theorem dJ3_checkIndex_8e157_11 : decode cJ3_checkIndex_8e157 11 = .ok (.iload_n 1, 1) := by decide +kernel
theorem dJ3_checkIndex_8e157_12 : decode cJ3_checkIndex_8e157 12 = .ok (.invokestatic 95, 3) := by decide +kernel
theorem dJ3_checkIndex_8e157_15 : decode cJ3_checkIndex_8e157 15 = .ok (.athrow, 1) := by decide +kernel
theorem dJ3_checkIndex_8e157_16 : decode cJ3_checkIndex_8e157 16 = .ok (.iload_n 0, 1) := by decide +kernel
theorem dJ3_checkIndex_8e157_17 : decode cJ3_checkIndex_8e157 17 = .ok (.ireturn, 1) := by decide +kernel
theorem dJ3_checkFromToIndex_8c36e_0 : decode cJ3_checkFromToIndex_8c36e 0 = .ok (.iload_n 0, 1) := by decide +kernel
theorem dJ3_checkFromToIndex_8c36e_1 : decode cJ3_checkFromToIndex_8c36e 1 = .ok (.ifCond .lt 13, 3) := by decide +kernel
theorem dJ3_checkFromToIndex_8c36e_4 : decode cJ3_checkFromToIndex_8c36e 4 = .ok (.iload_n 0, 1) := by decide +kernel
theorem dJ3_checkFromToIndex_8c36e_5 : decode cJ3_checkFromToIndex_8c36e 5 = .ok (.iload_n 1, 1) := by decide +kernel
theorem dJ3_checkFromToIndex_8c36e_6 : decode cJ3_checkFromToIndex_8c36e 6 = .ok (.if_icmp .gt 8, 3) := by decide +kernel
theorem dJ3_checkFromToIndex_8c36e_9 : decode cJ3_checkFromToIndex_8c36e 9 = .ok (.iload_n 1, 1) := by decide +kernel
theorem dJ3_checkFromToIndex_8c36e_10 : decode cJ3_checkFromToIndex_8c36e 10 = .ok (.iload_n 2, 1) := by decide +kernel
theorem dJ3_checkFromToIndex_8c36e_11 : decode cJ3_checkFromToIndex_8c36e 11 = .ok (.if_icmp .le 11, 3) := by decide +kernel
theorem dJ3_checkFromToIndex_8c36e_14 : decode cJ3_checkFromToIndex_8c36e 14 = .ok (.aload_n 3, 1) := by decide +kernel
theorem dJ3_checkFromToIndex_8c36e_15 : decode cJ3_checkFromToIndex_8c36e 15 = .ok (.iload_n 0, 1) := by decide +kernel
theorem dJ3_checkFromToIndex_8c36e_16 : decode cJ3_checkFromToIndex_8c36e 16 = .ok (.iload_n 1, 1) := by decide +kernel
theorem dJ3_checkFromToIndex_8c36e_17 : decode cJ3_checkFromToIndex_8c36e 17 = .ok (.iload_n 2, 1) := by decide +kernel
theorem dJ3_checkFromToIndex_8c36e_18 : decode cJ3_checkFromToIndex_8c36e 18 = .ok (.invokestatic 99, 3) := by decide +kernel
theorem dJ3_checkFromToIndex_8c36e_21 : decode cJ3_checkFromToIndex_8c36e 21 = .ok (.athrow, 1) := by decide +kernel
theorem dJ3_checkFromToIndex_8c36e_22 : decode cJ3_checkFromToIndex_8c36e 22 = .ok (.iload_n 0, 1) := by decide +kernel
theorem dJ3_checkFromToIndex_8c36e_23 : decode cJ3_checkFromToIndex_8c36e 23 = .ok (.ireturn, 1) := by decide +kernel
theorem dJ3_checkFromIndexSize_8c36e_0 : decode cJ3_checkFromIndexSize_8c36e 0 = .ok (.iload_n 2, 1) := by decide +kernel
theorem dJ3_checkFromIndexSize_8c36e_1 : decode cJ3_checkFromIndexSize_8c36e 1 = .ok (.iload_n 0, 1) := by decide +kernel
theorem dJ3_checkFromIndexSize_8c36e_2 : decode cJ3_checkFromIndexSize_8c36e 2 = .ok (.ior, 1) := by decide +kernel
theorem dJ3_checkFromIndexSize_8c36e_3 : decode cJ3_checkFromIndexSize_8c36e 3 = .ok (.iload_n 1, 1) := by decide +kernel
theorem dJ3_checkFromIndexSize_8c36e_4 : decode cJ3_checkFromIndexSize_8c36e 4 = .ok (.ior, 1) := by decide +kernel
theorem dJ3_checkFromIndexSize_8c36e_5 : decode cJ3_checkFromIndexSize_8c36e 5 = .ok (.ifCond .lt 10, 3) := by decide +kernel
theorem dJ3_checkFromIndexSize_8c36e_8 : decode cJ3_checkFromIndexSize_8c36e 8 = .ok (.iload_n 1, 1) := by decide +kernel
theorem dJ3_checkFromIndexSize_8c36e_9 : decode cJ3_checkFromIndexSize_8c36e 9 = .ok (.iload_n 2, 1) := by decide +kernel
theorem dJ3_checkFromIndexSize_8c36e_10 : decode cJ3_checkFromIndexSize_8c36e 10 = .ok (.iload_n 0, 1) := by decide +kernel
theorem dJ3_checkFromIndexSize_8c36e_11 : decode cJ3_checkFromIndexSize_8c36e 11 = .ok (.isub, 1) := by decide +kernel
theorem dJ3_checkFromIndexSize_8c36e_12 : decode cJ3_checkFromIndexSize_8c36e 12 = .ok (.if_icmp .le 11, 3) := by decide +kernel
theorem dJ3_checkFromIndexSize_8c36e_15 : decode cJ3_checkFromIndexSize_8c36e 15 = .ok (.aload_n 3, 1) := by decide +kernel
theorem dJ3_checkFromIndexSize_8c36e_16 : decode cJ3_checkFromIndexSize_8c36e 16 = .ok (.iload_n 0, 1) := by decide +kernel
theorem dJ3_checkFromIndexSize_8c36e_17 : decode cJ3_checkFromIndexSize_8c36e 17 = .ok (.iload_n 1, 1) := by decide +kernel
theorem dJ3_checkFromIndexSize_8c36e_18 : decode cJ3_checkFromIndexSize_8c36e 18 = .ok (.iload_n 2, 1) := by decide +kernel
theorem dJ3_checkFromIndexSize_8c36e_19 : decode cJ3_checkFromIndexSize_8c36e 19 = .ok (.invokestatic 103, 3) := by decide +kernel
theorem dJ3_checkFromIndexSize_8c36e_22 : decode cJ3_checkFromIndexSize_8c36e 22 = .ok (.athrow, 1) := by decide +kernel
theorem dJ3_checkFromIndexSize_8c36e_23 : decode cJ3_checkFromIndexSize_8c36e 23 = .ok (.iload_n 0, 1) := by decide +kernel
theorem dJ3_checkFromIndexSize_8c36e_24 : decode cJ3_checkFromIndexSize_8c36e 24 = .ok (.ireturn, 1) := by decide +kernel
end
