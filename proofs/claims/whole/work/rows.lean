section
-- ===== PART A: goes FIRST, ahead of the names: the tables' words, and 'selects' of the private methods out of them =====
/-- a private method of a class that the tables say can be made, by its rows of tables_1 -/
def lw_okq (q : MethodName × Nat) : Prop := (q.1.cls ≠ "java/lang/invoke/MethodHandle" ∧ q.1.cls ≠ "java/lang/invoke/VarHandle") ∧ Cond.instantiable q.1.cls q.2 ∈ tables_1 ∧ Cond.privateMethod q.1 ∈ tables_1 ∧ Cond.instanceMethod q.1 ∈ tables_1
theorem lw_p0 : lw_okq (⟨"ClearingFiles", "bankWithRouting", "(I)LClearingFiles$Bank;"⟩, 7) := ⟨⟨by decide +kernel, by decide +kernel⟩, List.mem_of_getElem? (i := 20) (by decide +kernel), List.mem_of_getElem? (i := 192) (by decide +kernel), List.mem_of_getElem? (i := 193) (by decide +kernel)⟩
theorem lw_p1 : lw_okq (⟨"java/util/ArrayList", "add", "(Ljava/lang/Object;[Ljava/lang/Object;I)V"⟩, 3) := ⟨⟨by decide +kernel, by decide +kernel⟩, List.mem_of_getElem? (i := 28) (by decide +kernel), List.mem_of_getElem? (i := 277) (by decide +kernel), List.mem_of_getElem? (i := 278) (by decide +kernel)⟩
theorem lw_p2 : lw_okq (⟨"java/util/ArrayList", "grow", "()[Ljava/lang/Object;"⟩, 3) := ⟨⟨by decide +kernel, by decide +kernel⟩, List.mem_of_getElem? (i := 28) (by decide +kernel), List.mem_of_getElem? (i := 281) (by decide +kernel), List.mem_of_getElem? (i := 282) (by decide +kernel)⟩
theorem lw_p3 : lw_okq (⟨"java/util/ArrayList", "grow", "(I)[Ljava/lang/Object;"⟩, 3) := ⟨⟨by decide +kernel, by decide +kernel⟩, List.mem_of_getElem? (i := 28) (by decide +kernel), List.mem_of_getElem? (i := 285) (by decide +kernel), List.mem_of_getElem? (i := 286) (by decide +kernel)⟩
theorem lw_p4 : lw_okq (⟨"ClearingFiles", "bankAt", "(I)LClearingFiles$Bank;"⟩, 7) := ⟨⟨by decide +kernel, by decide +kernel⟩, List.mem_of_getElem? (i := 20) (by decide +kernel), List.mem_of_getElem? (i := 334) (by decide +kernel), List.mem_of_getElem? (i := 335) (by decide +kernel)⟩
theorem lw_p5 : lw_okq (⟨"ClearingFiles", "accountOf", "(LClearingFiles$Bank;I)LClearingFiles$Account;"⟩, 7) := ⟨⟨by decide +kernel, by decide +kernel⟩, List.mem_of_getElem? (i := 20) (by decide +kernel), List.mem_of_getElem? (i := 340) (by decide +kernel), List.mem_of_getElem? (i := 341) (by decide +kernel)⟩
theorem lw_p6 : lw_okq (⟨"ClearingFiles", "beginBatch", "(JJ)I"⟩, 7) := ⟨⟨by decide +kernel, by decide +kernel⟩, List.mem_of_getElem? (i := 20) (by decide +kernel), List.mem_of_getElem? (i := 402) (by decide +kernel), List.mem_of_getElem? (i := 403) (by decide +kernel)⟩
theorem lw_p7 : lw_okq (⟨"ClearingFiles", "addEntry", "(JJ)I"⟩, 7) := ⟨⟨by decide +kernel, by decide +kernel⟩, List.mem_of_getElem? (i := 20) (by decide +kernel), List.mem_of_getElem? (i := 415) (by decide +kernel), List.mem_of_getElem? (i := 416) (by decide +kernel)⟩
theorem lw_p8 : lw_okq (⟨"ClearingFiles", "endBatch", "(JJ)V"⟩, 7) := ⟨⟨by decide +kernel, by decide +kernel⟩, List.mem_of_getElem? (i := 20) (by decide +kernel), List.mem_of_getElem? (i := 471) (by decide +kernel), List.mem_of_getElem? (i := 472) (by decide +kernel)⟩
theorem lw_p9 : lw_okq (⟨"ClearingFiles", "endFile", "(JJ)I"⟩, 7) := ⟨⟨by decide +kernel, by decide +kernel⟩, List.mem_of_getElem? (i := 20) (by decide +kernel), List.mem_of_getElem? (i := 479) (by decide +kernel), List.mem_of_getElem? (i := 480) (by decide +kernel)⟩
theorem lw_p10 : lw_okq (⟨"ClearingFiles", "reasonAgainstFile", "(JJ)I"⟩, 7) := ⟨⟨by decide +kernel, by decide +kernel⟩, List.mem_of_getElem? (i := 20) (by decide +kernel), List.mem_of_getElem? (i := 483) (by decide +kernel), List.mem_of_getElem? (i := 484) (by decide +kernel)⟩
theorem lw_p11 : lw_okq (⟨"ClearingFiles", "fileKey", "()I"⟩, 7) := ⟨⟨by decide +kernel, by decide +kernel⟩, List.mem_of_getElem? (i := 20) (by decide +kernel), List.mem_of_getElem? (i := 487) (by decide +kernel), List.mem_of_getElem? (i := 488) (by decide +kernel)⟩
theorem lw_p12 : lw_okq (⟨"ClearingFiles", "wasAccepted", "(I)Z"⟩, 7) := ⟨⟨by decide +kernel, by decide +kernel⟩, List.mem_of_getElem? (i := 20) (by decide +kernel), List.mem_of_getElem? (i := 491) (by decide +kernel), List.mem_of_getElem? (i := 492) (by decide +kernel)⟩
theorem lw_p13 : lw_okq (⟨"ClearingFiles", "waitingInAll", "()I"⟩, 7) := ⟨⟨by decide +kernel, by decide +kernel⟩, List.mem_of_getElem? (i := 20) (by decide +kernel), List.mem_of_getElem? (i := 495) (by decide +kernel), List.mem_of_getElem? (i := 496) (by decide +kernel)⟩
theorem lw_p14 : lw_okq (⟨"ClearingFiles", "judgeBatches", "()I"⟩, 7) := ⟨⟨by decide +kernel, by decide +kernel⟩, List.mem_of_getElem? (i := 20) (by decide +kernel), List.mem_of_getElem? (i := 499) (by decide +kernel), List.mem_of_getElem? (i := 500) (by decide +kernel)⟩
theorem lw_p15 : lw_okq (⟨"ClearingFiles", "reasonAgainstBatch", "(LClearingFiles$Batch;I)I"⟩, 7) := ⟨⟨by decide +kernel, by decide +kernel⟩, List.mem_of_getElem? (i := 20) (by decide +kernel), List.mem_of_getElem? (i := 503) (by decide +kernel), List.mem_of_getElem? (i := 504) (by decide +kernel)⟩
def lw_privs_1 : List (MethodName × Nat) := [(⟨"ClearingFiles", "bankWithRouting", "(I)LClearingFiles$Bank;"⟩, 7), (⟨"java/util/ArrayList", "add", "(Ljava/lang/Object;[Ljava/lang/Object;I)V"⟩, 3), (⟨"java/util/ArrayList", "grow", "()[Ljava/lang/Object;"⟩, 3), (⟨"java/util/ArrayList", "grow", "(I)[Ljava/lang/Object;"⟩, 3), (⟨"ClearingFiles", "bankAt", "(I)LClearingFiles$Bank;"⟩, 7), (⟨"ClearingFiles", "accountOf", "(LClearingFiles$Bank;I)LClearingFiles$Account;"⟩, 7), (⟨"ClearingFiles", "beginBatch", "(JJ)I"⟩, 7), (⟨"ClearingFiles", "addEntry", "(JJ)I"⟩, 7), (⟨"ClearingFiles", "endBatch", "(JJ)V"⟩, 7), (⟨"ClearingFiles", "endFile", "(JJ)I"⟩, 7), (⟨"ClearingFiles", "reasonAgainstFile", "(JJ)I"⟩, 7), (⟨"ClearingFiles", "fileKey", "()I"⟩, 7), (⟨"ClearingFiles", "wasAccepted", "(I)Z"⟩, 7), (⟨"ClearingFiles", "waitingInAll", "()I"⟩, 7), (⟨"ClearingFiles", "judgeBatches", "()I"⟩, 7), (⟨"ClearingFiles", "reasonAgainstBatch", "(LClearingFiles$Batch;I)I"⟩, 7)]
theorem lw_r1 : ∀ q ∈ lw_privs_1, lw_okq q := List.forall_mem_cons.mpr ⟨lw_p0, List.forall_mem_cons.mpr ⟨lw_p1, List.forall_mem_cons.mpr ⟨lw_p2, List.forall_mem_cons.mpr ⟨lw_p3, List.forall_mem_cons.mpr ⟨lw_p4, List.forall_mem_cons.mpr ⟨lw_p5, List.forall_mem_cons.mpr ⟨lw_p6, List.forall_mem_cons.mpr ⟨lw_p7, List.forall_mem_cons.mpr ⟨lw_p8, List.forall_mem_cons.mpr ⟨lw_p9, List.forall_mem_cons.mpr ⟨lw_p10, List.forall_mem_cons.mpr ⟨lw_p11, List.forall_mem_cons.mpr ⟨lw_p12, List.forall_mem_cons.mpr ⟨lw_p13, List.forall_mem_cons.mpr ⟨lw_p14, List.forall_mem_cons.mpr ⟨lw_p15, fun _ h => absurd h List.not_mem_nil⟩⟩⟩⟩⟩⟩⟩⟩⟩⟩⟩⟩⟩⟩⟩⟩
theorem lw_p16 : lw_okq (⟨"ClearingFiles", "judgeEntries", "(LClearingFiles$Batch;)I"⟩, 7) := ⟨⟨by decide +kernel, by decide +kernel⟩, List.mem_of_getElem? (i := 20) (by decide +kernel), List.mem_of_getElem? (i := 507) (by decide +kernel), List.mem_of_getElem? (i := 508) (by decide +kernel)⟩
theorem lw_p17 : lw_okq (⟨"ClearingFiles", "countRefusal", "(I)V"⟩, 7) := ⟨⟨by decide +kernel, by decide +kernel⟩, List.mem_of_getElem? (i := 20) (by decide +kernel), List.mem_of_getElem? (i := 514) (by decide +kernel), List.mem_of_getElem? (i := 515) (by decide +kernel)⟩
theorem lw_p18 : lw_okq (⟨"ClearingFiles", "keepAsAccepted", "(I)V"⟩, 7) := ⟨⟨by decide +kernel, by decide +kernel⟩, List.mem_of_getElem? (i := 20) (by decide +kernel), List.mem_of_getElem? (i := 518) (by decide +kernel), List.mem_of_getElem? (i := 519) (by decide +kernel)⟩
theorem lw_p19 : lw_okq (⟨"ClearingFiles", "acceptBatches", "()I"⟩, 7) := ⟨⟨by decide +kernel, by decide +kernel⟩, List.mem_of_getElem? (i := 20) (by decide +kernel), List.mem_of_getElem? (i := 522) (by decide +kernel), List.mem_of_getElem? (i := 523) (by decide +kernel)⟩
theorem lw_p20 : lw_okq (⟨"ClearingFiles", "acceptEntries", "(LClearingFiles$Batch;)I"⟩, 7) := ⟨⟨by decide +kernel, by decide +kernel⟩, List.mem_of_getElem? (i := 20) (by decide +kernel), List.mem_of_getElem? (i := 526) (by decide +kernel), List.mem_of_getElem? (i := 527) (by decide +kernel)⟩
theorem lw_p21 : lw_okq (⟨"ClearingFiles", "handOutEntries", "(LClearingFiles$Bank;)V"⟩, 7) := ⟨⟨by decide +kernel, by decide +kernel⟩, List.mem_of_getElem? (i := 20) (by decide +kernel), List.mem_of_getElem? (i := 558) (by decide +kernel), List.mem_of_getElem? (i := 559) (by decide +kernel)⟩
theorem lw_p22 : lw_okq (⟨"java/util/ArrayList", "rangeCheckForAdd", "(I)V"⟩, 3) := ⟨⟨by decide +kernel, by decide +kernel⟩, List.mem_of_getElem? (i := 28) (by decide +kernel), List.mem_of_getElem? (i := 576) (by decide +kernel), List.mem_of_getElem? (i := 577) (by decide +kernel)⟩
theorem lw_p23 : lw_okq (⟨"java/util/ArrayList", "fastRemove", "([Ljava/lang/Object;I)V"⟩, 3) := ⟨⟨by decide +kernel, by decide +kernel⟩, List.mem_of_getElem? (i := 28) (by decide +kernel), List.mem_of_getElem? (i := 585) (by decide +kernel), List.mem_of_getElem? (i := 586) (by decide +kernel)⟩
theorem lw_p24 : lw_okq (⟨"ClearingFiles", "postOrSendBack", "(LClearingFiles$Entry;)Z"⟩, 7) := ⟨⟨by decide +kernel, by decide +kernel⟩, List.mem_of_getElem? (i := 20) (by decide +kernel), List.mem_of_getElem? (i := 602) (by decide +kernel), List.mem_of_getElem? (i := 603) (by decide +kernel)⟩
theorem lw_p25 : lw_okq (⟨"ClearingFiles", "sendBack", "(LClearingFiles$Entry;)V"⟩, 7) := ⟨⟨by decide +kernel, by decide +kernel⟩, List.mem_of_getElem? (i := 20) (by decide +kernel), List.mem_of_getElem? (i := 609) (by decide +kernel), List.mem_of_getElem? (i := 610) (by decide +kernel)⟩
theorem lw_p26 : lw_okq (⟨"ClearingFilesModel", "bankOf", "(I)I"⟩, 46) := ⟨⟨by decide +kernel, by decide +kernel⟩, List.mem_of_getElem? (i := 647) (by decide +kernel), List.mem_of_getElem? (i := 804) (by decide +kernel), List.mem_of_getElem? (i := 805) (by decide +kernel)⟩
theorem lw_p27 : lw_okq (⟨"ClearingFilesModel", "accountOf", "(II)I"⟩, 46) := ⟨⟨by decide +kernel, by decide +kernel⟩, List.mem_of_getElem? (i := 647) (by decide +kernel), List.mem_of_getElem? (i := 814) (by decide +kernel), List.mem_of_getElem? (i := 815) (by decide +kernel)⟩
theorem lw_p28 : lw_okq (⟨"ClearingFilesModel", "batch", "(J)I"⟩, 46) := ⟨⟨by decide +kernel, by decide +kernel⟩, List.mem_of_getElem? (i := 647) (by decide +kernel), List.mem_of_getElem? (i := 835) (by decide +kernel), List.mem_of_getElem? (i := 836) (by decide +kernel)⟩
theorem lw_p29 : lw_okq (⟨"ClearingFilesModel", "entry", "(JJ)I"⟩, 46) := ⟨⟨by decide +kernel, by decide +kernel⟩, List.mem_of_getElem? (i := 647) (by decide +kernel), List.mem_of_getElem? (i := 839) (by decide +kernel), List.mem_of_getElem? (i := 840) (by decide +kernel)⟩
theorem lw_p30 : lw_okq (⟨"ClearingFilesModel", "ended", "(JJ)I"⟩, 46) := ⟨⟨by decide +kernel, by decide +kernel⟩, List.mem_of_getElem? (i := 647) (by decide +kernel), List.mem_of_getElem? (i := 843) (by decide +kernel), List.mem_of_getElem? (i := 844) (by decide +kernel)⟩
theorem lw_p31 : lw_okq (⟨"ClearingFilesModel", "fileFault", "(JJ)I"⟩, 46) := ⟨⟨by decide +kernel, by decide +kernel⟩, List.mem_of_getElem? (i := 647) (by decide +kernel), List.mem_of_getElem? (i := 847) (by decide +kernel), List.mem_of_getElem? (i := 848) (by decide +kernel)⟩
def lw_privs_2 : List (MethodName × Nat) := [(⟨"ClearingFiles", "judgeEntries", "(LClearingFiles$Batch;)I"⟩, 7), (⟨"ClearingFiles", "countRefusal", "(I)V"⟩, 7), (⟨"ClearingFiles", "keepAsAccepted", "(I)V"⟩, 7), (⟨"ClearingFiles", "acceptBatches", "()I"⟩, 7), (⟨"ClearingFiles", "acceptEntries", "(LClearingFiles$Batch;)I"⟩, 7), (⟨"ClearingFiles", "handOutEntries", "(LClearingFiles$Bank;)V"⟩, 7), (⟨"java/util/ArrayList", "rangeCheckForAdd", "(I)V"⟩, 3), (⟨"java/util/ArrayList", "fastRemove", "([Ljava/lang/Object;I)V"⟩, 3), (⟨"ClearingFiles", "postOrSendBack", "(LClearingFiles$Entry;)Z"⟩, 7), (⟨"ClearingFiles", "sendBack", "(LClearingFiles$Entry;)V"⟩, 7), (⟨"ClearingFilesModel", "bankOf", "(I)I"⟩, 46), (⟨"ClearingFilesModel", "accountOf", "(II)I"⟩, 46), (⟨"ClearingFilesModel", "batch", "(J)I"⟩, 46), (⟨"ClearingFilesModel", "entry", "(JJ)I"⟩, 46), (⟨"ClearingFilesModel", "ended", "(JJ)I"⟩, 46), (⟨"ClearingFilesModel", "fileFault", "(JJ)I"⟩, 46)]
theorem lw_r2 : ∀ q ∈ lw_privs_2, lw_okq q := List.forall_mem_cons.mpr ⟨lw_p16, List.forall_mem_cons.mpr ⟨lw_p17, List.forall_mem_cons.mpr ⟨lw_p18, List.forall_mem_cons.mpr ⟨lw_p19, List.forall_mem_cons.mpr ⟨lw_p20, List.forall_mem_cons.mpr ⟨lw_p21, List.forall_mem_cons.mpr ⟨lw_p22, List.forall_mem_cons.mpr ⟨lw_p23, List.forall_mem_cons.mpr ⟨lw_p24, List.forall_mem_cons.mpr ⟨lw_p25, List.forall_mem_cons.mpr ⟨lw_p26, List.forall_mem_cons.mpr ⟨lw_p27, List.forall_mem_cons.mpr ⟨lw_p28, List.forall_mem_cons.mpr ⟨lw_p29, List.forall_mem_cons.mpr ⟨lw_p30, List.forall_mem_cons.mpr ⟨lw_p31, fun _ h => absurd h List.not_mem_nil⟩⟩⟩⟩⟩⟩⟩⟩⟩⟩⟩⟩⟩⟩⟩⟩
theorem lw_p32 : lw_okq (⟨"ClearingFilesModel", "total", "(II)J"⟩, 46) := ⟨⟨by decide +kernel, by decide +kernel⟩, List.mem_of_getElem? (i := 647) (by decide +kernel), List.mem_of_getElem? (i := 851) (by decide +kernel), List.mem_of_getElem? (i := 852) (by decide +kernel)⟩
theorem lw_p33 : lw_okq (⟨"ClearingFilesModel", "waitingInAll", "()I"⟩, 46) := ⟨⟨by decide +kernel, by decide +kernel⟩, List.mem_of_getElem? (i := 647) (by decide +kernel), List.mem_of_getElem? (i := 855) (by decide +kernel), List.mem_of_getElem? (i := 856) (by decide +kernel)⟩
theorem lw_p34 : lw_okq (⟨"ClearingFilesModel", "goodEntries", "()I"⟩, 46) := ⟨⟨by decide +kernel, by decide +kernel⟩, List.mem_of_getElem? (i := 647) (by decide +kernel), List.mem_of_getElem? (i := 859) (by decide +kernel), List.mem_of_getElem? (i := 860) (by decide +kernel)⟩
theorem lw_p35 : lw_okq (⟨"ClearingFilesModel", "batchFault", "(I)I"⟩, 46) := ⟨⟨by decide +kernel, by decide +kernel⟩, List.mem_of_getElem? (i := 647) (by decide +kernel), List.mem_of_getElem? (i := 863) (by decide +kernel), List.mem_of_getElem? (i := 864) (by decide +kernel)⟩
theorem lw_p36 : lw_okq (⟨"ClearingFilesModel", "entryFault", "(I)I"⟩, 46) := ⟨⟨by decide +kernel, by decide +kernel⟩, List.mem_of_getElem? (i := 647) (by decide +kernel), List.mem_of_getElem? (i := 867) (by decide +kernel), List.mem_of_getElem? (i := 868) (by decide +kernel)⟩
theorem lw_p37 : lw_okq (⟨"ClearingFilesModel", "accept", "(I)V"⟩, 46) := ⟨⟨by decide +kernel, by decide +kernel⟩, List.mem_of_getElem? (i := 647) (by decide +kernel), List.mem_of_getElem? (i := 871) (by decide +kernel), List.mem_of_getElem? (i := 872) (by decide +kernel)⟩
theorem lw_p38 : lw_okq (⟨"ClearingFilesModel", "allDone", "(I)Z"⟩, 46) := ⟨⟨by decide +kernel, by decide +kernel⟩, List.mem_of_getElem? (i := 647) (by decide +kernel), List.mem_of_getElem? (i := 879) (by decide +kernel), List.mem_of_getElem? (i := 880) (by decide +kernel)⟩
theorem lw_p39 : lw_okq (⟨"ClearingFilesModel", "first", "(IZ)I"⟩, 46) := ⟨⟨by decide +kernel, by decide +kernel⟩, List.mem_of_getElem? (i := 647) (by decide +kernel), List.mem_of_getElem? (i := 883) (by decide +kernel), List.mem_of_getElem? (i := 884) (by decide +kernel)⟩
theorem lw_p40 : lw_okq (⟨"ClearingFilesModel", "before", "(IIZ)Z"⟩, 46) := ⟨⟨by decide +kernel, by decide +kernel⟩, List.mem_of_getElem? (i := 647) (by decide +kernel), List.mem_of_getElem? (i := 887) (by decide +kernel), List.mem_of_getElem? (i := 888) (by decide +kernel)⟩
theorem lw_p41 : lw_okq (⟨"ClearingFilesModel", "take", "(IIZ)V"⟩, 46) := ⟨⟨by decide +kernel, by decide +kernel⟩, List.mem_of_getElem? (i := 647) (by decide +kernel), List.mem_of_getElem? (i := 891) (by decide +kernel), List.mem_of_getElem? (i := 892) (by decide +kernel)⟩
theorem lw_p42 : lw_okq (⟨"ClearingFilesModel", "does", "(I)I"⟩, 46) := ⟨⟨by decide +kernel, by decide +kernel⟩, List.mem_of_getElem? (i := 647) (by decide +kernel), List.mem_of_getElem? (i := 899) (by decide +kernel), List.mem_of_getElem? (i := 900) (by decide +kernel)⟩
theorem lw_p43 : lw_okq (⟨"ClearingFilesModel", "backFault", "(I)I"⟩, 46) := ⟨⟨by decide +kernel, by decide +kernel⟩, List.mem_of_getElem? (i := 647) (by decide +kernel), List.mem_of_getElem? (i := 903) (by decide +kernel), List.mem_of_getElem? (i := 904) (by decide +kernel)⟩
def lw_privs_3 : List (MethodName × Nat) := [(⟨"ClearingFilesModel", "total", "(II)J"⟩, 46), (⟨"ClearingFilesModel", "waitingInAll", "()I"⟩, 46), (⟨"ClearingFilesModel", "goodEntries", "()I"⟩, 46), (⟨"ClearingFilesModel", "batchFault", "(I)I"⟩, 46), (⟨"ClearingFilesModel", "entryFault", "(I)I"⟩, 46), (⟨"ClearingFilesModel", "accept", "(I)V"⟩, 46), (⟨"ClearingFilesModel", "allDone", "(I)Z"⟩, 46), (⟨"ClearingFilesModel", "first", "(IZ)I"⟩, 46), (⟨"ClearingFilesModel", "before", "(IIZ)Z"⟩, 46), (⟨"ClearingFilesModel", "take", "(IIZ)V"⟩, 46), (⟨"ClearingFilesModel", "does", "(I)I"⟩, 46), (⟨"ClearingFilesModel", "backFault", "(I)I"⟩, 46)]
theorem lw_r3 : ∀ q ∈ lw_privs_3, lw_okq q := List.forall_mem_cons.mpr ⟨lw_p32, List.forall_mem_cons.mpr ⟨lw_p33, List.forall_mem_cons.mpr ⟨lw_p34, List.forall_mem_cons.mpr ⟨lw_p35, List.forall_mem_cons.mpr ⟨lw_p36, List.forall_mem_cons.mpr ⟨lw_p37, List.forall_mem_cons.mpr ⟨lw_p38, List.forall_mem_cons.mpr ⟨lw_p39, List.forall_mem_cons.mpr ⟨lw_p40, List.forall_mem_cons.mpr ⟨lw_p41, List.forall_mem_cons.mpr ⟨lw_p42, List.forall_mem_cons.mpr ⟨lw_p43, fun _ h => absurd h List.not_mem_nil⟩⟩⟩⟩⟩⟩⟩⟩⟩⟩⟩⟩
def lw_privs : List (MethodName × Nat) := lw_privs_1 ++ (lw_privs_2 ++ (lw_privs_3))
def lw_tbl : List Cond := k2_sels lw_privs ++ tables_1
theorem lw_privs_ok : ∀ q ∈ lw_privs, lw_okq q := by
  show ∀ q ∈ lw_privs_1 ++ (lw_privs_2 ++ (lw_privs_3)), lw_okq q
  exact List.forall_mem_append.mpr ⟨lw_r1, List.forall_mem_append.mpr ⟨lw_r2, lw_r3⟩⟩
-- ===== end of PART A; then your names; then what follows =====
end
section
/-! ===== BEGIN words of one list among another's, by their places ===== -/
theorem goodIn_r {big : List Cond} (ws : List Cond) (ps : List Nat) (hp : ws = ps.filterMap (fun i => big[i]?)) (h : ws.all goodWord = true) : GoodIn big ws := by
  intro w hw
  have h1 := List.all_eq_true.mp h w hw
  rw [hp] at hw
  obtain ⟨i, -, hi⟩ := List.mem_filterMap.mp hw
  have hm : w ∈ big := by first | exact List.mem_of_getElem? hi | exact List.getElem?_mem hi
  exact ⟨hm, good_of_word h1⟩
theorem goodIn_app {big a b : List Cond} (ha : GoodIn big a) (hb : GoodIn big b) : GoodIn big (a ++ b) := fun w h => (List.mem_append.mp h).elim (ha w) (hb w)
theorem goodIn_ca {big a b : List Cond} {c : Cond} (ha : GoodIn big (c :: a)) (hb : GoodIn big b) : GoodIn big (c :: (a ++ b)) := fun w h => (List.mem_cons.mp h).elim (fun e => ha w (List.mem_cons.mpr (Or.inl e))) (fun h => (List.mem_append.mp h).elim (fun h => ha w (List.mem_cons.mpr (Or.inr h))) (hb w))
theorem goodIn_sub {big ws : List Cond} (hm : ∀ w ∈ ws, w ∈ big) (h : ws.all goodWord = true) : GoodIn big ws := fun w hw => ⟨hm w hw, good_of_word (List.all_eq_true.mp h w hw)⟩
/-! ===== END ===== -/

/-! ===== BEGIN printed: names, fields, word lists, decode rows ===== -/
def RX0 : String := "ClearingFiles$Account"
def TX0 : u_T := fun k => match k with
  | 0 => ("ClearingFiles$Account", "bank", "LClearingFiles$Bank;", true)
  | 1 => ("ClearingFiles$Account", "number", "I", true)
  | 2 => ("ClearingFiles$Account", "balance", "J", false)
  | _ => ("ClearingFiles$Account", "isShut", "Z", false)
def tyX0 : Nat → FieldType := fun k => match k with
  | 0 => .object "ClearingFiles$Bank"
  | 1 => .int
  | 2 => .long
  | _ => .boolean
abbrev wsX00 : List Cond := u_ws RX0 TX0 4
theorem nmX0 : ∀ a, a < 4 → ∀ b, b < 4 → a ≠ b → (TX0 a).2.1 ≠ (TX0 b).2.1 := by decide +kernel
theorem tyX0_ok : ∀ k, k < 4 → parseFieldDescriptor (TX0 k).2.2.1 = some (tyX0 k) := by decide +kernel
abbrev cX0_init : ByteArray := prog_2_method_1_code
def yX0_init : MethodName := ⟨RX0, "<init>", "(LClearingFiles$Bank;II)V"⟩
def RX1 : String := "ClearingFiles$Bank"
def TX1 : u_T := fun k => match k with
  | 0 => ("ClearingFiles$Bank", "number", "I", true)
  | 1 => ("ClearingFiles$Bank", "routing", "I", true)
  | 2 => ("ClearingFiles$Bank", "entries", "Ljava/util/ArrayList;", true)
  | 3 => ("ClearingFiles$Bank", "returns", "Ljava/util/ArrayList;", true)
  | 4 => ("ClearingFiles$Bank", "output", "LClearingFiles$Output;", true)
  | _ => ("ClearingFiles$Bank", "ledger", "J", false)
def tyX1 : Nat → FieldType := fun k => match k with
  | 0 => .int
  | 1 => .int
  | 2 => .object "java/util/ArrayList"
  | 3 => .object "java/util/ArrayList"
  | 4 => .object "ClearingFiles$Output"
  | _ => .long
abbrev wsX10 : List Cond := u_ws RX1 TX1 6
theorem nmX1 : ∀ a, a < 6 → ∀ b, b < 6 → a ≠ b → (TX1 a).2.1 ≠ (TX1 b).2.1 := by decide +kernel
theorem tyX1_ok : ∀ k, k < 6 → parseFieldDescriptor (TX1 k).2.2.1 = some (tyX1 k) := by decide +kernel
abbrev cX1_init : ByteArray := prog_3_method_1_code
def yX1_init : MethodName := ⟨RX1, "<init>", "(II)V"⟩
def RX2 : String := "ClearingFiles$Batch"
def TX2 : u_T := fun k => match k with
  | 0 => ("ClearingFiles$Batch", "entries", "Ljava/util/ArrayList;", true)
  | 1 => ("ClearingFiles$Batch", "totals", "LClearingFiles$Totals;", true)
  | 2 => ("ClearingFiles$Batch", "originator", "I", false)
  | 3 => ("ClearingFiles$Batch", "number", "I", false)
  | 4 => ("ClearingFiles$Batch", "day", "I", false)
  | 5 => ("ClearingFiles$Batch", "lastTrace", "I", false)
  | 6 => ("ClearingFiles$Batch", "tracesGrow", "Z", false)
  | 7 => ("ClearingFiles$Batch", "controlHolds", "Z", false)
  | _ => ("ClearingFiles$Batch", "reason", "I", false)
def tyX2 : Nat → FieldType := fun k => match k with
  | 0 => .object "java/util/ArrayList"
  | 1 => .object "ClearingFiles$Totals"
  | 2 => .int
  | 3 => .int
  | 4 => .int
  | 5 => .int
  | 6 => .boolean
  | 7 => .boolean
  | _ => .int
abbrev wsX20 : List Cond := u_ws RX2 TX2 9
theorem nmX2 : ∀ a, a < 9 → ∀ b, b < 9 → a ≠ b → (TX2 a).2.1 ≠ (TX2 b).2.1 := by decide +kernel
theorem tyX2_ok : ∀ k, k < 9 → parseFieldDescriptor (TX2 k).2.2.1 = some (tyX2 k) := by decide +kernel
abbrev cX2_init : ByteArray := prog_4_method_1_code
def yX2_init : MethodName := ⟨RX2, "<init>", "()V"⟩
abbrev cX2_begin : ByteArray := prog_4_method_2_code
def yX2_begin : MethodName := ⟨RX2, "begin", "(III)V"⟩
abbrev cX2_add : ByteArray := prog_4_method_3_code
def yX2_add : MethodName := ⟨RX2, "add", "(LClearingFiles$Entry;)V"⟩
def RX3 : String := "ClearingFiles$Entry"
def TX3 : u_T := fun k => match k with
  | 0 => ("ClearingFiles$Entry", "code", "I", false)
  | 1 => ("ClearingFiles$Entry", "routing", "I", false)
  | 2 => ("ClearingFiles$Entry", "account", "I", false)
  | 3 => ("ClearingFiles$Entry", "amount", "I", false)
  | 4 => ("ClearingFiles$Entry", "trace", "I", false)
  | 5 => ("ClearingFiles$Entry", "day", "I", false)
  | 6 => ("ClearingFiles$Entry", "originator", "LClearingFiles$Bank;", false)
  | 7 => ("ClearingFiles$Entry", "receiver", "LClearingFiles$Bank;", false)
  | _ => ("ClearingFiles$Entry", "reason", "I", false)
def tyX3 : Nat → FieldType := fun k => match k with
  | 0 => .int
  | 1 => .int
  | 2 => .int
  | 3 => .int
  | 4 => .int
  | 5 => .int
  | 6 => .object "ClearingFiles$Bank"
  | 7 => .object "ClearingFiles$Bank"
  | _ => .int
abbrev wsX30 : List Cond := u_ws RX3 TX3 9
theorem nmX3 : ∀ a, a < 9 → ∀ b, b < 9 → a ≠ b → (TX3 a).2.1 ≠ (TX3 b).2.1 := by decide +kernel
theorem tyX3_ok : ∀ k, k < 9 → parseFieldDescriptor (TX3 k).2.2.1 = some (tyX3 k) := by decide +kernel
abbrev cX3_init : ByteArray := prog_5_method_1_code
def yX3_init : MethodName := ⟨RX3, "<init>", "()V"⟩
abbrev cX3_goesBefore : ByteArray := prog_5_method_2_code
def yX3_goesBefore : MethodName := ⟨RX3, "goesBefore", "(LClearingFiles$Entry;)Z"⟩
def RX4 : String := "ClearingFiles$Incoming"
def TX4 : u_T := fun k => match k with
  | 0 => ("ClearingFiles$Incoming", "batches", "[LClearingFiles$Batch;", true)
  | 1 => ("ClearingFiles$Incoming", "totals", "LClearingFiles$Totals;", true)
  | 2 => ("ClearingFiles$Incoming", "current", "LClearingFiles$Batch;", false)
  | 3 => ("ClearingFiles$Incoming", "batchCount", "I", false)
  | 4 => ("ClearingFiles$Incoming", "sender", "I", false)
  | 5 => ("ClearingFiles$Incoming", "number", "I", false)
  | 6 => ("ClearingFiles$Incoming", "underWay", "Z", false)
  | _ => ("ClearingFiles$Incoming", "inBatch", "Z", false)
def tyX4 : Nat → FieldType := fun k => match k with
  | 0 => .array (.object "ClearingFiles$Batch")
  | 1 => .object "ClearingFiles$Totals"
  | 2 => .object "ClearingFiles$Batch"
  | 3 => .int
  | 4 => .int
  | 5 => .int
  | 6 => .boolean
  | _ => .boolean
abbrev wsX40 : List Cond := u_ws RX4 TX4 8
theorem nmX4 : ∀ a, a < 8 → ∀ b, b < 8 → a ≠ b → (TX4 a).2.1 ≠ (TX4 b).2.1 := by decide +kernel
theorem tyX4_ok : ∀ k, k < 8 → parseFieldDescriptor (TX4 k).2.2.1 = some (tyX4 k) := by decide +kernel
abbrev cX4_init : ByteArray := prog_6_method_1_code
def yX4_init : MethodName := ⟨RX4, "<init>", "()V"⟩
abbrev cX4_allows : ByteArray := prog_6_method_2_code
def yX4_allows : MethodName := ⟨RX4, "allows", "(I)Z"⟩
abbrev cX4_begin : ByteArray := prog_6_method_3_code
def yX4_begin : MethodName := ⟨RX4, "begin", "(II)V"⟩
abbrev cX4_end : ByteArray := prog_6_method_4_code
def yX4_end : MethodName := ⟨RX4, "end", "()V"⟩
def RX5 : String := "ClearingFiles$Output"
def TX5 : u_T := fun k => match k with
  | 0 => ("ClearingFiles$Output", "entries", "Ljava/util/ArrayList;", true)
  | 1 => ("ClearingFiles$Output", "totals", "LClearingFiles$Totals;", true)
  | 2 => ("ClearingFiles$Output", "returns", "I", false)
  | _ => ("ClearingFiles$Output", "done", "I", false)
def tyX5 : Nat → FieldType := fun k => match k with
  | 0 => .object "java/util/ArrayList"
  | 1 => .object "ClearingFiles$Totals"
  | 2 => .int
  | _ => .int
abbrev wsX50 : List Cond := u_ws RX5 TX5 4
theorem nmX5 : ∀ a, a < 4 → ∀ b, b < 4 → a ≠ b → (TX5 a).2.1 ≠ (TX5 b).2.1 := by decide +kernel
theorem tyX5_ok : ∀ k, k < 4 → parseFieldDescriptor (TX5 k).2.2.1 = some (tyX5 k) := by decide +kernel
abbrev cX5_init : ByteArray := prog_7_method_1_code
def yX5_init : MethodName := ⟨RX5, "<init>", "()V"⟩
abbrev cX5_clear : ByteArray := prog_7_method_2_code
def yX5_clear : MethodName := ⟨RX5, "clear", "()V"⟩
abbrev cX5_size : ByteArray := prog_7_method_3_code
def yX5_size : MethodName := ⟨RX5, "size", "()I"⟩
abbrev cX5_isDone : ByteArray := prog_7_method_4_code
def yX5_isDone : MethodName := ⟨RX5, "isDone", "()Z"⟩
abbrev cX5_isReturn : ByteArray := prog_7_method_5_code
def yX5_isReturn : MethodName := ⟨RX5, "isReturn", "(I)Z"⟩
abbrev cX5_stateOf : ByteArray := prog_7_method_6_code
def yX5_stateOf : MethodName := ⟨RX5, "stateOf", "(I)I"⟩
abbrev cX5_addReturn : ByteArray := prog_7_method_7_code
def yX5_addReturn : MethodName := ⟨RX5, "addReturn", "(LClearingFiles$Entry;)V"⟩
abbrev cX5_addEntry : ByteArray := prog_7_method_8_code
def yX5_addEntry : MethodName := ⟨RX5, "addEntry", "(LClearingFiles$Entry;)V"⟩
def RX6 : String := "ClearingFiles$Totals"
def TX6 : u_T := fun k => match k with
  | 0 => ("ClearingFiles$Totals", "count", "J", false)
  | 1 => ("ClearingFiles$Totals", "hash", "J", false)
  | 2 => ("ClearingFiles$Totals", "debits", "J", false)
  | _ => ("ClearingFiles$Totals", "credits", "J", false)
def tyX6 : Nat → FieldType := fun k => match k with
  | 0 => .long
  | 1 => .long
  | 2 => .long
  | _ => .long
abbrev wsX60 : List Cond := u_ws RX6 TX6 4
theorem nmX6 : ∀ a, a < 4 → ∀ b, b < 4 → a ≠ b → (TX6 a).2.1 ≠ (TX6 b).2.1 := by decide +kernel
theorem tyX6_ok : ∀ k, k < 4 → parseFieldDescriptor (TX6 k).2.2.1 = some (tyX6 k) := by decide +kernel
abbrev cX6_init : ByteArray := prog_8_method_1_code
def yX6_init : MethodName := ⟨RX6, "<init>", "()V"⟩
abbrev cX6_clear : ByteArray := prog_8_method_2_code
def yX6_clear : MethodName := ⟨RX6, "clear", "()V"⟩
abbrev cX6_add : ByteArray := prog_8_method_3_code
def yX6_add : MethodName := ⟨RX6, "add", "(LClearingFiles$Entry;)V"⟩
abbrev cX6_are : ByteArray := prog_8_method_4_code
def yX6_are : MethodName := ⟨RX6, "are", "(IIII)Z"⟩
def RX7 : String := "ClearingFiles"
def TX7 : u_T := fun k => match k with
  | 0 => ("ClearingFiles", "banks", "Ljava/util/ArrayList;", true)
  | 1 => ("ClearingFiles", "accounts", "Ljava/util/ArrayList;", true)
  | 2 => ("ClearingFiles", "file", "LClearingFiles$Incoming;", true)
  | 3 => ("ClearingFiles", "acceptedFiles", "[I", true)
  | 4 => ("ClearingFiles", "acceptedCount", "I", false)
  | 5 => ("ClearingFiles", "refusals", "[I", true)
  | _ => ("ClearingFiles", "today", "I", false)
def tyX7 : Nat → FieldType := fun k => match k with
  | 0 => .object "java/util/ArrayList"
  | 1 => .object "java/util/ArrayList"
  | 2 => .object "ClearingFiles$Incoming"
  | 3 => .array .int
  | 4 => .int
  | 5 => .array .int
  | _ => .int
abbrev wsX70 : List Cond := u_ws RX7 TX7 7
theorem nmX7 : ∀ a, a < 7 → ∀ b, b < 7 → a ≠ b → (TX7 a).2.1 ≠ (TX7 b).2.1 := by decide +kernel
theorem tyX7_ok : ∀ k, k < 7 → parseFieldDescriptor (TX7 k).2.2.1 = some (tyX7 k) := by decide +kernel
abbrev cX7_init : ByteArray := prog_1_method_1_code
def yX7_init : MethodName := ⟨RX7, "<init>", "()V"⟩
abbrev cX7_join : ByteArray := prog_1_method_2_code
def yX7_join : MethodName := ⟨RX7, "join", "(I)I"⟩
abbrev cX7_open : ByteArray := prog_1_method_3_code
def yX7_open : MethodName := ⟨RX7, "open", "(III)Z"⟩
abbrev cX7_shut : ByteArray := prog_1_method_4_code
def yX7_shut : MethodName := ⟨RX7, "shut", "(II)Z"⟩
abbrev cX7_day : ByteArray := prog_1_method_5_code
def yX7_day : MethodName := ⟨RX7, "day", "()I"⟩
abbrev cX7_put : ByteArray := prog_1_method_6_code
def yX7_put : MethodName := ⟨RX7, "put", "(JJ)I"⟩
abbrev cX7_window : ByteArray := prog_1_method_7_code
def yX7_window : MethodName := ⟨RX7, "window", "(I)I"⟩
abbrev cX7_post : ByteArray := prog_1_method_8_code
def yX7_post : MethodName := ⟨RX7, "post", "(II)I"⟩
abbrev cX7_items : ByteArray := prog_1_method_9_code
def yX7_items : MethodName := ⟨RX7, "items", "(I)I"⟩
abbrev cX7_item : ByteArray := prog_1_method_10_code
def yX7_item : MethodName := ⟨RX7, "item", "(III)I"⟩
abbrev cX7_control : ByteArray := prog_1_method_11_code
def yX7_control : MethodName := ⟨RX7, "control", "(II)J"⟩
abbrev cX7_balance : ByteArray := prog_1_method_12_code
def yX7_balance : MethodName := ⟨RX7, "balance", "(II)J"⟩
abbrev cX7_ledger : ByteArray := prog_1_method_13_code
def yX7_ledger : MethodName := ⟨RX7, "ledger", "(I)J"⟩
abbrev cX7_rejected : ByteArray := prog_1_method_14_code
def yX7_rejected : MethodName := ⟨RX7, "rejected", "(I)I"⟩
abbrev cX7_waiting : ByteArray := prog_1_method_15_code
def yX7_waiting : MethodName := ⟨RX7, "waiting", "(II)I"⟩
abbrev cX7_isHalf : ByteArray := prog_1_method_16_code
def yX7_isHalf : MethodName := ⟨RX7, "isHalf", "(J)Z"⟩
abbrev cX7_digits : ByteArray := prog_1_method_17_code
def yX7_digits : MethodName := ⟨RX7, "digits", "(JJII)I"⟩
abbrev cX7_isRight : ByteArray := prog_1_method_18_code
def yX7_isRight : MethodName := ⟨RX7, "isRight", "(II)Z"⟩
abbrev cX7_bankAt : ByteArray := prog_1_method_19_code
def yX7_bankAt : MethodName := ⟨RX7, "bankAt", "(I)LClearingFiles$Bank;"⟩
abbrev cX7_bankWithRouting : ByteArray := prog_1_method_20_code
def yX7_bankWithRouting : MethodName := ⟨RX7, "bankWithRouting", "(I)LClearingFiles$Bank;"⟩
abbrev cX7_accountOf : ByteArray := prog_1_method_21_code
def yX7_accountOf : MethodName := ⟨RX7, "accountOf", "(LClearingFiles$Bank;I)LClearingFiles$Account;"⟩
abbrev cX7_beginBatch : ByteArray := prog_1_method_22_code
def yX7_beginBatch : MethodName := ⟨RX7, "beginBatch", "(JJ)I"⟩
abbrev cX7_addEntry : ByteArray := prog_1_method_23_code
def yX7_addEntry : MethodName := ⟨RX7, "addEntry", "(JJ)I"⟩
abbrev cX7_endBatch : ByteArray := prog_1_method_24_code
def yX7_endBatch : MethodName := ⟨RX7, "endBatch", "(JJ)V"⟩
abbrev cX7_endFile : ByteArray := prog_1_method_25_code
def yX7_endFile : MethodName := ⟨RX7, "endFile", "(JJ)I"⟩
abbrev cX7_reasonAgainstFile : ByteArray := prog_1_method_26_code
def yX7_reasonAgainstFile : MethodName := ⟨RX7, "reasonAgainstFile", "(JJ)I"⟩
abbrev cX7_fileKey : ByteArray := prog_1_method_27_code
def yX7_fileKey : MethodName := ⟨RX7, "fileKey", "()I"⟩
abbrev cX7_wasAccepted : ByteArray := prog_1_method_28_code
def yX7_wasAccepted : MethodName := ⟨RX7, "wasAccepted", "(I)Z"⟩
abbrev cX7_keepAsAccepted : ByteArray := prog_1_method_29_code
def yX7_keepAsAccepted : MethodName := ⟨RX7, "keepAsAccepted", "(I)V"⟩
abbrev cX7_waitingInAll : ByteArray := prog_1_method_30_code
def yX7_waitingInAll : MethodName := ⟨RX7, "waitingInAll", "()I"⟩
abbrev cX7_judgeBatches : ByteArray := prog_1_method_31_code
def yX7_judgeBatches : MethodName := ⟨RX7, "judgeBatches", "()I"⟩
abbrev cX7_reasonAgainstBatch : ByteArray := prog_1_method_32_code
def yX7_reasonAgainstBatch : MethodName := ⟨RX7, "reasonAgainstBatch", "(LClearingFiles$Batch;I)I"⟩
abbrev cX7_judgeEntries : ByteArray := prog_1_method_33_code
def yX7_judgeEntries : MethodName := ⟨RX7, "judgeEntries", "(LClearingFiles$Batch;)I"⟩
abbrev cX7_reasonAgainstEntry : ByteArray := prog_1_method_34_code
def yX7_reasonAgainstEntry : MethodName := ⟨RX7, "reasonAgainstEntry", "(LClearingFiles$Entry;)I"⟩
abbrev cX7_acceptBatches : ByteArray := prog_1_method_35_code
def yX7_acceptBatches : MethodName := ⟨RX7, "acceptBatches", "()I"⟩
abbrev cX7_acceptEntries : ByteArray := prog_1_method_36_code
def yX7_acceptEntries : MethodName := ⟨RX7, "acceptEntries", "(LClearingFiles$Batch;)I"⟩
abbrev cX7_countRefusal : ByteArray := prog_1_method_37_code
def yX7_countRefusal : MethodName := ⟨RX7, "countRefusal", "(I)V"⟩
abbrev cX7_handOutReturns : ByteArray := prog_1_method_38_code
def yX7_handOutReturns : MethodName := ⟨RX7, "handOutReturns", "(LClearingFiles$Bank;)V"⟩
abbrev cX7_handOutEntries : ByteArray := prog_1_method_39_code
def yX7_handOutEntries : MethodName := ⟨RX7, "handOutEntries", "(LClearingFiles$Bank;)V"⟩
abbrev cX7_settle : ByteArray := prog_1_method_40_code
def yX7_settle : MethodName := ⟨RX7, "settle", "(LClearingFiles$Entry;Z)V"⟩
abbrev cX7_postOrSendBack : ByteArray := prog_1_method_41_code
def yX7_postOrSendBack : MethodName := ⟨RX7, "postOrSendBack", "(LClearingFiles$Entry;)Z"⟩
abbrev cX7_reasonToSendBack : ByteArray := prog_1_method_42_code
def yX7_reasonToSendBack : MethodName := ⟨RX7, "reasonToSendBack", "(LClearingFiles$Entry;LClearingFiles$Account;)I"⟩
abbrev cX7_sendBack : ByteArray := prog_1_method_43_code
def yX7_sendBack : MethodName := ⟨RX7, "sendBack", "(LClearingFiles$Entry;)V"⟩
def RX8 : String := "ClearingFilesModel"
def TX8 : u_T := fun k => match k with
  | 0 => ("ClearingFilesModel", "banks", "I", false)
  | 1 => ("ClearingFilesModel", "routings", "[I", true)
  | 2 => ("ClearingFilesModel", "ledgers", "[J", true)
  | 3 => ("ClearingFilesModel", "today", "I", false)
  | 4 => ("ClearingFilesModel", "accounts", "I", false)
  | 5 => ("ClearingFilesModel", "owner", "[I", true)
  | 6 => ("ClearingFilesModel", "number", "[I", true)
  | 7 => ("ClearingFilesModel", "balances", "[J", true)
  | 8 => ("ClearingFilesModel", "closed", "[Z", true)
  | 9 => ("ClearingFilesModel", "stage", "I", false)
  | 10 => ("ClearingFilesModel", "sender", "I", false)
  | 11 => ("ClearingFilesModel", "fileNumber", "I", false)
  | 12 => ("ClearingFilesModel", "batches", "I", false)
  | 13 => ("ClearingFilesModel", "entries", "I", false)
  | 14 => ("ClearingFilesModel", "from", "[I", true)
  | 15 => ("ClearingFilesModel", "batchNumber", "[I", true)
  | 16 => ("ClearingFilesModel", "batchDay", "[I", true)
  | 17 => ("ClearingFilesModel", "saysCount", "[I", true)
  | 18 => ("ClearingFilesModel", "saysHash", "[I", true)
  | 19 => ("ClearingFilesModel", "saysDebits", "[I", true)
  | 20 => ("ClearingFilesModel", "saysCredits", "[I", true)
  | 21 => ("ClearingFilesModel", "inBatch", "[I", true)
  | 22 => ("ClearingFilesModel", "inCode", "[I", true)
  | 23 => ("ClearingFilesModel", "inRouting", "[I", true)
  | 24 => ("ClearingFilesModel", "inAccount", "[I", true)
  | 25 => ("ClearingFilesModel", "inAmount", "[I", true)
  | 26 => ("ClearingFilesModel", "inTrace", "[I", true)
  | 27 => ("ClearingFilesModel", "files", "[I", true)
  | 28 => ("ClearingFilesModel", "fileCount", "I", false)
  | 29 => ("ClearingFilesModel", "rows", "I", false)
  | 30 => ("ClearingFilesModel", "code", "[I", true)
  | 31 => ("ClearingFilesModel", "giver", "[I", true)
  | 32 => ("ClearingFilesModel", "taker", "[I", true)
  | 33 => ("ClearingFilesModel", "account", "[I", true)
  | 34 => ("ClearingFilesModel", "amount", "[I", true)
  | 35 => ("ClearingFilesModel", "trace", "[I", true)
  | 36 => ("ClearingFilesModel", "due", "[I", true)
  | 37 => ("ClearingFilesModel", "state", "[I", true)
  | 38 => ("ClearingFilesModel", "reason", "[I", true)
  | 39 => ("ClearingFilesModel", "back", "[I", true)
  | 40 => ("ClearingFilesModel", "backs", "I", false)
  | 41 => ("ClearingFilesModel", "outCount", "[I", true)
  | 42 => ("ClearingFilesModel", "outRow", "[I", true)
  | 43 => ("ClearingFilesModel", "outReturn", "[Z", true)
  | 44 => ("ClearingFilesModel", "outDone", "[I", true)
  | _ => ("ClearingFilesModel", "tally", "[I", true)
def tyX8 : Nat → FieldType := fun k => match k with
  | 0 => .int
  | 1 => .array .int
  | 2 => .array .long
  | 3 => .int
  | 4 => .int
  | 5 => .array .int
  | 6 => .array .int
  | 7 => .array .long
  | 8 => .array .boolean
  | 9 => .int
  | 10 => .int
  | 11 => .int
  | 12 => .int
  | 13 => .int
  | 14 => .array .int
  | 15 => .array .int
  | 16 => .array .int
  | 17 => .array .int
  | 18 => .array .int
  | 19 => .array .int
  | 20 => .array .int
  | 21 => .array .int
  | 22 => .array .int
  | 23 => .array .int
  | 24 => .array .int
  | 25 => .array .int
  | 26 => .array .int
  | 27 => .array .int
  | 28 => .int
  | 29 => .int
  | 30 => .array .int
  | 31 => .array .int
  | 32 => .array .int
  | 33 => .array .int
  | 34 => .array .int
  | 35 => .array .int
  | 36 => .array .int
  | 37 => .array .int
  | 38 => .array .int
  | 39 => .array .int
  | 40 => .int
  | 41 => .array .int
  | 42 => .array .int
  | 43 => .array .boolean
  | 44 => .array .int
  | _ => .array .int
abbrev wsX80 : List Cond := u_ws RX8 TX8 46
theorem nmX8 : ∀ a, a < 46 → ∀ b, b < 46 → a ≠ b → (TX8 a).2.1 ≠ (TX8 b).2.1 := by decide +kernel
theorem tyX8_ok : ∀ k, k < 46 → parseFieldDescriptor (TX8 k).2.2.1 = some (tyX8 k) := by decide +kernel
abbrev cX8_init : ByteArray := prog_10_method_1_code
def yX8_init : MethodName := ⟨RX8, "<init>", "()V"⟩
abbrev cX8_within : ByteArray := prog_10_method_2_code
def yX8_within : MethodName := ⟨RX8, "within", "(II)Z"⟩
abbrev cX8_right : ByteArray := prog_10_method_3_code
def yX8_right : MethodName := ⟨RX8, "right", "(II)Z"⟩
abbrev cX8_digits : ByteArray := prog_10_method_4_code
def yX8_digits : MethodName := ⟨RX8, "digits", "(JII)I"⟩
abbrev cX8_bankOf : ByteArray := prog_10_method_5_code
def yX8_bankOf : MethodName := ⟨RX8, "bankOf", "(I)I"⟩
abbrev cX8_join : ByteArray := prog_10_method_6_code
def yX8_join : MethodName := ⟨RX8, "join", "(I)I"⟩
abbrev cX8_accountOf : ByteArray := prog_10_method_7_code
def yX8_accountOf : MethodName := ⟨RX8, "accountOf", "(II)I"⟩
abbrev cX8_open : ByteArray := prog_10_method_8_code
def yX8_open : MethodName := ⟨RX8, "open", "(III)Z"⟩
abbrev cX8_shut : ByteArray := prog_10_method_9_code
def yX8_shut : MethodName := ⟨RX8, "shut", "(II)Z"⟩
abbrev cX8_day : ByteArray := prog_10_method_10_code
def yX8_day : MethodName := ⟨RX8, "day", "()I"⟩
abbrev cX8_put : ByteArray := prog_10_method_11_code
def yX8_put : MethodName := ⟨RX8, "put", "(JJ)I"⟩
abbrev cX8_batch : ByteArray := prog_10_method_12_code
def yX8_batch : MethodName := ⟨RX8, "batch", "(J)I"⟩
abbrev cX8_entry : ByteArray := prog_10_method_13_code
def yX8_entry : MethodName := ⟨RX8, "entry", "(JJ)I"⟩
abbrev cX8_total : ByteArray := prog_10_method_14_code
def yX8_total : MethodName := ⟨RX8, "total", "(II)J"⟩
abbrev cX8_batchFault : ByteArray := prog_10_method_15_code
def yX8_batchFault : MethodName := ⟨RX8, "batchFault", "(I)I"⟩
abbrev cX8_entryFault : ByteArray := prog_10_method_16_code
def yX8_entryFault : MethodName := ⟨RX8, "entryFault", "(I)I"⟩
abbrev cX8_waitingInAll : ByteArray := prog_10_method_17_code
def yX8_waitingInAll : MethodName := ⟨RX8, "waitingInAll", "()I"⟩
abbrev cX8_goodEntries : ByteArray := prog_10_method_18_code
def yX8_goodEntries : MethodName := ⟨RX8, "goodEntries", "()I"⟩
abbrev cX8_fileFault : ByteArray := prog_10_method_19_code
def yX8_fileFault : MethodName := ⟨RX8, "fileFault", "(JJ)I"⟩
abbrev cX8_ended : ByteArray := prog_10_method_20_code
def yX8_ended : MethodName := ⟨RX8, "ended", "(JJ)I"⟩
abbrev cX8_accept : ByteArray := prog_10_method_21_code
def yX8_accept : MethodName := ⟨RX8, "accept", "(I)V"⟩
abbrev cX8_allDone : ByteArray := prog_10_method_22_code
def yX8_allDone : MethodName := ⟨RX8, "allDone", "(I)Z"⟩
abbrev cX8_take : ByteArray := prog_10_method_23_code
def yX8_take : MethodName := ⟨RX8, "take", "(IIZ)V"⟩
abbrev cX8_first : ByteArray := prog_10_method_24_code
def yX8_first : MethodName := ⟨RX8, "first", "(IZ)I"⟩
abbrev cX8_before : ByteArray := prog_10_method_25_code
def yX8_before : MethodName := ⟨RX8, "before", "(IIZ)Z"⟩
abbrev cX8_window : ByteArray := prog_10_method_26_code
def yX8_window : MethodName := ⟨RX8, "window", "(I)I"⟩
abbrev cX8_backFault : ByteArray := prog_10_method_27_code
def yX8_backFault : MethodName := ⟨RX8, "backFault", "(I)I"⟩
abbrev cX8_does : ByteArray := prog_10_method_28_code
def yX8_does : MethodName := ⟨RX8, "does", "(I)I"⟩
abbrev cX8_post : ByteArray := prog_10_method_29_code
def yX8_post : MethodName := ⟨RX8, "post", "(II)I"⟩
abbrev cX8_items : ByteArray := prog_10_method_30_code
def yX8_items : MethodName := ⟨RX8, "items", "(I)I"⟩
abbrev cX8_item : ByteArray := prog_10_method_31_code
def yX8_item : MethodName := ⟨RX8, "item", "(III)I"⟩
abbrev cX8_control : ByteArray := prog_10_method_32_code
def yX8_control : MethodName := ⟨RX8, "control", "(II)J"⟩
abbrev cX8_balance : ByteArray := prog_10_method_33_code
def yX8_balance : MethodName := ⟨RX8, "balance", "(II)J"⟩
abbrev cX8_ledger : ByteArray := prog_10_method_34_code
def yX8_ledger : MethodName := ⟨RX8, "ledger", "(I)J"⟩
abbrev cX8_rejected : ByteArray := prog_10_method_35_code
def yX8_rejected : MethodName := ⟨RX8, "rejected", "(I)I"⟩
abbrev cX8_waiting : ByteArray := prog_10_method_36_code
def yX8_waiting : MethodName := ⟨RX8, "waiting", "(II)I"⟩
def RJx145de : String := "java/io/Serializable"
def TJx145de : u_T := fun k => match k with
  | _ => ("", "", "", false)
def tyJx145de : Nat → FieldType := fun k => match k with
  | _ => .int
abbrev wsJx145de0 : List Cond := u_ws RJx145de TJx145de 0
theorem nmJx145de : ∀ a, a < 0 → ∀ b, b < 0 → a ≠ b → (TJx145de a).2.1 ≠ (TJx145de b).2.1 := by decide +kernel
theorem tyJx145de_ok : ∀ k, k < 0 → parseFieldDescriptor (TJx145de k).2.2.1 = some (tyJx145de k) := by decide +kernel
def RJx8e188 : String := "java/lang/Cloneable"
def TJx8e188 : u_T := fun k => match k with
  | _ => ("", "", "", false)
def tyJx8e188 : Nat → FieldType := fun k => match k with
  | _ => .int
abbrev wsJx8e1880 : List Cond := u_ws RJx8e188 TJx8e188 0
theorem nmJx8e188 : ∀ a, a < 0 → ∀ b, b < 0 → a ≠ b → (TJx8e188 a).2.1 ≠ (TJx8e188 b).2.1 := by decide +kernel
theorem tyJx8e188_ok : ∀ k, k < 0 → parseFieldDescriptor (TJx8e188 k).2.2.1 = some (tyJx8e188 k) := by decide +kernel
def RJxab1ab : String := "java/lang/Iterable"
def TJxab1ab : u_T := fun k => match k with
  | _ => ("", "", "", false)
def tyJxab1ab : Nat → FieldType := fun k => match k with
  | _ => .int
abbrev wsJxab1ab0 : List Cond := u_ws RJxab1ab TJxab1ab 0
theorem nmJxab1ab : ∀ a, a < 0 → ∀ b, b < 0 → a ≠ b → (TJxab1ab a).2.1 ≠ (TJxab1ab b).2.1 := by decide +kernel
theorem tyJxab1ab_ok : ∀ k, k < 0 → parseFieldDescriptor (TJxab1ab k).2.2.1 = some (tyJxab1ab k) := by decide +kernel
def RJ9 : String := "java/lang/Math"
def TJ9 : u_T := fun k => match k with
  | _ => ("", "", "", false)
def tyJ9 : Nat → FieldType := fun k => match k with
  | _ => .int
abbrev wsJ90 : List Cond := u_ws RJ9 TJ9 0
theorem nmJ9 : ∀ a, a < 0 → ∀ b, b < 0 → a ≠ b → (TJ9 a).2.1 ≠ (TJ9 b).2.1 := by decide +kernel
theorem tyJ9_ok : ∀ k, k < 0 → parseFieldDescriptor (TJ9 k).2.2.1 = some (tyJ9 k) := by decide +kernel
abbrev cJ9_max_7cf53 : ByteArray := prog_14_method_65_code
def yJ9_max_7cf53 : MethodName := ⟨RJ9, "max", "(II)I"⟩
abbrev cJ9_min_7cf53 : ByteArray := prog_14_method_69_code
def yJ9_min_7cf53 : MethodName := ⟨RJ9, "min", "(II)I"⟩
def RJ10 : String := "java/lang/System"
def TJ10 : u_T := fun k => match k with
  | _ => ("", "", "", false)
def tyJ10 : Nat → FieldType := fun k => match k with
  | _ => .int
abbrev wsJ100 : List Cond := u_ws RJ10 TJ10 0
theorem nmJ10 : ∀ a, a < 0 → ∀ b, b < 0 → a ≠ b → (TJ10 a).2.1 ≠ (TJ10 b).2.1 := by decide +kernel
theorem tyJ10_ok : ∀ k, k < 0 → parseFieldDescriptor (TJ10 k).2.2.1 = some (tyJ10 k) := by decide +kernel
def RJxa1e45 : String := "java/util/AbstractCollection"
def TJxa1e45 : u_T := fun k => match k with
  | _ => ("", "", "", false)
def tyJxa1e45 : Nat → FieldType := fun k => match k with
  | _ => .int
abbrev wsJxa1e450 : List Cond := u_ws RJxa1e45 TJxa1e45 0
theorem nmJxa1e45 : ∀ a, a < 0 → ∀ b, b < 0 → a ≠ b → (TJxa1e45 a).2.1 ≠ (TJxa1e45 b).2.1 := by decide +kernel
theorem tyJxa1e45_ok : ∀ k, k < 0 → parseFieldDescriptor (TJxa1e45 k).2.2.1 = some (tyJxa1e45 k) := by decide +kernel
abbrev cJxa1e45_init_da8c8 : ByteArray := prog_16_method_1_code
def yJxa1e45_init_da8c8 : MethodName := ⟨RJxa1e45, "<init>", "()V"⟩
def RJxc12de : String := "java/util/AbstractList"
def TJxc12de : u_T := fun k => match k with
  | _ => ("", "", "", false)
def tyJxc12de : Nat → FieldType := fun k => match k with
  | _ => .int
abbrev wsJxc12de0 : List Cond := u_ws RJxc12de TJxc12de 0
theorem nmJxc12de : ∀ a, a < 0 → ∀ b, b < 0 → a ≠ b → (TJxc12de a).2.1 ≠ (TJxc12de b).2.1 := by decide +kernel
theorem tyJxc12de_ok : ∀ k, k < 0 → parseFieldDescriptor (TJxc12de k).2.2.1 = some (tyJxc12de k) := by decide +kernel
abbrev cJxc12de_init_da8c8 : ByteArray := prog_17_method_1_code
def yJxc12de_init_da8c8 : MethodName := ⟨RJxc12de, "<init>", "()V"⟩
def RJx4a65c : String := "java/util/ArrayList"
def TJx4a65c : u_T := fun k => match k with
  | 0 => ("java/util/AbstractList", "modCount", "I", false)
  | 1 => ("java/util/ArrayList", "elementData", "[Ljava/lang/Object;", false)
  | _ => ("java/util/ArrayList", "size", "I", false)
def tyJx4a65c : Nat → FieldType := fun k => match k with
  | 0 => .int
  | 1 => .array (.object "java/lang/Object")
  | _ => .int
abbrev wsJx4a65c0 : List Cond := u_ws RJx4a65c TJx4a65c 3
theorem nmJx4a65c : ∀ a, a < 3 → ∀ b, b < 3 → a ≠ b → (TJx4a65c a).2.1 ≠ (TJx4a65c b).2.1 := by decide +kernel
theorem tyJx4a65c_ok : ∀ k, k < 3 → parseFieldDescriptor (TJx4a65c k).2.2.1 = some (tyJx4a65c k) := by decide +kernel
abbrev cJx4a65c_init_da8c8 : ByteArray := prog_18_method_2_code
def yJx4a65c_init_da8c8 : MethodName := ⟨RJx4a65c, "<init>", "()V"⟩
abbrev cJx4a65c_grow_92f84 : ByteArray := prog_18_method_6_code
def yJx4a65c_grow_92f84 : MethodName := ⟨RJx4a65c, "grow", "(I)[Ljava/lang/Object;"⟩
abbrev cJx4a65c_grow_d5877 : ByteArray := prog_18_method_7_code
def yJx4a65c_grow_d5877 : MethodName := ⟨RJx4a65c, "grow", "()[Ljava/lang/Object;"⟩
abbrev cJx4a65c_size_8abf5 : ByteArray := prog_18_method_8_code
def yJx4a65c_size_8abf5 : MethodName := ⟨RJx4a65c, "size", "()I"⟩
abbrev cJx4a65c_elementData_915e3 : ByteArray := prog_18_method_18_code
def yJx4a65c_elementData_915e3 : MethodName := ⟨RJx4a65c, "elementData", "(I)Ljava/lang/Object;"⟩
abbrev cJx4a65c_get_915e3 : ByteArray := prog_18_method_20_code
def yJx4a65c_get_915e3 : MethodName := ⟨RJx4a65c, "get", "(I)Ljava/lang/Object;"⟩
abbrev cJx4a65c_add_72be8 : ByteArray := prog_18_method_24_code
def yJx4a65c_add_72be8 : MethodName := ⟨RJx4a65c, "add", "(Ljava/lang/Object;[Ljava/lang/Object;I)V"⟩
abbrev cJx4a65c_add_9ea2d : ByteArray := prog_18_method_25_code
def yJx4a65c_add_9ea2d : MethodName := ⟨RJx4a65c, "add", "(Ljava/lang/Object;)Z"⟩
abbrev cJx4a65c_add_7a177 : ByteArray := prog_18_method_26_code
def yJx4a65c_add_7a177 : MethodName := ⟨RJx4a65c, "add", "(ILjava/lang/Object;)V"⟩
abbrev cJx4a65c_remove_915e3 : ByteArray := prog_18_method_29_code
def yJx4a65c_remove_915e3 : MethodName := ⟨RJx4a65c, "remove", "(I)Ljava/lang/Object;"⟩
abbrev cJx4a65c_fastRemove_b59b0 : ByteArray := prog_18_method_39_code
def yJx4a65c_fastRemove_b59b0 : MethodName := ⟨RJx4a65c, "fastRemove", "([Ljava/lang/Object;I)V"⟩
abbrev cJx4a65c_clear_da8c8 : ByteArray := prog_18_method_40_code
def yJx4a65c_clear_da8c8 : MethodName := ⟨RJx4a65c, "clear", "()V"⟩
abbrev cJx4a65c_rangeCheckForAdd_d00df : ByteArray := prog_18_method_45_code
def yJx4a65c_rangeCheckForAdd_d00df : MethodName := ⟨RJx4a65c, "rangeCheckForAdd", "(I)V"⟩
def RJ7 : String := "java/util/Arrays"
def TJ7 : u_T := fun k => match k with
  | _ => ("", "", "", false)
def tyJ7 : Nat → FieldType := fun k => match k with
  | _ => .int
abbrev wsJ70 : List Cond := u_ws RJ7 TJ7 0
theorem nmJ7 : ∀ a, a < 0 → ∀ b, b < 0 → a ≠ b → (TJ7 a).2.1 ≠ (TJ7 b).2.1 := by decide +kernel
theorem tyJ7_ok : ∀ k, k < 0 → parseFieldDescriptor (TJ7 k).2.2.1 = some (tyJ7 k) := by decide +kernel
abbrev cJ7_copyOf_1904c : ByteArray := prog_19_method_119_code
def yJ7_copyOf_1904c : MethodName := ⟨RJ7, "copyOf", "([Ljava/lang/Object;I)[Ljava/lang/Object;"⟩
abbrev cJ7_copyOf_6403c : ByteArray := prog_19_method_120_code
def yJ7_copyOf_6403c : MethodName := ⟨RJ7, "copyOf", "([Ljava/lang/Object;ILjava/lang/Class;)[Ljava/lang/Object;"⟩
def RJx5ef63 : String := "java/util/Collection"
def TJx5ef63 : u_T := fun k => match k with
  | _ => ("", "", "", false)
def tyJx5ef63 : Nat → FieldType := fun k => match k with
  | _ => .int
abbrev wsJx5ef630 : List Cond := u_ws RJx5ef63 TJx5ef63 0
theorem nmJx5ef63 : ∀ a, a < 0 → ∀ b, b < 0 → a ≠ b → (TJx5ef63 a).2.1 ≠ (TJx5ef63 b).2.1 := by decide +kernel
theorem tyJx5ef63_ok : ∀ k, k < 0 → parseFieldDescriptor (TJx5ef63 k).2.2.1 = some (tyJx5ef63 k) := by decide +kernel
def RJxbd725 : String := "java/util/List"
def TJxbd725 : u_T := fun k => match k with
  | _ => ("", "", "", false)
def tyJxbd725 : Nat → FieldType := fun k => match k with
  | _ => .int
abbrev wsJxbd7250 : List Cond := u_ws RJxbd725 TJxbd725 0
theorem nmJxbd725 : ∀ a, a < 0 → ∀ b, b < 0 → a ≠ b → (TJxbd725 a).2.1 ≠ (TJxbd725 b).2.1 := by decide +kernel
theorem tyJxbd725_ok : ∀ k, k < 0 → parseFieldDescriptor (TJxbd725 k).2.2.1 = some (tyJxbd725 k) := by decide +kernel
def RJ15 : String := "java/util/Objects"
def TJ15 : u_T := fun k => match k with
  | _ => ("", "", "", false)
def tyJ15 : Nat → FieldType := fun k => match k with
  | _ => .int
abbrev wsJ150 : List Cond := u_ws RJ15 TJ15 0
theorem nmJ15 : ∀ a, a < 0 → ∀ b, b < 0 → a ≠ b → (TJ15 a).2.1 ≠ (TJ15 b).2.1 := by decide +kernel
theorem tyJ15_ok : ∀ k, k < 0 → parseFieldDescriptor (TJ15 k).2.2.1 = some (tyJ15 k) := by decide +kernel
abbrev cJ15_checkIndex_7cf53 : ByteArray := prog_22_method_17_code
def yJ15_checkIndex_7cf53 : MethodName := ⟨RJ15, "checkIndex", "(II)I"⟩
def RJxf0a74 : String := "java/util/RandomAccess"
def TJxf0a74 : u_T := fun k => match k with
  | _ => ("", "", "", false)
def tyJxf0a74 : Nat → FieldType := fun k => match k with
  | _ => .int
abbrev wsJxf0a740 : List Cond := u_ws RJxf0a74 TJxf0a74 0
theorem nmJxf0a74 : ∀ a, a < 0 → ∀ b, b < 0 → a ≠ b → (TJxf0a74 a).2.1 ≠ (TJxf0a74 b).2.1 := by decide +kernel
theorem tyJxf0a74_ok : ∀ k, k < 0 → parseFieldDescriptor (TJxf0a74 k).2.2.1 = some (tyJxf0a74 k) := by decide +kernel
def RJxa66e6 : String := "java/util/SequencedCollection"
def TJxa66e6 : u_T := fun k => match k with
  | _ => ("", "", "", false)
def tyJxa66e6 : Nat → FieldType := fun k => match k with
  | _ => .int
abbrev wsJxa66e60 : List Cond := u_ws RJxa66e6 TJxa66e6 0
theorem nmJxa66e6 : ∀ a, a < 0 → ∀ b, b < 0 → a ≠ b → (TJxa66e6 a).2.1 ≠ (TJxa66e6 b).2.1 := by decide +kernel
theorem tyJxa66e6_ok : ∀ k, k < 0 → parseFieldDescriptor (TJxa66e6 k).2.2.1 = some (tyJxa66e6 k) := by decide +kernel
def RJ8 : String := "jdk/internal/util/ArraysSupport"
def TJ8 : u_T := fun k => match k with
  | _ => ("", "", "", false)
def tyJ8 : Nat → FieldType := fun k => match k with
  | _ => .int
abbrev wsJ80 : List Cond := u_ws RJ8 TJ8 0
theorem nmJ8 : ∀ a, a < 0 → ∀ b, b < 0 → a ≠ b → (TJ8 a).2.1 ≠ (TJ8 b).2.1 := by decide +kernel
theorem tyJ8_ok : ∀ k, k < 0 → parseFieldDescriptor (TJ8 k).2.2.1 = some (tyJ8 k) := by decide +kernel
abbrev cJ8_newLength_cabcc : ByteArray := prog_25_method_27_code
def yJ8_newLength_cabcc : MethodName := ⟨RJ8, "newLength", "(III)I"⟩
abbrev cJ8_hugeLength_7cf53 : ByteArray := prog_25_method_28_code
def yJ8_hugeLength_7cf53 : MethodName := ⟨RJ8, "hugeLength", "(II)I"⟩
def RJ3 : String := "jdk/internal/util/Preconditions"
def TJ3 : u_T := fun k => match k with
  | _ => ("", "", "", false)
def tyJ3 : Nat → FieldType := fun k => match k with
  | _ => .int
abbrev wsJ30 : List Cond := u_ws RJ3 TJ3 0
theorem nmJ3 : ∀ a, a < 0 → ∀ b, b < 0 → a ≠ b → (TJ3 a).2.1 ≠ (TJ3 b).2.1 := by decide +kernel
theorem tyJ3_ok : ∀ k, k < 0 → parseFieldDescriptor (TJ3 k).2.2.1 = some (tyJ3 k) := by decide +kernel
abbrev cJ3_checkIndex_8e157 : ByteArray := prog_26_method_11_code
def yJ3_checkIndex_8e157 : MethodName := ⟨RJ3, "checkIndex", "(IILjava/util/function/BiFunction;)I"⟩
def RL : String := "ClearingFilesLaw"
abbrev cL_law : ByteArray := code
def yL_law : MethodName := ⟨RL, "law", "([I)Z"⟩
def wsX0_init : List Cond := .code yX0_init cX0_init 4 none :: ([.methodLink RX0 1 objectInit, .instanceMethod objectInit, .code objectInit ⟨#[0xb1]⟩ 1 none, .fieldLink RX0 7 "ClearingFiles$Account" "bank" "LClearingFiles$Bank;", .fieldLink RX0 13 "ClearingFiles$Account" "number" "I", .fieldLink RX0 17 "ClearingFiles$Account" "balance" "J"] ++ wsX00)
def wsJxa1e45_init_da8c8 : List Cond := .code yJxa1e45_init_da8c8 cJxa1e45_init_da8c8 1 none :: ([.methodLink RJxa1e45 1 objectInit, .instanceMethod objectInit, .code objectInit ⟨#[0xb1]⟩ 1 none])
def wsJxc12de_init_da8c8 : List Cond := .code yJxc12de_init_da8c8 cJxc12de_init_da8c8 1 none :: ([.fieldLink RJxc12de 7 "java/util/AbstractList" "modCount" "I", .methodLink RJxc12de 1 yJxa1e45_init_da8c8, .instanceMethod yJxa1e45_init_da8c8, .initialized RJxa1e45, .code yJxa1e45_init_da8c8 cJxa1e45_init_da8c8 1 none, .methodLink RJxa1e45 1 objectInit, .instanceMethod objectInit, .code objectInit ⟨#[0xb1]⟩ 1 none] ++ wsJx4a65c0)
def wsJx4a65c_init_da8c8 : List Cond := .code yJx4a65c_init_da8c8 cJx4a65c_init_da8c8 1 none :: ([.fieldLink RJx4a65c 39 "java/util/ArrayList" "DEFAULTCAPACITY_EMPTY_ELEMENTDATA" "[Ljava/lang/Object;", .fieldLink RJx4a65c 9 "java/util/ArrayList" "elementData" "[Ljava/lang/Object;", .methodLink RJx4a65c 1 yJxc12de_init_da8c8, .instanceMethod yJxc12de_init_da8c8, .initialized RJxc12de, .code yJxc12de_init_da8c8 cJxc12de_init_da8c8 1 none, .fieldLink RJxc12de 7 "java/util/AbstractList" "modCount" "I", .methodLink RJxc12de 1 yJxa1e45_init_da8c8, .instanceMethod yJxa1e45_init_da8c8, .initialized RJxa1e45, .code yJxa1e45_init_da8c8 cJxa1e45_init_da8c8 1 none, .methodLink RJxa1e45 1 objectInit, .instanceMethod objectInit, .code objectInit ⟨#[0xb1]⟩ 1 none] ++ wsJx4a65c0)
def wsX6_init : List Cond := .code yX6_init cX6_init 1 none :: ([.methodLink RX6 3 objectInit, .instanceMethod objectInit, .code objectInit ⟨#[0xb1]⟩ 1 none])
def wsX5_init_r1 : List Cond := [Cond.methodLink RX5 1 objectInit, Cond.instanceMethod objectInit, Cond.code objectInit ⟨#[0xb1]⟩ 1 none, Cond.classLink RX5 7 RJx4a65c, Cond.instantiable RJx4a65c 3, Cond.initialized RJx4a65c, Cond.fieldLink RX5 10 "ClearingFiles$Output" "entries" "Ljava/util/ArrayList;", Cond.classLink RX5 16 RX6, Cond.instantiable RX6 4, Cond.initialized RX6, Cond.fieldLink RX5 19 "ClearingFiles$Output" "totals" "LClearingFiles$Totals;", Cond.methodLink RX5 9 yJx4a65c_init_da8c8, Cond.instanceMethod yJx4a65c_init_da8c8, Cond.code yJx4a65c_init_da8c8 cJx4a65c_init_da8c8 1 none, Cond.fieldLink RJx4a65c 39 "java/util/ArrayList" "DEFAULTCAPACITY_EMPTY_ELEMENTDATA" "[Ljava/lang/Object;", Cond.fieldLink RJx4a65c 9 "java/util/ArrayList" "elementData" "[Ljava/lang/Object;", Cond.methodLink RJx4a65c 1 yJxc12de_init_da8c8, Cond.instanceMethod yJxc12de_init_da8c8, Cond.initialized RJxc12de, Cond.code yJxc12de_init_da8c8 cJxc12de_init_da8c8 1 none, Cond.fieldLink RJxc12de 7 "java/util/AbstractList" "modCount" "I", Cond.methodLink RJxc12de 1 yJxa1e45_init_da8c8, Cond.instanceMethod yJxa1e45_init_da8c8, Cond.initialized RJxa1e45]
def wsX5_init_r2 : List Cond := [Cond.code yJxa1e45_init_da8c8 cJxa1e45_init_da8c8 1 none, Cond.methodLink RJxa1e45 1 objectInit, Cond.instanceMethod yX6_init, Cond.code yX6_init cX6_init 1 none, Cond.methodLink RX6 3 objectInit]
def wsX5_init : List Cond := .code yX5_init cX5_init 1 none :: ((wsX5_init_r1 ++ wsX5_init_r2) ++ wsJx4a65c0 ++ wsX50 ++ wsX60)
def wsX1_init_r1 : List Cond := [Cond.methodLink RX1 1 objectInit, Cond.instanceMethod objectInit, Cond.code objectInit ⟨#[0xb1]⟩ 1 none, Cond.classLink RX1 7 RJx4a65c, Cond.instantiable RJx4a65c 3, Cond.initialized RJx4a65c, Cond.fieldLink RX1 10 "ClearingFiles$Bank" "entries" "Ljava/util/ArrayList;", Cond.fieldLink RX1 16 "ClearingFiles$Bank" "returns" "Ljava/util/ArrayList;", Cond.classLink RX1 19 RX5, Cond.instantiable RX5 4, Cond.initialized RX5, Cond.fieldLink RX1 22 "ClearingFiles$Bank" "output" "LClearingFiles$Output;", Cond.fieldLink RX1 26 "ClearingFiles$Bank" "number" "I", Cond.fieldLink RX1 30 "ClearingFiles$Bank" "routing" "I", Cond.methodLink RX1 9 yJx4a65c_init_da8c8, Cond.instanceMethod yJx4a65c_init_da8c8, Cond.code yJx4a65c_init_da8c8 cJx4a65c_init_da8c8 1 none, Cond.fieldLink RJx4a65c 39 "java/util/ArrayList" "DEFAULTCAPACITY_EMPTY_ELEMENTDATA" "[Ljava/lang/Object;", Cond.fieldLink RJx4a65c 9 "java/util/ArrayList" "elementData" "[Ljava/lang/Object;", Cond.methodLink RJx4a65c 1 yJxc12de_init_da8c8, Cond.instanceMethod yJxc12de_init_da8c8, Cond.initialized RJxc12de, Cond.code yJxc12de_init_da8c8 cJxc12de_init_da8c8 1 none, Cond.fieldLink RJxc12de 7 "java/util/AbstractList" "modCount" "I"]
def wsX1_init_r2 : List Cond := [Cond.methodLink RJxc12de 1 yJxa1e45_init_da8c8, Cond.instanceMethod yJxa1e45_init_da8c8, Cond.initialized RJxa1e45, Cond.code yJxa1e45_init_da8c8 cJxa1e45_init_da8c8 1 none, Cond.methodLink RJxa1e45 1 objectInit, Cond.instanceMethod yX5_init, Cond.code yX5_init cX5_init 1 none, Cond.methodLink RX5 1 objectInit, Cond.classLink RX5 7 RJx4a65c, Cond.fieldLink RX5 10 "ClearingFiles$Output" "entries" "Ljava/util/ArrayList;", Cond.classLink RX5 16 RX6, Cond.instantiable RX6 4, Cond.initialized RX6, Cond.fieldLink RX5 19 "ClearingFiles$Output" "totals" "LClearingFiles$Totals;", Cond.methodLink RX5 9 yJx4a65c_init_da8c8, Cond.instanceMethod yX6_init, Cond.code yX6_init cX6_init 1 none, Cond.methodLink RX6 3 objectInit]
def wsX1_init : List Cond := .code yX1_init cX1_init 3 none :: ((wsX1_init_r1 ++ wsX1_init_r2) ++ wsJx4a65c0 ++ wsX10 ++ wsX50 ++ wsX60)
def wsX2_init_r1 : List Cond := [Cond.methodLink RX2 1 objectInit, Cond.instanceMethod objectInit, Cond.code objectInit ⟨#[0xb1]⟩ 1 none, Cond.classLink RX2 7 RJx4a65c, Cond.instantiable RJx4a65c 3, Cond.initialized RJx4a65c, Cond.fieldLink RX2 10 "ClearingFiles$Batch" "entries" "Ljava/util/ArrayList;", Cond.classLink RX2 16 RX6, Cond.instantiable RX6 4, Cond.initialized RX6, Cond.fieldLink RX2 19 "ClearingFiles$Batch" "totals" "LClearingFiles$Totals;", Cond.methodLink RX2 9 yJx4a65c_init_da8c8, Cond.instanceMethod yJx4a65c_init_da8c8, Cond.code yJx4a65c_init_da8c8 cJx4a65c_init_da8c8 1 none, Cond.fieldLink RJx4a65c 39 "java/util/ArrayList" "DEFAULTCAPACITY_EMPTY_ELEMENTDATA" "[Ljava/lang/Object;", Cond.fieldLink RJx4a65c 9 "java/util/ArrayList" "elementData" "[Ljava/lang/Object;", Cond.methodLink RJx4a65c 1 yJxc12de_init_da8c8, Cond.instanceMethod yJxc12de_init_da8c8, Cond.initialized RJxc12de, Cond.code yJxc12de_init_da8c8 cJxc12de_init_da8c8 1 none, Cond.fieldLink RJxc12de 7 "java/util/AbstractList" "modCount" "I", Cond.methodLink RJxc12de 1 yJxa1e45_init_da8c8, Cond.instanceMethod yJxa1e45_init_da8c8, Cond.initialized RJxa1e45]
def wsX2_init_r2 : List Cond := [Cond.code yJxa1e45_init_da8c8 cJxa1e45_init_da8c8 1 none, Cond.methodLink RJxa1e45 1 objectInit, Cond.instanceMethod yX6_init, Cond.code yX6_init cX6_init 1 none, Cond.methodLink RX6 3 objectInit]
def wsX2_init : List Cond := .code yX2_init cX2_init 1 none :: ((wsX2_init_r1 ++ wsX2_init_r2) ++ wsJx4a65c0 ++ wsX20 ++ wsX60)
def wsJx4a65c_clear_da8c8 : List Cond := .code yJx4a65c_clear_da8c8 cJx4a65c_clear_da8c8 4 none :: ([.fieldLink RJx4a65c 63 "java/util/ArrayList" "modCount" "I", .sameField "java/util/ArrayList" "java/util/AbstractList" "modCount" "I", .fieldLink RJx4a65c 9 "java/util/ArrayList" "elementData" "[Ljava/lang/Object;", .fieldLink RJx4a65c 48 "java/util/ArrayList" "size" "I"] ++ wsJx4a65c0)
def wsX6_clear : List Cond := .code yX6_clear cX6_clear 1 none :: ([.fieldLink RX6 9 "ClearingFiles$Totals" "count" "J", .fieldLink RX6 15 "ClearingFiles$Totals" "hash" "J", .fieldLink RX6 18 "ClearingFiles$Totals" "debits" "J", .fieldLink RX6 21 "ClearingFiles$Totals" "credits" "J"] ++ wsX60)
def wsX2_begin_r1 : List Cond := [Cond.fieldLink RX2 23 "ClearingFiles$Batch" "originator" "I", Cond.fieldLink RX2 27 "ClearingFiles$Batch" "number" "I", Cond.fieldLink RX2 30 "ClearingFiles$Batch" "day" "I", Cond.fieldLink RX2 10 "ClearingFiles$Batch" "entries" "Ljava/util/ArrayList;", Cond.fieldLink RX2 19 "ClearingFiles$Batch" "totals" "LClearingFiles$Totals;", Cond.fieldLink RX2 37 "ClearingFiles$Batch" "lastTrace" "I", Cond.fieldLink RX2 40 "ClearingFiles$Batch" "tracesGrow" "Z", Cond.methodLink RX2 33 yJx4a65c_clear_da8c8, Cond.instanceMethod yJx4a65c_clear_da8c8, Cond.selects RJx4a65c yJx4a65c_clear_da8c8 yJx4a65c_clear_da8c8, Cond.initialized RJx4a65c, Cond.code yJx4a65c_clear_da8c8 cJx4a65c_clear_da8c8 4 none, Cond.fieldLink RJx4a65c 63 "java/util/ArrayList" "modCount" "I", Cond.sameField "java/util/ArrayList" "java/util/AbstractList" "modCount" "I", Cond.fieldLink RJx4a65c 9 "java/util/ArrayList" "elementData" "[Ljava/lang/Object;", Cond.fieldLink RJx4a65c 48 "java/util/ArrayList" "size" "I", Cond.methodLink RX2 36 yX6_clear, Cond.instanceMethod yX6_clear, Cond.selects RX6 yX6_clear yX6_clear, Cond.initialized RX6, Cond.code yX6_clear cX6_clear 1 none, Cond.fieldLink RX6 9 "ClearingFiles$Totals" "count" "J", Cond.fieldLink RX6 15 "ClearingFiles$Totals" "hash" "J", Cond.fieldLink RX6 18 "ClearingFiles$Totals" "debits" "J"]
def wsX2_begin_r2 : List Cond := [Cond.fieldLink RX6 21 "ClearingFiles$Totals" "credits" "J"]
def wsX2_begin : List Cond := .code yX2_begin cX2_begin 4 none :: ((wsX2_begin_r1 ++ wsX2_begin_r2) ++ wsX20 ++ wsJx4a65c0 ++ wsX60)
def wsJ8_hugeLength_7cf53 : List Cond := .code yJ8_hugeLength_7cf53 cJ8_hugeLength_7cf53 3 (some .int) :: ([.constant RJ8 200 (2147483639)])
def wsJ8_newLength_cabcc : List Cond := .code yJ8_newLength_cabcc cJ8_newLength_cabcc 4 (some .int) :: ([.methodLink RJ8 194 Lib.Math.max.name, .static Lib.Math.max.name, .initialized "java/lang/Math", .code Lib.Math.max.name Lib.Math.max.code 2 (some .int), .constant RJ8 200 (2147483639), .methodLink RJ8 201 yJ8_hugeLength_7cf53, .static yJ8_hugeLength_7cf53, .initialized RJ8, .code yJ8_hugeLength_7cf53 cJ8_hugeLength_7cf53 3 (some .int)])
def wsJ7_copyOf_6403c : List Cond := .code yJ7_copyOf_6403c cJ7_copyOf_6403c 4 (some (.array (.object "java/lang/Object"))) :: ([.classLink RJ7 110 "[Ljava/lang/Object;", .classLink RJ7 2 "java/lang/Object", .methodLink RJ7 304 Lib.Math.min.name, .static Lib.Math.min.name, .initialized "java/lang/Math", .code Lib.Math.min.name Lib.Math.min.code 2 (some .int), .methodLink RJ7 150 arraycopyName, .native arraycopyName, .static arraycopyName, .initialized "java/lang/System"])
def wsJ7_copyOf_1904c : List Cond := .code yJ7_copyOf_1904c cJ7_copyOf_1904c 2 (some (.array (.object "java/lang/Object"))) :: ([.methodLink RJ7 86 ⟨"java/lang/Object", "getClass", "()Ljava/lang/Class;"⟩, .selects "[Ljava/lang/Object;" ⟨"java/lang/Object", "getClass", "()Ljava/lang/Class;"⟩ ⟨"java/lang/Object", "getClass", "()Ljava/lang/Class;"⟩, .instanceMethod ⟨"java/lang/Object", "getClass", "()Ljava/lang/Class;"⟩, .native ⟨"java/lang/Object", "getClass", "()Ljava/lang/Class;"⟩, .methodLink RJ7 300 yJ7_copyOf_6403c, .static yJ7_copyOf_6403c, .initialized RJ7, .code yJ7_copyOf_6403c cJ7_copyOf_6403c 4 (some (.array (.object "java/lang/Object"))), .classLink RJ7 110 "[Ljava/lang/Object;", .classLink RJ7 2 "java/lang/Object", .methodLink RJ7 304 Lib.Math.min.name, .static Lib.Math.min.name, .initialized "java/lang/Math", .code Lib.Math.min.name Lib.Math.min.code 2 (some .int), .methodLink RJ7 150 arraycopyName, .native arraycopyName, .static arraycopyName, .initialized "java/lang/System"])
def wsJx4a65c_grow_92f84_r1 : List Cond := [Cond.fieldLink RJx4a65c 9 "java/util/ArrayList" "elementData" "[Ljava/lang/Object;", Cond.fieldLink RJx4a65c 39 "java/util/ArrayList" "DEFAULTCAPACITY_EMPTY_ELEMENTDATA" "[Ljava/lang/Object;", Cond.methodLink RJx4a65c 79 Lib.Math.max.name, Cond.static Lib.Math.max.name, Cond.initialized "java/lang/Math", Cond.code Lib.Math.max.name Lib.Math.max.code 2 (some .int), Cond.classLink RJx4a65c 7 "java/lang/Object", Cond.methodLink RJx4a65c 73 yJ8_newLength_cabcc, Cond.static yJ8_newLength_cabcc, Cond.initialized RJ8, Cond.code yJ8_newLength_cabcc cJ8_newLength_cabcc 4 (some .int), Cond.methodLink RJ8 194 Lib.Math.max.name, Cond.constant RJ8 200 (2147483639), Cond.methodLink RJ8 201 yJ8_hugeLength_7cf53, Cond.static yJ8_hugeLength_7cf53, Cond.code yJ8_hugeLength_7cf53 cJ8_hugeLength_7cf53 3 (some .int), Cond.methodLink RJx4a65c 66 yJ7_copyOf_1904c, Cond.static yJ7_copyOf_1904c, Cond.initialized RJ7, Cond.code yJ7_copyOf_1904c cJ7_copyOf_1904c 2 (some (.array (.object "java/lang/Object"))), Cond.methodLink RJ7 86 ⟨"java/lang/Object", "getClass", "()Ljava/lang/Class;"⟩, Cond.selects "[Ljava/lang/Object;" ⟨"java/lang/Object", "getClass", "()Ljava/lang/Class;"⟩ ⟨"java/lang/Object", "getClass", "()Ljava/lang/Class;"⟩, Cond.instanceMethod ⟨"java/lang/Object", "getClass", "()Ljava/lang/Class;"⟩, Cond.native ⟨"java/lang/Object", "getClass", "()Ljava/lang/Class;"⟩]
def wsJx4a65c_grow_92f84_r2 : List Cond := [Cond.methodLink RJ7 300 yJ7_copyOf_6403c, Cond.static yJ7_copyOf_6403c, Cond.code yJ7_copyOf_6403c cJ7_copyOf_6403c 4 (some (.array (.object "java/lang/Object"))), Cond.classLink RJ7 110 "[Ljava/lang/Object;", Cond.classLink RJ7 2 "java/lang/Object", Cond.methodLink RJ7 304 Lib.Math.min.name, Cond.static Lib.Math.min.name, Cond.code Lib.Math.min.name Lib.Math.min.code 2 (some .int), Cond.methodLink RJ7 150 arraycopyName, Cond.native arraycopyName, Cond.static arraycopyName, Cond.initialized "java/lang/System"]
def wsJx4a65c_grow_92f84 : List Cond := .code yJx4a65c_grow_92f84 cJx4a65c_grow_92f84 4 (some (.array (.object "java/lang/Object"))) :: ((wsJx4a65c_grow_92f84_r1 ++ wsJx4a65c_grow_92f84_r2) ++ wsJx4a65c0)
def wsJx4a65c_grow_d5877_r1 : List Cond := [Cond.fieldLink RJx4a65c 48 "java/util/ArrayList" "size" "I", Cond.methodLink RJx4a65c 69 yJx4a65c_grow_92f84, Cond.instanceMethod yJx4a65c_grow_92f84, Cond.selects RJx4a65c yJx4a65c_grow_92f84 yJx4a65c_grow_92f84, Cond.initialized RJx4a65c, Cond.code yJx4a65c_grow_92f84 cJx4a65c_grow_92f84 4 (some (.array (.object "java/lang/Object"))), Cond.fieldLink RJx4a65c 9 "java/util/ArrayList" "elementData" "[Ljava/lang/Object;", Cond.fieldLink RJx4a65c 39 "java/util/ArrayList" "DEFAULTCAPACITY_EMPTY_ELEMENTDATA" "[Ljava/lang/Object;", Cond.methodLink RJx4a65c 79 Lib.Math.max.name, Cond.static Lib.Math.max.name, Cond.initialized "java/lang/Math", Cond.code Lib.Math.max.name Lib.Math.max.code 2 (some .int), Cond.classLink RJx4a65c 7 "java/lang/Object", Cond.methodLink RJx4a65c 73 yJ8_newLength_cabcc, Cond.static yJ8_newLength_cabcc, Cond.initialized RJ8, Cond.code yJ8_newLength_cabcc cJ8_newLength_cabcc 4 (some .int), Cond.methodLink RJ8 194 Lib.Math.max.name, Cond.constant RJ8 200 (2147483639), Cond.methodLink RJ8 201 yJ8_hugeLength_7cf53, Cond.static yJ8_hugeLength_7cf53, Cond.code yJ8_hugeLength_7cf53 cJ8_hugeLength_7cf53 3 (some .int), Cond.methodLink RJx4a65c 66 yJ7_copyOf_1904c, Cond.static yJ7_copyOf_1904c]
def wsJx4a65c_grow_d5877_r2 : List Cond := [Cond.initialized RJ7, Cond.code yJ7_copyOf_1904c cJ7_copyOf_1904c 2 (some (.array (.object "java/lang/Object"))), Cond.methodLink RJ7 86 ⟨"java/lang/Object", "getClass", "()Ljava/lang/Class;"⟩, Cond.selects "[Ljava/lang/Object;" ⟨"java/lang/Object", "getClass", "()Ljava/lang/Class;"⟩ ⟨"java/lang/Object", "getClass", "()Ljava/lang/Class;"⟩, Cond.instanceMethod ⟨"java/lang/Object", "getClass", "()Ljava/lang/Class;"⟩, Cond.native ⟨"java/lang/Object", "getClass", "()Ljava/lang/Class;"⟩, Cond.methodLink RJ7 300 yJ7_copyOf_6403c, Cond.static yJ7_copyOf_6403c, Cond.code yJ7_copyOf_6403c cJ7_copyOf_6403c 4 (some (.array (.object "java/lang/Object"))), Cond.classLink RJ7 110 "[Ljava/lang/Object;", Cond.classLink RJ7 2 "java/lang/Object", Cond.methodLink RJ7 304 Lib.Math.min.name, Cond.static Lib.Math.min.name, Cond.code Lib.Math.min.name Lib.Math.min.code 2 (some .int), Cond.methodLink RJ7 150 arraycopyName, Cond.native arraycopyName, Cond.static arraycopyName, Cond.initialized "java/lang/System"]
def wsJx4a65c_grow_d5877 : List Cond := .code yJx4a65c_grow_d5877 cJx4a65c_grow_d5877 1 (some (.array (.object "java/lang/Object"))) :: ((wsJx4a65c_grow_d5877_r1 ++ wsJx4a65c_grow_d5877_r2) ++ wsJx4a65c0)
def wsJx4a65c_add_72be8_r1 : List Cond := [Cond.fieldLink RJx4a65c 48 "java/util/ArrayList" "size" "I", Cond.methodLink RJx4a65c 129 yJx4a65c_grow_d5877, Cond.instanceMethod yJx4a65c_grow_d5877, Cond.selects RJx4a65c yJx4a65c_grow_d5877 yJx4a65c_grow_d5877, Cond.initialized RJx4a65c, Cond.code yJx4a65c_grow_d5877 cJx4a65c_grow_d5877 1 (some (.array (.object "java/lang/Object"))), Cond.methodLink RJx4a65c 69 yJx4a65c_grow_92f84, Cond.instanceMethod yJx4a65c_grow_92f84, Cond.selects RJx4a65c yJx4a65c_grow_92f84 yJx4a65c_grow_92f84, Cond.code yJx4a65c_grow_92f84 cJx4a65c_grow_92f84 4 (some (.array (.object "java/lang/Object"))), Cond.fieldLink RJx4a65c 9 "java/util/ArrayList" "elementData" "[Ljava/lang/Object;", Cond.fieldLink RJx4a65c 39 "java/util/ArrayList" "DEFAULTCAPACITY_EMPTY_ELEMENTDATA" "[Ljava/lang/Object;", Cond.methodLink RJx4a65c 79 Lib.Math.max.name, Cond.static Lib.Math.max.name, Cond.initialized "java/lang/Math", Cond.code Lib.Math.max.name Lib.Math.max.code 2 (some .int), Cond.classLink RJx4a65c 7 "java/lang/Object", Cond.methodLink RJx4a65c 73 yJ8_newLength_cabcc, Cond.static yJ8_newLength_cabcc, Cond.initialized RJ8, Cond.code yJ8_newLength_cabcc cJ8_newLength_cabcc 4 (some .int), Cond.methodLink RJ8 194 Lib.Math.max.name, Cond.constant RJ8 200 (2147483639), Cond.methodLink RJ8 201 yJ8_hugeLength_7cf53]
def wsJx4a65c_add_72be8_r2 : List Cond := [Cond.static yJ8_hugeLength_7cf53, Cond.code yJ8_hugeLength_7cf53 cJ8_hugeLength_7cf53 3 (some .int), Cond.methodLink RJx4a65c 66 yJ7_copyOf_1904c, Cond.static yJ7_copyOf_1904c, Cond.initialized RJ7, Cond.code yJ7_copyOf_1904c cJ7_copyOf_1904c 2 (some (.array (.object "java/lang/Object"))), Cond.methodLink RJ7 86 ⟨"java/lang/Object", "getClass", "()Ljava/lang/Class;"⟩, Cond.selects "[Ljava/lang/Object;" ⟨"java/lang/Object", "getClass", "()Ljava/lang/Class;"⟩ ⟨"java/lang/Object", "getClass", "()Ljava/lang/Class;"⟩, Cond.instanceMethod ⟨"java/lang/Object", "getClass", "()Ljava/lang/Class;"⟩, Cond.native ⟨"java/lang/Object", "getClass", "()Ljava/lang/Class;"⟩, Cond.methodLink RJ7 300 yJ7_copyOf_6403c, Cond.static yJ7_copyOf_6403c, Cond.code yJ7_copyOf_6403c cJ7_copyOf_6403c 4 (some (.array (.object "java/lang/Object"))), Cond.classLink RJ7 110 "[Ljava/lang/Object;", Cond.classLink RJ7 2 "java/lang/Object", Cond.methodLink RJ7 304 Lib.Math.min.name, Cond.static Lib.Math.min.name, Cond.code Lib.Math.min.name Lib.Math.min.code 2 (some .int), Cond.methodLink RJ7 150 arraycopyName, Cond.native arraycopyName, Cond.static arraycopyName, Cond.initialized "java/lang/System"]
def wsJx4a65c_add_72be8 : List Cond := .code yJx4a65c_add_72be8 cJx4a65c_add_72be8 4 none :: ((wsJx4a65c_add_72be8_r1 ++ wsJx4a65c_add_72be8_r2) ++ wsJx4a65c0)
def wsJx4a65c_add_9ea2d_r1 : List Cond := [Cond.fieldLink RJx4a65c 63 "java/util/ArrayList" "modCount" "I", Cond.sameField "java/util/ArrayList" "java/util/AbstractList" "modCount" "I", Cond.fieldLink RJx4a65c 9 "java/util/ArrayList" "elementData" "[Ljava/lang/Object;", Cond.fieldLink RJx4a65c 48 "java/util/ArrayList" "size" "I", Cond.methodLink RJx4a65c 131 yJx4a65c_add_72be8, Cond.instanceMethod yJx4a65c_add_72be8, Cond.selects RJx4a65c yJx4a65c_add_72be8 yJx4a65c_add_72be8, Cond.initialized RJx4a65c, Cond.code yJx4a65c_add_72be8 cJx4a65c_add_72be8 4 none, Cond.methodLink RJx4a65c 129 yJx4a65c_grow_d5877, Cond.instanceMethod yJx4a65c_grow_d5877, Cond.selects RJx4a65c yJx4a65c_grow_d5877 yJx4a65c_grow_d5877, Cond.code yJx4a65c_grow_d5877 cJx4a65c_grow_d5877 1 (some (.array (.object "java/lang/Object"))), Cond.methodLink RJx4a65c 69 yJx4a65c_grow_92f84, Cond.instanceMethod yJx4a65c_grow_92f84, Cond.selects RJx4a65c yJx4a65c_grow_92f84 yJx4a65c_grow_92f84, Cond.code yJx4a65c_grow_92f84 cJx4a65c_grow_92f84 4 (some (.array (.object "java/lang/Object"))), Cond.fieldLink RJx4a65c 39 "java/util/ArrayList" "DEFAULTCAPACITY_EMPTY_ELEMENTDATA" "[Ljava/lang/Object;", Cond.methodLink RJx4a65c 79 Lib.Math.max.name, Cond.static Lib.Math.max.name, Cond.initialized "java/lang/Math", Cond.code Lib.Math.max.name Lib.Math.max.code 2 (some .int), Cond.classLink RJx4a65c 7 "java/lang/Object", Cond.methodLink RJx4a65c 73 yJ8_newLength_cabcc]
def wsJx4a65c_add_9ea2d_r2 : List Cond := [Cond.static yJ8_newLength_cabcc, Cond.initialized RJ8, Cond.code yJ8_newLength_cabcc cJ8_newLength_cabcc 4 (some .int), Cond.methodLink RJ8 194 Lib.Math.max.name, Cond.constant RJ8 200 (2147483639), Cond.methodLink RJ8 201 yJ8_hugeLength_7cf53, Cond.static yJ8_hugeLength_7cf53, Cond.code yJ8_hugeLength_7cf53 cJ8_hugeLength_7cf53 3 (some .int), Cond.methodLink RJx4a65c 66 yJ7_copyOf_1904c, Cond.static yJ7_copyOf_1904c, Cond.initialized RJ7, Cond.code yJ7_copyOf_1904c cJ7_copyOf_1904c 2 (some (.array (.object "java/lang/Object"))), Cond.methodLink RJ7 86 ⟨"java/lang/Object", "getClass", "()Ljava/lang/Class;"⟩, Cond.selects "[Ljava/lang/Object;" ⟨"java/lang/Object", "getClass", "()Ljava/lang/Class;"⟩ ⟨"java/lang/Object", "getClass", "()Ljava/lang/Class;"⟩, Cond.instanceMethod ⟨"java/lang/Object", "getClass", "()Ljava/lang/Class;"⟩, Cond.native ⟨"java/lang/Object", "getClass", "()Ljava/lang/Class;"⟩, Cond.methodLink RJ7 300 yJ7_copyOf_6403c, Cond.static yJ7_copyOf_6403c, Cond.code yJ7_copyOf_6403c cJ7_copyOf_6403c 4 (some (.array (.object "java/lang/Object"))), Cond.classLink RJ7 110 "[Ljava/lang/Object;", Cond.classLink RJ7 2 "java/lang/Object", Cond.methodLink RJ7 304 Lib.Math.min.name, Cond.static Lib.Math.min.name, Cond.code Lib.Math.min.name Lib.Math.min.code 2 (some .int)]
def wsJx4a65c_add_9ea2d_r3 : List Cond := [Cond.methodLink RJ7 150 arraycopyName, Cond.native arraycopyName, Cond.static arraycopyName, Cond.initialized "java/lang/System"]
def wsJx4a65c_add_9ea2d : List Cond := .code yJx4a65c_add_9ea2d cJx4a65c_add_9ea2d 2 (some .boolean) :: ((wsJx4a65c_add_9ea2d_r1 ++ (wsJx4a65c_add_9ea2d_r2 ++ wsJx4a65c_add_9ea2d_r3)) ++ wsJx4a65c0)
def wsX6_add : List Cond := .code yX6_add cX6_add 2 none :: ([.fieldLink RX6 9 "ClearingFiles$Totals" "count" "J", .fieldLink RX6 15 "ClearingFiles$Totals" "hash" "J", .fieldLink RX6 24 "ClearingFiles$Entry" "routing" "I", .fieldLink RX6 30 "ClearingFiles$Entry" "code" "I", .fieldLink RX6 18 "ClearingFiles$Totals" "debits" "J", .fieldLink RX6 33 "ClearingFiles$Entry" "amount" "I", .fieldLink RX6 21 "ClearingFiles$Totals" "credits" "J"] ++ wsX60 ++ wsX30)
def wsX2_add_r1 : List Cond := [Cond.fieldLink RX2 10 "ClearingFiles$Batch" "entries" "Ljava/util/ArrayList;", Cond.fieldLink RX2 19 "ClearingFiles$Batch" "totals" "LClearingFiles$Totals;", Cond.fieldLink RX2 51 "ClearingFiles$Entry" "trace" "I", Cond.fieldLink RX2 37 "ClearingFiles$Batch" "lastTrace" "I", Cond.fieldLink RX2 40 "ClearingFiles$Batch" "tracesGrow" "Z", Cond.methodLink RX2 44 yJx4a65c_add_9ea2d, Cond.instanceMethod yJx4a65c_add_9ea2d, Cond.selects RJx4a65c yJx4a65c_add_9ea2d yJx4a65c_add_9ea2d, Cond.initialized RJx4a65c, Cond.code yJx4a65c_add_9ea2d cJx4a65c_add_9ea2d 2 (some .boolean), Cond.fieldLink RJx4a65c 63 "java/util/ArrayList" "modCount" "I", Cond.sameField "java/util/ArrayList" "java/util/AbstractList" "modCount" "I", Cond.fieldLink RJx4a65c 9 "java/util/ArrayList" "elementData" "[Ljava/lang/Object;", Cond.fieldLink RJx4a65c 48 "java/util/ArrayList" "size" "I", Cond.methodLink RJx4a65c 131 yJx4a65c_add_72be8, Cond.instanceMethod yJx4a65c_add_72be8, Cond.selects RJx4a65c yJx4a65c_add_72be8 yJx4a65c_add_72be8, Cond.code yJx4a65c_add_72be8 cJx4a65c_add_72be8 4 none, Cond.methodLink RJx4a65c 129 yJx4a65c_grow_d5877, Cond.instanceMethod yJx4a65c_grow_d5877, Cond.selects RJx4a65c yJx4a65c_grow_d5877 yJx4a65c_grow_d5877, Cond.code yJx4a65c_grow_d5877 cJx4a65c_grow_d5877 1 (some (.array (.object "java/lang/Object"))), Cond.methodLink RJx4a65c 69 yJx4a65c_grow_92f84, Cond.instanceMethod yJx4a65c_grow_92f84]
def wsX2_add_r2 : List Cond := [Cond.selects RJx4a65c yJx4a65c_grow_92f84 yJx4a65c_grow_92f84, Cond.code yJx4a65c_grow_92f84 cJx4a65c_grow_92f84 4 (some (.array (.object "java/lang/Object"))), Cond.fieldLink RJx4a65c 39 "java/util/ArrayList" "DEFAULTCAPACITY_EMPTY_ELEMENTDATA" "[Ljava/lang/Object;", Cond.methodLink RJx4a65c 79 Lib.Math.max.name, Cond.static Lib.Math.max.name, Cond.initialized "java/lang/Math", Cond.code Lib.Math.max.name Lib.Math.max.code 2 (some .int), Cond.classLink RJx4a65c 7 "java/lang/Object", Cond.methodLink RJx4a65c 73 yJ8_newLength_cabcc, Cond.static yJ8_newLength_cabcc, Cond.initialized RJ8, Cond.code yJ8_newLength_cabcc cJ8_newLength_cabcc 4 (some .int), Cond.methodLink RJ8 194 Lib.Math.max.name, Cond.constant RJ8 200 (2147483639), Cond.methodLink RJ8 201 yJ8_hugeLength_7cf53, Cond.static yJ8_hugeLength_7cf53, Cond.code yJ8_hugeLength_7cf53 cJ8_hugeLength_7cf53 3 (some .int), Cond.methodLink RJx4a65c 66 yJ7_copyOf_1904c, Cond.static yJ7_copyOf_1904c, Cond.initialized RJ7, Cond.code yJ7_copyOf_1904c cJ7_copyOf_1904c 2 (some (.array (.object "java/lang/Object"))), Cond.methodLink RJ7 86 ⟨"java/lang/Object", "getClass", "()Ljava/lang/Class;"⟩, Cond.selects "[Ljava/lang/Object;" ⟨"java/lang/Object", "getClass", "()Ljava/lang/Class;"⟩ ⟨"java/lang/Object", "getClass", "()Ljava/lang/Class;"⟩, Cond.instanceMethod ⟨"java/lang/Object", "getClass", "()Ljava/lang/Class;"⟩]
def wsX2_add_r3 : List Cond := [Cond.native ⟨"java/lang/Object", "getClass", "()Ljava/lang/Class;"⟩, Cond.methodLink RJ7 300 yJ7_copyOf_6403c, Cond.static yJ7_copyOf_6403c, Cond.code yJ7_copyOf_6403c cJ7_copyOf_6403c 4 (some (.array (.object "java/lang/Object"))), Cond.classLink RJ7 110 "[Ljava/lang/Object;", Cond.classLink RJ7 2 "java/lang/Object", Cond.methodLink RJ7 304 Lib.Math.min.name, Cond.static Lib.Math.min.name, Cond.code Lib.Math.min.name Lib.Math.min.code 2 (some .int), Cond.methodLink RJ7 150 arraycopyName, Cond.native arraycopyName, Cond.static arraycopyName, Cond.initialized "java/lang/System", Cond.methodLink RX2 48 yX6_add, Cond.instanceMethod yX6_add, Cond.selects RX6 yX6_add yX6_add, Cond.initialized RX6, Cond.code yX6_add cX6_add 2 none, Cond.fieldLink RX6 9 "ClearingFiles$Totals" "count" "J", Cond.fieldLink RX6 15 "ClearingFiles$Totals" "hash" "J", Cond.fieldLink RX6 24 "ClearingFiles$Entry" "routing" "I", Cond.fieldLink RX6 30 "ClearingFiles$Entry" "code" "I", Cond.fieldLink RX6 18 "ClearingFiles$Totals" "debits" "J", Cond.fieldLink RX6 33 "ClearingFiles$Entry" "amount" "I"]
def wsX2_add_r4 : List Cond := [Cond.fieldLink RX6 21 "ClearingFiles$Totals" "credits" "J"]
def wsX2_add : List Cond := .code yX2_add cX2_add 2 none :: ((wsX2_add_r1 ++ (wsX2_add_r2 ++ (wsX2_add_r3 ++ wsX2_add_r4))) ++ wsX20 ++ wsX30 ++ wsJx4a65c0 ++ wsX60)
def wsX3_init : List Cond := .code yX3_init cX3_init 1 none :: ([.methodLink RX3 1 objectInit, .instanceMethod objectInit, .code objectInit ⟨#[0xb1]⟩ 1 none])
def wsX3_goesBefore : List Cond := .code yX3_goesBefore cX3_goesBefore 2 (some .boolean) :: ([.fieldLink RX3 7 "ClearingFiles$Entry" "day" "I", .fieldLink RX3 13 "ClearingFiles$Entry" "originator" "LClearingFiles$Bank;", .fieldLink RX3 17 "ClearingFiles$Bank" "number" "I"] ++ wsX30 ++ wsX10)
def wsX4_init_r1 : List Cond := [Cond.methodLink RX4 3 objectInit, Cond.instanceMethod objectInit, Cond.code objectInit ⟨#[0xb1]⟩ 1 none, Cond.classLink RX4 9 RX2, Cond.fieldLink RX4 11 "ClearingFiles$Incoming" "batches" "[LClearingFiles$Batch;", Cond.classLink RX4 17 RX6, Cond.instantiable RX6 4, Cond.initialized RX6, Cond.fieldLink RX4 20 "ClearingFiles$Incoming" "totals" "LClearingFiles$Totals;", Cond.instantiable RX2 9, Cond.initialized RX2, Cond.fieldLink RX4 25 "ClearingFiles$Incoming" "current" "LClearingFiles$Batch;", Cond.instanceMethod yX6_init, Cond.code yX6_init cX6_init 1 none, Cond.methodLink RX6 3 objectInit, Cond.instanceMethod yX2_init, Cond.code yX2_init cX2_init 1 none, Cond.methodLink RX2 1 objectInit, Cond.classLink RX2 7 RJx4a65c, Cond.instantiable RJx4a65c 3, Cond.initialized RJx4a65c, Cond.fieldLink RX2 10 "ClearingFiles$Batch" "entries" "Ljava/util/ArrayList;", Cond.classLink RX2 16 RX6, Cond.fieldLink RX2 19 "ClearingFiles$Batch" "totals" "LClearingFiles$Totals;"]
def wsX4_init_r2 : List Cond := [Cond.methodLink RX2 9 yJx4a65c_init_da8c8, Cond.instanceMethod yJx4a65c_init_da8c8, Cond.code yJx4a65c_init_da8c8 cJx4a65c_init_da8c8 1 none, Cond.fieldLink RJx4a65c 39 "java/util/ArrayList" "DEFAULTCAPACITY_EMPTY_ELEMENTDATA" "[Ljava/lang/Object;", Cond.fieldLink RJx4a65c 9 "java/util/ArrayList" "elementData" "[Ljava/lang/Object;", Cond.methodLink RJx4a65c 1 yJxc12de_init_da8c8, Cond.instanceMethod yJxc12de_init_da8c8, Cond.initialized RJxc12de, Cond.code yJxc12de_init_da8c8 cJxc12de_init_da8c8 1 none, Cond.fieldLink RJxc12de 7 "java/util/AbstractList" "modCount" "I", Cond.methodLink RJxc12de 1 yJxa1e45_init_da8c8, Cond.instanceMethod yJxa1e45_init_da8c8, Cond.initialized RJxa1e45, Cond.code yJxa1e45_init_da8c8 cJxa1e45_init_da8c8 1 none, Cond.methodLink RJxa1e45 1 objectInit]
def wsX4_init : List Cond := .code yX4_init cX4_init 2 none :: ((wsX4_init_r1 ++ wsX4_init_r2) ++ wsX40 ++ wsX60 ++ wsX20 ++ wsJx4a65c0)
def wsX4_allows : List Cond := .code yX4_allows cX4_allows 2 (some .boolean) :: ([.fieldLink RX4 29 "ClearingFiles$Incoming" "underWay" "Z", .fieldLink RX4 33 "ClearingFiles$Incoming" "inBatch" "Z"] ++ wsX40)
def wsX4_begin : List Cond := .code yX4_begin cX4_begin 3 none :: ([.fieldLink RX4 36 "ClearingFiles$Incoming" "sender" "I", .fieldLink RX4 40 "ClearingFiles$Incoming" "number" "I", .fieldLink RX4 20 "ClearingFiles$Incoming" "totals" "LClearingFiles$Totals;", .fieldLink RX4 46 "ClearingFiles$Incoming" "batchCount" "I", .fieldLink RX4 33 "ClearingFiles$Incoming" "inBatch" "Z", .fieldLink RX4 29 "ClearingFiles$Incoming" "underWay" "Z", .methodLink RX4 43 yX6_clear, .instanceMethod yX6_clear, .selects RX6 yX6_clear yX6_clear, .initialized RX6, .code yX6_clear cX6_clear 1 none, .fieldLink RX6 9 "ClearingFiles$Totals" "count" "J", .fieldLink RX6 15 "ClearingFiles$Totals" "hash" "J", .fieldLink RX6 18 "ClearingFiles$Totals" "debits" "J", .fieldLink RX6 21 "ClearingFiles$Totals" "credits" "J"] ++ wsX40 ++ wsX60)
def wsX4_end : List Cond := .code yX4_end cX4_end 1 none :: ([.fieldLink RX4 29 "ClearingFiles$Incoming" "underWay" "Z"] ++ wsX40)
def wsX5_clear : List Cond := .code yX5_clear cX5_clear 1 none :: ([.fieldLink RX5 10 "ClearingFiles$Output" "entries" "Ljava/util/ArrayList;", .fieldLink RX5 19 "ClearingFiles$Output" "totals" "LClearingFiles$Totals;", .fieldLink RX5 27 "ClearingFiles$Output" "returns" "I", .fieldLink RX5 31 "ClearingFiles$Output" "done" "I", .methodLink RX5 23 yJx4a65c_clear_da8c8, .instanceMethod yJx4a65c_clear_da8c8, .selects RJx4a65c yJx4a65c_clear_da8c8 yJx4a65c_clear_da8c8, .initialized RJx4a65c, .code yJx4a65c_clear_da8c8 cJx4a65c_clear_da8c8 4 none, .fieldLink RJx4a65c 63 "java/util/ArrayList" "modCount" "I", .sameField "java/util/ArrayList" "java/util/AbstractList" "modCount" "I", .fieldLink RJx4a65c 9 "java/util/ArrayList" "elementData" "[Ljava/lang/Object;", .fieldLink RJx4a65c 48 "java/util/ArrayList" "size" "I", .methodLink RX5 26 yX6_clear, .instanceMethod yX6_clear, .selects RX6 yX6_clear yX6_clear, .initialized RX6, .code yX6_clear cX6_clear 1 none, .fieldLink RX6 9 "ClearingFiles$Totals" "count" "J", .fieldLink RX6 15 "ClearingFiles$Totals" "hash" "J", .fieldLink RX6 18 "ClearingFiles$Totals" "debits" "J", .fieldLink RX6 21 "ClearingFiles$Totals" "credits" "J"] ++ wsX50 ++ wsJx4a65c0 ++ wsX60)
def wsJx4a65c_size_8abf5 : List Cond := .code yJx4a65c_size_8abf5 cJx4a65c_size_8abf5 1 (some .int) :: ([.fieldLink RJx4a65c 48 "java/util/ArrayList" "size" "I"] ++ wsJx4a65c0)
def wsX5_size : List Cond := .code yX5_size cX5_size 1 (some .int) :: ([.fieldLink RX5 10 "ClearingFiles$Output" "entries" "Ljava/util/ArrayList;", .methodLink RX5 34 yJx4a65c_size_8abf5, .instanceMethod yJx4a65c_size_8abf5, .selects RJx4a65c yJx4a65c_size_8abf5 yJx4a65c_size_8abf5, .initialized RJx4a65c, .code yJx4a65c_size_8abf5 cJx4a65c_size_8abf5 1 (some .int), .fieldLink RJx4a65c 48 "java/util/ArrayList" "size" "I"] ++ wsX50 ++ wsJx4a65c0)
def wsX5_isDone : List Cond := .code yX5_isDone cX5_isDone 1 (some .boolean) :: ([.fieldLink RX5 31 "ClearingFiles$Output" "done" "I", .fieldLink RX5 10 "ClearingFiles$Output" "entries" "Ljava/util/ArrayList;", .methodLink RX5 34 yJx4a65c_size_8abf5, .instanceMethod yJx4a65c_size_8abf5, .selects RJx4a65c yJx4a65c_size_8abf5 yJx4a65c_size_8abf5, .initialized RJx4a65c, .code yJx4a65c_size_8abf5 cJx4a65c_size_8abf5 1 (some .int), .fieldLink RJx4a65c 48 "java/util/ArrayList" "size" "I"] ++ wsX50 ++ wsJx4a65c0)
def wsX5_isReturn : List Cond := .code yX5_isReturn cX5_isReturn 2 (some .boolean) :: ([.fieldLink RX5 27 "ClearingFiles$Output" "returns" "I"] ++ wsX50)
def wsJ3_checkIndex_8e157 : List Cond := .code yJ3_checkIndex_8e157 cJ3_checkIndex_8e157 3 (some .int) :: ([])
def wsJ15_checkIndex_7cf53 : List Cond := .code yJ15_checkIndex_7cf53 cJ15_checkIndex_7cf53 2 (some .int) :: ([.methodLink RJ15 105 yJ3_checkIndex_8e157, .static yJ3_checkIndex_8e157, .initialized RJ3, .code yJ3_checkIndex_8e157 cJ3_checkIndex_8e157 3 (some .int)])
def wsJx4a65c_elementData_915e3 : List Cond := .code yJx4a65c_elementData_915e3 cJx4a65c_elementData_915e3 2 (some (.object "java/lang/Object")) :: ([.fieldLink RJx4a65c 9 "java/util/ArrayList" "elementData" "[Ljava/lang/Object;"] ++ wsJx4a65c0)
def wsJx4a65c_get_915e3 : List Cond := .code yJx4a65c_get_915e3 cJx4a65c_get_915e3 2 (some (.object "java/lang/Object")) :: ([.fieldLink RJx4a65c 48 "java/util/ArrayList" "size" "I", .methodLink RJx4a65c 118 yJ15_checkIndex_7cf53, .static yJ15_checkIndex_7cf53, .initialized RJ15, .code yJ15_checkIndex_7cf53 cJ15_checkIndex_7cf53 2 (some .int), .methodLink RJ15 105 yJ3_checkIndex_8e157, .static yJ3_checkIndex_8e157, .initialized RJ3, .code yJ3_checkIndex_8e157 cJ3_checkIndex_8e157 3 (some .int), .methodLink RJx4a65c 123 yJx4a65c_elementData_915e3, .instanceMethod yJx4a65c_elementData_915e3, .selects RJx4a65c yJx4a65c_elementData_915e3 yJx4a65c_elementData_915e3, .initialized RJx4a65c, .code yJx4a65c_elementData_915e3 cJx4a65c_elementData_915e3 2 (some (.object "java/lang/Object")), .fieldLink RJx4a65c 9 "java/util/ArrayList" "elementData" "[Ljava/lang/Object;"] ++ wsJx4a65c0)
def wsX5_stateOf_r1 : List Cond := [Cond.fieldLink RX5 31 "ClearingFiles$Output" "done" "I", Cond.fieldLink RX5 10 "ClearingFiles$Output" "entries" "Ljava/util/ArrayList;", Cond.classLink RX5 46 "ClearingFiles$Entry", Cond.fieldLink RX5 48 "ClearingFiles$Entry" "reason" "I", Cond.methodLink RX5 38 yX5_isReturn, Cond.instanceMethod yX5_isReturn, Cond.selects RX5 yX5_isReturn yX5_isReturn, Cond.initialized RX5, Cond.code yX5_isReturn cX5_isReturn 2 (some .boolean), Cond.fieldLink RX5 27 "ClearingFiles$Output" "returns" "I", Cond.methodLink RX5 42 yJx4a65c_get_915e3, Cond.instanceMethod yJx4a65c_get_915e3, Cond.selects RJx4a65c yJx4a65c_get_915e3 yJx4a65c_get_915e3, Cond.initialized RJx4a65c, Cond.code yJx4a65c_get_915e3 cJx4a65c_get_915e3 2 (some (.object "java/lang/Object")), Cond.fieldLink RJx4a65c 48 "java/util/ArrayList" "size" "I", Cond.methodLink RJx4a65c 118 yJ15_checkIndex_7cf53, Cond.static yJ15_checkIndex_7cf53, Cond.initialized RJ15, Cond.code yJ15_checkIndex_7cf53 cJ15_checkIndex_7cf53 2 (some .int), Cond.methodLink RJ15 105 yJ3_checkIndex_8e157, Cond.static yJ3_checkIndex_8e157, Cond.initialized RJ3, Cond.code yJ3_checkIndex_8e157 cJ3_checkIndex_8e157 3 (some .int)]
def wsX5_stateOf_r2 : List Cond := [Cond.methodLink RJx4a65c 123 yJx4a65c_elementData_915e3, Cond.instanceMethod yJx4a65c_elementData_915e3, Cond.selects RJx4a65c yJx4a65c_elementData_915e3 yJx4a65c_elementData_915e3, Cond.code yJx4a65c_elementData_915e3 cJx4a65c_elementData_915e3 2 (some (.object "java/lang/Object")), Cond.fieldLink RJx4a65c 9 "java/util/ArrayList" "elementData" "[Ljava/lang/Object;"]
def wsX5_stateOf : List Cond := .code yX5_stateOf cX5_stateOf 2 (some .int) :: ((wsX5_stateOf_r1 ++ wsX5_stateOf_r2) ++ wsX50 ++ wsX30 ++ wsJx4a65c0)
def wsX5_addReturn_r1 : List Cond := [Cond.fieldLink RX5 10 "ClearingFiles$Output" "entries" "Ljava/util/ArrayList;", Cond.fieldLink RX5 19 "ClearingFiles$Output" "totals" "LClearingFiles$Totals;", Cond.fieldLink RX5 27 "ClearingFiles$Output" "returns" "I", Cond.methodLink RX5 51 yJx4a65c_add_9ea2d, Cond.instanceMethod yJx4a65c_add_9ea2d, Cond.selects RJx4a65c yJx4a65c_add_9ea2d yJx4a65c_add_9ea2d, Cond.initialized RJx4a65c, Cond.code yJx4a65c_add_9ea2d cJx4a65c_add_9ea2d 2 (some .boolean), Cond.fieldLink RJx4a65c 63 "java/util/ArrayList" "modCount" "I", Cond.sameField "java/util/ArrayList" "java/util/AbstractList" "modCount" "I", Cond.fieldLink RJx4a65c 9 "java/util/ArrayList" "elementData" "[Ljava/lang/Object;", Cond.fieldLink RJx4a65c 48 "java/util/ArrayList" "size" "I", Cond.methodLink RJx4a65c 131 yJx4a65c_add_72be8, Cond.instanceMethod yJx4a65c_add_72be8, Cond.selects RJx4a65c yJx4a65c_add_72be8 yJx4a65c_add_72be8, Cond.code yJx4a65c_add_72be8 cJx4a65c_add_72be8 4 none, Cond.methodLink RJx4a65c 129 yJx4a65c_grow_d5877, Cond.instanceMethod yJx4a65c_grow_d5877, Cond.selects RJx4a65c yJx4a65c_grow_d5877 yJx4a65c_grow_d5877, Cond.code yJx4a65c_grow_d5877 cJx4a65c_grow_d5877 1 (some (.array (.object "java/lang/Object"))), Cond.methodLink RJx4a65c 69 yJx4a65c_grow_92f84, Cond.instanceMethod yJx4a65c_grow_92f84, Cond.selects RJx4a65c yJx4a65c_grow_92f84 yJx4a65c_grow_92f84, Cond.code yJx4a65c_grow_92f84 cJx4a65c_grow_92f84 4 (some (.array (.object "java/lang/Object")))]
def wsX5_addReturn_r2 : List Cond := [Cond.fieldLink RJx4a65c 39 "java/util/ArrayList" "DEFAULTCAPACITY_EMPTY_ELEMENTDATA" "[Ljava/lang/Object;", Cond.methodLink RJx4a65c 79 Lib.Math.max.name, Cond.static Lib.Math.max.name, Cond.initialized "java/lang/Math", Cond.code Lib.Math.max.name Lib.Math.max.code 2 (some .int), Cond.classLink RJx4a65c 7 "java/lang/Object", Cond.methodLink RJx4a65c 73 yJ8_newLength_cabcc, Cond.static yJ8_newLength_cabcc, Cond.initialized RJ8, Cond.code yJ8_newLength_cabcc cJ8_newLength_cabcc 4 (some .int), Cond.methodLink RJ8 194 Lib.Math.max.name, Cond.constant RJ8 200 (2147483639), Cond.methodLink RJ8 201 yJ8_hugeLength_7cf53, Cond.static yJ8_hugeLength_7cf53, Cond.code yJ8_hugeLength_7cf53 cJ8_hugeLength_7cf53 3 (some .int), Cond.methodLink RJx4a65c 66 yJ7_copyOf_1904c, Cond.static yJ7_copyOf_1904c, Cond.initialized RJ7, Cond.code yJ7_copyOf_1904c cJ7_copyOf_1904c 2 (some (.array (.object "java/lang/Object"))), Cond.methodLink RJ7 86 ⟨"java/lang/Object", "getClass", "()Ljava/lang/Class;"⟩, Cond.selects "[Ljava/lang/Object;" ⟨"java/lang/Object", "getClass", "()Ljava/lang/Class;"⟩ ⟨"java/lang/Object", "getClass", "()Ljava/lang/Class;"⟩, Cond.instanceMethod ⟨"java/lang/Object", "getClass", "()Ljava/lang/Class;"⟩, Cond.native ⟨"java/lang/Object", "getClass", "()Ljava/lang/Class;"⟩, Cond.methodLink RJ7 300 yJ7_copyOf_6403c]
def wsX5_addReturn_r3 : List Cond := [Cond.static yJ7_copyOf_6403c, Cond.code yJ7_copyOf_6403c cJ7_copyOf_6403c 4 (some (.array (.object "java/lang/Object"))), Cond.classLink RJ7 110 "[Ljava/lang/Object;", Cond.classLink RJ7 2 "java/lang/Object", Cond.methodLink RJ7 304 Lib.Math.min.name, Cond.static Lib.Math.min.name, Cond.code Lib.Math.min.name Lib.Math.min.code 2 (some .int), Cond.methodLink RJ7 150 arraycopyName, Cond.native arraycopyName, Cond.static arraycopyName, Cond.initialized "java/lang/System", Cond.methodLink RX5 55 yX6_add, Cond.instanceMethod yX6_add, Cond.selects RX6 yX6_add yX6_add, Cond.initialized RX6, Cond.code yX6_add cX6_add 2 none, Cond.fieldLink RX6 9 "ClearingFiles$Totals" "count" "J", Cond.fieldLink RX6 15 "ClearingFiles$Totals" "hash" "J", Cond.fieldLink RX6 24 "ClearingFiles$Entry" "routing" "I", Cond.fieldLink RX6 30 "ClearingFiles$Entry" "code" "I", Cond.fieldLink RX6 18 "ClearingFiles$Totals" "debits" "J", Cond.fieldLink RX6 33 "ClearingFiles$Entry" "amount" "I", Cond.fieldLink RX6 21 "ClearingFiles$Totals" "credits" "J"]
def wsX5_addReturn : List Cond := .code yX5_addReturn cX5_addReturn 2 none :: ((wsX5_addReturn_r1 ++ (wsX5_addReturn_r2 ++ wsX5_addReturn_r3)) ++ wsX50 ++ wsJx4a65c0 ++ wsX60 ++ wsX30)
def wsJx4a65c_rangeCheckForAdd_d00df : List Cond := .code yJx4a65c_rangeCheckForAdd_d00df cJx4a65c_rangeCheckForAdd_d00df 2 none :: ([.fieldLink RJx4a65c 48 "java/util/ArrayList" "size" "I"] ++ wsJx4a65c0)
def wsJx4a65c_add_7a177_r1 : List Cond := [Cond.fieldLink RJx4a65c 63 "java/util/ArrayList" "modCount" "I", Cond.sameField "java/util/ArrayList" "java/util/AbstractList" "modCount" "I", Cond.fieldLink RJx4a65c 48 "java/util/ArrayList" "size" "I", Cond.fieldLink RJx4a65c 9 "java/util/ArrayList" "elementData" "[Ljava/lang/Object;", Cond.methodLink RJx4a65c 112 arraycopyName, Cond.native arraycopyName, Cond.static arraycopyName, Cond.initialized "java/lang/System", Cond.methodLink RJx4a65c 135 yJx4a65c_rangeCheckForAdd_d00df, Cond.instanceMethod yJx4a65c_rangeCheckForAdd_d00df, Cond.selects RJx4a65c yJx4a65c_rangeCheckForAdd_d00df yJx4a65c_rangeCheckForAdd_d00df, Cond.initialized RJx4a65c, Cond.code yJx4a65c_rangeCheckForAdd_d00df cJx4a65c_rangeCheckForAdd_d00df 2 none, Cond.methodLink RJx4a65c 129 yJx4a65c_grow_d5877, Cond.instanceMethod yJx4a65c_grow_d5877, Cond.selects RJx4a65c yJx4a65c_grow_d5877 yJx4a65c_grow_d5877, Cond.code yJx4a65c_grow_d5877 cJx4a65c_grow_d5877 1 (some (.array (.object "java/lang/Object"))), Cond.methodLink RJx4a65c 69 yJx4a65c_grow_92f84, Cond.instanceMethod yJx4a65c_grow_92f84, Cond.selects RJx4a65c yJx4a65c_grow_92f84 yJx4a65c_grow_92f84, Cond.code yJx4a65c_grow_92f84 cJx4a65c_grow_92f84 4 (some (.array (.object "java/lang/Object"))), Cond.fieldLink RJx4a65c 39 "java/util/ArrayList" "DEFAULTCAPACITY_EMPTY_ELEMENTDATA" "[Ljava/lang/Object;", Cond.methodLink RJx4a65c 79 Lib.Math.max.name, Cond.static Lib.Math.max.name]
def wsJx4a65c_add_7a177_r2 : List Cond := [Cond.initialized "java/lang/Math", Cond.code Lib.Math.max.name Lib.Math.max.code 2 (some .int), Cond.classLink RJx4a65c 7 "java/lang/Object", Cond.methodLink RJx4a65c 73 yJ8_newLength_cabcc, Cond.static yJ8_newLength_cabcc, Cond.initialized RJ8, Cond.code yJ8_newLength_cabcc cJ8_newLength_cabcc 4 (some .int), Cond.methodLink RJ8 194 Lib.Math.max.name, Cond.constant RJ8 200 (2147483639), Cond.methodLink RJ8 201 yJ8_hugeLength_7cf53, Cond.static yJ8_hugeLength_7cf53, Cond.code yJ8_hugeLength_7cf53 cJ8_hugeLength_7cf53 3 (some .int), Cond.methodLink RJx4a65c 66 yJ7_copyOf_1904c, Cond.static yJ7_copyOf_1904c, Cond.initialized RJ7, Cond.code yJ7_copyOf_1904c cJ7_copyOf_1904c 2 (some (.array (.object "java/lang/Object"))), Cond.methodLink RJ7 86 ⟨"java/lang/Object", "getClass", "()Ljava/lang/Class;"⟩, Cond.selects "[Ljava/lang/Object;" ⟨"java/lang/Object", "getClass", "()Ljava/lang/Class;"⟩ ⟨"java/lang/Object", "getClass", "()Ljava/lang/Class;"⟩, Cond.instanceMethod ⟨"java/lang/Object", "getClass", "()Ljava/lang/Class;"⟩, Cond.native ⟨"java/lang/Object", "getClass", "()Ljava/lang/Class;"⟩, Cond.methodLink RJ7 300 yJ7_copyOf_6403c, Cond.static yJ7_copyOf_6403c, Cond.code yJ7_copyOf_6403c cJ7_copyOf_6403c 4 (some (.array (.object "java/lang/Object"))), Cond.classLink RJ7 110 "[Ljava/lang/Object;"]
def wsJx4a65c_add_7a177_r3 : List Cond := [Cond.classLink RJ7 2 "java/lang/Object", Cond.methodLink RJ7 304 Lib.Math.min.name, Cond.static Lib.Math.min.name, Cond.code Lib.Math.min.name Lib.Math.min.code 2 (some .int), Cond.methodLink RJ7 150 arraycopyName]
def wsJx4a65c_add_7a177 : List Cond := .code yJx4a65c_add_7a177 cJx4a65c_add_7a177 5 none :: ((wsJx4a65c_add_7a177_r1 ++ (wsJx4a65c_add_7a177_r2 ++ wsJx4a65c_add_7a177_r3)) ++ wsJx4a65c0)
def wsX5_addEntry_r1 : List Cond := [Cond.fieldLink RX5 10 "ClearingFiles$Output" "entries" "Ljava/util/ArrayList;", Cond.fieldLink RX5 27 "ClearingFiles$Output" "returns" "I", Cond.classLink RX5 46 "ClearingFiles$Entry", Cond.fieldLink RX5 19 "ClearingFiles$Output" "totals" "LClearingFiles$Totals;", Cond.methodLink RX5 34 yJx4a65c_size_8abf5, Cond.instanceMethod yJx4a65c_size_8abf5, Cond.selects RJx4a65c yJx4a65c_size_8abf5 yJx4a65c_size_8abf5, Cond.initialized RJx4a65c, Cond.code yJx4a65c_size_8abf5 cJx4a65c_size_8abf5 1 (some .int), Cond.fieldLink RJx4a65c 48 "java/util/ArrayList" "size" "I", Cond.methodLink RX5 42 yJx4a65c_get_915e3, Cond.instanceMethod yJx4a65c_get_915e3, Cond.selects RJx4a65c yJx4a65c_get_915e3 yJx4a65c_get_915e3, Cond.code yJx4a65c_get_915e3 cJx4a65c_get_915e3 2 (some (.object "java/lang/Object")), Cond.methodLink RJx4a65c 118 yJ15_checkIndex_7cf53, Cond.static yJ15_checkIndex_7cf53, Cond.initialized RJ15, Cond.code yJ15_checkIndex_7cf53 cJ15_checkIndex_7cf53 2 (some .int), Cond.methodLink RJ15 105 yJ3_checkIndex_8e157, Cond.static yJ3_checkIndex_8e157, Cond.initialized RJ3, Cond.code yJ3_checkIndex_8e157 cJ3_checkIndex_8e157 3 (some .int), Cond.methodLink RJx4a65c 123 yJx4a65c_elementData_915e3, Cond.instanceMethod yJx4a65c_elementData_915e3]
def wsX5_addEntry_r2 : List Cond := [Cond.selects RJx4a65c yJx4a65c_elementData_915e3 yJx4a65c_elementData_915e3, Cond.code yJx4a65c_elementData_915e3 cJx4a65c_elementData_915e3 2 (some (.object "java/lang/Object")), Cond.fieldLink RJx4a65c 9 "java/util/ArrayList" "elementData" "[Ljava/lang/Object;", Cond.methodLink RX5 58 yX3_goesBefore, Cond.instanceMethod yX3_goesBefore, Cond.selects RX3 yX3_goesBefore yX3_goesBefore, Cond.initialized RX3, Cond.code yX3_goesBefore cX3_goesBefore 2 (some .boolean), Cond.fieldLink RX3 7 "ClearingFiles$Entry" "day" "I", Cond.fieldLink RX3 13 "ClearingFiles$Entry" "originator" "LClearingFiles$Bank;", Cond.fieldLink RX3 17 "ClearingFiles$Bank" "number" "I", Cond.methodLink RX5 62 yJx4a65c_add_7a177, Cond.instanceMethod yJx4a65c_add_7a177, Cond.selects RJx4a65c yJx4a65c_add_7a177 yJx4a65c_add_7a177, Cond.code yJx4a65c_add_7a177 cJx4a65c_add_7a177 5 none, Cond.fieldLink RJx4a65c 63 "java/util/ArrayList" "modCount" "I", Cond.sameField "java/util/ArrayList" "java/util/AbstractList" "modCount" "I", Cond.methodLink RJx4a65c 112 arraycopyName, Cond.native arraycopyName, Cond.static arraycopyName, Cond.initialized "java/lang/System", Cond.methodLink RJx4a65c 135 yJx4a65c_rangeCheckForAdd_d00df, Cond.instanceMethod yJx4a65c_rangeCheckForAdd_d00df, Cond.selects RJx4a65c yJx4a65c_rangeCheckForAdd_d00df yJx4a65c_rangeCheckForAdd_d00df]
def wsX5_addEntry_r3 : List Cond := [Cond.code yJx4a65c_rangeCheckForAdd_d00df cJx4a65c_rangeCheckForAdd_d00df 2 none, Cond.methodLink RJx4a65c 129 yJx4a65c_grow_d5877, Cond.instanceMethod yJx4a65c_grow_d5877, Cond.selects RJx4a65c yJx4a65c_grow_d5877 yJx4a65c_grow_d5877, Cond.code yJx4a65c_grow_d5877 cJx4a65c_grow_d5877 1 (some (.array (.object "java/lang/Object"))), Cond.methodLink RJx4a65c 69 yJx4a65c_grow_92f84, Cond.instanceMethod yJx4a65c_grow_92f84, Cond.selects RJx4a65c yJx4a65c_grow_92f84 yJx4a65c_grow_92f84, Cond.code yJx4a65c_grow_92f84 cJx4a65c_grow_92f84 4 (some (.array (.object "java/lang/Object"))), Cond.fieldLink RJx4a65c 39 "java/util/ArrayList" "DEFAULTCAPACITY_EMPTY_ELEMENTDATA" "[Ljava/lang/Object;", Cond.methodLink RJx4a65c 79 Lib.Math.max.name, Cond.static Lib.Math.max.name, Cond.initialized "java/lang/Math", Cond.code Lib.Math.max.name Lib.Math.max.code 2 (some .int), Cond.classLink RJx4a65c 7 "java/lang/Object", Cond.methodLink RJx4a65c 73 yJ8_newLength_cabcc, Cond.static yJ8_newLength_cabcc, Cond.initialized RJ8, Cond.code yJ8_newLength_cabcc cJ8_newLength_cabcc 4 (some .int), Cond.methodLink RJ8 194 Lib.Math.max.name, Cond.constant RJ8 200 (2147483639), Cond.methodLink RJ8 201 yJ8_hugeLength_7cf53, Cond.static yJ8_hugeLength_7cf53, Cond.code yJ8_hugeLength_7cf53 cJ8_hugeLength_7cf53 3 (some .int)]
def wsX5_addEntry_r4 : List Cond := [Cond.methodLink RJx4a65c 66 yJ7_copyOf_1904c, Cond.static yJ7_copyOf_1904c, Cond.initialized RJ7, Cond.code yJ7_copyOf_1904c cJ7_copyOf_1904c 2 (some (.array (.object "java/lang/Object"))), Cond.methodLink RJ7 86 ⟨"java/lang/Object", "getClass", "()Ljava/lang/Class;"⟩, Cond.selects "[Ljava/lang/Object;" ⟨"java/lang/Object", "getClass", "()Ljava/lang/Class;"⟩ ⟨"java/lang/Object", "getClass", "()Ljava/lang/Class;"⟩, Cond.instanceMethod ⟨"java/lang/Object", "getClass", "()Ljava/lang/Class;"⟩, Cond.native ⟨"java/lang/Object", "getClass", "()Ljava/lang/Class;"⟩, Cond.methodLink RJ7 300 yJ7_copyOf_6403c, Cond.static yJ7_copyOf_6403c, Cond.code yJ7_copyOf_6403c cJ7_copyOf_6403c 4 (some (.array (.object "java/lang/Object"))), Cond.classLink RJ7 110 "[Ljava/lang/Object;", Cond.classLink RJ7 2 "java/lang/Object", Cond.methodLink RJ7 304 Lib.Math.min.name, Cond.static Lib.Math.min.name, Cond.code Lib.Math.min.name Lib.Math.min.code 2 (some .int), Cond.methodLink RJ7 150 arraycopyName, Cond.methodLink RX5 55 yX6_add, Cond.instanceMethod yX6_add, Cond.selects RX6 yX6_add yX6_add, Cond.initialized RX6, Cond.code yX6_add cX6_add 2 none, Cond.fieldLink RX6 9 "ClearingFiles$Totals" "count" "J", Cond.fieldLink RX6 15 "ClearingFiles$Totals" "hash" "J"]
def wsX5_addEntry_r5 : List Cond := [Cond.fieldLink RX6 24 "ClearingFiles$Entry" "routing" "I", Cond.fieldLink RX6 30 "ClearingFiles$Entry" "code" "I", Cond.fieldLink RX6 18 "ClearingFiles$Totals" "debits" "J", Cond.fieldLink RX6 33 "ClearingFiles$Entry" "amount" "I", Cond.fieldLink RX6 21 "ClearingFiles$Totals" "credits" "J"]
def wsX5_addEntry : List Cond := .code yX5_addEntry cX5_addEntry 3 none :: ((wsX5_addEntry_r1 ++ (wsX5_addEntry_r2 ++ (wsX5_addEntry_r3 ++ (wsX5_addEntry_r4 ++ wsX5_addEntry_r5)))) ++ wsX50 ++ wsJx4a65c0 ++ wsX30 ++ wsX10 ++ wsX60)
def wsX6_are : List Cond := .code yX6_are cX6_are 5 (some .boolean) :: ([.fieldLink RX6 9 "ClearingFiles$Totals" "count" "J", .fieldLink RX6 15 "ClearingFiles$Totals" "hash" "J", .fieldLink RX6 18 "ClearingFiles$Totals" "debits" "J", .fieldLink RX6 21 "ClearingFiles$Totals" "credits" "J"] ++ wsX60)
def wsX7_init_r1 : List Cond := [Cond.methodLink RX7 1 objectInit, Cond.instanceMethod objectInit, Cond.code objectInit ⟨#[0xb1]⟩ 1 none, Cond.classLink RX7 7 RJx4a65c, Cond.instantiable RJx4a65c 3, Cond.initialized RJx4a65c, Cond.fieldLink RX7 10 "ClearingFiles" "banks" "Ljava/util/ArrayList;", Cond.fieldLink RX7 16 "ClearingFiles" "accounts" "Ljava/util/ArrayList;", Cond.classLink RX7 19 RX4, Cond.instantiable RX4 8, Cond.initialized RX4, Cond.fieldLink RX7 22 "ClearingFiles" "file" "LClearingFiles$Incoming;", Cond.arrayClass .int, Cond.fieldLink RX7 26 "ClearingFiles" "acceptedFiles" "[I", Cond.fieldLink RX7 30 "ClearingFiles" "acceptedCount" "I", Cond.fieldLink RX7 34 "ClearingFiles" "refusals" "[I", Cond.fieldLink RX7 37 "ClearingFiles" "today" "I", Cond.methodLink RX7 9 yJx4a65c_init_da8c8, Cond.instanceMethod yJx4a65c_init_da8c8, Cond.code yJx4a65c_init_da8c8 cJx4a65c_init_da8c8 1 none, Cond.fieldLink RJx4a65c 39 "java/util/ArrayList" "DEFAULTCAPACITY_EMPTY_ELEMENTDATA" "[Ljava/lang/Object;", Cond.fieldLink RJx4a65c 9 "java/util/ArrayList" "elementData" "[Ljava/lang/Object;", Cond.methodLink RJx4a65c 1 yJxc12de_init_da8c8, Cond.instanceMethod yJxc12de_init_da8c8]
def wsX7_init_r2 : List Cond := [Cond.initialized RJxc12de, Cond.code yJxc12de_init_da8c8 cJxc12de_init_da8c8 1 none, Cond.fieldLink RJxc12de 7 "java/util/AbstractList" "modCount" "I", Cond.methodLink RJxc12de 1 yJxa1e45_init_da8c8, Cond.instanceMethod yJxa1e45_init_da8c8, Cond.initialized RJxa1e45, Cond.code yJxa1e45_init_da8c8 cJxa1e45_init_da8c8 1 none, Cond.methodLink RJxa1e45 1 objectInit, Cond.methodLink RX7 21 yX4_init, Cond.instanceMethod yX4_init, Cond.code yX4_init cX4_init 2 none, Cond.methodLink RX4 3 objectInit, Cond.classLink RX4 9 RX2, Cond.fieldLink RX4 11 "ClearingFiles$Incoming" "batches" "[LClearingFiles$Batch;", Cond.classLink RX4 17 RX6, Cond.instantiable RX6 4, Cond.initialized RX6, Cond.fieldLink RX4 20 "ClearingFiles$Incoming" "totals" "LClearingFiles$Totals;", Cond.instantiable RX2 9, Cond.initialized RX2, Cond.fieldLink RX4 25 "ClearingFiles$Incoming" "current" "LClearingFiles$Batch;", Cond.instanceMethod yX6_init, Cond.code yX6_init cX6_init 1 none, Cond.methodLink RX6 3 objectInit]
def wsX7_init_r3 : List Cond := [Cond.instanceMethod yX2_init, Cond.code yX2_init cX2_init 1 none, Cond.methodLink RX2 1 objectInit, Cond.classLink RX2 7 RJx4a65c, Cond.fieldLink RX2 10 "ClearingFiles$Batch" "entries" "Ljava/util/ArrayList;", Cond.classLink RX2 16 RX6, Cond.fieldLink RX2 19 "ClearingFiles$Batch" "totals" "LClearingFiles$Totals;", Cond.methodLink RX2 9 yJx4a65c_init_da8c8]
def wsX7_init : List Cond := .code yX7_init cX7_init 1 none :: ((wsX7_init_r1 ++ (wsX7_init_r2 ++ wsX7_init_r3)) ++ wsJx4a65c0 ++ wsX70 ++ wsX40 ++ wsX60 ++ wsX20)
def wsX7_isRight : List Cond := .code yX7_isRight cX7_isRight 5 (some .boolean) :: ([.fieldLink RX7 221 "ClearingFiles" "WEIGHTS" "[I"])
def wsX7_bankWithRouting_r1 : List Cond := [Cond.fieldLink RX7 10 "ClearingFiles" "banks" "Ljava/util/ArrayList;", Cond.classLink RX7 52 "ClearingFiles$Bank", Cond.fieldLink RX7 224 "ClearingFiles$Bank" "routing" "I", Cond.methodLink RX7 48 yJx4a65c_size_8abf5, Cond.instanceMethod yJx4a65c_size_8abf5, Cond.selects RJx4a65c yJx4a65c_size_8abf5 yJx4a65c_size_8abf5, Cond.initialized RJx4a65c, Cond.code yJx4a65c_size_8abf5 cJx4a65c_size_8abf5 1 (some .int), Cond.fieldLink RJx4a65c 48 "java/util/ArrayList" "size" "I", Cond.methodLink RX7 147 yJx4a65c_get_915e3, Cond.instanceMethod yJx4a65c_get_915e3, Cond.selects RJx4a65c yJx4a65c_get_915e3 yJx4a65c_get_915e3, Cond.code yJx4a65c_get_915e3 cJx4a65c_get_915e3 2 (some (.object "java/lang/Object")), Cond.methodLink RJx4a65c 118 yJ15_checkIndex_7cf53, Cond.static yJ15_checkIndex_7cf53, Cond.initialized RJ15, Cond.code yJ15_checkIndex_7cf53 cJ15_checkIndex_7cf53 2 (some .int), Cond.methodLink RJ15 105 yJ3_checkIndex_8e157, Cond.static yJ3_checkIndex_8e157, Cond.initialized RJ3, Cond.code yJ3_checkIndex_8e157 cJ3_checkIndex_8e157 3 (some .int), Cond.methodLink RJx4a65c 123 yJx4a65c_elementData_915e3, Cond.instanceMethod yJx4a65c_elementData_915e3, Cond.selects RJx4a65c yJx4a65c_elementData_915e3 yJx4a65c_elementData_915e3]
def wsX7_bankWithRouting_r2 : List Cond := [Cond.code yJx4a65c_elementData_915e3 cJx4a65c_elementData_915e3 2 (some (.object "java/lang/Object")), Cond.fieldLink RJx4a65c 9 "java/util/ArrayList" "elementData" "[Ljava/lang/Object;"]
def wsX7_bankWithRouting : List Cond := .code yX7_bankWithRouting cX7_bankWithRouting 3 (some (.object "ClearingFiles$Bank")) :: ((wsX7_bankWithRouting_r1 ++ wsX7_bankWithRouting_r2) ++ wsX70 ++ wsX10 ++ wsJx4a65c0)
def wsX7_join_r1 : List Cond := [Cond.fieldLink RX7 10 "ClearingFiles" "banks" "Ljava/util/ArrayList;", Cond.classLink RX7 52 RX1, Cond.instantiable RX1 6, Cond.initialized RX1, Cond.methodLink RX7 40 yX7_isRight, Cond.static yX7_isRight, Cond.initialized RX7, Cond.code yX7_isRight cX7_isRight 5 (some .boolean), Cond.fieldLink RX7 221 "ClearingFiles" "WEIGHTS" "[I", Cond.methodLink RX7 44 yX7_bankWithRouting, Cond.instanceMethod yX7_bankWithRouting, Cond.selects RX7 yX7_bankWithRouting yX7_bankWithRouting, Cond.code yX7_bankWithRouting cX7_bankWithRouting 3 (some (.object "ClearingFiles$Bank")), Cond.classLink RX7 52 "ClearingFiles$Bank", Cond.fieldLink RX7 224 "ClearingFiles$Bank" "routing" "I", Cond.methodLink RX7 48 yJx4a65c_size_8abf5, Cond.instanceMethod yJx4a65c_size_8abf5, Cond.selects RJx4a65c yJx4a65c_size_8abf5 yJx4a65c_size_8abf5, Cond.initialized RJx4a65c, Cond.code yJx4a65c_size_8abf5 cJx4a65c_size_8abf5 1 (some .int), Cond.fieldLink RJx4a65c 48 "java/util/ArrayList" "size" "I", Cond.methodLink RX7 147 yJx4a65c_get_915e3, Cond.instanceMethod yJx4a65c_get_915e3, Cond.selects RJx4a65c yJx4a65c_get_915e3 yJx4a65c_get_915e3]
def wsX7_join_r2 : List Cond := [Cond.code yJx4a65c_get_915e3 cJx4a65c_get_915e3 2 (some (.object "java/lang/Object")), Cond.methodLink RJx4a65c 118 yJ15_checkIndex_7cf53, Cond.static yJ15_checkIndex_7cf53, Cond.initialized RJ15, Cond.code yJ15_checkIndex_7cf53 cJ15_checkIndex_7cf53 2 (some .int), Cond.methodLink RJ15 105 yJ3_checkIndex_8e157, Cond.static yJ3_checkIndex_8e157, Cond.initialized RJ3, Cond.code yJ3_checkIndex_8e157 cJ3_checkIndex_8e157 3 (some .int), Cond.methodLink RJx4a65c 123 yJx4a65c_elementData_915e3, Cond.instanceMethod yJx4a65c_elementData_915e3, Cond.selects RJx4a65c yJx4a65c_elementData_915e3 yJx4a65c_elementData_915e3, Cond.code yJx4a65c_elementData_915e3 cJx4a65c_elementData_915e3 2 (some (.object "java/lang/Object")), Cond.fieldLink RJx4a65c 9 "java/util/ArrayList" "elementData" "[Ljava/lang/Object;", Cond.methodLink RX7 54 yX1_init, Cond.instanceMethod yX1_init, Cond.code yX1_init cX1_init 3 none, Cond.methodLink RX1 1 objectInit, Cond.instanceMethod objectInit, Cond.code objectInit ⟨#[0xb1]⟩ 1 none, Cond.classLink RX1 7 RJx4a65c, Cond.instantiable RJx4a65c 3, Cond.fieldLink RX1 10 "ClearingFiles$Bank" "entries" "Ljava/util/ArrayList;", Cond.fieldLink RX1 16 "ClearingFiles$Bank" "returns" "Ljava/util/ArrayList;"]
def wsX7_join_r3 : List Cond := [Cond.classLink RX1 19 RX5, Cond.instantiable RX5 4, Cond.initialized RX5, Cond.fieldLink RX1 22 "ClearingFiles$Bank" "output" "LClearingFiles$Output;", Cond.fieldLink RX1 26 "ClearingFiles$Bank" "number" "I", Cond.fieldLink RX1 30 "ClearingFiles$Bank" "routing" "I", Cond.methodLink RX1 9 yJx4a65c_init_da8c8, Cond.instanceMethod yJx4a65c_init_da8c8, Cond.code yJx4a65c_init_da8c8 cJx4a65c_init_da8c8 1 none, Cond.fieldLink RJx4a65c 39 "java/util/ArrayList" "DEFAULTCAPACITY_EMPTY_ELEMENTDATA" "[Ljava/lang/Object;", Cond.methodLink RJx4a65c 1 yJxc12de_init_da8c8, Cond.instanceMethod yJxc12de_init_da8c8, Cond.initialized RJxc12de, Cond.code yJxc12de_init_da8c8 cJxc12de_init_da8c8 1 none, Cond.fieldLink RJxc12de 7 "java/util/AbstractList" "modCount" "I", Cond.methodLink RJxc12de 1 yJxa1e45_init_da8c8, Cond.instanceMethod yJxa1e45_init_da8c8, Cond.initialized RJxa1e45, Cond.code yJxa1e45_init_da8c8 cJxa1e45_init_da8c8 1 none, Cond.methodLink RJxa1e45 1 objectInit, Cond.instanceMethod yX5_init, Cond.code yX5_init cX5_init 1 none, Cond.methodLink RX5 1 objectInit, Cond.classLink RX5 7 RJx4a65c]
def wsX7_join_r4 : List Cond := [Cond.fieldLink RX5 10 "ClearingFiles$Output" "entries" "Ljava/util/ArrayList;", Cond.classLink RX5 16 RX6, Cond.instantiable RX6 4, Cond.initialized RX6, Cond.fieldLink RX5 19 "ClearingFiles$Output" "totals" "LClearingFiles$Totals;", Cond.methodLink RX5 9 yJx4a65c_init_da8c8, Cond.instanceMethod yX6_init, Cond.code yX6_init cX6_init 1 none, Cond.methodLink RX6 3 objectInit, Cond.methodLink RX7 57 yJx4a65c_add_9ea2d, Cond.instanceMethod yJx4a65c_add_9ea2d, Cond.selects RJx4a65c yJx4a65c_add_9ea2d yJx4a65c_add_9ea2d, Cond.code yJx4a65c_add_9ea2d cJx4a65c_add_9ea2d 2 (some .boolean), Cond.fieldLink RJx4a65c 63 "java/util/ArrayList" "modCount" "I", Cond.sameField "java/util/ArrayList" "java/util/AbstractList" "modCount" "I", Cond.methodLink RJx4a65c 131 yJx4a65c_add_72be8, Cond.instanceMethod yJx4a65c_add_72be8, Cond.selects RJx4a65c yJx4a65c_add_72be8 yJx4a65c_add_72be8, Cond.code yJx4a65c_add_72be8 cJx4a65c_add_72be8 4 none, Cond.methodLink RJx4a65c 129 yJx4a65c_grow_d5877, Cond.instanceMethod yJx4a65c_grow_d5877, Cond.selects RJx4a65c yJx4a65c_grow_d5877 yJx4a65c_grow_d5877, Cond.code yJx4a65c_grow_d5877 cJx4a65c_grow_d5877 1 (some (.array (.object "java/lang/Object"))), Cond.methodLink RJx4a65c 69 yJx4a65c_grow_92f84]
def wsX7_join_r5 : List Cond := [Cond.instanceMethod yJx4a65c_grow_92f84, Cond.selects RJx4a65c yJx4a65c_grow_92f84 yJx4a65c_grow_92f84, Cond.code yJx4a65c_grow_92f84 cJx4a65c_grow_92f84 4 (some (.array (.object "java/lang/Object"))), Cond.methodLink RJx4a65c 79 Lib.Math.max.name, Cond.static Lib.Math.max.name, Cond.initialized "java/lang/Math", Cond.code Lib.Math.max.name Lib.Math.max.code 2 (some .int), Cond.classLink RJx4a65c 7 "java/lang/Object", Cond.methodLink RJx4a65c 73 yJ8_newLength_cabcc, Cond.static yJ8_newLength_cabcc, Cond.initialized RJ8, Cond.code yJ8_newLength_cabcc cJ8_newLength_cabcc 4 (some .int), Cond.methodLink RJ8 194 Lib.Math.max.name, Cond.constant RJ8 200 (2147483639), Cond.methodLink RJ8 201 yJ8_hugeLength_7cf53, Cond.static yJ8_hugeLength_7cf53, Cond.code yJ8_hugeLength_7cf53 cJ8_hugeLength_7cf53 3 (some .int), Cond.methodLink RJx4a65c 66 yJ7_copyOf_1904c, Cond.static yJ7_copyOf_1904c, Cond.initialized RJ7, Cond.code yJ7_copyOf_1904c cJ7_copyOf_1904c 2 (some (.array (.object "java/lang/Object"))), Cond.methodLink RJ7 86 ⟨"java/lang/Object", "getClass", "()Ljava/lang/Class;"⟩, Cond.selects "[Ljava/lang/Object;" ⟨"java/lang/Object", "getClass", "()Ljava/lang/Class;"⟩ ⟨"java/lang/Object", "getClass", "()Ljava/lang/Class;"⟩, Cond.instanceMethod ⟨"java/lang/Object", "getClass", "()Ljava/lang/Class;"⟩]
def wsX7_join_r6 : List Cond := [Cond.native ⟨"java/lang/Object", "getClass", "()Ljava/lang/Class;"⟩, Cond.methodLink RJ7 300 yJ7_copyOf_6403c, Cond.static yJ7_copyOf_6403c, Cond.code yJ7_copyOf_6403c cJ7_copyOf_6403c 4 (some (.array (.object "java/lang/Object"))), Cond.classLink RJ7 110 "[Ljava/lang/Object;", Cond.classLink RJ7 2 "java/lang/Object", Cond.methodLink RJ7 304 Lib.Math.min.name, Cond.static Lib.Math.min.name, Cond.code Lib.Math.min.name Lib.Math.min.code 2 (some .int), Cond.methodLink RJ7 150 arraycopyName, Cond.native arraycopyName, Cond.static arraycopyName, Cond.initialized "java/lang/System"]
def wsX7_join : List Cond := .code yX7_join cX7_join 3 (some .int) :: ((wsX7_join_r1 ++ (wsX7_join_r2 ++ (wsX7_join_r3 ++ (wsX7_join_r4 ++ (wsX7_join_r5 ++ wsX7_join_r6))))) ++ wsX70 ++ wsX10 ++ wsJx4a65c0 ++ wsX50 ++ wsX60)
def wsX7_bankAt_r1 : List Cond := [Cond.fieldLink RX7 10 "ClearingFiles" "banks" "Ljava/util/ArrayList;", Cond.classLink RX7 52 "ClearingFiles$Bank", Cond.methodLink RX7 48 yJx4a65c_size_8abf5, Cond.instanceMethod yJx4a65c_size_8abf5, Cond.selects RJx4a65c yJx4a65c_size_8abf5 yJx4a65c_size_8abf5, Cond.initialized RJx4a65c, Cond.code yJx4a65c_size_8abf5 cJx4a65c_size_8abf5 1 (some .int), Cond.fieldLink RJx4a65c 48 "java/util/ArrayList" "size" "I", Cond.methodLink RX7 147 yJx4a65c_get_915e3, Cond.instanceMethod yJx4a65c_get_915e3, Cond.selects RJx4a65c yJx4a65c_get_915e3 yJx4a65c_get_915e3, Cond.code yJx4a65c_get_915e3 cJx4a65c_get_915e3 2 (some (.object "java/lang/Object")), Cond.methodLink RJx4a65c 118 yJ15_checkIndex_7cf53, Cond.static yJ15_checkIndex_7cf53, Cond.initialized RJ15, Cond.code yJ15_checkIndex_7cf53 cJ15_checkIndex_7cf53 2 (some .int), Cond.methodLink RJ15 105 yJ3_checkIndex_8e157, Cond.static yJ3_checkIndex_8e157, Cond.initialized RJ3, Cond.code yJ3_checkIndex_8e157 cJ3_checkIndex_8e157 3 (some .int), Cond.methodLink RJx4a65c 123 yJx4a65c_elementData_915e3, Cond.instanceMethod yJx4a65c_elementData_915e3, Cond.selects RJx4a65c yJx4a65c_elementData_915e3 yJx4a65c_elementData_915e3, Cond.code yJx4a65c_elementData_915e3 cJx4a65c_elementData_915e3 2 (some (.object "java/lang/Object"))]
def wsX7_bankAt_r2 : List Cond := [Cond.fieldLink RJx4a65c 9 "java/util/ArrayList" "elementData" "[Ljava/lang/Object;"]
def wsX7_bankAt : List Cond := .code yX7_bankAt cX7_bankAt 2 (some (.object "ClearingFiles$Bank")) :: ((wsX7_bankAt_r1 ++ wsX7_bankAt_r2) ++ wsX70 ++ wsJx4a65c0)
def wsX7_accountOf_r1 : List Cond := [Cond.fieldLink RX7 16 "ClearingFiles" "accounts" "Ljava/util/ArrayList;", Cond.classLink RX7 70 "ClearingFiles$Account", Cond.fieldLink RX7 227 "ClearingFiles$Account" "bank" "LClearingFiles$Bank;", Cond.fieldLink RX7 230 "ClearingFiles$Account" "number" "I", Cond.methodLink RX7 48 yJx4a65c_size_8abf5, Cond.instanceMethod yJx4a65c_size_8abf5, Cond.selects RJx4a65c yJx4a65c_size_8abf5 yJx4a65c_size_8abf5, Cond.initialized RJx4a65c, Cond.code yJx4a65c_size_8abf5 cJx4a65c_size_8abf5 1 (some .int), Cond.fieldLink RJx4a65c 48 "java/util/ArrayList" "size" "I", Cond.methodLink RX7 147 yJx4a65c_get_915e3, Cond.instanceMethod yJx4a65c_get_915e3, Cond.selects RJx4a65c yJx4a65c_get_915e3 yJx4a65c_get_915e3, Cond.code yJx4a65c_get_915e3 cJx4a65c_get_915e3 2 (some (.object "java/lang/Object")), Cond.methodLink RJx4a65c 118 yJ15_checkIndex_7cf53, Cond.static yJ15_checkIndex_7cf53, Cond.initialized RJ15, Cond.code yJ15_checkIndex_7cf53 cJ15_checkIndex_7cf53 2 (some .int), Cond.methodLink RJ15 105 yJ3_checkIndex_8e157, Cond.static yJ3_checkIndex_8e157, Cond.initialized RJ3, Cond.code yJ3_checkIndex_8e157 cJ3_checkIndex_8e157 3 (some .int), Cond.methodLink RJx4a65c 123 yJx4a65c_elementData_915e3, Cond.instanceMethod yJx4a65c_elementData_915e3]
def wsX7_accountOf_r2 : List Cond := [Cond.selects RJx4a65c yJx4a65c_elementData_915e3 yJx4a65c_elementData_915e3, Cond.code yJx4a65c_elementData_915e3 cJx4a65c_elementData_915e3 2 (some (.object "java/lang/Object")), Cond.fieldLink RJx4a65c 9 "java/util/ArrayList" "elementData" "[Ljava/lang/Object;"]
def wsX7_accountOf : List Cond := .code yX7_accountOf cX7_accountOf 5 (some (.object "ClearingFiles$Account")) :: ((wsX7_accountOf_r1 ++ wsX7_accountOf_r2) ++ wsX70 ++ wsX00 ++ wsJx4a65c0)
def wsX7_open_r1 : List Cond := [Cond.constant RX7 64 (999999), Cond.constant RX7 65 (1000000), Cond.fieldLink RX7 16 "ClearingFiles" "accounts" "Ljava/util/ArrayList;", Cond.classLink RX7 70 RX0, Cond.instantiable RX0 4, Cond.initialized RX0, Cond.methodLink RX7 61 yX7_bankAt, Cond.instanceMethod yX7_bankAt, Cond.selects RX7 yX7_bankAt yX7_bankAt, Cond.initialized RX7, Cond.code yX7_bankAt cX7_bankAt 2 (some (.object "ClearingFiles$Bank")), Cond.fieldLink RX7 10 "ClearingFiles" "banks" "Ljava/util/ArrayList;", Cond.classLink RX7 52 "ClearingFiles$Bank", Cond.methodLink RX7 48 yJx4a65c_size_8abf5, Cond.instanceMethod yJx4a65c_size_8abf5, Cond.selects RJx4a65c yJx4a65c_size_8abf5 yJx4a65c_size_8abf5, Cond.initialized RJx4a65c, Cond.code yJx4a65c_size_8abf5 cJx4a65c_size_8abf5 1 (some .int), Cond.fieldLink RJx4a65c 48 "java/util/ArrayList" "size" "I", Cond.methodLink RX7 147 yJx4a65c_get_915e3, Cond.instanceMethod yJx4a65c_get_915e3, Cond.selects RJx4a65c yJx4a65c_get_915e3 yJx4a65c_get_915e3, Cond.code yJx4a65c_get_915e3 cJx4a65c_get_915e3 2 (some (.object "java/lang/Object")), Cond.methodLink RJx4a65c 118 yJ15_checkIndex_7cf53]
def wsX7_open_r2 : List Cond := [Cond.static yJ15_checkIndex_7cf53, Cond.initialized RJ15, Cond.code yJ15_checkIndex_7cf53 cJ15_checkIndex_7cf53 2 (some .int), Cond.methodLink RJ15 105 yJ3_checkIndex_8e157, Cond.static yJ3_checkIndex_8e157, Cond.initialized RJ3, Cond.code yJ3_checkIndex_8e157 cJ3_checkIndex_8e157 3 (some .int), Cond.methodLink RJx4a65c 123 yJx4a65c_elementData_915e3, Cond.instanceMethod yJx4a65c_elementData_915e3, Cond.selects RJx4a65c yJx4a65c_elementData_915e3 yJx4a65c_elementData_915e3, Cond.code yJx4a65c_elementData_915e3 cJx4a65c_elementData_915e3 2 (some (.object "java/lang/Object")), Cond.fieldLink RJx4a65c 9 "java/util/ArrayList" "elementData" "[Ljava/lang/Object;", Cond.methodLink RX7 40 yX7_isRight, Cond.static yX7_isRight, Cond.code yX7_isRight cX7_isRight 5 (some .boolean), Cond.fieldLink RX7 221 "ClearingFiles" "WEIGHTS" "[I", Cond.methodLink RX7 66 yX7_accountOf, Cond.instanceMethod yX7_accountOf, Cond.selects RX7 yX7_accountOf yX7_accountOf, Cond.code yX7_accountOf cX7_accountOf 5 (some (.object "ClearingFiles$Account")), Cond.classLink RX7 70 "ClearingFiles$Account", Cond.fieldLink RX7 227 "ClearingFiles$Account" "bank" "LClearingFiles$Bank;", Cond.fieldLink RX7 230 "ClearingFiles$Account" "number" "I", Cond.methodLink RX7 72 yX0_init]
def wsX7_open_r3 : List Cond := [Cond.instanceMethod yX0_init, Cond.code yX0_init cX0_init 4 none, Cond.methodLink RX0 1 objectInit, Cond.instanceMethod objectInit, Cond.code objectInit ⟨#[0xb1]⟩ 1 none, Cond.fieldLink RX0 7 "ClearingFiles$Account" "bank" "LClearingFiles$Bank;", Cond.fieldLink RX0 13 "ClearingFiles$Account" "number" "I", Cond.fieldLink RX0 17 "ClearingFiles$Account" "balance" "J", Cond.methodLink RX7 57 yJx4a65c_add_9ea2d, Cond.instanceMethod yJx4a65c_add_9ea2d, Cond.selects RJx4a65c yJx4a65c_add_9ea2d yJx4a65c_add_9ea2d, Cond.code yJx4a65c_add_9ea2d cJx4a65c_add_9ea2d 2 (some .boolean), Cond.fieldLink RJx4a65c 63 "java/util/ArrayList" "modCount" "I", Cond.sameField "java/util/ArrayList" "java/util/AbstractList" "modCount" "I", Cond.methodLink RJx4a65c 131 yJx4a65c_add_72be8, Cond.instanceMethod yJx4a65c_add_72be8, Cond.selects RJx4a65c yJx4a65c_add_72be8 yJx4a65c_add_72be8, Cond.code yJx4a65c_add_72be8 cJx4a65c_add_72be8 4 none, Cond.methodLink RJx4a65c 129 yJx4a65c_grow_d5877, Cond.instanceMethod yJx4a65c_grow_d5877, Cond.selects RJx4a65c yJx4a65c_grow_d5877 yJx4a65c_grow_d5877, Cond.code yJx4a65c_grow_d5877 cJx4a65c_grow_d5877 1 (some (.array (.object "java/lang/Object"))), Cond.methodLink RJx4a65c 69 yJx4a65c_grow_92f84, Cond.instanceMethod yJx4a65c_grow_92f84]
def wsX7_open_r4 : List Cond := [Cond.selects RJx4a65c yJx4a65c_grow_92f84 yJx4a65c_grow_92f84, Cond.code yJx4a65c_grow_92f84 cJx4a65c_grow_92f84 4 (some (.array (.object "java/lang/Object"))), Cond.fieldLink RJx4a65c 39 "java/util/ArrayList" "DEFAULTCAPACITY_EMPTY_ELEMENTDATA" "[Ljava/lang/Object;", Cond.methodLink RJx4a65c 79 Lib.Math.max.name, Cond.static Lib.Math.max.name, Cond.initialized "java/lang/Math", Cond.code Lib.Math.max.name Lib.Math.max.code 2 (some .int), Cond.classLink RJx4a65c 7 "java/lang/Object", Cond.methodLink RJx4a65c 73 yJ8_newLength_cabcc, Cond.static yJ8_newLength_cabcc, Cond.initialized RJ8, Cond.code yJ8_newLength_cabcc cJ8_newLength_cabcc 4 (some .int), Cond.methodLink RJ8 194 Lib.Math.max.name, Cond.constant RJ8 200 (2147483639), Cond.methodLink RJ8 201 yJ8_hugeLength_7cf53, Cond.static yJ8_hugeLength_7cf53, Cond.code yJ8_hugeLength_7cf53 cJ8_hugeLength_7cf53 3 (some .int), Cond.methodLink RJx4a65c 66 yJ7_copyOf_1904c, Cond.static yJ7_copyOf_1904c, Cond.initialized RJ7, Cond.code yJ7_copyOf_1904c cJ7_copyOf_1904c 2 (some (.array (.object "java/lang/Object"))), Cond.methodLink RJ7 86 ⟨"java/lang/Object", "getClass", "()Ljava/lang/Class;"⟩, Cond.selects "[Ljava/lang/Object;" ⟨"java/lang/Object", "getClass", "()Ljava/lang/Class;"⟩ ⟨"java/lang/Object", "getClass", "()Ljava/lang/Class;"⟩, Cond.instanceMethod ⟨"java/lang/Object", "getClass", "()Ljava/lang/Class;"⟩]
def wsX7_open_r5 : List Cond := [Cond.native ⟨"java/lang/Object", "getClass", "()Ljava/lang/Class;"⟩, Cond.methodLink RJ7 300 yJ7_copyOf_6403c, Cond.static yJ7_copyOf_6403c, Cond.code yJ7_copyOf_6403c cJ7_copyOf_6403c 4 (some (.array (.object "java/lang/Object"))), Cond.classLink RJ7 110 "[Ljava/lang/Object;", Cond.classLink RJ7 2 "java/lang/Object", Cond.methodLink RJ7 304 Lib.Math.min.name, Cond.static Lib.Math.min.name, Cond.code Lib.Math.min.name Lib.Math.min.code 2 (some .int), Cond.methodLink RJ7 150 arraycopyName, Cond.native arraycopyName, Cond.static arraycopyName, Cond.initialized "java/lang/System"]
def wsX7_open : List Cond := .code yX7_open cX7_open 5 (some .boolean) :: ((wsX7_open_r1 ++ (wsX7_open_r2 ++ (wsX7_open_r3 ++ (wsX7_open_r4 ++ wsX7_open_r5)))) ++ wsX70 ++ wsX00 ++ wsJx4a65c0)
def wsX7_shut_r1 : List Cond := [Cond.fieldLink RX7 75 "ClearingFiles$Account" "isShut" "Z", Cond.methodLink RX7 61 yX7_bankAt, Cond.instanceMethod yX7_bankAt, Cond.selects RX7 yX7_bankAt yX7_bankAt, Cond.initialized RX7, Cond.code yX7_bankAt cX7_bankAt 2 (some (.object "ClearingFiles$Bank")), Cond.fieldLink RX7 10 "ClearingFiles" "banks" "Ljava/util/ArrayList;", Cond.classLink RX7 52 "ClearingFiles$Bank", Cond.methodLink RX7 48 yJx4a65c_size_8abf5, Cond.instanceMethod yJx4a65c_size_8abf5, Cond.selects RJx4a65c yJx4a65c_size_8abf5 yJx4a65c_size_8abf5, Cond.initialized RJx4a65c, Cond.code yJx4a65c_size_8abf5 cJx4a65c_size_8abf5 1 (some .int), Cond.fieldLink RJx4a65c 48 "java/util/ArrayList" "size" "I", Cond.methodLink RX7 147 yJx4a65c_get_915e3, Cond.instanceMethod yJx4a65c_get_915e3, Cond.selects RJx4a65c yJx4a65c_get_915e3 yJx4a65c_get_915e3, Cond.code yJx4a65c_get_915e3 cJx4a65c_get_915e3 2 (some (.object "java/lang/Object")), Cond.methodLink RJx4a65c 118 yJ15_checkIndex_7cf53, Cond.static yJ15_checkIndex_7cf53, Cond.initialized RJ15, Cond.code yJ15_checkIndex_7cf53 cJ15_checkIndex_7cf53 2 (some .int), Cond.methodLink RJ15 105 yJ3_checkIndex_8e157, Cond.static yJ3_checkIndex_8e157]
def wsX7_shut_r2 : List Cond := [Cond.initialized RJ3, Cond.code yJ3_checkIndex_8e157 cJ3_checkIndex_8e157 3 (some .int), Cond.methodLink RJx4a65c 123 yJx4a65c_elementData_915e3, Cond.instanceMethod yJx4a65c_elementData_915e3, Cond.selects RJx4a65c yJx4a65c_elementData_915e3 yJx4a65c_elementData_915e3, Cond.code yJx4a65c_elementData_915e3 cJx4a65c_elementData_915e3 2 (some (.object "java/lang/Object")), Cond.fieldLink RJx4a65c 9 "java/util/ArrayList" "elementData" "[Ljava/lang/Object;", Cond.methodLink RX7 66 yX7_accountOf, Cond.instanceMethod yX7_accountOf, Cond.selects RX7 yX7_accountOf yX7_accountOf, Cond.code yX7_accountOf cX7_accountOf 5 (some (.object "ClearingFiles$Account")), Cond.fieldLink RX7 16 "ClearingFiles" "accounts" "Ljava/util/ArrayList;", Cond.classLink RX7 70 "ClearingFiles$Account", Cond.fieldLink RX7 227 "ClearingFiles$Account" "bank" "LClearingFiles$Bank;", Cond.fieldLink RX7 230 "ClearingFiles$Account" "number" "I"]
def wsX7_shut : List Cond := .code yX7_shut cX7_shut 4 (some .boolean) :: ((wsX7_shut_r1 ++ wsX7_shut_r2) ++ wsX00 ++ wsX70 ++ wsJx4a65c0)
def wsX7_day : List Cond := .code yX7_day cX7_day 1 (some .int) :: ([.fieldLink RX7 37 "ClearingFiles" "today" "I"] ++ wsX70)
def wsX7_isHalf : List Cond := .code yX7_isHalf cX7_isHalf 2 (some .boolean) :: ([.constantLong RX7 217 (999999999999999999)])
def wsX7_digits : List Cond := .code yX7_digits cX7_digits 14 (some .int) :: ([.constantLong RX7 219 (10)])
def wsX7_beginBatch_r1 : List Cond := [Cond.fieldLink RX7 22 "ClearingFiles" "file" "LClearingFiles$Incoming;", Cond.fieldLink RX7 231 "ClearingFiles$Incoming" "batchCount" "I", Cond.fieldLink RX7 234 "ClearingFiles$Incoming" "batches" "[LClearingFiles$Batch;", Cond.fieldLink RX7 243 "ClearingFiles$Incoming" "current" "LClearingFiles$Batch;", Cond.fieldLink RX7 247 "ClearingFiles$Incoming" "inBatch" "Z", Cond.methodLink RX7 91 yX4_end, Cond.instanceMethod yX4_end, Cond.selects RX4 yX4_end yX4_end, Cond.initialized RX4, Cond.code yX4_end cX4_end 1 none, Cond.fieldLink RX4 29 "ClearingFiles$Incoming" "underWay" "Z", Cond.methodLink RX7 83 yX7_digits, Cond.static yX7_digits, Cond.initialized RX7, Cond.code yX7_digits cX7_digits 14 (some .int), Cond.constantLong RX7 219 (10), Cond.methodLink RX7 238 yX2_begin, Cond.instanceMethod yX2_begin, Cond.selects RX2 yX2_begin yX2_begin, Cond.initialized RX2, Cond.code yX2_begin cX2_begin 4 none, Cond.fieldLink RX2 23 "ClearingFiles$Batch" "originator" "I", Cond.fieldLink RX2 27 "ClearingFiles$Batch" "number" "I", Cond.fieldLink RX2 30 "ClearingFiles$Batch" "day" "I"]
def wsX7_beginBatch_r2 : List Cond := [Cond.fieldLink RX2 10 "ClearingFiles$Batch" "entries" "Ljava/util/ArrayList;", Cond.fieldLink RX2 19 "ClearingFiles$Batch" "totals" "LClearingFiles$Totals;", Cond.fieldLink RX2 37 "ClearingFiles$Batch" "lastTrace" "I", Cond.fieldLink RX2 40 "ClearingFiles$Batch" "tracesGrow" "Z", Cond.methodLink RX2 33 yJx4a65c_clear_da8c8, Cond.instanceMethod yJx4a65c_clear_da8c8, Cond.selects RJx4a65c yJx4a65c_clear_da8c8 yJx4a65c_clear_da8c8, Cond.initialized RJx4a65c, Cond.code yJx4a65c_clear_da8c8 cJx4a65c_clear_da8c8 4 none, Cond.fieldLink RJx4a65c 63 "java/util/ArrayList" "modCount" "I", Cond.sameField "java/util/ArrayList" "java/util/AbstractList" "modCount" "I", Cond.fieldLink RJx4a65c 9 "java/util/ArrayList" "elementData" "[Ljava/lang/Object;", Cond.fieldLink RJx4a65c 48 "java/util/ArrayList" "size" "I", Cond.methodLink RX2 36 yX6_clear, Cond.instanceMethod yX6_clear, Cond.selects RX6 yX6_clear yX6_clear, Cond.initialized RX6, Cond.code yX6_clear cX6_clear 1 none, Cond.fieldLink RX6 9 "ClearingFiles$Totals" "count" "J", Cond.fieldLink RX6 15 "ClearingFiles$Totals" "hash" "J", Cond.fieldLink RX6 18 "ClearingFiles$Totals" "debits" "J", Cond.fieldLink RX6 21 "ClearingFiles$Totals" "credits" "J"]
def wsX7_beginBatch : List Cond := .code yX7_beginBatch cX7_beginBatch 6 (some .int) :: ((wsX7_beginBatch_r1 ++ wsX7_beginBatch_r2) ++ wsX70 ++ wsX40 ++ wsX20 ++ wsJx4a65c0 ++ wsX60)
def wsX7_addEntry_r1 : List Cond := [Cond.fieldLink RX7 22 "ClearingFiles" "file" "LClearingFiles$Incoming;", Cond.fieldLink RX7 250 "ClearingFiles$Incoming" "totals" "LClearingFiles$Totals;", Cond.fieldLink RX7 192 "ClearingFiles$Totals" "count" "J", Cond.constantLong RX7 251 (20), Cond.classLink RX7 151 RX3, Cond.instantiable RX3 9, Cond.initialized RX3, Cond.fieldLink RX7 157 "ClearingFiles$Entry" "code" "I", Cond.fieldLink RX7 254 "ClearingFiles$Entry" "routing" "I", Cond.fieldLink RX7 170 "ClearingFiles$Entry" "account" "I", Cond.fieldLink RX7 173 "ClearingFiles$Entry" "amount" "I", Cond.fieldLink RX7 176 "ClearingFiles$Entry" "trace" "I", Cond.fieldLink RX7 243 "ClearingFiles$Incoming" "current" "LClearingFiles$Batch;", Cond.methodLink RX7 91 yX4_end, Cond.instanceMethod yX4_end, Cond.selects RX4 yX4_end yX4_end, Cond.initialized RX4, Cond.code yX4_end cX4_end 1 none, Cond.fieldLink RX4 29 "ClearingFiles$Incoming" "underWay" "Z", Cond.instanceMethod yX3_init, Cond.code yX3_init cX3_init 1 none, Cond.methodLink RX3 1 objectInit, Cond.instanceMethod objectInit, Cond.code objectInit ⟨#[0xb1]⟩ 1 none]
def wsX7_addEntry_r2 : List Cond := [Cond.methodLink RX7 83 yX7_digits, Cond.static yX7_digits, Cond.initialized RX7, Cond.code yX7_digits cX7_digits 14 (some .int), Cond.constantLong RX7 219 (10), Cond.methodLink RX7 255 yX2_add, Cond.instanceMethod yX2_add, Cond.selects RX2 yX2_add yX2_add, Cond.initialized RX2, Cond.code yX2_add cX2_add 2 none, Cond.fieldLink RX2 10 "ClearingFiles$Batch" "entries" "Ljava/util/ArrayList;", Cond.fieldLink RX2 19 "ClearingFiles$Batch" "totals" "LClearingFiles$Totals;", Cond.fieldLink RX2 51 "ClearingFiles$Entry" "trace" "I", Cond.fieldLink RX2 37 "ClearingFiles$Batch" "lastTrace" "I", Cond.fieldLink RX2 40 "ClearingFiles$Batch" "tracesGrow" "Z", Cond.methodLink RX2 44 yJx4a65c_add_9ea2d, Cond.instanceMethod yJx4a65c_add_9ea2d, Cond.selects RJx4a65c yJx4a65c_add_9ea2d yJx4a65c_add_9ea2d, Cond.initialized RJx4a65c, Cond.code yJx4a65c_add_9ea2d cJx4a65c_add_9ea2d 2 (some .boolean), Cond.fieldLink RJx4a65c 63 "java/util/ArrayList" "modCount" "I", Cond.sameField "java/util/ArrayList" "java/util/AbstractList" "modCount" "I", Cond.fieldLink RJx4a65c 9 "java/util/ArrayList" "elementData" "[Ljava/lang/Object;", Cond.fieldLink RJx4a65c 48 "java/util/ArrayList" "size" "I"]
def wsX7_addEntry_r3 : List Cond := [Cond.methodLink RJx4a65c 131 yJx4a65c_add_72be8, Cond.instanceMethod yJx4a65c_add_72be8, Cond.selects RJx4a65c yJx4a65c_add_72be8 yJx4a65c_add_72be8, Cond.code yJx4a65c_add_72be8 cJx4a65c_add_72be8 4 none, Cond.methodLink RJx4a65c 129 yJx4a65c_grow_d5877, Cond.instanceMethod yJx4a65c_grow_d5877, Cond.selects RJx4a65c yJx4a65c_grow_d5877 yJx4a65c_grow_d5877, Cond.code yJx4a65c_grow_d5877 cJx4a65c_grow_d5877 1 (some (.array (.object "java/lang/Object"))), Cond.methodLink RJx4a65c 69 yJx4a65c_grow_92f84, Cond.instanceMethod yJx4a65c_grow_92f84, Cond.selects RJx4a65c yJx4a65c_grow_92f84 yJx4a65c_grow_92f84, Cond.code yJx4a65c_grow_92f84 cJx4a65c_grow_92f84 4 (some (.array (.object "java/lang/Object"))), Cond.fieldLink RJx4a65c 39 "java/util/ArrayList" "DEFAULTCAPACITY_EMPTY_ELEMENTDATA" "[Ljava/lang/Object;", Cond.methodLink RJx4a65c 79 Lib.Math.max.name, Cond.static Lib.Math.max.name, Cond.initialized "java/lang/Math", Cond.code Lib.Math.max.name Lib.Math.max.code 2 (some .int), Cond.classLink RJx4a65c 7 "java/lang/Object", Cond.methodLink RJx4a65c 73 yJ8_newLength_cabcc, Cond.static yJ8_newLength_cabcc, Cond.initialized RJ8, Cond.code yJ8_newLength_cabcc cJ8_newLength_cabcc 4 (some .int), Cond.methodLink RJ8 194 Lib.Math.max.name, Cond.constant RJ8 200 (2147483639)]
def wsX7_addEntry_r4 : List Cond := [Cond.methodLink RJ8 201 yJ8_hugeLength_7cf53, Cond.static yJ8_hugeLength_7cf53, Cond.code yJ8_hugeLength_7cf53 cJ8_hugeLength_7cf53 3 (some .int), Cond.methodLink RJx4a65c 66 yJ7_copyOf_1904c, Cond.static yJ7_copyOf_1904c, Cond.initialized RJ7, Cond.code yJ7_copyOf_1904c cJ7_copyOf_1904c 2 (some (.array (.object "java/lang/Object"))), Cond.methodLink RJ7 86 ⟨"java/lang/Object", "getClass", "()Ljava/lang/Class;"⟩, Cond.selects "[Ljava/lang/Object;" ⟨"java/lang/Object", "getClass", "()Ljava/lang/Class;"⟩ ⟨"java/lang/Object", "getClass", "()Ljava/lang/Class;"⟩, Cond.instanceMethod ⟨"java/lang/Object", "getClass", "()Ljava/lang/Class;"⟩, Cond.native ⟨"java/lang/Object", "getClass", "()Ljava/lang/Class;"⟩, Cond.methodLink RJ7 300 yJ7_copyOf_6403c, Cond.static yJ7_copyOf_6403c, Cond.code yJ7_copyOf_6403c cJ7_copyOf_6403c 4 (some (.array (.object "java/lang/Object"))), Cond.classLink RJ7 110 "[Ljava/lang/Object;", Cond.classLink RJ7 2 "java/lang/Object", Cond.methodLink RJ7 304 Lib.Math.min.name, Cond.static Lib.Math.min.name, Cond.code Lib.Math.min.name Lib.Math.min.code 2 (some .int), Cond.methodLink RJ7 150 arraycopyName, Cond.native arraycopyName, Cond.static arraycopyName, Cond.initialized "java/lang/System", Cond.methodLink RX2 48 yX6_add]
def wsX7_addEntry_r5 : List Cond := [Cond.instanceMethod yX6_add, Cond.selects RX6 yX6_add yX6_add, Cond.initialized RX6, Cond.code yX6_add cX6_add 2 none, Cond.fieldLink RX6 9 "ClearingFiles$Totals" "count" "J", Cond.fieldLink RX6 15 "ClearingFiles$Totals" "hash" "J", Cond.fieldLink RX6 24 "ClearingFiles$Entry" "routing" "I", Cond.fieldLink RX6 30 "ClearingFiles$Entry" "code" "I", Cond.fieldLink RX6 18 "ClearingFiles$Totals" "debits" "J", Cond.fieldLink RX6 33 "ClearingFiles$Entry" "amount" "I", Cond.fieldLink RX6 21 "ClearingFiles$Totals" "credits" "J", Cond.methodLink RX7 258 yX6_add]
def wsX7_addEntry : List Cond := .code yX7_addEntry cX7_addEntry 6 (some .int) :: ((wsX7_addEntry_r1 ++ (wsX7_addEntry_r2 ++ (wsX7_addEntry_r3 ++ (wsX7_addEntry_r4 ++ wsX7_addEntry_r5)))) ++ wsX70 ++ wsX40 ++ wsX60 ++ wsX30 ++ wsX20 ++ wsJx4a65c0)
def wsX7_endBatch : List Cond := .code yX7_endBatch cX7_endBatch 6 none :: ([.fieldLink RX7 22 "ClearingFiles" "file" "LClearingFiles$Incoming;", .fieldLink RX7 243 "ClearingFiles$Incoming" "current" "LClearingFiles$Batch;", .fieldLink RX7 259 "ClearingFiles$Batch" "totals" "LClearingFiles$Totals;", .fieldLink RX7 264 "ClearingFiles$Batch" "controlHolds" "Z", .fieldLink RX7 247 "ClearingFiles$Incoming" "inBatch" "Z", .methodLink RX7 83 yX7_digits, .static yX7_digits, .initialized RX7, .code yX7_digits cX7_digits 14 (some .int), .constantLong RX7 219 (10), .methodLink RX7 260 yX6_are, .instanceMethod yX6_are, .selects RX6 yX6_are yX6_are, .initialized RX6, .code yX6_are cX6_are 5 (some .boolean), .fieldLink RX6 9 "ClearingFiles$Totals" "count" "J", .fieldLink RX6 15 "ClearingFiles$Totals" "hash" "J", .fieldLink RX6 18 "ClearingFiles$Totals" "debits" "J", .fieldLink RX6 21 "ClearingFiles$Totals" "credits" "J"] ++ wsX70 ++ wsX40 ++ wsX20 ++ wsX60)
def wsX7_fileKey : List Cond := .code yX7_fileKey cX7_fileKey 1 (some .int) :: ([.fieldLink RX7 22 "ClearingFiles" "file" "LClearingFiles$Incoming;", .fieldLink RX7 283 "ClearingFiles$Incoming" "sender" "I", .fieldLink RX7 295 "ClearingFiles$Incoming" "number" "I"] ++ wsX70 ++ wsX40)
def wsX7_wasAccepted : List Cond := .code yX7_wasAccepted cX7_wasAccepted 3 (some .boolean) :: ([.fieldLink RX7 30 "ClearingFiles" "acceptedCount" "I", .fieldLink RX7 26 "ClearingFiles" "acceptedFiles" "[I"] ++ wsX70)
def wsX7_waitingInAll_r1 : List Cond := [Cond.fieldLink RX7 10 "ClearingFiles" "banks" "Ljava/util/ArrayList;", Cond.classLink RX7 52 "ClearingFiles$Bank", Cond.fieldLink RX7 213 "ClearingFiles$Bank" "entries" "Ljava/util/ArrayList;", Cond.methodLink RX7 48 yJx4a65c_size_8abf5, Cond.instanceMethod yJx4a65c_size_8abf5, Cond.selects RJx4a65c yJx4a65c_size_8abf5 yJx4a65c_size_8abf5, Cond.initialized RJx4a65c, Cond.code yJx4a65c_size_8abf5 cJx4a65c_size_8abf5 1 (some .int), Cond.fieldLink RJx4a65c 48 "java/util/ArrayList" "size" "I", Cond.methodLink RX7 147 yJx4a65c_get_915e3, Cond.instanceMethod yJx4a65c_get_915e3, Cond.selects RJx4a65c yJx4a65c_get_915e3 yJx4a65c_get_915e3, Cond.code yJx4a65c_get_915e3 cJx4a65c_get_915e3 2 (some (.object "java/lang/Object")), Cond.methodLink RJx4a65c 118 yJ15_checkIndex_7cf53, Cond.static yJ15_checkIndex_7cf53, Cond.initialized RJ15, Cond.code yJ15_checkIndex_7cf53 cJ15_checkIndex_7cf53 2 (some .int), Cond.methodLink RJ15 105 yJ3_checkIndex_8e157, Cond.static yJ3_checkIndex_8e157, Cond.initialized RJ3, Cond.code yJ3_checkIndex_8e157 cJ3_checkIndex_8e157 3 (some .int), Cond.methodLink RJx4a65c 123 yJx4a65c_elementData_915e3, Cond.instanceMethod yJx4a65c_elementData_915e3, Cond.selects RJx4a65c yJx4a65c_elementData_915e3 yJx4a65c_elementData_915e3]
def wsX7_waitingInAll_r2 : List Cond := [Cond.code yJx4a65c_elementData_915e3 cJx4a65c_elementData_915e3 2 (some (.object "java/lang/Object")), Cond.fieldLink RJx4a65c 9 "java/util/ArrayList" "elementData" "[Ljava/lang/Object;"]
def wsX7_waitingInAll : List Cond := .code yX7_waitingInAll cX7_waitingInAll 3 (some .int) :: ((wsX7_waitingInAll_r1 ++ wsX7_waitingInAll_r2) ++ wsX70 ++ wsX10 ++ wsJx4a65c0)
def wsX7_reasonAgainstBatch_r1 : List Cond := [Cond.fieldLink RX7 306 "ClearingFiles$Batch" "originator" "I", Cond.fieldLink RX7 305 "ClearingFiles$Batch" "number" "I", Cond.fieldLink RX7 308 "ClearingFiles$Batch" "day" "I", Cond.fieldLink RX7 37 "ClearingFiles" "today" "I", Cond.fieldLink RX7 264 "ClearingFiles$Batch" "controlHolds" "Z", Cond.fieldLink RX7 311 "ClearingFiles$Batch" "tracesGrow" "Z", Cond.methodLink RX7 44 yX7_bankWithRouting, Cond.instanceMethod yX7_bankWithRouting, Cond.selects RX7 yX7_bankWithRouting yX7_bankWithRouting, Cond.initialized RX7, Cond.code yX7_bankWithRouting cX7_bankWithRouting 3 (some (.object "ClearingFiles$Bank")), Cond.fieldLink RX7 10 "ClearingFiles" "banks" "Ljava/util/ArrayList;", Cond.classLink RX7 52 "ClearingFiles$Bank", Cond.fieldLink RX7 224 "ClearingFiles$Bank" "routing" "I", Cond.methodLink RX7 48 yJx4a65c_size_8abf5, Cond.instanceMethod yJx4a65c_size_8abf5, Cond.selects RJx4a65c yJx4a65c_size_8abf5 yJx4a65c_size_8abf5, Cond.initialized RJx4a65c, Cond.code yJx4a65c_size_8abf5 cJx4a65c_size_8abf5 1 (some .int), Cond.fieldLink RJx4a65c 48 "java/util/ArrayList" "size" "I", Cond.methodLink RX7 147 yJx4a65c_get_915e3, Cond.instanceMethod yJx4a65c_get_915e3, Cond.selects RJx4a65c yJx4a65c_get_915e3 yJx4a65c_get_915e3, Cond.code yJx4a65c_get_915e3 cJx4a65c_get_915e3 2 (some (.object "java/lang/Object"))]
def wsX7_reasonAgainstBatch_r2 : List Cond := [Cond.methodLink RJx4a65c 118 yJ15_checkIndex_7cf53, Cond.static yJ15_checkIndex_7cf53, Cond.initialized RJ15, Cond.code yJ15_checkIndex_7cf53 cJ15_checkIndex_7cf53 2 (some .int), Cond.methodLink RJ15 105 yJ3_checkIndex_8e157, Cond.static yJ3_checkIndex_8e157, Cond.initialized RJ3, Cond.code yJ3_checkIndex_8e157 cJ3_checkIndex_8e157 3 (some .int), Cond.methodLink RJx4a65c 123 yJx4a65c_elementData_915e3, Cond.instanceMethod yJx4a65c_elementData_915e3, Cond.selects RJx4a65c yJx4a65c_elementData_915e3 yJx4a65c_elementData_915e3, Cond.code yJx4a65c_elementData_915e3 cJx4a65c_elementData_915e3 2 (some (.object "java/lang/Object")), Cond.fieldLink RJx4a65c 9 "java/util/ArrayList" "elementData" "[Ljava/lang/Object;"]
def wsX7_reasonAgainstBatch : List Cond := .code yX7_reasonAgainstBatch cX7_reasonAgainstBatch 3 (some .int) :: ((wsX7_reasonAgainstBatch_r1 ++ wsX7_reasonAgainstBatch_r2) ++ wsX20 ++ wsX70 ++ wsX10 ++ wsJx4a65c0)
def wsX7_reasonAgainstEntry : List Cond := .code yX7_reasonAgainstEntry cX7_reasonAgainstEntry 1 (some .int) :: ([.fieldLink RX7 254 "ClearingFiles$Entry" "routing" "I", .fieldLink RX7 160 "ClearingFiles$Entry" "receiver" "LClearingFiles$Bank;", .fieldLink RX7 157 "ClearingFiles$Entry" "code" "I", .fieldLink RX7 173 "ClearingFiles$Entry" "amount" "I", .methodLink RX7 40 yX7_isRight, .static yX7_isRight, .initialized RX7, .code yX7_isRight cX7_isRight 5 (some .boolean), .fieldLink RX7 221 "ClearingFiles" "WEIGHTS" "[I"] ++ wsX30)
def wsX7_judgeEntries_r1 : List Cond := [Cond.fieldLink RX7 314 "ClearingFiles$Batch" "entries" "Ljava/util/ArrayList;", Cond.classLink RX7 151 "ClearingFiles$Entry", Cond.fieldLink RX7 308 "ClearingFiles$Batch" "day" "I", Cond.fieldLink RX7 315 "ClearingFiles$Entry" "day" "I", Cond.fieldLink RX7 306 "ClearingFiles$Batch" "originator" "I", Cond.fieldLink RX7 167 "ClearingFiles$Entry" "originator" "LClearingFiles$Bank;", Cond.fieldLink RX7 254 "ClearingFiles$Entry" "routing" "I", Cond.fieldLink RX7 160 "ClearingFiles$Entry" "receiver" "LClearingFiles$Bank;", Cond.fieldLink RX7 179 "ClearingFiles$Entry" "reason" "I", Cond.methodLink RX7 48 yJx4a65c_size_8abf5, Cond.instanceMethod yJx4a65c_size_8abf5, Cond.selects RJx4a65c yJx4a65c_size_8abf5 yJx4a65c_size_8abf5, Cond.initialized RJx4a65c, Cond.code yJx4a65c_size_8abf5 cJx4a65c_size_8abf5 1 (some .int), Cond.fieldLink RJx4a65c 48 "java/util/ArrayList" "size" "I", Cond.methodLink RX7 147 yJx4a65c_get_915e3, Cond.instanceMethod yJx4a65c_get_915e3, Cond.selects RJx4a65c yJx4a65c_get_915e3 yJx4a65c_get_915e3, Cond.code yJx4a65c_get_915e3 cJx4a65c_get_915e3 2 (some (.object "java/lang/Object")), Cond.methodLink RJx4a65c 118 yJ15_checkIndex_7cf53, Cond.static yJ15_checkIndex_7cf53, Cond.initialized RJ15, Cond.code yJ15_checkIndex_7cf53 cJ15_checkIndex_7cf53 2 (some .int), Cond.methodLink RJ15 105 yJ3_checkIndex_8e157]
def wsX7_judgeEntries_r2 : List Cond := [Cond.static yJ3_checkIndex_8e157, Cond.initialized RJ3, Cond.code yJ3_checkIndex_8e157 cJ3_checkIndex_8e157 3 (some .int), Cond.methodLink RJx4a65c 123 yJx4a65c_elementData_915e3, Cond.instanceMethod yJx4a65c_elementData_915e3, Cond.selects RJx4a65c yJx4a65c_elementData_915e3 yJx4a65c_elementData_915e3, Cond.code yJx4a65c_elementData_915e3 cJx4a65c_elementData_915e3 2 (some (.object "java/lang/Object")), Cond.fieldLink RJx4a65c 9 "java/util/ArrayList" "elementData" "[Ljava/lang/Object;", Cond.methodLink RX7 44 yX7_bankWithRouting, Cond.instanceMethod yX7_bankWithRouting, Cond.selects RX7 yX7_bankWithRouting yX7_bankWithRouting, Cond.initialized RX7, Cond.code yX7_bankWithRouting cX7_bankWithRouting 3 (some (.object "ClearingFiles$Bank")), Cond.fieldLink RX7 10 "ClearingFiles" "banks" "Ljava/util/ArrayList;", Cond.classLink RX7 52 "ClearingFiles$Bank", Cond.fieldLink RX7 224 "ClearingFiles$Bank" "routing" "I", Cond.methodLink RX7 316 yX7_reasonAgainstEntry, Cond.static yX7_reasonAgainstEntry, Cond.code yX7_reasonAgainstEntry cX7_reasonAgainstEntry 1 (some .int), Cond.fieldLink RX7 157 "ClearingFiles$Entry" "code" "I", Cond.fieldLink RX7 173 "ClearingFiles$Entry" "amount" "I", Cond.methodLink RX7 40 yX7_isRight, Cond.static yX7_isRight, Cond.code yX7_isRight cX7_isRight 5 (some .boolean)]
def wsX7_judgeEntries_r3 : List Cond := [Cond.fieldLink RX7 221 "ClearingFiles" "WEIGHTS" "[I"]
def wsX7_judgeEntries : List Cond := .code yX7_judgeEntries cX7_judgeEntries 5 (some .int) :: ((wsX7_judgeEntries_r1 ++ (wsX7_judgeEntries_r2 ++ wsX7_judgeEntries_r3)) ++ wsX20 ++ wsX30 ++ wsJx4a65c0 ++ wsX70 ++ wsX10)
def wsX7_judgeBatches_r1 : List Cond := [Cond.fieldLink RX7 22 "ClearingFiles" "file" "LClearingFiles$Incoming;", Cond.fieldLink RX7 231 "ClearingFiles$Incoming" "batchCount" "I", Cond.fieldLink RX7 234 "ClearingFiles$Incoming" "batches" "[LClearingFiles$Batch;", Cond.fieldLink RX7 300 "ClearingFiles$Batch" "reason" "I", Cond.fieldLink RX7 305 "ClearingFiles$Batch" "number" "I", Cond.methodLink RX7 296 yX7_reasonAgainstBatch, Cond.instanceMethod yX7_reasonAgainstBatch, Cond.selects RX7 yX7_reasonAgainstBatch yX7_reasonAgainstBatch, Cond.initialized RX7, Cond.code yX7_reasonAgainstBatch cX7_reasonAgainstBatch 3 (some .int), Cond.fieldLink RX7 306 "ClearingFiles$Batch" "originator" "I", Cond.fieldLink RX7 308 "ClearingFiles$Batch" "day" "I", Cond.fieldLink RX7 37 "ClearingFiles" "today" "I", Cond.fieldLink RX7 264 "ClearingFiles$Batch" "controlHolds" "Z", Cond.fieldLink RX7 311 "ClearingFiles$Batch" "tracesGrow" "Z", Cond.methodLink RX7 44 yX7_bankWithRouting, Cond.instanceMethod yX7_bankWithRouting, Cond.selects RX7 yX7_bankWithRouting yX7_bankWithRouting, Cond.code yX7_bankWithRouting cX7_bankWithRouting 3 (some (.object "ClearingFiles$Bank")), Cond.fieldLink RX7 10 "ClearingFiles" "banks" "Ljava/util/ArrayList;", Cond.classLink RX7 52 "ClearingFiles$Bank", Cond.fieldLink RX7 224 "ClearingFiles$Bank" "routing" "I", Cond.methodLink RX7 48 yJx4a65c_size_8abf5, Cond.instanceMethod yJx4a65c_size_8abf5]
def wsX7_judgeBatches_r2 : List Cond := [Cond.selects RJx4a65c yJx4a65c_size_8abf5 yJx4a65c_size_8abf5, Cond.initialized RJx4a65c, Cond.code yJx4a65c_size_8abf5 cJx4a65c_size_8abf5 1 (some .int), Cond.fieldLink RJx4a65c 48 "java/util/ArrayList" "size" "I", Cond.methodLink RX7 147 yJx4a65c_get_915e3, Cond.instanceMethod yJx4a65c_get_915e3, Cond.selects RJx4a65c yJx4a65c_get_915e3 yJx4a65c_get_915e3, Cond.code yJx4a65c_get_915e3 cJx4a65c_get_915e3 2 (some (.object "java/lang/Object")), Cond.methodLink RJx4a65c 118 yJ15_checkIndex_7cf53, Cond.static yJ15_checkIndex_7cf53, Cond.initialized RJ15, Cond.code yJ15_checkIndex_7cf53 cJ15_checkIndex_7cf53 2 (some .int), Cond.methodLink RJ15 105 yJ3_checkIndex_8e157, Cond.static yJ3_checkIndex_8e157, Cond.initialized RJ3, Cond.code yJ3_checkIndex_8e157 cJ3_checkIndex_8e157 3 (some .int), Cond.methodLink RJx4a65c 123 yJx4a65c_elementData_915e3, Cond.instanceMethod yJx4a65c_elementData_915e3, Cond.selects RJx4a65c yJx4a65c_elementData_915e3 yJx4a65c_elementData_915e3, Cond.code yJx4a65c_elementData_915e3 cJx4a65c_elementData_915e3 2 (some (.object "java/lang/Object")), Cond.fieldLink RJx4a65c 9 "java/util/ArrayList" "elementData" "[Ljava/lang/Object;", Cond.methodLink RX7 301 yX7_judgeEntries, Cond.instanceMethod yX7_judgeEntries, Cond.selects RX7 yX7_judgeEntries yX7_judgeEntries]
def wsX7_judgeBatches_r3 : List Cond := [Cond.code yX7_judgeEntries cX7_judgeEntries 5 (some .int), Cond.fieldLink RX7 314 "ClearingFiles$Batch" "entries" "Ljava/util/ArrayList;", Cond.classLink RX7 151 "ClearingFiles$Entry", Cond.fieldLink RX7 315 "ClearingFiles$Entry" "day" "I", Cond.fieldLink RX7 167 "ClearingFiles$Entry" "originator" "LClearingFiles$Bank;", Cond.fieldLink RX7 254 "ClearingFiles$Entry" "routing" "I", Cond.fieldLink RX7 160 "ClearingFiles$Entry" "receiver" "LClearingFiles$Bank;", Cond.fieldLink RX7 179 "ClearingFiles$Entry" "reason" "I", Cond.methodLink RX7 316 yX7_reasonAgainstEntry, Cond.static yX7_reasonAgainstEntry, Cond.code yX7_reasonAgainstEntry cX7_reasonAgainstEntry 1 (some .int), Cond.fieldLink RX7 157 "ClearingFiles$Entry" "code" "I", Cond.fieldLink RX7 173 "ClearingFiles$Entry" "amount" "I", Cond.methodLink RX7 40 yX7_isRight, Cond.static yX7_isRight, Cond.code yX7_isRight cX7_isRight 5 (some .boolean), Cond.fieldLink RX7 221 "ClearingFiles" "WEIGHTS" "[I"]
def wsX7_judgeBatches : List Cond := .code yX7_judgeBatches cX7_judgeBatches 5 (some .int) :: ((wsX7_judgeBatches_r1 ++ (wsX7_judgeBatches_r2 ++ wsX7_judgeBatches_r3)) ++ wsX70 ++ wsX40 ++ wsX20 ++ wsX10 ++ wsJx4a65c0 ++ wsX30)
def wsX7_reasonAgainstFile_r1 : List Cond := [Cond.fieldLink RX7 22 "ClearingFiles" "file" "LClearingFiles$Incoming;", Cond.fieldLink RX7 283 "ClearingFiles$Incoming" "sender" "I", Cond.fieldLink RX7 231 "ClearingFiles$Incoming" "batchCount" "I", Cond.fieldLink RX7 250 "ClearingFiles$Incoming" "totals" "LClearingFiles$Totals;", Cond.methodLink RX7 44 yX7_bankWithRouting, Cond.instanceMethod yX7_bankWithRouting, Cond.selects RX7 yX7_bankWithRouting yX7_bankWithRouting, Cond.initialized RX7, Cond.code yX7_bankWithRouting cX7_bankWithRouting 3 (some (.object "ClearingFiles$Bank")), Cond.fieldLink RX7 10 "ClearingFiles" "banks" "Ljava/util/ArrayList;", Cond.classLink RX7 52 "ClearingFiles$Bank", Cond.fieldLink RX7 224 "ClearingFiles$Bank" "routing" "I", Cond.methodLink RX7 48 yJx4a65c_size_8abf5, Cond.instanceMethod yJx4a65c_size_8abf5, Cond.selects RJx4a65c yJx4a65c_size_8abf5 yJx4a65c_size_8abf5, Cond.initialized RJx4a65c, Cond.code yJx4a65c_size_8abf5 cJx4a65c_size_8abf5 1 (some .int), Cond.fieldLink RJx4a65c 48 "java/util/ArrayList" "size" "I", Cond.methodLink RX7 147 yJx4a65c_get_915e3, Cond.instanceMethod yJx4a65c_get_915e3, Cond.selects RJx4a65c yJx4a65c_get_915e3 yJx4a65c_get_915e3, Cond.code yJx4a65c_get_915e3 cJx4a65c_get_915e3 2 (some (.object "java/lang/Object")), Cond.methodLink RJx4a65c 118 yJ15_checkIndex_7cf53, Cond.static yJ15_checkIndex_7cf53]
def wsX7_reasonAgainstFile_r2 : List Cond := [Cond.initialized RJ15, Cond.code yJ15_checkIndex_7cf53 cJ15_checkIndex_7cf53 2 (some .int), Cond.methodLink RJ15 105 yJ3_checkIndex_8e157, Cond.static yJ3_checkIndex_8e157, Cond.initialized RJ3, Cond.code yJ3_checkIndex_8e157 cJ3_checkIndex_8e157 3 (some .int), Cond.methodLink RJx4a65c 123 yJx4a65c_elementData_915e3, Cond.instanceMethod yJx4a65c_elementData_915e3, Cond.selects RJx4a65c yJx4a65c_elementData_915e3 yJx4a65c_elementData_915e3, Cond.code yJx4a65c_elementData_915e3 cJx4a65c_elementData_915e3 2 (some (.object "java/lang/Object")), Cond.fieldLink RJx4a65c 9 "java/util/ArrayList" "elementData" "[Ljava/lang/Object;", Cond.methodLink RX7 274 yX7_fileKey, Cond.instanceMethod yX7_fileKey, Cond.selects RX7 yX7_fileKey yX7_fileKey, Cond.code yX7_fileKey cX7_fileKey 1 (some .int), Cond.fieldLink RX7 295 "ClearingFiles$Incoming" "number" "I", Cond.methodLink RX7 286 yX7_wasAccepted, Cond.instanceMethod yX7_wasAccepted, Cond.selects RX7 yX7_wasAccepted yX7_wasAccepted, Cond.code yX7_wasAccepted cX7_wasAccepted 3 (some .boolean), Cond.fieldLink RX7 30 "ClearingFiles" "acceptedCount" "I", Cond.fieldLink RX7 26 "ClearingFiles" "acceptedFiles" "[I", Cond.methodLink RX7 83 yX7_digits, Cond.static yX7_digits]
def wsX7_reasonAgainstFile_r3 : List Cond := [Cond.code yX7_digits cX7_digits 14 (some .int), Cond.constantLong RX7 219 (10), Cond.methodLink RX7 260 yX6_are, Cond.instanceMethod yX6_are, Cond.selects RX6 yX6_are yX6_are, Cond.initialized RX6, Cond.code yX6_are cX6_are 5 (some .boolean), Cond.fieldLink RX6 9 "ClearingFiles$Totals" "count" "J", Cond.fieldLink RX6 15 "ClearingFiles$Totals" "hash" "J", Cond.fieldLink RX6 18 "ClearingFiles$Totals" "debits" "J", Cond.fieldLink RX6 21 "ClearingFiles$Totals" "credits" "J", Cond.methodLink RX7 289 yX7_waitingInAll, Cond.instanceMethod yX7_waitingInAll, Cond.selects RX7 yX7_waitingInAll yX7_waitingInAll, Cond.code yX7_waitingInAll cX7_waitingInAll 3 (some .int), Cond.fieldLink RX7 213 "ClearingFiles$Bank" "entries" "Ljava/util/ArrayList;", Cond.methodLink RX7 292 yX7_judgeBatches, Cond.instanceMethod yX7_judgeBatches, Cond.selects RX7 yX7_judgeBatches yX7_judgeBatches, Cond.code yX7_judgeBatches cX7_judgeBatches 5 (some .int), Cond.fieldLink RX7 234 "ClearingFiles$Incoming" "batches" "[LClearingFiles$Batch;", Cond.fieldLink RX7 300 "ClearingFiles$Batch" "reason" "I", Cond.fieldLink RX7 305 "ClearingFiles$Batch" "number" "I", Cond.methodLink RX7 296 yX7_reasonAgainstBatch]
def wsX7_reasonAgainstFile_r4 : List Cond := [Cond.instanceMethod yX7_reasonAgainstBatch, Cond.selects RX7 yX7_reasonAgainstBatch yX7_reasonAgainstBatch, Cond.code yX7_reasonAgainstBatch cX7_reasonAgainstBatch 3 (some .int), Cond.fieldLink RX7 306 "ClearingFiles$Batch" "originator" "I", Cond.fieldLink RX7 308 "ClearingFiles$Batch" "day" "I", Cond.fieldLink RX7 37 "ClearingFiles" "today" "I", Cond.fieldLink RX7 264 "ClearingFiles$Batch" "controlHolds" "Z", Cond.fieldLink RX7 311 "ClearingFiles$Batch" "tracesGrow" "Z", Cond.methodLink RX7 301 yX7_judgeEntries, Cond.instanceMethod yX7_judgeEntries, Cond.selects RX7 yX7_judgeEntries yX7_judgeEntries, Cond.code yX7_judgeEntries cX7_judgeEntries 5 (some .int), Cond.fieldLink RX7 314 "ClearingFiles$Batch" "entries" "Ljava/util/ArrayList;", Cond.classLink RX7 151 "ClearingFiles$Entry", Cond.fieldLink RX7 315 "ClearingFiles$Entry" "day" "I", Cond.fieldLink RX7 167 "ClearingFiles$Entry" "originator" "LClearingFiles$Bank;", Cond.fieldLink RX7 254 "ClearingFiles$Entry" "routing" "I", Cond.fieldLink RX7 160 "ClearingFiles$Entry" "receiver" "LClearingFiles$Bank;", Cond.fieldLink RX7 179 "ClearingFiles$Entry" "reason" "I", Cond.methodLink RX7 316 yX7_reasonAgainstEntry, Cond.static yX7_reasonAgainstEntry, Cond.code yX7_reasonAgainstEntry cX7_reasonAgainstEntry 1 (some .int), Cond.fieldLink RX7 157 "ClearingFiles$Entry" "code" "I", Cond.fieldLink RX7 173 "ClearingFiles$Entry" "amount" "I"]
def wsX7_reasonAgainstFile_r5 : List Cond := [Cond.methodLink RX7 40 yX7_isRight, Cond.static yX7_isRight, Cond.code yX7_isRight cX7_isRight 5 (some .boolean), Cond.fieldLink RX7 221 "ClearingFiles" "WEIGHTS" "[I"]
def wsX7_reasonAgainstFile : List Cond := .code yX7_reasonAgainstFile cX7_reasonAgainstFile 5 (some .int) :: ((wsX7_reasonAgainstFile_r1 ++ (wsX7_reasonAgainstFile_r2 ++ (wsX7_reasonAgainstFile_r3 ++ (wsX7_reasonAgainstFile_r4 ++ wsX7_reasonAgainstFile_r5)))) ++ wsX70 ++ wsX40 ++ wsX10 ++ wsJx4a65c0 ++ wsX60 ++ wsX20 ++ wsX30)
def wsX7_countRefusal : List Cond := .code yX7_countRefusal cX7_countRefusal 2 none :: ([.fieldLink RX7 34 "ClearingFiles" "refusals" "[I"] ++ wsX70)
def wsX7_keepAsAccepted : List Cond := .code yX7_keepAsAccepted cX7_keepAsAccepted 2 none :: ([.fieldLink RX7 30 "ClearingFiles" "acceptedCount" "I", .fieldLink RX7 26 "ClearingFiles" "acceptedFiles" "[I"] ++ wsX70)
def wsX7_acceptEntries_r1 : List Cond := [Cond.fieldLink RX7 314 "ClearingFiles$Batch" "entries" "Ljava/util/ArrayList;", Cond.classLink RX7 151 "ClearingFiles$Entry", Cond.fieldLink RX7 179 "ClearingFiles$Entry" "reason" "I", Cond.fieldLink RX7 160 "ClearingFiles$Entry" "receiver" "LClearingFiles$Bank;", Cond.fieldLink RX7 213 "ClearingFiles$Bank" "entries" "Ljava/util/ArrayList;", Cond.methodLink RX7 48 yJx4a65c_size_8abf5, Cond.instanceMethod yJx4a65c_size_8abf5, Cond.selects RJx4a65c yJx4a65c_size_8abf5 yJx4a65c_size_8abf5, Cond.initialized RJx4a65c, Cond.code yJx4a65c_size_8abf5 cJx4a65c_size_8abf5 1 (some .int), Cond.fieldLink RJx4a65c 48 "java/util/ArrayList" "size" "I", Cond.methodLink RX7 147 yJx4a65c_get_915e3, Cond.instanceMethod yJx4a65c_get_915e3, Cond.selects RJx4a65c yJx4a65c_get_915e3 yJx4a65c_get_915e3, Cond.code yJx4a65c_get_915e3 cJx4a65c_get_915e3 2 (some (.object "java/lang/Object")), Cond.methodLink RJx4a65c 118 yJ15_checkIndex_7cf53, Cond.static yJ15_checkIndex_7cf53, Cond.initialized RJ15, Cond.code yJ15_checkIndex_7cf53 cJ15_checkIndex_7cf53 2 (some .int), Cond.methodLink RJ15 105 yJ3_checkIndex_8e157, Cond.static yJ3_checkIndex_8e157, Cond.initialized RJ3, Cond.code yJ3_checkIndex_8e157 cJ3_checkIndex_8e157 3 (some .int), Cond.methodLink RJx4a65c 123 yJx4a65c_elementData_915e3]
def wsX7_acceptEntries_r2 : List Cond := [Cond.instanceMethod yJx4a65c_elementData_915e3, Cond.selects RJx4a65c yJx4a65c_elementData_915e3 yJx4a65c_elementData_915e3, Cond.code yJx4a65c_elementData_915e3 cJx4a65c_elementData_915e3 2 (some (.object "java/lang/Object")), Cond.fieldLink RJx4a65c 9 "java/util/ArrayList" "elementData" "[Ljava/lang/Object;", Cond.methodLink RX7 270 yX7_countRefusal, Cond.instanceMethod yX7_countRefusal, Cond.selects RX7 yX7_countRefusal yX7_countRefusal, Cond.initialized RX7, Cond.code yX7_countRefusal cX7_countRefusal 2 none, Cond.fieldLink RX7 34 "ClearingFiles" "refusals" "[I", Cond.methodLink RX7 57 yJx4a65c_add_9ea2d, Cond.instanceMethod yJx4a65c_add_9ea2d, Cond.selects RJx4a65c yJx4a65c_add_9ea2d yJx4a65c_add_9ea2d, Cond.code yJx4a65c_add_9ea2d cJx4a65c_add_9ea2d 2 (some .boolean), Cond.fieldLink RJx4a65c 63 "java/util/ArrayList" "modCount" "I", Cond.sameField "java/util/ArrayList" "java/util/AbstractList" "modCount" "I", Cond.methodLink RJx4a65c 131 yJx4a65c_add_72be8, Cond.instanceMethod yJx4a65c_add_72be8, Cond.selects RJx4a65c yJx4a65c_add_72be8 yJx4a65c_add_72be8, Cond.code yJx4a65c_add_72be8 cJx4a65c_add_72be8 4 none, Cond.methodLink RJx4a65c 129 yJx4a65c_grow_d5877, Cond.instanceMethod yJx4a65c_grow_d5877, Cond.selects RJx4a65c yJx4a65c_grow_d5877 yJx4a65c_grow_d5877, Cond.code yJx4a65c_grow_d5877 cJx4a65c_grow_d5877 1 (some (.array (.object "java/lang/Object")))]
def wsX7_acceptEntries_r3 : List Cond := [Cond.methodLink RJx4a65c 69 yJx4a65c_grow_92f84, Cond.instanceMethod yJx4a65c_grow_92f84, Cond.selects RJx4a65c yJx4a65c_grow_92f84 yJx4a65c_grow_92f84, Cond.code yJx4a65c_grow_92f84 cJx4a65c_grow_92f84 4 (some (.array (.object "java/lang/Object"))), Cond.fieldLink RJx4a65c 39 "java/util/ArrayList" "DEFAULTCAPACITY_EMPTY_ELEMENTDATA" "[Ljava/lang/Object;", Cond.methodLink RJx4a65c 79 Lib.Math.max.name, Cond.static Lib.Math.max.name, Cond.initialized "java/lang/Math", Cond.code Lib.Math.max.name Lib.Math.max.code 2 (some .int), Cond.classLink RJx4a65c 7 "java/lang/Object", Cond.methodLink RJx4a65c 73 yJ8_newLength_cabcc, Cond.static yJ8_newLength_cabcc, Cond.initialized RJ8, Cond.code yJ8_newLength_cabcc cJ8_newLength_cabcc 4 (some .int), Cond.methodLink RJ8 194 Lib.Math.max.name, Cond.constant RJ8 200 (2147483639), Cond.methodLink RJ8 201 yJ8_hugeLength_7cf53, Cond.static yJ8_hugeLength_7cf53, Cond.code yJ8_hugeLength_7cf53 cJ8_hugeLength_7cf53 3 (some .int), Cond.methodLink RJx4a65c 66 yJ7_copyOf_1904c, Cond.static yJ7_copyOf_1904c, Cond.initialized RJ7, Cond.code yJ7_copyOf_1904c cJ7_copyOf_1904c 2 (some (.array (.object "java/lang/Object"))), Cond.methodLink RJ7 86 ⟨"java/lang/Object", "getClass", "()Ljava/lang/Class;"⟩]
def wsX7_acceptEntries_r4 : List Cond := [Cond.selects "[Ljava/lang/Object;" ⟨"java/lang/Object", "getClass", "()Ljava/lang/Class;"⟩ ⟨"java/lang/Object", "getClass", "()Ljava/lang/Class;"⟩, Cond.instanceMethod ⟨"java/lang/Object", "getClass", "()Ljava/lang/Class;"⟩, Cond.native ⟨"java/lang/Object", "getClass", "()Ljava/lang/Class;"⟩, Cond.methodLink RJ7 300 yJ7_copyOf_6403c, Cond.static yJ7_copyOf_6403c, Cond.code yJ7_copyOf_6403c cJ7_copyOf_6403c 4 (some (.array (.object "java/lang/Object"))), Cond.classLink RJ7 110 "[Ljava/lang/Object;", Cond.classLink RJ7 2 "java/lang/Object", Cond.methodLink RJ7 304 Lib.Math.min.name, Cond.static Lib.Math.min.name, Cond.code Lib.Math.min.name Lib.Math.min.code 2 (some .int), Cond.methodLink RJ7 150 arraycopyName, Cond.native arraycopyName, Cond.static arraycopyName, Cond.initialized "java/lang/System"]
def wsX7_acceptEntries : List Cond := .code yX7_acceptEntries cX7_acceptEntries 5 (some .int) :: ((wsX7_acceptEntries_r1 ++ (wsX7_acceptEntries_r2 ++ (wsX7_acceptEntries_r3 ++ wsX7_acceptEntries_r4))) ++ wsX20 ++ wsX30 ++ wsX10 ++ wsJx4a65c0 ++ wsX70)
def wsX7_acceptBatches_r1 : List Cond := [Cond.fieldLink RX7 22 "ClearingFiles" "file" "LClearingFiles$Incoming;", Cond.fieldLink RX7 231 "ClearingFiles$Incoming" "batchCount" "I", Cond.fieldLink RX7 234 "ClearingFiles$Incoming" "batches" "[LClearingFiles$Batch;", Cond.fieldLink RX7 300 "ClearingFiles$Batch" "reason" "I", Cond.methodLink RX7 270 yX7_countRefusal, Cond.instanceMethod yX7_countRefusal, Cond.selects RX7 yX7_countRefusal yX7_countRefusal, Cond.initialized RX7, Cond.code yX7_countRefusal cX7_countRefusal 2 none, Cond.fieldLink RX7 34 "ClearingFiles" "refusals" "[I", Cond.methodLink RX7 320 yX7_acceptEntries, Cond.instanceMethod yX7_acceptEntries, Cond.selects RX7 yX7_acceptEntries yX7_acceptEntries, Cond.code yX7_acceptEntries cX7_acceptEntries 5 (some .int), Cond.fieldLink RX7 314 "ClearingFiles$Batch" "entries" "Ljava/util/ArrayList;", Cond.classLink RX7 151 "ClearingFiles$Entry", Cond.fieldLink RX7 179 "ClearingFiles$Entry" "reason" "I", Cond.fieldLink RX7 160 "ClearingFiles$Entry" "receiver" "LClearingFiles$Bank;", Cond.fieldLink RX7 213 "ClearingFiles$Bank" "entries" "Ljava/util/ArrayList;", Cond.methodLink RX7 48 yJx4a65c_size_8abf5, Cond.instanceMethod yJx4a65c_size_8abf5, Cond.selects RJx4a65c yJx4a65c_size_8abf5 yJx4a65c_size_8abf5, Cond.initialized RJx4a65c, Cond.code yJx4a65c_size_8abf5 cJx4a65c_size_8abf5 1 (some .int)]
def wsX7_acceptBatches_r2 : List Cond := [Cond.fieldLink RJx4a65c 48 "java/util/ArrayList" "size" "I", Cond.methodLink RX7 147 yJx4a65c_get_915e3, Cond.instanceMethod yJx4a65c_get_915e3, Cond.selects RJx4a65c yJx4a65c_get_915e3 yJx4a65c_get_915e3, Cond.code yJx4a65c_get_915e3 cJx4a65c_get_915e3 2 (some (.object "java/lang/Object")), Cond.methodLink RJx4a65c 118 yJ15_checkIndex_7cf53, Cond.static yJ15_checkIndex_7cf53, Cond.initialized RJ15, Cond.code yJ15_checkIndex_7cf53 cJ15_checkIndex_7cf53 2 (some .int), Cond.methodLink RJ15 105 yJ3_checkIndex_8e157, Cond.static yJ3_checkIndex_8e157, Cond.initialized RJ3, Cond.code yJ3_checkIndex_8e157 cJ3_checkIndex_8e157 3 (some .int), Cond.methodLink RJx4a65c 123 yJx4a65c_elementData_915e3, Cond.instanceMethod yJx4a65c_elementData_915e3, Cond.selects RJx4a65c yJx4a65c_elementData_915e3 yJx4a65c_elementData_915e3, Cond.code yJx4a65c_elementData_915e3 cJx4a65c_elementData_915e3 2 (some (.object "java/lang/Object")), Cond.fieldLink RJx4a65c 9 "java/util/ArrayList" "elementData" "[Ljava/lang/Object;", Cond.methodLink RX7 57 yJx4a65c_add_9ea2d, Cond.instanceMethod yJx4a65c_add_9ea2d, Cond.selects RJx4a65c yJx4a65c_add_9ea2d yJx4a65c_add_9ea2d, Cond.code yJx4a65c_add_9ea2d cJx4a65c_add_9ea2d 2 (some .boolean), Cond.fieldLink RJx4a65c 63 "java/util/ArrayList" "modCount" "I", Cond.sameField "java/util/ArrayList" "java/util/AbstractList" "modCount" "I"]
def wsX7_acceptBatches_r3 : List Cond := [Cond.methodLink RJx4a65c 131 yJx4a65c_add_72be8, Cond.instanceMethod yJx4a65c_add_72be8, Cond.selects RJx4a65c yJx4a65c_add_72be8 yJx4a65c_add_72be8, Cond.code yJx4a65c_add_72be8 cJx4a65c_add_72be8 4 none, Cond.methodLink RJx4a65c 129 yJx4a65c_grow_d5877, Cond.instanceMethod yJx4a65c_grow_d5877, Cond.selects RJx4a65c yJx4a65c_grow_d5877 yJx4a65c_grow_d5877, Cond.code yJx4a65c_grow_d5877 cJx4a65c_grow_d5877 1 (some (.array (.object "java/lang/Object"))), Cond.methodLink RJx4a65c 69 yJx4a65c_grow_92f84, Cond.instanceMethod yJx4a65c_grow_92f84, Cond.selects RJx4a65c yJx4a65c_grow_92f84 yJx4a65c_grow_92f84, Cond.code yJx4a65c_grow_92f84 cJx4a65c_grow_92f84 4 (some (.array (.object "java/lang/Object"))), Cond.fieldLink RJx4a65c 39 "java/util/ArrayList" "DEFAULTCAPACITY_EMPTY_ELEMENTDATA" "[Ljava/lang/Object;", Cond.methodLink RJx4a65c 79 Lib.Math.max.name, Cond.static Lib.Math.max.name, Cond.initialized "java/lang/Math", Cond.code Lib.Math.max.name Lib.Math.max.code 2 (some .int), Cond.classLink RJx4a65c 7 "java/lang/Object", Cond.methodLink RJx4a65c 73 yJ8_newLength_cabcc, Cond.static yJ8_newLength_cabcc, Cond.initialized RJ8, Cond.code yJ8_newLength_cabcc cJ8_newLength_cabcc 4 (some .int), Cond.methodLink RJ8 194 Lib.Math.max.name, Cond.constant RJ8 200 (2147483639)]
def wsX7_acceptBatches_r4 : List Cond := [Cond.methodLink RJ8 201 yJ8_hugeLength_7cf53, Cond.static yJ8_hugeLength_7cf53, Cond.code yJ8_hugeLength_7cf53 cJ8_hugeLength_7cf53 3 (some .int), Cond.methodLink RJx4a65c 66 yJ7_copyOf_1904c, Cond.static yJ7_copyOf_1904c, Cond.initialized RJ7, Cond.code yJ7_copyOf_1904c cJ7_copyOf_1904c 2 (some (.array (.object "java/lang/Object"))), Cond.methodLink RJ7 86 ⟨"java/lang/Object", "getClass", "()Ljava/lang/Class;"⟩, Cond.selects "[Ljava/lang/Object;" ⟨"java/lang/Object", "getClass", "()Ljava/lang/Class;"⟩ ⟨"java/lang/Object", "getClass", "()Ljava/lang/Class;"⟩, Cond.instanceMethod ⟨"java/lang/Object", "getClass", "()Ljava/lang/Class;"⟩, Cond.native ⟨"java/lang/Object", "getClass", "()Ljava/lang/Class;"⟩, Cond.methodLink RJ7 300 yJ7_copyOf_6403c, Cond.static yJ7_copyOf_6403c, Cond.code yJ7_copyOf_6403c cJ7_copyOf_6403c 4 (some (.array (.object "java/lang/Object"))), Cond.classLink RJ7 110 "[Ljava/lang/Object;", Cond.classLink RJ7 2 "java/lang/Object", Cond.methodLink RJ7 304 Lib.Math.min.name, Cond.static Lib.Math.min.name, Cond.code Lib.Math.min.name Lib.Math.min.code 2 (some .int), Cond.methodLink RJ7 150 arraycopyName, Cond.native arraycopyName, Cond.static arraycopyName, Cond.initialized "java/lang/System"]
def wsX7_acceptBatches : List Cond := .code yX7_acceptBatches cX7_acceptBatches 4 (some .int) :: ((wsX7_acceptBatches_r1 ++ (wsX7_acceptBatches_r2 ++ (wsX7_acceptBatches_r3 ++ wsX7_acceptBatches_r4))) ++ wsX70 ++ wsX40 ++ wsX20 ++ wsX30 ++ wsX10 ++ wsJx4a65c0)
def wsX7_endFile_r1 : List Cond := [Cond.fieldLink RX7 22 "ClearingFiles" "file" "LClearingFiles$Incoming;", Cond.methodLink RX7 91 yX4_end, Cond.instanceMethod yX4_end, Cond.selects RX4 yX4_end yX4_end, Cond.initialized RX4, Cond.code yX4_end cX4_end 1 none, Cond.fieldLink RX4 29 "ClearingFiles$Incoming" "underWay" "Z", Cond.methodLink RX7 267 yX7_reasonAgainstFile, Cond.instanceMethod yX7_reasonAgainstFile, Cond.selects RX7 yX7_reasonAgainstFile yX7_reasonAgainstFile, Cond.initialized RX7, Cond.code yX7_reasonAgainstFile cX7_reasonAgainstFile 5 (some .int), Cond.fieldLink RX7 283 "ClearingFiles$Incoming" "sender" "I", Cond.fieldLink RX7 231 "ClearingFiles$Incoming" "batchCount" "I", Cond.fieldLink RX7 250 "ClearingFiles$Incoming" "totals" "LClearingFiles$Totals;", Cond.methodLink RX7 44 yX7_bankWithRouting, Cond.instanceMethod yX7_bankWithRouting, Cond.selects RX7 yX7_bankWithRouting yX7_bankWithRouting, Cond.code yX7_bankWithRouting cX7_bankWithRouting 3 (some (.object "ClearingFiles$Bank")), Cond.fieldLink RX7 10 "ClearingFiles" "banks" "Ljava/util/ArrayList;", Cond.classLink RX7 52 "ClearingFiles$Bank", Cond.fieldLink RX7 224 "ClearingFiles$Bank" "routing" "I", Cond.methodLink RX7 48 yJx4a65c_size_8abf5, Cond.instanceMethod yJx4a65c_size_8abf5]
def wsX7_endFile_r2 : List Cond := [Cond.selects RJx4a65c yJx4a65c_size_8abf5 yJx4a65c_size_8abf5, Cond.initialized RJx4a65c, Cond.code yJx4a65c_size_8abf5 cJx4a65c_size_8abf5 1 (some .int), Cond.fieldLink RJx4a65c 48 "java/util/ArrayList" "size" "I", Cond.methodLink RX7 147 yJx4a65c_get_915e3, Cond.instanceMethod yJx4a65c_get_915e3, Cond.selects RJx4a65c yJx4a65c_get_915e3 yJx4a65c_get_915e3, Cond.code yJx4a65c_get_915e3 cJx4a65c_get_915e3 2 (some (.object "java/lang/Object")), Cond.methodLink RJx4a65c 118 yJ15_checkIndex_7cf53, Cond.static yJ15_checkIndex_7cf53, Cond.initialized RJ15, Cond.code yJ15_checkIndex_7cf53 cJ15_checkIndex_7cf53 2 (some .int), Cond.methodLink RJ15 105 yJ3_checkIndex_8e157, Cond.static yJ3_checkIndex_8e157, Cond.initialized RJ3, Cond.code yJ3_checkIndex_8e157 cJ3_checkIndex_8e157 3 (some .int), Cond.methodLink RJx4a65c 123 yJx4a65c_elementData_915e3, Cond.instanceMethod yJx4a65c_elementData_915e3, Cond.selects RJx4a65c yJx4a65c_elementData_915e3 yJx4a65c_elementData_915e3, Cond.code yJx4a65c_elementData_915e3 cJx4a65c_elementData_915e3 2 (some (.object "java/lang/Object")), Cond.fieldLink RJx4a65c 9 "java/util/ArrayList" "elementData" "[Ljava/lang/Object;", Cond.methodLink RX7 274 yX7_fileKey, Cond.instanceMethod yX7_fileKey, Cond.selects RX7 yX7_fileKey yX7_fileKey]
def wsX7_endFile_r3 : List Cond := [Cond.code yX7_fileKey cX7_fileKey 1 (some .int), Cond.fieldLink RX7 295 "ClearingFiles$Incoming" "number" "I", Cond.methodLink RX7 286 yX7_wasAccepted, Cond.instanceMethod yX7_wasAccepted, Cond.selects RX7 yX7_wasAccepted yX7_wasAccepted, Cond.code yX7_wasAccepted cX7_wasAccepted 3 (some .boolean), Cond.fieldLink RX7 30 "ClearingFiles" "acceptedCount" "I", Cond.fieldLink RX7 26 "ClearingFiles" "acceptedFiles" "[I", Cond.methodLink RX7 83 yX7_digits, Cond.static yX7_digits, Cond.code yX7_digits cX7_digits 14 (some .int), Cond.constantLong RX7 219 (10), Cond.methodLink RX7 260 yX6_are, Cond.instanceMethod yX6_are, Cond.selects RX6 yX6_are yX6_are, Cond.initialized RX6, Cond.code yX6_are cX6_are 5 (some .boolean), Cond.fieldLink RX6 9 "ClearingFiles$Totals" "count" "J", Cond.fieldLink RX6 15 "ClearingFiles$Totals" "hash" "J", Cond.fieldLink RX6 18 "ClearingFiles$Totals" "debits" "J", Cond.fieldLink RX6 21 "ClearingFiles$Totals" "credits" "J", Cond.methodLink RX7 289 yX7_waitingInAll, Cond.instanceMethod yX7_waitingInAll, Cond.selects RX7 yX7_waitingInAll yX7_waitingInAll]
def wsX7_endFile_r4 : List Cond := [Cond.code yX7_waitingInAll cX7_waitingInAll 3 (some .int), Cond.fieldLink RX7 213 "ClearingFiles$Bank" "entries" "Ljava/util/ArrayList;", Cond.methodLink RX7 292 yX7_judgeBatches, Cond.instanceMethod yX7_judgeBatches, Cond.selects RX7 yX7_judgeBatches yX7_judgeBatches, Cond.code yX7_judgeBatches cX7_judgeBatches 5 (some .int), Cond.fieldLink RX7 234 "ClearingFiles$Incoming" "batches" "[LClearingFiles$Batch;", Cond.fieldLink RX7 300 "ClearingFiles$Batch" "reason" "I", Cond.fieldLink RX7 305 "ClearingFiles$Batch" "number" "I", Cond.methodLink RX7 296 yX7_reasonAgainstBatch, Cond.instanceMethod yX7_reasonAgainstBatch, Cond.selects RX7 yX7_reasonAgainstBatch yX7_reasonAgainstBatch, Cond.code yX7_reasonAgainstBatch cX7_reasonAgainstBatch 3 (some .int), Cond.fieldLink RX7 306 "ClearingFiles$Batch" "originator" "I", Cond.fieldLink RX7 308 "ClearingFiles$Batch" "day" "I", Cond.fieldLink RX7 37 "ClearingFiles" "today" "I", Cond.fieldLink RX7 264 "ClearingFiles$Batch" "controlHolds" "Z", Cond.fieldLink RX7 311 "ClearingFiles$Batch" "tracesGrow" "Z", Cond.methodLink RX7 301 yX7_judgeEntries, Cond.instanceMethod yX7_judgeEntries, Cond.selects RX7 yX7_judgeEntries yX7_judgeEntries, Cond.code yX7_judgeEntries cX7_judgeEntries 5 (some .int), Cond.fieldLink RX7 314 "ClearingFiles$Batch" "entries" "Ljava/util/ArrayList;", Cond.classLink RX7 151 "ClearingFiles$Entry"]
def wsX7_endFile_r5 : List Cond := [Cond.fieldLink RX7 315 "ClearingFiles$Entry" "day" "I", Cond.fieldLink RX7 167 "ClearingFiles$Entry" "originator" "LClearingFiles$Bank;", Cond.fieldLink RX7 254 "ClearingFiles$Entry" "routing" "I", Cond.fieldLink RX7 160 "ClearingFiles$Entry" "receiver" "LClearingFiles$Bank;", Cond.fieldLink RX7 179 "ClearingFiles$Entry" "reason" "I", Cond.methodLink RX7 316 yX7_reasonAgainstEntry, Cond.static yX7_reasonAgainstEntry, Cond.code yX7_reasonAgainstEntry cX7_reasonAgainstEntry 1 (some .int), Cond.fieldLink RX7 157 "ClearingFiles$Entry" "code" "I", Cond.fieldLink RX7 173 "ClearingFiles$Entry" "amount" "I", Cond.methodLink RX7 40 yX7_isRight, Cond.static yX7_isRight, Cond.code yX7_isRight cX7_isRight 5 (some .boolean), Cond.fieldLink RX7 221 "ClearingFiles" "WEIGHTS" "[I", Cond.methodLink RX7 270 yX7_countRefusal, Cond.instanceMethod yX7_countRefusal, Cond.selects RX7 yX7_countRefusal yX7_countRefusal, Cond.code yX7_countRefusal cX7_countRefusal 2 none, Cond.fieldLink RX7 34 "ClearingFiles" "refusals" "[I", Cond.methodLink RX7 277 yX7_keepAsAccepted, Cond.instanceMethod yX7_keepAsAccepted, Cond.selects RX7 yX7_keepAsAccepted yX7_keepAsAccepted, Cond.code yX7_keepAsAccepted cX7_keepAsAccepted 2 none, Cond.methodLink RX7 280 yX7_acceptBatches]
def wsX7_endFile_r6 : List Cond := [Cond.instanceMethod yX7_acceptBatches, Cond.selects RX7 yX7_acceptBatches yX7_acceptBatches, Cond.code yX7_acceptBatches cX7_acceptBatches 4 (some .int), Cond.methodLink RX7 320 yX7_acceptEntries, Cond.instanceMethod yX7_acceptEntries, Cond.selects RX7 yX7_acceptEntries yX7_acceptEntries, Cond.code yX7_acceptEntries cX7_acceptEntries 5 (some .int), Cond.methodLink RX7 57 yJx4a65c_add_9ea2d, Cond.instanceMethod yJx4a65c_add_9ea2d, Cond.selects RJx4a65c yJx4a65c_add_9ea2d yJx4a65c_add_9ea2d, Cond.code yJx4a65c_add_9ea2d cJx4a65c_add_9ea2d 2 (some .boolean), Cond.fieldLink RJx4a65c 63 "java/util/ArrayList" "modCount" "I", Cond.sameField "java/util/ArrayList" "java/util/AbstractList" "modCount" "I", Cond.methodLink RJx4a65c 131 yJx4a65c_add_72be8, Cond.instanceMethod yJx4a65c_add_72be8, Cond.selects RJx4a65c yJx4a65c_add_72be8 yJx4a65c_add_72be8, Cond.code yJx4a65c_add_72be8 cJx4a65c_add_72be8 4 none, Cond.methodLink RJx4a65c 129 yJx4a65c_grow_d5877, Cond.instanceMethod yJx4a65c_grow_d5877, Cond.selects RJx4a65c yJx4a65c_grow_d5877 yJx4a65c_grow_d5877, Cond.code yJx4a65c_grow_d5877 cJx4a65c_grow_d5877 1 (some (.array (.object "java/lang/Object"))), Cond.methodLink RJx4a65c 69 yJx4a65c_grow_92f84, Cond.instanceMethod yJx4a65c_grow_92f84, Cond.selects RJx4a65c yJx4a65c_grow_92f84 yJx4a65c_grow_92f84]
def wsX7_endFile_r7 : List Cond := [Cond.code yJx4a65c_grow_92f84 cJx4a65c_grow_92f84 4 (some (.array (.object "java/lang/Object"))), Cond.fieldLink RJx4a65c 39 "java/util/ArrayList" "DEFAULTCAPACITY_EMPTY_ELEMENTDATA" "[Ljava/lang/Object;", Cond.methodLink RJx4a65c 79 Lib.Math.max.name, Cond.static Lib.Math.max.name, Cond.initialized "java/lang/Math", Cond.code Lib.Math.max.name Lib.Math.max.code 2 (some .int), Cond.classLink RJx4a65c 7 "java/lang/Object", Cond.methodLink RJx4a65c 73 yJ8_newLength_cabcc, Cond.static yJ8_newLength_cabcc, Cond.initialized RJ8, Cond.code yJ8_newLength_cabcc cJ8_newLength_cabcc 4 (some .int), Cond.methodLink RJ8 194 Lib.Math.max.name, Cond.constant RJ8 200 (2147483639), Cond.methodLink RJ8 201 yJ8_hugeLength_7cf53, Cond.static yJ8_hugeLength_7cf53, Cond.code yJ8_hugeLength_7cf53 cJ8_hugeLength_7cf53 3 (some .int), Cond.methodLink RJx4a65c 66 yJ7_copyOf_1904c, Cond.static yJ7_copyOf_1904c, Cond.initialized RJ7, Cond.code yJ7_copyOf_1904c cJ7_copyOf_1904c 2 (some (.array (.object "java/lang/Object"))), Cond.methodLink RJ7 86 ⟨"java/lang/Object", "getClass", "()Ljava/lang/Class;"⟩, Cond.selects "[Ljava/lang/Object;" ⟨"java/lang/Object", "getClass", "()Ljava/lang/Class;"⟩ ⟨"java/lang/Object", "getClass", "()Ljava/lang/Class;"⟩, Cond.instanceMethod ⟨"java/lang/Object", "getClass", "()Ljava/lang/Class;"⟩, Cond.native ⟨"java/lang/Object", "getClass", "()Ljava/lang/Class;"⟩]
def wsX7_endFile_r8 : List Cond := [Cond.methodLink RJ7 300 yJ7_copyOf_6403c, Cond.static yJ7_copyOf_6403c, Cond.code yJ7_copyOf_6403c cJ7_copyOf_6403c 4 (some (.array (.object "java/lang/Object"))), Cond.classLink RJ7 110 "[Ljava/lang/Object;", Cond.classLink RJ7 2 "java/lang/Object", Cond.methodLink RJ7 304 Lib.Math.min.name, Cond.static Lib.Math.min.name, Cond.code Lib.Math.min.name Lib.Math.min.code 2 (some .int), Cond.methodLink RJ7 150 arraycopyName, Cond.native arraycopyName, Cond.static arraycopyName, Cond.initialized "java/lang/System"]
def wsX7_endFile : List Cond := .code yX7_endFile cX7_endFile 6 (some .int) :: ((wsX7_endFile_r1 ++ (wsX7_endFile_r2 ++ (wsX7_endFile_r3 ++ (wsX7_endFile_r4 ++ (wsX7_endFile_r5 ++ (wsX7_endFile_r6 ++ (wsX7_endFile_r7 ++ wsX7_endFile_r8))))))) ++ wsX70 ++ wsX40 ++ wsX10 ++ wsJx4a65c0 ++ wsX60 ++ wsX20 ++ wsX30)
def wsX7_put_r1 : List Cond := [Cond.fieldLink RX7 22 "ClearingFiles" "file" "LClearingFiles$Incoming;", Cond.methodLink RX7 79 yX7_isHalf, Cond.static yX7_isHalf, Cond.initialized RX7, Cond.code yX7_isHalf cX7_isHalf 2 (some .boolean), Cond.constantLong RX7 217 (999999999999999999), Cond.methodLink RX7 83 yX7_digits, Cond.static yX7_digits, Cond.code yX7_digits cX7_digits 14 (some .int), Cond.constantLong RX7 219 (10), Cond.methodLink RX7 87 yX4_allows, Cond.instanceMethod yX4_allows, Cond.selects RX4 yX4_allows yX4_allows, Cond.initialized RX4, Cond.code yX4_allows cX4_allows 2 (some .boolean), Cond.fieldLink RX4 29 "ClearingFiles$Incoming" "underWay" "Z", Cond.fieldLink RX4 33 "ClearingFiles$Incoming" "inBatch" "Z", Cond.methodLink RX7 91 yX4_end, Cond.instanceMethod yX4_end, Cond.selects RX4 yX4_end yX4_end, Cond.code yX4_end cX4_end 1 none, Cond.methodLink RX7 94 yX4_begin, Cond.instanceMethod yX4_begin, Cond.selects RX4 yX4_begin yX4_begin]
def wsX7_put_r2 : List Cond := [Cond.code yX4_begin cX4_begin 3 none, Cond.fieldLink RX4 36 "ClearingFiles$Incoming" "sender" "I", Cond.fieldLink RX4 40 "ClearingFiles$Incoming" "number" "I", Cond.fieldLink RX4 20 "ClearingFiles$Incoming" "totals" "LClearingFiles$Totals;", Cond.fieldLink RX4 46 "ClearingFiles$Incoming" "batchCount" "I", Cond.methodLink RX4 43 yX6_clear, Cond.instanceMethod yX6_clear, Cond.selects RX6 yX6_clear yX6_clear, Cond.initialized RX6, Cond.code yX6_clear cX6_clear 1 none, Cond.fieldLink RX6 9 "ClearingFiles$Totals" "count" "J", Cond.fieldLink RX6 15 "ClearingFiles$Totals" "hash" "J", Cond.fieldLink RX6 18 "ClearingFiles$Totals" "debits" "J", Cond.fieldLink RX6 21 "ClearingFiles$Totals" "credits" "J", Cond.methodLink RX7 97 yX7_beginBatch, Cond.instanceMethod yX7_beginBatch, Cond.selects RX7 yX7_beginBatch yX7_beginBatch, Cond.code yX7_beginBatch cX7_beginBatch 6 (some .int), Cond.fieldLink RX7 231 "ClearingFiles$Incoming" "batchCount" "I", Cond.fieldLink RX7 234 "ClearingFiles$Incoming" "batches" "[LClearingFiles$Batch;", Cond.fieldLink RX7 243 "ClearingFiles$Incoming" "current" "LClearingFiles$Batch;", Cond.fieldLink RX7 247 "ClearingFiles$Incoming" "inBatch" "Z", Cond.methodLink RX7 238 yX2_begin, Cond.instanceMethod yX2_begin]
def wsX7_put_r3 : List Cond := [Cond.selects RX2 yX2_begin yX2_begin, Cond.initialized RX2, Cond.code yX2_begin cX2_begin 4 none, Cond.fieldLink RX2 23 "ClearingFiles$Batch" "originator" "I", Cond.fieldLink RX2 27 "ClearingFiles$Batch" "number" "I", Cond.fieldLink RX2 30 "ClearingFiles$Batch" "day" "I", Cond.fieldLink RX2 10 "ClearingFiles$Batch" "entries" "Ljava/util/ArrayList;", Cond.fieldLink RX2 19 "ClearingFiles$Batch" "totals" "LClearingFiles$Totals;", Cond.fieldLink RX2 37 "ClearingFiles$Batch" "lastTrace" "I", Cond.fieldLink RX2 40 "ClearingFiles$Batch" "tracesGrow" "Z", Cond.methodLink RX2 33 yJx4a65c_clear_da8c8, Cond.instanceMethod yJx4a65c_clear_da8c8, Cond.selects RJx4a65c yJx4a65c_clear_da8c8 yJx4a65c_clear_da8c8, Cond.initialized RJx4a65c, Cond.code yJx4a65c_clear_da8c8 cJx4a65c_clear_da8c8 4 none, Cond.fieldLink RJx4a65c 63 "java/util/ArrayList" "modCount" "I", Cond.sameField "java/util/ArrayList" "java/util/AbstractList" "modCount" "I", Cond.fieldLink RJx4a65c 9 "java/util/ArrayList" "elementData" "[Ljava/lang/Object;", Cond.fieldLink RJx4a65c 48 "java/util/ArrayList" "size" "I", Cond.methodLink RX2 36 yX6_clear, Cond.methodLink RX7 101 yX7_addEntry, Cond.instanceMethod yX7_addEntry, Cond.selects RX7 yX7_addEntry yX7_addEntry, Cond.code yX7_addEntry cX7_addEntry 6 (some .int)]
def wsX7_put_r4 : List Cond := [Cond.fieldLink RX7 250 "ClearingFiles$Incoming" "totals" "LClearingFiles$Totals;", Cond.fieldLink RX7 192 "ClearingFiles$Totals" "count" "J", Cond.constantLong RX7 251 (20), Cond.classLink RX7 151 RX3, Cond.instantiable RX3 9, Cond.initialized RX3, Cond.fieldLink RX7 157 "ClearingFiles$Entry" "code" "I", Cond.fieldLink RX7 254 "ClearingFiles$Entry" "routing" "I", Cond.fieldLink RX7 170 "ClearingFiles$Entry" "account" "I", Cond.fieldLink RX7 173 "ClearingFiles$Entry" "amount" "I", Cond.fieldLink RX7 176 "ClearingFiles$Entry" "trace" "I", Cond.instanceMethod yX3_init, Cond.code yX3_init cX3_init 1 none, Cond.methodLink RX3 1 objectInit, Cond.instanceMethod objectInit, Cond.code objectInit ⟨#[0xb1]⟩ 1 none, Cond.methodLink RX7 255 yX2_add, Cond.instanceMethod yX2_add, Cond.selects RX2 yX2_add yX2_add, Cond.code yX2_add cX2_add 2 none, Cond.fieldLink RX2 51 "ClearingFiles$Entry" "trace" "I", Cond.methodLink RX2 44 yJx4a65c_add_9ea2d, Cond.instanceMethod yJx4a65c_add_9ea2d, Cond.selects RJx4a65c yJx4a65c_add_9ea2d yJx4a65c_add_9ea2d]
def wsX7_put_r5 : List Cond := [Cond.code yJx4a65c_add_9ea2d cJx4a65c_add_9ea2d 2 (some .boolean), Cond.methodLink RJx4a65c 131 yJx4a65c_add_72be8, Cond.instanceMethod yJx4a65c_add_72be8, Cond.selects RJx4a65c yJx4a65c_add_72be8 yJx4a65c_add_72be8, Cond.code yJx4a65c_add_72be8 cJx4a65c_add_72be8 4 none, Cond.methodLink RJx4a65c 129 yJx4a65c_grow_d5877, Cond.instanceMethod yJx4a65c_grow_d5877, Cond.selects RJx4a65c yJx4a65c_grow_d5877 yJx4a65c_grow_d5877, Cond.code yJx4a65c_grow_d5877 cJx4a65c_grow_d5877 1 (some (.array (.object "java/lang/Object"))), Cond.methodLink RJx4a65c 69 yJx4a65c_grow_92f84, Cond.instanceMethod yJx4a65c_grow_92f84, Cond.selects RJx4a65c yJx4a65c_grow_92f84 yJx4a65c_grow_92f84, Cond.code yJx4a65c_grow_92f84 cJx4a65c_grow_92f84 4 (some (.array (.object "java/lang/Object"))), Cond.fieldLink RJx4a65c 39 "java/util/ArrayList" "DEFAULTCAPACITY_EMPTY_ELEMENTDATA" "[Ljava/lang/Object;", Cond.methodLink RJx4a65c 79 Lib.Math.max.name, Cond.static Lib.Math.max.name, Cond.initialized "java/lang/Math", Cond.code Lib.Math.max.name Lib.Math.max.code 2 (some .int), Cond.classLink RJx4a65c 7 "java/lang/Object", Cond.methodLink RJx4a65c 73 yJ8_newLength_cabcc, Cond.static yJ8_newLength_cabcc, Cond.initialized RJ8, Cond.code yJ8_newLength_cabcc cJ8_newLength_cabcc 4 (some .int), Cond.methodLink RJ8 194 Lib.Math.max.name]
def wsX7_put_r6 : List Cond := [Cond.constant RJ8 200 (2147483639), Cond.methodLink RJ8 201 yJ8_hugeLength_7cf53, Cond.static yJ8_hugeLength_7cf53, Cond.code yJ8_hugeLength_7cf53 cJ8_hugeLength_7cf53 3 (some .int), Cond.methodLink RJx4a65c 66 yJ7_copyOf_1904c, Cond.static yJ7_copyOf_1904c, Cond.initialized RJ7, Cond.code yJ7_copyOf_1904c cJ7_copyOf_1904c 2 (some (.array (.object "java/lang/Object"))), Cond.methodLink RJ7 86 ⟨"java/lang/Object", "getClass", "()Ljava/lang/Class;"⟩, Cond.selects "[Ljava/lang/Object;" ⟨"java/lang/Object", "getClass", "()Ljava/lang/Class;"⟩ ⟨"java/lang/Object", "getClass", "()Ljava/lang/Class;"⟩, Cond.instanceMethod ⟨"java/lang/Object", "getClass", "()Ljava/lang/Class;"⟩, Cond.native ⟨"java/lang/Object", "getClass", "()Ljava/lang/Class;"⟩, Cond.methodLink RJ7 300 yJ7_copyOf_6403c, Cond.static yJ7_copyOf_6403c, Cond.code yJ7_copyOf_6403c cJ7_copyOf_6403c 4 (some (.array (.object "java/lang/Object"))), Cond.classLink RJ7 110 "[Ljava/lang/Object;", Cond.classLink RJ7 2 "java/lang/Object", Cond.methodLink RJ7 304 Lib.Math.min.name, Cond.static Lib.Math.min.name, Cond.code Lib.Math.min.name Lib.Math.min.code 2 (some .int), Cond.methodLink RJ7 150 arraycopyName, Cond.native arraycopyName, Cond.static arraycopyName, Cond.initialized "java/lang/System"]
def wsX7_put_r7 : List Cond := [Cond.methodLink RX2 48 yX6_add, Cond.instanceMethod yX6_add, Cond.selects RX6 yX6_add yX6_add, Cond.code yX6_add cX6_add 2 none, Cond.fieldLink RX6 24 "ClearingFiles$Entry" "routing" "I", Cond.fieldLink RX6 30 "ClearingFiles$Entry" "code" "I", Cond.fieldLink RX6 33 "ClearingFiles$Entry" "amount" "I", Cond.methodLink RX7 258 yX6_add, Cond.methodLink RX7 104 yX7_endBatch, Cond.instanceMethod yX7_endBatch, Cond.selects RX7 yX7_endBatch yX7_endBatch, Cond.code yX7_endBatch cX7_endBatch 6 none, Cond.fieldLink RX7 259 "ClearingFiles$Batch" "totals" "LClearingFiles$Totals;", Cond.fieldLink RX7 264 "ClearingFiles$Batch" "controlHolds" "Z", Cond.methodLink RX7 260 yX6_are, Cond.instanceMethod yX6_are, Cond.selects RX6 yX6_are yX6_are, Cond.code yX6_are cX6_are 5 (some .boolean), Cond.methodLink RX7 108 yX7_endFile, Cond.instanceMethod yX7_endFile, Cond.selects RX7 yX7_endFile yX7_endFile, Cond.code yX7_endFile cX7_endFile 6 (some .int), Cond.methodLink RX7 267 yX7_reasonAgainstFile, Cond.instanceMethod yX7_reasonAgainstFile]
def wsX7_put_r8 : List Cond := [Cond.selects RX7 yX7_reasonAgainstFile yX7_reasonAgainstFile, Cond.code yX7_reasonAgainstFile cX7_reasonAgainstFile 5 (some .int), Cond.fieldLink RX7 283 "ClearingFiles$Incoming" "sender" "I", Cond.methodLink RX7 44 yX7_bankWithRouting, Cond.instanceMethod yX7_bankWithRouting, Cond.selects RX7 yX7_bankWithRouting yX7_bankWithRouting, Cond.code yX7_bankWithRouting cX7_bankWithRouting 3 (some (.object "ClearingFiles$Bank")), Cond.fieldLink RX7 10 "ClearingFiles" "banks" "Ljava/util/ArrayList;", Cond.classLink RX7 52 "ClearingFiles$Bank", Cond.fieldLink RX7 224 "ClearingFiles$Bank" "routing" "I", Cond.methodLink RX7 48 yJx4a65c_size_8abf5, Cond.instanceMethod yJx4a65c_size_8abf5, Cond.selects RJx4a65c yJx4a65c_size_8abf5 yJx4a65c_size_8abf5, Cond.code yJx4a65c_size_8abf5 cJx4a65c_size_8abf5 1 (some .int), Cond.methodLink RX7 147 yJx4a65c_get_915e3, Cond.instanceMethod yJx4a65c_get_915e3, Cond.selects RJx4a65c yJx4a65c_get_915e3 yJx4a65c_get_915e3, Cond.code yJx4a65c_get_915e3 cJx4a65c_get_915e3 2 (some (.object "java/lang/Object")), Cond.methodLink RJx4a65c 118 yJ15_checkIndex_7cf53, Cond.static yJ15_checkIndex_7cf53, Cond.initialized RJ15, Cond.code yJ15_checkIndex_7cf53 cJ15_checkIndex_7cf53 2 (some .int), Cond.methodLink RJ15 105 yJ3_checkIndex_8e157, Cond.static yJ3_checkIndex_8e157]
def wsX7_put_r9 : List Cond := [Cond.initialized RJ3, Cond.code yJ3_checkIndex_8e157 cJ3_checkIndex_8e157 3 (some .int), Cond.methodLink RJx4a65c 123 yJx4a65c_elementData_915e3, Cond.instanceMethod yJx4a65c_elementData_915e3, Cond.selects RJx4a65c yJx4a65c_elementData_915e3 yJx4a65c_elementData_915e3, Cond.code yJx4a65c_elementData_915e3 cJx4a65c_elementData_915e3 2 (some (.object "java/lang/Object")), Cond.methodLink RX7 274 yX7_fileKey, Cond.instanceMethod yX7_fileKey, Cond.selects RX7 yX7_fileKey yX7_fileKey, Cond.code yX7_fileKey cX7_fileKey 1 (some .int), Cond.fieldLink RX7 295 "ClearingFiles$Incoming" "number" "I", Cond.methodLink RX7 286 yX7_wasAccepted, Cond.instanceMethod yX7_wasAccepted, Cond.selects RX7 yX7_wasAccepted yX7_wasAccepted, Cond.code yX7_wasAccepted cX7_wasAccepted 3 (some .boolean), Cond.fieldLink RX7 30 "ClearingFiles" "acceptedCount" "I", Cond.fieldLink RX7 26 "ClearingFiles" "acceptedFiles" "[I", Cond.methodLink RX7 289 yX7_waitingInAll, Cond.instanceMethod yX7_waitingInAll, Cond.selects RX7 yX7_waitingInAll yX7_waitingInAll, Cond.code yX7_waitingInAll cX7_waitingInAll 3 (some .int), Cond.fieldLink RX7 213 "ClearingFiles$Bank" "entries" "Ljava/util/ArrayList;", Cond.methodLink RX7 292 yX7_judgeBatches, Cond.instanceMethod yX7_judgeBatches]
def wsX7_put_r10 : List Cond := [Cond.selects RX7 yX7_judgeBatches yX7_judgeBatches, Cond.code yX7_judgeBatches cX7_judgeBatches 5 (some .int), Cond.fieldLink RX7 300 "ClearingFiles$Batch" "reason" "I", Cond.fieldLink RX7 305 "ClearingFiles$Batch" "number" "I", Cond.methodLink RX7 296 yX7_reasonAgainstBatch, Cond.instanceMethod yX7_reasonAgainstBatch, Cond.selects RX7 yX7_reasonAgainstBatch yX7_reasonAgainstBatch, Cond.code yX7_reasonAgainstBatch cX7_reasonAgainstBatch 3 (some .int), Cond.fieldLink RX7 306 "ClearingFiles$Batch" "originator" "I", Cond.fieldLink RX7 308 "ClearingFiles$Batch" "day" "I", Cond.fieldLink RX7 37 "ClearingFiles" "today" "I", Cond.fieldLink RX7 311 "ClearingFiles$Batch" "tracesGrow" "Z", Cond.methodLink RX7 301 yX7_judgeEntries, Cond.instanceMethod yX7_judgeEntries, Cond.selects RX7 yX7_judgeEntries yX7_judgeEntries, Cond.code yX7_judgeEntries cX7_judgeEntries 5 (some .int), Cond.fieldLink RX7 314 "ClearingFiles$Batch" "entries" "Ljava/util/ArrayList;", Cond.classLink RX7 151 "ClearingFiles$Entry", Cond.fieldLink RX7 315 "ClearingFiles$Entry" "day" "I", Cond.fieldLink RX7 167 "ClearingFiles$Entry" "originator" "LClearingFiles$Bank;", Cond.fieldLink RX7 160 "ClearingFiles$Entry" "receiver" "LClearingFiles$Bank;", Cond.fieldLink RX7 179 "ClearingFiles$Entry" "reason" "I", Cond.methodLink RX7 316 yX7_reasonAgainstEntry, Cond.static yX7_reasonAgainstEntry]
def wsX7_put_r11 : List Cond := [Cond.code yX7_reasonAgainstEntry cX7_reasonAgainstEntry 1 (some .int), Cond.methodLink RX7 40 yX7_isRight, Cond.static yX7_isRight, Cond.code yX7_isRight cX7_isRight 5 (some .boolean), Cond.fieldLink RX7 221 "ClearingFiles" "WEIGHTS" "[I", Cond.methodLink RX7 270 yX7_countRefusal, Cond.instanceMethod yX7_countRefusal, Cond.selects RX7 yX7_countRefusal yX7_countRefusal, Cond.code yX7_countRefusal cX7_countRefusal 2 none, Cond.fieldLink RX7 34 "ClearingFiles" "refusals" "[I", Cond.methodLink RX7 277 yX7_keepAsAccepted, Cond.instanceMethod yX7_keepAsAccepted, Cond.selects RX7 yX7_keepAsAccepted yX7_keepAsAccepted, Cond.code yX7_keepAsAccepted cX7_keepAsAccepted 2 none, Cond.methodLink RX7 280 yX7_acceptBatches, Cond.instanceMethod yX7_acceptBatches, Cond.selects RX7 yX7_acceptBatches yX7_acceptBatches, Cond.code yX7_acceptBatches cX7_acceptBatches 4 (some .int), Cond.methodLink RX7 320 yX7_acceptEntries, Cond.instanceMethod yX7_acceptEntries, Cond.selects RX7 yX7_acceptEntries yX7_acceptEntries, Cond.code yX7_acceptEntries cX7_acceptEntries 5 (some .int), Cond.methodLink RX7 57 yJx4a65c_add_9ea2d]
def wsX7_put : List Cond := .code yX7_put cX7_put 6 (some .int) :: ((wsX7_put_r1 ++ (wsX7_put_r2 ++ (wsX7_put_r3 ++ (wsX7_put_r4 ++ (wsX7_put_r5 ++ (wsX7_put_r6 ++ (wsX7_put_r7 ++ (wsX7_put_r8 ++ (wsX7_put_r9 ++ (wsX7_put_r10 ++ wsX7_put_r11)))))))))) ++ wsX70 ++ wsX40 ++ wsX60 ++ wsX20 ++ wsJx4a65c0 ++ wsX30 ++ wsX10)
def wsX7_settle : List Cond := .code yX7_settle cX7_settle 5 none :: ([.fieldLink RX7 157 "ClearingFiles$Entry" "code" "I", .fieldLink RX7 173 "ClearingFiles$Entry" "amount" "I", .fieldLink RX7 160 "ClearingFiles$Entry" "receiver" "LClearingFiles$Bank;", .fieldLink RX7 210 "ClearingFiles$Bank" "ledger" "J", .fieldLink RX7 167 "ClearingFiles$Entry" "originator" "LClearingFiles$Bank;"] ++ wsX30 ++ wsX10)
def wsX7_handOutReturns_r1 : List Cond := [Cond.fieldLink RX7 214 "ClearingFiles$Bank" "returns" "Ljava/util/ArrayList;", Cond.classLink RX7 151 "ClearingFiles$Entry", Cond.fieldLink RX7 111 "ClearingFiles$Bank" "output" "LClearingFiles$Output;", Cond.methodLink RX7 48 yJx4a65c_size_8abf5, Cond.instanceMethod yJx4a65c_size_8abf5, Cond.selects RJx4a65c yJx4a65c_size_8abf5 yJx4a65c_size_8abf5, Cond.initialized RJx4a65c, Cond.code yJx4a65c_size_8abf5 cJx4a65c_size_8abf5 1 (some .int), Cond.fieldLink RJx4a65c 48 "java/util/ArrayList" "size" "I", Cond.methodLink RX7 147 yJx4a65c_get_915e3, Cond.instanceMethod yJx4a65c_get_915e3, Cond.selects RJx4a65c yJx4a65c_get_915e3 yJx4a65c_get_915e3, Cond.code yJx4a65c_get_915e3 cJx4a65c_get_915e3 2 (some (.object "java/lang/Object")), Cond.methodLink RJx4a65c 118 yJ15_checkIndex_7cf53, Cond.static yJ15_checkIndex_7cf53, Cond.initialized RJ15, Cond.code yJ15_checkIndex_7cf53 cJ15_checkIndex_7cf53 2 (some .int), Cond.methodLink RJ15 105 yJ3_checkIndex_8e157, Cond.static yJ3_checkIndex_8e157, Cond.initialized RJ3, Cond.code yJ3_checkIndex_8e157 cJ3_checkIndex_8e157 3 (some .int), Cond.methodLink RJx4a65c 123 yJx4a65c_elementData_915e3, Cond.instanceMethod yJx4a65c_elementData_915e3, Cond.selects RJx4a65c yJx4a65c_elementData_915e3 yJx4a65c_elementData_915e3]
def wsX7_handOutReturns_r2 : List Cond := [Cond.code yJx4a65c_elementData_915e3 cJx4a65c_elementData_915e3 2 (some (.object "java/lang/Object")), Cond.fieldLink RJx4a65c 9 "java/util/ArrayList" "elementData" "[Ljava/lang/Object;", Cond.methodLink RX7 323 yX5_addReturn, Cond.instanceMethod yX5_addReturn, Cond.selects RX5 yX5_addReturn yX5_addReturn, Cond.initialized RX5, Cond.code yX5_addReturn cX5_addReturn 2 none, Cond.fieldLink RX5 10 "ClearingFiles$Output" "entries" "Ljava/util/ArrayList;", Cond.fieldLink RX5 19 "ClearingFiles$Output" "totals" "LClearingFiles$Totals;", Cond.fieldLink RX5 27 "ClearingFiles$Output" "returns" "I", Cond.methodLink RX5 51 yJx4a65c_add_9ea2d, Cond.instanceMethod yJx4a65c_add_9ea2d, Cond.selects RJx4a65c yJx4a65c_add_9ea2d yJx4a65c_add_9ea2d, Cond.code yJx4a65c_add_9ea2d cJx4a65c_add_9ea2d 2 (some .boolean), Cond.fieldLink RJx4a65c 63 "java/util/ArrayList" "modCount" "I", Cond.sameField "java/util/ArrayList" "java/util/AbstractList" "modCount" "I", Cond.methodLink RJx4a65c 131 yJx4a65c_add_72be8, Cond.instanceMethod yJx4a65c_add_72be8, Cond.selects RJx4a65c yJx4a65c_add_72be8 yJx4a65c_add_72be8, Cond.code yJx4a65c_add_72be8 cJx4a65c_add_72be8 4 none, Cond.methodLink RJx4a65c 129 yJx4a65c_grow_d5877, Cond.instanceMethod yJx4a65c_grow_d5877, Cond.selects RJx4a65c yJx4a65c_grow_d5877 yJx4a65c_grow_d5877, Cond.code yJx4a65c_grow_d5877 cJx4a65c_grow_d5877 1 (some (.array (.object "java/lang/Object")))]
def wsX7_handOutReturns_r3 : List Cond := [Cond.methodLink RJx4a65c 69 yJx4a65c_grow_92f84, Cond.instanceMethod yJx4a65c_grow_92f84, Cond.selects RJx4a65c yJx4a65c_grow_92f84 yJx4a65c_grow_92f84, Cond.code yJx4a65c_grow_92f84 cJx4a65c_grow_92f84 4 (some (.array (.object "java/lang/Object"))), Cond.fieldLink RJx4a65c 39 "java/util/ArrayList" "DEFAULTCAPACITY_EMPTY_ELEMENTDATA" "[Ljava/lang/Object;", Cond.methodLink RJx4a65c 79 Lib.Math.max.name, Cond.static Lib.Math.max.name, Cond.initialized "java/lang/Math", Cond.code Lib.Math.max.name Lib.Math.max.code 2 (some .int), Cond.classLink RJx4a65c 7 "java/lang/Object", Cond.methodLink RJx4a65c 73 yJ8_newLength_cabcc, Cond.static yJ8_newLength_cabcc, Cond.initialized RJ8, Cond.code yJ8_newLength_cabcc cJ8_newLength_cabcc 4 (some .int), Cond.methodLink RJ8 194 Lib.Math.max.name, Cond.constant RJ8 200 (2147483639), Cond.methodLink RJ8 201 yJ8_hugeLength_7cf53, Cond.static yJ8_hugeLength_7cf53, Cond.code yJ8_hugeLength_7cf53 cJ8_hugeLength_7cf53 3 (some .int), Cond.methodLink RJx4a65c 66 yJ7_copyOf_1904c, Cond.static yJ7_copyOf_1904c, Cond.initialized RJ7, Cond.code yJ7_copyOf_1904c cJ7_copyOf_1904c 2 (some (.array (.object "java/lang/Object"))), Cond.methodLink RJ7 86 ⟨"java/lang/Object", "getClass", "()Ljava/lang/Class;"⟩]
def wsX7_handOutReturns_r4 : List Cond := [Cond.selects "[Ljava/lang/Object;" ⟨"java/lang/Object", "getClass", "()Ljava/lang/Class;"⟩ ⟨"java/lang/Object", "getClass", "()Ljava/lang/Class;"⟩, Cond.instanceMethod ⟨"java/lang/Object", "getClass", "()Ljava/lang/Class;"⟩, Cond.native ⟨"java/lang/Object", "getClass", "()Ljava/lang/Class;"⟩, Cond.methodLink RJ7 300 yJ7_copyOf_6403c, Cond.static yJ7_copyOf_6403c, Cond.code yJ7_copyOf_6403c cJ7_copyOf_6403c 4 (some (.array (.object "java/lang/Object"))), Cond.classLink RJ7 110 "[Ljava/lang/Object;", Cond.classLink RJ7 2 "java/lang/Object", Cond.methodLink RJ7 304 Lib.Math.min.name, Cond.static Lib.Math.min.name, Cond.code Lib.Math.min.name Lib.Math.min.code 2 (some .int), Cond.methodLink RJ7 150 arraycopyName, Cond.native arraycopyName, Cond.static arraycopyName, Cond.initialized "java/lang/System", Cond.methodLink RX5 55 yX6_add, Cond.instanceMethod yX6_add, Cond.selects RX6 yX6_add yX6_add, Cond.initialized RX6, Cond.code yX6_add cX6_add 2 none, Cond.fieldLink RX6 9 "ClearingFiles$Totals" "count" "J", Cond.fieldLink RX6 15 "ClearingFiles$Totals" "hash" "J", Cond.fieldLink RX6 24 "ClearingFiles$Entry" "routing" "I", Cond.fieldLink RX6 30 "ClearingFiles$Entry" "code" "I"]
def wsX7_handOutReturns_r5 : List Cond := [Cond.fieldLink RX6 18 "ClearingFiles$Totals" "debits" "J", Cond.fieldLink RX6 33 "ClearingFiles$Entry" "amount" "I", Cond.fieldLink RX6 21 "ClearingFiles$Totals" "credits" "J", Cond.methodLink RX7 326 yX7_settle, Cond.static yX7_settle, Cond.initialized RX7, Cond.code yX7_settle cX7_settle 5 none, Cond.fieldLink RX7 157 "ClearingFiles$Entry" "code" "I", Cond.fieldLink RX7 173 "ClearingFiles$Entry" "amount" "I", Cond.fieldLink RX7 160 "ClearingFiles$Entry" "receiver" "LClearingFiles$Bank;", Cond.fieldLink RX7 210 "ClearingFiles$Bank" "ledger" "J", Cond.fieldLink RX7 167 "ClearingFiles$Entry" "originator" "LClearingFiles$Bank;", Cond.methodLink RX7 330 yJx4a65c_clear_da8c8, Cond.instanceMethod yJx4a65c_clear_da8c8, Cond.selects RJx4a65c yJx4a65c_clear_da8c8 yJx4a65c_clear_da8c8, Cond.code yJx4a65c_clear_da8c8 cJx4a65c_clear_da8c8 4 none]
def wsX7_handOutReturns : List Cond := .code yX7_handOutReturns cX7_handOutReturns 3 none :: ((wsX7_handOutReturns_r1 ++ (wsX7_handOutReturns_r2 ++ (wsX7_handOutReturns_r3 ++ (wsX7_handOutReturns_r4 ++ wsX7_handOutReturns_r5)))) ++ wsX10 ++ wsJx4a65c0 ++ wsX50 ++ wsX60 ++ wsX30)
def wsJx4a65c_fastRemove_b59b0 : List Cond := .code yJx4a65c_fastRemove_b59b0 cJx4a65c_fastRemove_b59b0 4 none :: ([.fieldLink RJx4a65c 63 "java/util/ArrayList" "modCount" "I", .sameField "java/util/ArrayList" "java/util/AbstractList" "modCount" "I", .fieldLink RJx4a65c 48 "java/util/ArrayList" "size" "I", .methodLink RJx4a65c 112 arraycopyName, .native arraycopyName, .static arraycopyName, .initialized "java/lang/System"] ++ wsJx4a65c0)
def wsJx4a65c_remove_915e3 : List Cond := .code yJx4a65c_remove_915e3 cJx4a65c_remove_915e3 4 (some (.object "java/lang/Object")) :: ([.fieldLink RJx4a65c 48 "java/util/ArrayList" "size" "I", .fieldLink RJx4a65c 9 "java/util/ArrayList" "elementData" "[Ljava/lang/Object;", .methodLink RJx4a65c 118 yJ15_checkIndex_7cf53, .static yJ15_checkIndex_7cf53, .initialized RJ15, .code yJ15_checkIndex_7cf53 cJ15_checkIndex_7cf53 2 (some .int), .methodLink RJ15 105 yJ3_checkIndex_8e157, .static yJ3_checkIndex_8e157, .initialized RJ3, .code yJ3_checkIndex_8e157 cJ3_checkIndex_8e157 3 (some .int), .methodLink RJx4a65c 144 yJx4a65c_fastRemove_b59b0, .instanceMethod yJx4a65c_fastRemove_b59b0, .selects RJx4a65c yJx4a65c_fastRemove_b59b0 yJx4a65c_fastRemove_b59b0, .initialized RJx4a65c, .code yJx4a65c_fastRemove_b59b0 cJx4a65c_fastRemove_b59b0 4 none, .fieldLink RJx4a65c 63 "java/util/ArrayList" "modCount" "I", .sameField "java/util/ArrayList" "java/util/AbstractList" "modCount" "I", .methodLink RJx4a65c 112 arraycopyName, .native arraycopyName, .static arraycopyName, .initialized "java/lang/System"] ++ wsJx4a65c0)
def wsX7_handOutEntries_r1 : List Cond := [Cond.fieldLink RX7 213 "ClearingFiles$Bank" "entries" "Ljava/util/ArrayList;", Cond.classLink RX7 151 "ClearingFiles$Entry", Cond.fieldLink RX7 315 "ClearingFiles$Entry" "day" "I", Cond.fieldLink RX7 37 "ClearingFiles" "today" "I", Cond.fieldLink RX7 111 "ClearingFiles$Bank" "output" "LClearingFiles$Output;", Cond.methodLink RX7 48 yJx4a65c_size_8abf5, Cond.instanceMethod yJx4a65c_size_8abf5, Cond.selects RJx4a65c yJx4a65c_size_8abf5 yJx4a65c_size_8abf5, Cond.initialized RJx4a65c, Cond.code yJx4a65c_size_8abf5 cJx4a65c_size_8abf5 1 (some .int), Cond.fieldLink RJx4a65c 48 "java/util/ArrayList" "size" "I", Cond.methodLink RX7 147 yJx4a65c_get_915e3, Cond.instanceMethod yJx4a65c_get_915e3, Cond.selects RJx4a65c yJx4a65c_get_915e3 yJx4a65c_get_915e3, Cond.code yJx4a65c_get_915e3 cJx4a65c_get_915e3 2 (some (.object "java/lang/Object")), Cond.methodLink RJx4a65c 118 yJ15_checkIndex_7cf53, Cond.static yJ15_checkIndex_7cf53, Cond.initialized RJ15, Cond.code yJ15_checkIndex_7cf53 cJ15_checkIndex_7cf53 2 (some .int), Cond.methodLink RJ15 105 yJ3_checkIndex_8e157, Cond.static yJ3_checkIndex_8e157, Cond.initialized RJ3, Cond.code yJ3_checkIndex_8e157 cJ3_checkIndex_8e157 3 (some .int), Cond.methodLink RJx4a65c 123 yJx4a65c_elementData_915e3]
def wsX7_handOutEntries_r2 : List Cond := [Cond.instanceMethod yJx4a65c_elementData_915e3, Cond.selects RJx4a65c yJx4a65c_elementData_915e3 yJx4a65c_elementData_915e3, Cond.code yJx4a65c_elementData_915e3 cJx4a65c_elementData_915e3 2 (some (.object "java/lang/Object")), Cond.fieldLink RJx4a65c 9 "java/util/ArrayList" "elementData" "[Ljava/lang/Object;", Cond.methodLink RX7 331 yX5_addEntry, Cond.instanceMethod yX5_addEntry, Cond.selects RX5 yX5_addEntry yX5_addEntry, Cond.initialized RX5, Cond.code yX5_addEntry cX5_addEntry 3 none, Cond.fieldLink RX5 10 "ClearingFiles$Output" "entries" "Ljava/util/ArrayList;", Cond.fieldLink RX5 27 "ClearingFiles$Output" "returns" "I", Cond.classLink RX5 46 "ClearingFiles$Entry", Cond.fieldLink RX5 19 "ClearingFiles$Output" "totals" "LClearingFiles$Totals;", Cond.methodLink RX5 34 yJx4a65c_size_8abf5, Cond.methodLink RX5 42 yJx4a65c_get_915e3, Cond.methodLink RX5 58 yX3_goesBefore, Cond.instanceMethod yX3_goesBefore, Cond.selects RX3 yX3_goesBefore yX3_goesBefore, Cond.initialized RX3, Cond.code yX3_goesBefore cX3_goesBefore 2 (some .boolean), Cond.fieldLink RX3 7 "ClearingFiles$Entry" "day" "I", Cond.fieldLink RX3 13 "ClearingFiles$Entry" "originator" "LClearingFiles$Bank;", Cond.fieldLink RX3 17 "ClearingFiles$Bank" "number" "I", Cond.methodLink RX5 62 yJx4a65c_add_7a177]
def wsX7_handOutEntries_r3 : List Cond := [Cond.instanceMethod yJx4a65c_add_7a177, Cond.selects RJx4a65c yJx4a65c_add_7a177 yJx4a65c_add_7a177, Cond.code yJx4a65c_add_7a177 cJx4a65c_add_7a177 5 none, Cond.fieldLink RJx4a65c 63 "java/util/ArrayList" "modCount" "I", Cond.sameField "java/util/ArrayList" "java/util/AbstractList" "modCount" "I", Cond.methodLink RJx4a65c 112 arraycopyName, Cond.native arraycopyName, Cond.static arraycopyName, Cond.initialized "java/lang/System", Cond.methodLink RJx4a65c 135 yJx4a65c_rangeCheckForAdd_d00df, Cond.instanceMethod yJx4a65c_rangeCheckForAdd_d00df, Cond.selects RJx4a65c yJx4a65c_rangeCheckForAdd_d00df yJx4a65c_rangeCheckForAdd_d00df, Cond.code yJx4a65c_rangeCheckForAdd_d00df cJx4a65c_rangeCheckForAdd_d00df 2 none, Cond.methodLink RJx4a65c 129 yJx4a65c_grow_d5877, Cond.instanceMethod yJx4a65c_grow_d5877, Cond.selects RJx4a65c yJx4a65c_grow_d5877 yJx4a65c_grow_d5877, Cond.code yJx4a65c_grow_d5877 cJx4a65c_grow_d5877 1 (some (.array (.object "java/lang/Object"))), Cond.methodLink RJx4a65c 69 yJx4a65c_grow_92f84, Cond.instanceMethod yJx4a65c_grow_92f84, Cond.selects RJx4a65c yJx4a65c_grow_92f84 yJx4a65c_grow_92f84, Cond.code yJx4a65c_grow_92f84 cJx4a65c_grow_92f84 4 (some (.array (.object "java/lang/Object"))), Cond.fieldLink RJx4a65c 39 "java/util/ArrayList" "DEFAULTCAPACITY_EMPTY_ELEMENTDATA" "[Ljava/lang/Object;", Cond.methodLink RJx4a65c 79 Lib.Math.max.name, Cond.static Lib.Math.max.name]
def wsX7_handOutEntries_r4 : List Cond := [Cond.initialized "java/lang/Math", Cond.code Lib.Math.max.name Lib.Math.max.code 2 (some .int), Cond.classLink RJx4a65c 7 "java/lang/Object", Cond.methodLink RJx4a65c 73 yJ8_newLength_cabcc, Cond.static yJ8_newLength_cabcc, Cond.initialized RJ8, Cond.code yJ8_newLength_cabcc cJ8_newLength_cabcc 4 (some .int), Cond.methodLink RJ8 194 Lib.Math.max.name, Cond.constant RJ8 200 (2147483639), Cond.methodLink RJ8 201 yJ8_hugeLength_7cf53, Cond.static yJ8_hugeLength_7cf53, Cond.code yJ8_hugeLength_7cf53 cJ8_hugeLength_7cf53 3 (some .int), Cond.methodLink RJx4a65c 66 yJ7_copyOf_1904c, Cond.static yJ7_copyOf_1904c, Cond.initialized RJ7, Cond.code yJ7_copyOf_1904c cJ7_copyOf_1904c 2 (some (.array (.object "java/lang/Object"))), Cond.methodLink RJ7 86 ⟨"java/lang/Object", "getClass", "()Ljava/lang/Class;"⟩, Cond.selects "[Ljava/lang/Object;" ⟨"java/lang/Object", "getClass", "()Ljava/lang/Class;"⟩ ⟨"java/lang/Object", "getClass", "()Ljava/lang/Class;"⟩, Cond.instanceMethod ⟨"java/lang/Object", "getClass", "()Ljava/lang/Class;"⟩, Cond.native ⟨"java/lang/Object", "getClass", "()Ljava/lang/Class;"⟩, Cond.methodLink RJ7 300 yJ7_copyOf_6403c, Cond.static yJ7_copyOf_6403c, Cond.code yJ7_copyOf_6403c cJ7_copyOf_6403c 4 (some (.array (.object "java/lang/Object"))), Cond.classLink RJ7 110 "[Ljava/lang/Object;"]
def wsX7_handOutEntries_r5 : List Cond := [Cond.classLink RJ7 2 "java/lang/Object", Cond.methodLink RJ7 304 Lib.Math.min.name, Cond.static Lib.Math.min.name, Cond.code Lib.Math.min.name Lib.Math.min.code 2 (some .int), Cond.methodLink RJ7 150 arraycopyName, Cond.methodLink RX5 55 yX6_add, Cond.instanceMethod yX6_add, Cond.selects RX6 yX6_add yX6_add, Cond.initialized RX6, Cond.code yX6_add cX6_add 2 none, Cond.fieldLink RX6 9 "ClearingFiles$Totals" "count" "J", Cond.fieldLink RX6 15 "ClearingFiles$Totals" "hash" "J", Cond.fieldLink RX6 24 "ClearingFiles$Entry" "routing" "I", Cond.fieldLink RX6 30 "ClearingFiles$Entry" "code" "I", Cond.fieldLink RX6 18 "ClearingFiles$Totals" "debits" "J", Cond.fieldLink RX6 33 "ClearingFiles$Entry" "amount" "I", Cond.fieldLink RX6 21 "ClearingFiles$Totals" "credits" "J", Cond.methodLink RX7 326 yX7_settle, Cond.static yX7_settle, Cond.initialized RX7, Cond.code yX7_settle cX7_settle 5 none, Cond.fieldLink RX7 157 "ClearingFiles$Entry" "code" "I", Cond.fieldLink RX7 173 "ClearingFiles$Entry" "amount" "I", Cond.fieldLink RX7 160 "ClearingFiles$Entry" "receiver" "LClearingFiles$Bank;"]
def wsX7_handOutEntries_r6 : List Cond := [Cond.fieldLink RX7 210 "ClearingFiles$Bank" "ledger" "J", Cond.fieldLink RX7 167 "ClearingFiles$Entry" "originator" "LClearingFiles$Bank;", Cond.methodLink RX7 333 yJx4a65c_remove_915e3, Cond.instanceMethod yJx4a65c_remove_915e3, Cond.selects RJx4a65c yJx4a65c_remove_915e3 yJx4a65c_remove_915e3, Cond.code yJx4a65c_remove_915e3 cJx4a65c_remove_915e3 4 (some (.object "java/lang/Object")), Cond.methodLink RJx4a65c 144 yJx4a65c_fastRemove_b59b0, Cond.instanceMethod yJx4a65c_fastRemove_b59b0, Cond.selects RJx4a65c yJx4a65c_fastRemove_b59b0 yJx4a65c_fastRemove_b59b0, Cond.code yJx4a65c_fastRemove_b59b0 cJx4a65c_fastRemove_b59b0 4 none]
def wsX7_handOutEntries : List Cond := .code yX7_handOutEntries cX7_handOutEntries 4 none :: ((wsX7_handOutEntries_r1 ++ (wsX7_handOutEntries_r2 ++ (wsX7_handOutEntries_r3 ++ (wsX7_handOutEntries_r4 ++ (wsX7_handOutEntries_r5 ++ wsX7_handOutEntries_r6))))) ++ wsX10 ++ wsX30 ++ wsX70 ++ wsJx4a65c0 ++ wsX50 ++ wsX60)
def wsX7_window_r1 : List Cond := [Cond.fieldLink RX7 111 "ClearingFiles$Bank" "output" "LClearingFiles$Output;", Cond.methodLink RX7 61 yX7_bankAt, Cond.instanceMethod yX7_bankAt, Cond.selects RX7 yX7_bankAt yX7_bankAt, Cond.initialized RX7, Cond.code yX7_bankAt cX7_bankAt 2 (some (.object "ClearingFiles$Bank")), Cond.fieldLink RX7 10 "ClearingFiles" "banks" "Ljava/util/ArrayList;", Cond.classLink RX7 52 "ClearingFiles$Bank", Cond.methodLink RX7 48 yJx4a65c_size_8abf5, Cond.instanceMethod yJx4a65c_size_8abf5, Cond.selects RJx4a65c yJx4a65c_size_8abf5 yJx4a65c_size_8abf5, Cond.initialized RJx4a65c, Cond.code yJx4a65c_size_8abf5 cJx4a65c_size_8abf5 1 (some .int), Cond.fieldLink RJx4a65c 48 "java/util/ArrayList" "size" "I", Cond.methodLink RX7 147 yJx4a65c_get_915e3, Cond.instanceMethod yJx4a65c_get_915e3, Cond.selects RJx4a65c yJx4a65c_get_915e3 yJx4a65c_get_915e3, Cond.code yJx4a65c_get_915e3 cJx4a65c_get_915e3 2 (some (.object "java/lang/Object")), Cond.methodLink RJx4a65c 118 yJ15_checkIndex_7cf53, Cond.static yJ15_checkIndex_7cf53, Cond.initialized RJ15, Cond.code yJ15_checkIndex_7cf53 cJ15_checkIndex_7cf53 2 (some .int), Cond.methodLink RJ15 105 yJ3_checkIndex_8e157, Cond.static yJ3_checkIndex_8e157]
def wsX7_window_r2 : List Cond := [Cond.initialized RJ3, Cond.code yJ3_checkIndex_8e157 cJ3_checkIndex_8e157 3 (some .int), Cond.methodLink RJx4a65c 123 yJx4a65c_elementData_915e3, Cond.instanceMethod yJx4a65c_elementData_915e3, Cond.selects RJx4a65c yJx4a65c_elementData_915e3 yJx4a65c_elementData_915e3, Cond.code yJx4a65c_elementData_915e3 cJx4a65c_elementData_915e3 2 (some (.object "java/lang/Object")), Cond.fieldLink RJx4a65c 9 "java/util/ArrayList" "elementData" "[Ljava/lang/Object;", Cond.methodLink RX7 115 yX5_isDone, Cond.instanceMethod yX5_isDone, Cond.selects RX5 yX5_isDone yX5_isDone, Cond.initialized RX5, Cond.code yX5_isDone cX5_isDone 1 (some .boolean), Cond.fieldLink RX5 31 "ClearingFiles$Output" "done" "I", Cond.fieldLink RX5 10 "ClearingFiles$Output" "entries" "Ljava/util/ArrayList;", Cond.methodLink RX5 34 yJx4a65c_size_8abf5, Cond.methodLink RX7 121 yX5_clear, Cond.instanceMethod yX5_clear, Cond.selects RX5 yX5_clear yX5_clear, Cond.code yX5_clear cX5_clear 1 none, Cond.fieldLink RX5 19 "ClearingFiles$Output" "totals" "LClearingFiles$Totals;", Cond.fieldLink RX5 27 "ClearingFiles$Output" "returns" "I", Cond.methodLink RX5 23 yJx4a65c_clear_da8c8, Cond.instanceMethod yJx4a65c_clear_da8c8, Cond.selects RJx4a65c yJx4a65c_clear_da8c8 yJx4a65c_clear_da8c8]
def wsX7_window_r3 : List Cond := [Cond.code yJx4a65c_clear_da8c8 cJx4a65c_clear_da8c8 4 none, Cond.fieldLink RJx4a65c 63 "java/util/ArrayList" "modCount" "I", Cond.sameField "java/util/ArrayList" "java/util/AbstractList" "modCount" "I", Cond.methodLink RX5 26 yX6_clear, Cond.instanceMethod yX6_clear, Cond.selects RX6 yX6_clear yX6_clear, Cond.initialized RX6, Cond.code yX6_clear cX6_clear 1 none, Cond.fieldLink RX6 9 "ClearingFiles$Totals" "count" "J", Cond.fieldLink RX6 15 "ClearingFiles$Totals" "hash" "J", Cond.fieldLink RX6 18 "ClearingFiles$Totals" "debits" "J", Cond.fieldLink RX6 21 "ClearingFiles$Totals" "credits" "J", Cond.methodLink RX7 124 yX7_handOutReturns, Cond.static yX7_handOutReturns, Cond.code yX7_handOutReturns cX7_handOutReturns 3 none, Cond.fieldLink RX7 214 "ClearingFiles$Bank" "returns" "Ljava/util/ArrayList;", Cond.classLink RX7 151 "ClearingFiles$Entry", Cond.methodLink RX7 323 yX5_addReturn, Cond.instanceMethod yX5_addReturn, Cond.selects RX5 yX5_addReturn yX5_addReturn, Cond.code yX5_addReturn cX5_addReturn 2 none, Cond.methodLink RX5 51 yJx4a65c_add_9ea2d, Cond.instanceMethod yJx4a65c_add_9ea2d, Cond.selects RJx4a65c yJx4a65c_add_9ea2d yJx4a65c_add_9ea2d]
def wsX7_window_r4 : List Cond := [Cond.code yJx4a65c_add_9ea2d cJx4a65c_add_9ea2d 2 (some .boolean), Cond.methodLink RJx4a65c 131 yJx4a65c_add_72be8, Cond.instanceMethod yJx4a65c_add_72be8, Cond.selects RJx4a65c yJx4a65c_add_72be8 yJx4a65c_add_72be8, Cond.code yJx4a65c_add_72be8 cJx4a65c_add_72be8 4 none, Cond.methodLink RJx4a65c 129 yJx4a65c_grow_d5877, Cond.instanceMethod yJx4a65c_grow_d5877, Cond.selects RJx4a65c yJx4a65c_grow_d5877 yJx4a65c_grow_d5877, Cond.code yJx4a65c_grow_d5877 cJx4a65c_grow_d5877 1 (some (.array (.object "java/lang/Object"))), Cond.methodLink RJx4a65c 69 yJx4a65c_grow_92f84, Cond.instanceMethod yJx4a65c_grow_92f84, Cond.selects RJx4a65c yJx4a65c_grow_92f84 yJx4a65c_grow_92f84, Cond.code yJx4a65c_grow_92f84 cJx4a65c_grow_92f84 4 (some (.array (.object "java/lang/Object"))), Cond.fieldLink RJx4a65c 39 "java/util/ArrayList" "DEFAULTCAPACITY_EMPTY_ELEMENTDATA" "[Ljava/lang/Object;", Cond.methodLink RJx4a65c 79 Lib.Math.max.name, Cond.static Lib.Math.max.name, Cond.initialized "java/lang/Math", Cond.code Lib.Math.max.name Lib.Math.max.code 2 (some .int), Cond.classLink RJx4a65c 7 "java/lang/Object", Cond.methodLink RJx4a65c 73 yJ8_newLength_cabcc, Cond.static yJ8_newLength_cabcc, Cond.initialized RJ8, Cond.code yJ8_newLength_cabcc cJ8_newLength_cabcc 4 (some .int), Cond.methodLink RJ8 194 Lib.Math.max.name]
def wsX7_window_r5 : List Cond := [Cond.constant RJ8 200 (2147483639), Cond.methodLink RJ8 201 yJ8_hugeLength_7cf53, Cond.static yJ8_hugeLength_7cf53, Cond.code yJ8_hugeLength_7cf53 cJ8_hugeLength_7cf53 3 (some .int), Cond.methodLink RJx4a65c 66 yJ7_copyOf_1904c, Cond.static yJ7_copyOf_1904c, Cond.initialized RJ7, Cond.code yJ7_copyOf_1904c cJ7_copyOf_1904c 2 (some (.array (.object "java/lang/Object"))), Cond.methodLink RJ7 86 ⟨"java/lang/Object", "getClass", "()Ljava/lang/Class;"⟩, Cond.selects "[Ljava/lang/Object;" ⟨"java/lang/Object", "getClass", "()Ljava/lang/Class;"⟩ ⟨"java/lang/Object", "getClass", "()Ljava/lang/Class;"⟩, Cond.instanceMethod ⟨"java/lang/Object", "getClass", "()Ljava/lang/Class;"⟩, Cond.native ⟨"java/lang/Object", "getClass", "()Ljava/lang/Class;"⟩, Cond.methodLink RJ7 300 yJ7_copyOf_6403c, Cond.static yJ7_copyOf_6403c, Cond.code yJ7_copyOf_6403c cJ7_copyOf_6403c 4 (some (.array (.object "java/lang/Object"))), Cond.classLink RJ7 110 "[Ljava/lang/Object;", Cond.classLink RJ7 2 "java/lang/Object", Cond.methodLink RJ7 304 Lib.Math.min.name, Cond.static Lib.Math.min.name, Cond.code Lib.Math.min.name Lib.Math.min.code 2 (some .int), Cond.methodLink RJ7 150 arraycopyName, Cond.native arraycopyName, Cond.static arraycopyName, Cond.initialized "java/lang/System"]
def wsX7_window_r6 : List Cond := [Cond.methodLink RX5 55 yX6_add, Cond.instanceMethod yX6_add, Cond.selects RX6 yX6_add yX6_add, Cond.code yX6_add cX6_add 2 none, Cond.fieldLink RX6 24 "ClearingFiles$Entry" "routing" "I", Cond.fieldLink RX6 30 "ClearingFiles$Entry" "code" "I", Cond.fieldLink RX6 33 "ClearingFiles$Entry" "amount" "I", Cond.methodLink RX7 326 yX7_settle, Cond.static yX7_settle, Cond.code yX7_settle cX7_settle 5 none, Cond.fieldLink RX7 157 "ClearingFiles$Entry" "code" "I", Cond.fieldLink RX7 173 "ClearingFiles$Entry" "amount" "I", Cond.fieldLink RX7 160 "ClearingFiles$Entry" "receiver" "LClearingFiles$Bank;", Cond.fieldLink RX7 210 "ClearingFiles$Bank" "ledger" "J", Cond.fieldLink RX7 167 "ClearingFiles$Entry" "originator" "LClearingFiles$Bank;", Cond.methodLink RX7 330 yJx4a65c_clear_da8c8, Cond.methodLink RX7 128 yX7_handOutEntries, Cond.instanceMethod yX7_handOutEntries, Cond.selects RX7 yX7_handOutEntries yX7_handOutEntries, Cond.code yX7_handOutEntries cX7_handOutEntries 4 none, Cond.fieldLink RX7 213 "ClearingFiles$Bank" "entries" "Ljava/util/ArrayList;", Cond.fieldLink RX7 315 "ClearingFiles$Entry" "day" "I", Cond.fieldLink RX7 37 "ClearingFiles" "today" "I", Cond.methodLink RX7 331 yX5_addEntry]
def wsX7_window_r7 : List Cond := [Cond.instanceMethod yX5_addEntry, Cond.selects RX5 yX5_addEntry yX5_addEntry, Cond.code yX5_addEntry cX5_addEntry 3 none, Cond.classLink RX5 46 "ClearingFiles$Entry", Cond.methodLink RX5 42 yJx4a65c_get_915e3, Cond.methodLink RX5 58 yX3_goesBefore, Cond.instanceMethod yX3_goesBefore, Cond.selects RX3 yX3_goesBefore yX3_goesBefore, Cond.initialized RX3, Cond.code yX3_goesBefore cX3_goesBefore 2 (some .boolean), Cond.fieldLink RX3 7 "ClearingFiles$Entry" "day" "I", Cond.fieldLink RX3 13 "ClearingFiles$Entry" "originator" "LClearingFiles$Bank;", Cond.fieldLink RX3 17 "ClearingFiles$Bank" "number" "I", Cond.methodLink RX5 62 yJx4a65c_add_7a177, Cond.instanceMethod yJx4a65c_add_7a177, Cond.selects RJx4a65c yJx4a65c_add_7a177 yJx4a65c_add_7a177, Cond.code yJx4a65c_add_7a177 cJx4a65c_add_7a177 5 none, Cond.methodLink RJx4a65c 112 arraycopyName, Cond.methodLink RJx4a65c 135 yJx4a65c_rangeCheckForAdd_d00df, Cond.instanceMethod yJx4a65c_rangeCheckForAdd_d00df, Cond.selects RJx4a65c yJx4a65c_rangeCheckForAdd_d00df yJx4a65c_rangeCheckForAdd_d00df, Cond.code yJx4a65c_rangeCheckForAdd_d00df cJx4a65c_rangeCheckForAdd_d00df 2 none, Cond.methodLink RX7 333 yJx4a65c_remove_915e3, Cond.instanceMethod yJx4a65c_remove_915e3]
def wsX7_window_r8 : List Cond := [Cond.selects RJx4a65c yJx4a65c_remove_915e3 yJx4a65c_remove_915e3, Cond.code yJx4a65c_remove_915e3 cJx4a65c_remove_915e3 4 (some (.object "java/lang/Object")), Cond.methodLink RJx4a65c 144 yJx4a65c_fastRemove_b59b0, Cond.instanceMethod yJx4a65c_fastRemove_b59b0, Cond.selects RJx4a65c yJx4a65c_fastRemove_b59b0 yJx4a65c_fastRemove_b59b0, Cond.code yJx4a65c_fastRemove_b59b0 cJx4a65c_fastRemove_b59b0 4 none, Cond.methodLink RX7 131 yX5_size, Cond.instanceMethod yX5_size, Cond.selects RX5 yX5_size yX5_size, Cond.code yX5_size cX5_size 1 (some .int)]
def wsX7_window : List Cond := .code yX7_window cX7_window 3 (some .int) :: ((wsX7_window_r1 ++ (wsX7_window_r2 ++ (wsX7_window_r3 ++ (wsX7_window_r4 ++ (wsX7_window_r5 ++ (wsX7_window_r6 ++ (wsX7_window_r7 ++ wsX7_window_r8))))))) ++ wsX10 ++ wsX70 ++ wsJx4a65c0 ++ wsX50 ++ wsX60 ++ wsX30)
def wsX7_reasonToSendBack : List Cond := .code yX7_reasonToSendBack cX7_reasonToSendBack 2 (some .int) :: ([.fieldLink RX7 170 "ClearingFiles$Entry" "account" "I", .fieldLink RX7 75 "ClearingFiles$Account" "isShut" "Z", .fieldLink RX7 157 "ClearingFiles$Entry" "code" "I", .fieldLink RX7 207 "ClearingFiles$Account" "balance" "J", .fieldLink RX7 173 "ClearingFiles$Entry" "amount" "I", .methodLink RX7 40 yX7_isRight, .static yX7_isRight, .initialized RX7, .code yX7_isRight cX7_isRight 5 (some .boolean), .fieldLink RX7 221 "ClearingFiles" "WEIGHTS" "[I"] ++ wsX30 ++ wsX00)
def wsX7_sendBack_r1 : List Cond := [Cond.fieldLink RX7 179 "ClearingFiles$Entry" "reason" "I", Cond.fieldLink RX7 167 "ClearingFiles$Entry" "originator" "LClearingFiles$Bank;", Cond.fieldLink RX7 214 "ClearingFiles$Bank" "returns" "Ljava/util/ArrayList;", Cond.methodLink RX7 270 yX7_countRefusal, Cond.instanceMethod yX7_countRefusal, Cond.selects RX7 yX7_countRefusal yX7_countRefusal, Cond.initialized RX7, Cond.code yX7_countRefusal cX7_countRefusal 2 none, Cond.fieldLink RX7 34 "ClearingFiles" "refusals" "[I", Cond.methodLink RX7 48 yJx4a65c_size_8abf5, Cond.instanceMethod yJx4a65c_size_8abf5, Cond.selects RJx4a65c yJx4a65c_size_8abf5 yJx4a65c_size_8abf5, Cond.initialized RJx4a65c, Cond.code yJx4a65c_size_8abf5 cJx4a65c_size_8abf5 1 (some .int), Cond.fieldLink RJx4a65c 48 "java/util/ArrayList" "size" "I", Cond.methodLink RX7 57 yJx4a65c_add_9ea2d, Cond.instanceMethod yJx4a65c_add_9ea2d, Cond.selects RJx4a65c yJx4a65c_add_9ea2d yJx4a65c_add_9ea2d, Cond.code yJx4a65c_add_9ea2d cJx4a65c_add_9ea2d 2 (some .boolean), Cond.fieldLink RJx4a65c 63 "java/util/ArrayList" "modCount" "I", Cond.sameField "java/util/ArrayList" "java/util/AbstractList" "modCount" "I", Cond.fieldLink RJx4a65c 9 "java/util/ArrayList" "elementData" "[Ljava/lang/Object;", Cond.methodLink RJx4a65c 131 yJx4a65c_add_72be8, Cond.instanceMethod yJx4a65c_add_72be8]
def wsX7_sendBack_r2 : List Cond := [Cond.selects RJx4a65c yJx4a65c_add_72be8 yJx4a65c_add_72be8, Cond.code yJx4a65c_add_72be8 cJx4a65c_add_72be8 4 none, Cond.methodLink RJx4a65c 129 yJx4a65c_grow_d5877, Cond.instanceMethod yJx4a65c_grow_d5877, Cond.selects RJx4a65c yJx4a65c_grow_d5877 yJx4a65c_grow_d5877, Cond.code yJx4a65c_grow_d5877 cJx4a65c_grow_d5877 1 (some (.array (.object "java/lang/Object"))), Cond.methodLink RJx4a65c 69 yJx4a65c_grow_92f84, Cond.instanceMethod yJx4a65c_grow_92f84, Cond.selects RJx4a65c yJx4a65c_grow_92f84 yJx4a65c_grow_92f84, Cond.code yJx4a65c_grow_92f84 cJx4a65c_grow_92f84 4 (some (.array (.object "java/lang/Object"))), Cond.fieldLink RJx4a65c 39 "java/util/ArrayList" "DEFAULTCAPACITY_EMPTY_ELEMENTDATA" "[Ljava/lang/Object;", Cond.methodLink RJx4a65c 79 Lib.Math.max.name, Cond.static Lib.Math.max.name, Cond.initialized "java/lang/Math", Cond.code Lib.Math.max.name Lib.Math.max.code 2 (some .int), Cond.classLink RJx4a65c 7 "java/lang/Object", Cond.methodLink RJx4a65c 73 yJ8_newLength_cabcc, Cond.static yJ8_newLength_cabcc, Cond.initialized RJ8, Cond.code yJ8_newLength_cabcc cJ8_newLength_cabcc 4 (some .int), Cond.methodLink RJ8 194 Lib.Math.max.name, Cond.constant RJ8 200 (2147483639), Cond.methodLink RJ8 201 yJ8_hugeLength_7cf53, Cond.static yJ8_hugeLength_7cf53]
def wsX7_sendBack_r3 : List Cond := [Cond.code yJ8_hugeLength_7cf53 cJ8_hugeLength_7cf53 3 (some .int), Cond.methodLink RJx4a65c 66 yJ7_copyOf_1904c, Cond.static yJ7_copyOf_1904c, Cond.initialized RJ7, Cond.code yJ7_copyOf_1904c cJ7_copyOf_1904c 2 (some (.array (.object "java/lang/Object"))), Cond.methodLink RJ7 86 ⟨"java/lang/Object", "getClass", "()Ljava/lang/Class;"⟩, Cond.selects "[Ljava/lang/Object;" ⟨"java/lang/Object", "getClass", "()Ljava/lang/Class;"⟩ ⟨"java/lang/Object", "getClass", "()Ljava/lang/Class;"⟩, Cond.instanceMethod ⟨"java/lang/Object", "getClass", "()Ljava/lang/Class;"⟩, Cond.native ⟨"java/lang/Object", "getClass", "()Ljava/lang/Class;"⟩, Cond.methodLink RJ7 300 yJ7_copyOf_6403c, Cond.static yJ7_copyOf_6403c, Cond.code yJ7_copyOf_6403c cJ7_copyOf_6403c 4 (some (.array (.object "java/lang/Object"))), Cond.classLink RJ7 110 "[Ljava/lang/Object;", Cond.classLink RJ7 2 "java/lang/Object", Cond.methodLink RJ7 304 Lib.Math.min.name, Cond.static Lib.Math.min.name, Cond.code Lib.Math.min.name Lib.Math.min.code 2 (some .int), Cond.methodLink RJ7 150 arraycopyName, Cond.native arraycopyName, Cond.static arraycopyName, Cond.initialized "java/lang/System"]
def wsX7_sendBack : List Cond := .code yX7_sendBack cX7_sendBack 2 none :: ((wsX7_sendBack_r1 ++ (wsX7_sendBack_r2 ++ wsX7_sendBack_r3)) ++ wsX30 ++ wsX10 ++ wsX70 ++ wsJx4a65c0)
def wsX7_postOrSendBack_r1 : List Cond := [Cond.fieldLink RX7 160 "ClearingFiles$Entry" "receiver" "LClearingFiles$Bank;", Cond.fieldLink RX7 170 "ClearingFiles$Entry" "account" "I", Cond.fieldLink RX7 179 "ClearingFiles$Entry" "reason" "I", Cond.fieldLink RX7 207 "ClearingFiles$Account" "balance" "J", Cond.fieldLink RX7 157 "ClearingFiles$Entry" "code" "I", Cond.fieldLink RX7 173 "ClearingFiles$Entry" "amount" "I", Cond.methodLink RX7 66 yX7_accountOf, Cond.instanceMethod yX7_accountOf, Cond.selects RX7 yX7_accountOf yX7_accountOf, Cond.initialized RX7, Cond.code yX7_accountOf cX7_accountOf 5 (some (.object "ClearingFiles$Account")), Cond.fieldLink RX7 16 "ClearingFiles" "accounts" "Ljava/util/ArrayList;", Cond.classLink RX7 70 "ClearingFiles$Account", Cond.fieldLink RX7 227 "ClearingFiles$Account" "bank" "LClearingFiles$Bank;", Cond.fieldLink RX7 230 "ClearingFiles$Account" "number" "I", Cond.methodLink RX7 48 yJx4a65c_size_8abf5, Cond.instanceMethod yJx4a65c_size_8abf5, Cond.selects RJx4a65c yJx4a65c_size_8abf5 yJx4a65c_size_8abf5, Cond.initialized RJx4a65c, Cond.code yJx4a65c_size_8abf5 cJx4a65c_size_8abf5 1 (some .int), Cond.fieldLink RJx4a65c 48 "java/util/ArrayList" "size" "I", Cond.methodLink RX7 147 yJx4a65c_get_915e3, Cond.instanceMethod yJx4a65c_get_915e3, Cond.selects RJx4a65c yJx4a65c_get_915e3 yJx4a65c_get_915e3]
def wsX7_postOrSendBack_r2 : List Cond := [Cond.code yJx4a65c_get_915e3 cJx4a65c_get_915e3 2 (some (.object "java/lang/Object")), Cond.methodLink RJx4a65c 118 yJ15_checkIndex_7cf53, Cond.static yJ15_checkIndex_7cf53, Cond.initialized RJ15, Cond.code yJ15_checkIndex_7cf53 cJ15_checkIndex_7cf53 2 (some .int), Cond.methodLink RJ15 105 yJ3_checkIndex_8e157, Cond.static yJ3_checkIndex_8e157, Cond.initialized RJ3, Cond.code yJ3_checkIndex_8e157 cJ3_checkIndex_8e157 3 (some .int), Cond.methodLink RJx4a65c 123 yJx4a65c_elementData_915e3, Cond.instanceMethod yJx4a65c_elementData_915e3, Cond.selects RJx4a65c yJx4a65c_elementData_915e3 yJx4a65c_elementData_915e3, Cond.code yJx4a65c_elementData_915e3 cJx4a65c_elementData_915e3 2 (some (.object "java/lang/Object")), Cond.fieldLink RJx4a65c 9 "java/util/ArrayList" "elementData" "[Ljava/lang/Object;", Cond.methodLink RX7 336 yX7_reasonToSendBack, Cond.static yX7_reasonToSendBack, Cond.code yX7_reasonToSendBack cX7_reasonToSendBack 2 (some .int), Cond.fieldLink RX7 75 "ClearingFiles$Account" "isShut" "Z", Cond.methodLink RX7 40 yX7_isRight, Cond.static yX7_isRight, Cond.code yX7_isRight cX7_isRight 5 (some .boolean), Cond.fieldLink RX7 221 "ClearingFiles" "WEIGHTS" "[I", Cond.methodLink RX7 340 yX7_sendBack, Cond.instanceMethod yX7_sendBack]
def wsX7_postOrSendBack_r3 : List Cond := [Cond.selects RX7 yX7_sendBack yX7_sendBack, Cond.code yX7_sendBack cX7_sendBack 2 none, Cond.fieldLink RX7 167 "ClearingFiles$Entry" "originator" "LClearingFiles$Bank;", Cond.fieldLink RX7 214 "ClearingFiles$Bank" "returns" "Ljava/util/ArrayList;", Cond.methodLink RX7 270 yX7_countRefusal, Cond.instanceMethod yX7_countRefusal, Cond.selects RX7 yX7_countRefusal yX7_countRefusal, Cond.code yX7_countRefusal cX7_countRefusal 2 none, Cond.fieldLink RX7 34 "ClearingFiles" "refusals" "[I", Cond.methodLink RX7 57 yJx4a65c_add_9ea2d, Cond.instanceMethod yJx4a65c_add_9ea2d, Cond.selects RJx4a65c yJx4a65c_add_9ea2d yJx4a65c_add_9ea2d, Cond.code yJx4a65c_add_9ea2d cJx4a65c_add_9ea2d 2 (some .boolean), Cond.fieldLink RJx4a65c 63 "java/util/ArrayList" "modCount" "I", Cond.sameField "java/util/ArrayList" "java/util/AbstractList" "modCount" "I", Cond.methodLink RJx4a65c 131 yJx4a65c_add_72be8, Cond.instanceMethod yJx4a65c_add_72be8, Cond.selects RJx4a65c yJx4a65c_add_72be8 yJx4a65c_add_72be8, Cond.code yJx4a65c_add_72be8 cJx4a65c_add_72be8 4 none, Cond.methodLink RJx4a65c 129 yJx4a65c_grow_d5877, Cond.instanceMethod yJx4a65c_grow_d5877, Cond.selects RJx4a65c yJx4a65c_grow_d5877 yJx4a65c_grow_d5877, Cond.code yJx4a65c_grow_d5877 cJx4a65c_grow_d5877 1 (some (.array (.object "java/lang/Object"))), Cond.methodLink RJx4a65c 69 yJx4a65c_grow_92f84]
def wsX7_postOrSendBack_r4 : List Cond := [Cond.instanceMethod yJx4a65c_grow_92f84, Cond.selects RJx4a65c yJx4a65c_grow_92f84 yJx4a65c_grow_92f84, Cond.code yJx4a65c_grow_92f84 cJx4a65c_grow_92f84 4 (some (.array (.object "java/lang/Object"))), Cond.fieldLink RJx4a65c 39 "java/util/ArrayList" "DEFAULTCAPACITY_EMPTY_ELEMENTDATA" "[Ljava/lang/Object;", Cond.methodLink RJx4a65c 79 Lib.Math.max.name, Cond.static Lib.Math.max.name, Cond.initialized "java/lang/Math", Cond.code Lib.Math.max.name Lib.Math.max.code 2 (some .int), Cond.classLink RJx4a65c 7 "java/lang/Object", Cond.methodLink RJx4a65c 73 yJ8_newLength_cabcc, Cond.static yJ8_newLength_cabcc, Cond.initialized RJ8, Cond.code yJ8_newLength_cabcc cJ8_newLength_cabcc 4 (some .int), Cond.methodLink RJ8 194 Lib.Math.max.name, Cond.constant RJ8 200 (2147483639), Cond.methodLink RJ8 201 yJ8_hugeLength_7cf53, Cond.static yJ8_hugeLength_7cf53, Cond.code yJ8_hugeLength_7cf53 cJ8_hugeLength_7cf53 3 (some .int), Cond.methodLink RJx4a65c 66 yJ7_copyOf_1904c, Cond.static yJ7_copyOf_1904c, Cond.initialized RJ7, Cond.code yJ7_copyOf_1904c cJ7_copyOf_1904c 2 (some (.array (.object "java/lang/Object"))), Cond.methodLink RJ7 86 ⟨"java/lang/Object", "getClass", "()Ljava/lang/Class;"⟩, Cond.selects "[Ljava/lang/Object;" ⟨"java/lang/Object", "getClass", "()Ljava/lang/Class;"⟩ ⟨"java/lang/Object", "getClass", "()Ljava/lang/Class;"⟩]
def wsX7_postOrSendBack_r5 : List Cond := [Cond.instanceMethod ⟨"java/lang/Object", "getClass", "()Ljava/lang/Class;"⟩, Cond.native ⟨"java/lang/Object", "getClass", "()Ljava/lang/Class;"⟩, Cond.methodLink RJ7 300 yJ7_copyOf_6403c, Cond.static yJ7_copyOf_6403c, Cond.code yJ7_copyOf_6403c cJ7_copyOf_6403c 4 (some (.array (.object "java/lang/Object"))), Cond.classLink RJ7 110 "[Ljava/lang/Object;", Cond.classLink RJ7 2 "java/lang/Object", Cond.methodLink RJ7 304 Lib.Math.min.name, Cond.static Lib.Math.min.name, Cond.code Lib.Math.min.name Lib.Math.min.code 2 (some .int), Cond.methodLink RJ7 150 arraycopyName, Cond.native arraycopyName, Cond.static arraycopyName, Cond.initialized "java/lang/System"]
def wsX7_postOrSendBack : List Cond := .code yX7_postOrSendBack cX7_postOrSendBack 3 (some .boolean) :: ((wsX7_postOrSendBack_r1 ++ (wsX7_postOrSendBack_r2 ++ (wsX7_postOrSendBack_r3 ++ (wsX7_postOrSendBack_r4 ++ wsX7_postOrSendBack_r5)))) ++ wsX30 ++ wsX00 ++ wsX70 ++ wsJx4a65c0 ++ wsX10)
def wsX7_post_r1 : List Cond := [Cond.fieldLink RX7 111 "ClearingFiles$Bank" "output" "LClearingFiles$Output;", Cond.fieldLink RX7 132 "ClearingFiles$Output" "done" "I", Cond.methodLink RX7 135 Lib.Math.min.name, Cond.static Lib.Math.min.name, Cond.initialized "java/lang/Math", Cond.code Lib.Math.min.name Lib.Math.min.code 2 (some .int), Cond.fieldLink RX7 144 "ClearingFiles$Output" "entries" "Ljava/util/ArrayList;", Cond.classLink RX7 151 "ClearingFiles$Entry", Cond.methodLink RX7 61 yX7_bankAt, Cond.instanceMethod yX7_bankAt, Cond.selects RX7 yX7_bankAt yX7_bankAt, Cond.initialized RX7, Cond.code yX7_bankAt cX7_bankAt 2 (some (.object "ClearingFiles$Bank")), Cond.fieldLink RX7 10 "ClearingFiles" "banks" "Ljava/util/ArrayList;", Cond.classLink RX7 52 "ClearingFiles$Bank", Cond.methodLink RX7 48 yJx4a65c_size_8abf5, Cond.instanceMethod yJx4a65c_size_8abf5, Cond.selects RJx4a65c yJx4a65c_size_8abf5 yJx4a65c_size_8abf5, Cond.initialized RJx4a65c, Cond.code yJx4a65c_size_8abf5 cJx4a65c_size_8abf5 1 (some .int), Cond.fieldLink RJx4a65c 48 "java/util/ArrayList" "size" "I", Cond.methodLink RX7 147 yJx4a65c_get_915e3, Cond.instanceMethod yJx4a65c_get_915e3, Cond.selects RJx4a65c yJx4a65c_get_915e3 yJx4a65c_get_915e3]
def wsX7_post_r2 : List Cond := [Cond.code yJx4a65c_get_915e3 cJx4a65c_get_915e3 2 (some (.object "java/lang/Object")), Cond.methodLink RJx4a65c 118 yJ15_checkIndex_7cf53, Cond.static yJ15_checkIndex_7cf53, Cond.initialized RJ15, Cond.code yJ15_checkIndex_7cf53 cJ15_checkIndex_7cf53 2 (some .int), Cond.methodLink RJ15 105 yJ3_checkIndex_8e157, Cond.static yJ3_checkIndex_8e157, Cond.initialized RJ3, Cond.code yJ3_checkIndex_8e157 cJ3_checkIndex_8e157 3 (some .int), Cond.methodLink RJx4a65c 123 yJx4a65c_elementData_915e3, Cond.instanceMethod yJx4a65c_elementData_915e3, Cond.selects RJx4a65c yJx4a65c_elementData_915e3 yJx4a65c_elementData_915e3, Cond.code yJx4a65c_elementData_915e3 cJx4a65c_elementData_915e3 2 (some (.object "java/lang/Object")), Cond.fieldLink RJx4a65c 9 "java/util/ArrayList" "elementData" "[Ljava/lang/Object;", Cond.methodLink RX7 131 yX5_size, Cond.instanceMethod yX5_size, Cond.selects RX5 yX5_size yX5_size, Cond.initialized RX5, Cond.code yX5_size cX5_size 1 (some .int), Cond.fieldLink RX5 10 "ClearingFiles$Output" "entries" "Ljava/util/ArrayList;", Cond.methodLink RX5 34 yJx4a65c_size_8abf5, Cond.methodLink RX7 141 yX5_isReturn, Cond.instanceMethod yX5_isReturn, Cond.selects RX5 yX5_isReturn yX5_isReturn]
def wsX7_post_r3 : List Cond := [Cond.code yX5_isReturn cX5_isReturn 2 (some .boolean), Cond.fieldLink RX5 27 "ClearingFiles$Output" "returns" "I", Cond.methodLink RX7 153 yX7_postOrSendBack, Cond.instanceMethod yX7_postOrSendBack, Cond.selects RX7 yX7_postOrSendBack yX7_postOrSendBack, Cond.code yX7_postOrSendBack cX7_postOrSendBack 3 (some .boolean), Cond.fieldLink RX7 160 "ClearingFiles$Entry" "receiver" "LClearingFiles$Bank;", Cond.fieldLink RX7 170 "ClearingFiles$Entry" "account" "I", Cond.fieldLink RX7 179 "ClearingFiles$Entry" "reason" "I", Cond.fieldLink RX7 207 "ClearingFiles$Account" "balance" "J", Cond.fieldLink RX7 157 "ClearingFiles$Entry" "code" "I", Cond.fieldLink RX7 173 "ClearingFiles$Entry" "amount" "I", Cond.methodLink RX7 66 yX7_accountOf, Cond.instanceMethod yX7_accountOf, Cond.selects RX7 yX7_accountOf yX7_accountOf, Cond.code yX7_accountOf cX7_accountOf 5 (some (.object "ClearingFiles$Account")), Cond.fieldLink RX7 16 "ClearingFiles" "accounts" "Ljava/util/ArrayList;", Cond.classLink RX7 70 "ClearingFiles$Account", Cond.fieldLink RX7 227 "ClearingFiles$Account" "bank" "LClearingFiles$Bank;", Cond.fieldLink RX7 230 "ClearingFiles$Account" "number" "I", Cond.methodLink RX7 336 yX7_reasonToSendBack, Cond.static yX7_reasonToSendBack, Cond.code yX7_reasonToSendBack cX7_reasonToSendBack 2 (some .int), Cond.fieldLink RX7 75 "ClearingFiles$Account" "isShut" "Z"]
def wsX7_post_r4 : List Cond := [Cond.methodLink RX7 40 yX7_isRight, Cond.static yX7_isRight, Cond.code yX7_isRight cX7_isRight 5 (some .boolean), Cond.fieldLink RX7 221 "ClearingFiles" "WEIGHTS" "[I", Cond.methodLink RX7 340 yX7_sendBack, Cond.instanceMethod yX7_sendBack, Cond.selects RX7 yX7_sendBack yX7_sendBack, Cond.code yX7_sendBack cX7_sendBack 2 none, Cond.fieldLink RX7 167 "ClearingFiles$Entry" "originator" "LClearingFiles$Bank;", Cond.fieldLink RX7 214 "ClearingFiles$Bank" "returns" "Ljava/util/ArrayList;", Cond.methodLink RX7 270 yX7_countRefusal, Cond.instanceMethod yX7_countRefusal, Cond.selects RX7 yX7_countRefusal yX7_countRefusal, Cond.code yX7_countRefusal cX7_countRefusal 2 none, Cond.fieldLink RX7 34 "ClearingFiles" "refusals" "[I", Cond.methodLink RX7 57 yJx4a65c_add_9ea2d, Cond.instanceMethod yJx4a65c_add_9ea2d, Cond.selects RJx4a65c yJx4a65c_add_9ea2d yJx4a65c_add_9ea2d, Cond.code yJx4a65c_add_9ea2d cJx4a65c_add_9ea2d 2 (some .boolean), Cond.fieldLink RJx4a65c 63 "java/util/ArrayList" "modCount" "I", Cond.sameField "java/util/ArrayList" "java/util/AbstractList" "modCount" "I", Cond.methodLink RJx4a65c 131 yJx4a65c_add_72be8, Cond.instanceMethod yJx4a65c_add_72be8, Cond.selects RJx4a65c yJx4a65c_add_72be8 yJx4a65c_add_72be8]
def wsX7_post_r5 : List Cond := [Cond.code yJx4a65c_add_72be8 cJx4a65c_add_72be8 4 none, Cond.methodLink RJx4a65c 129 yJx4a65c_grow_d5877, Cond.instanceMethod yJx4a65c_grow_d5877, Cond.selects RJx4a65c yJx4a65c_grow_d5877 yJx4a65c_grow_d5877, Cond.code yJx4a65c_grow_d5877 cJx4a65c_grow_d5877 1 (some (.array (.object "java/lang/Object"))), Cond.methodLink RJx4a65c 69 yJx4a65c_grow_92f84, Cond.instanceMethod yJx4a65c_grow_92f84, Cond.selects RJx4a65c yJx4a65c_grow_92f84 yJx4a65c_grow_92f84, Cond.code yJx4a65c_grow_92f84 cJx4a65c_grow_92f84 4 (some (.array (.object "java/lang/Object"))), Cond.fieldLink RJx4a65c 39 "java/util/ArrayList" "DEFAULTCAPACITY_EMPTY_ELEMENTDATA" "[Ljava/lang/Object;", Cond.methodLink RJx4a65c 79 Lib.Math.max.name, Cond.static Lib.Math.max.name, Cond.code Lib.Math.max.name Lib.Math.max.code 2 (some .int), Cond.classLink RJx4a65c 7 "java/lang/Object", Cond.methodLink RJx4a65c 73 yJ8_newLength_cabcc, Cond.static yJ8_newLength_cabcc, Cond.initialized RJ8, Cond.code yJ8_newLength_cabcc cJ8_newLength_cabcc 4 (some .int), Cond.methodLink RJ8 194 Lib.Math.max.name, Cond.constant RJ8 200 (2147483639), Cond.methodLink RJ8 201 yJ8_hugeLength_7cf53, Cond.static yJ8_hugeLength_7cf53, Cond.code yJ8_hugeLength_7cf53 cJ8_hugeLength_7cf53 3 (some .int), Cond.methodLink RJx4a65c 66 yJ7_copyOf_1904c]
def wsX7_post_r6 : List Cond := [Cond.static yJ7_copyOf_1904c, Cond.initialized RJ7, Cond.code yJ7_copyOf_1904c cJ7_copyOf_1904c 2 (some (.array (.object "java/lang/Object"))), Cond.methodLink RJ7 86 ⟨"java/lang/Object", "getClass", "()Ljava/lang/Class;"⟩, Cond.selects "[Ljava/lang/Object;" ⟨"java/lang/Object", "getClass", "()Ljava/lang/Class;"⟩ ⟨"java/lang/Object", "getClass", "()Ljava/lang/Class;"⟩, Cond.instanceMethod ⟨"java/lang/Object", "getClass", "()Ljava/lang/Class;"⟩, Cond.native ⟨"java/lang/Object", "getClass", "()Ljava/lang/Class;"⟩, Cond.methodLink RJ7 300 yJ7_copyOf_6403c, Cond.static yJ7_copyOf_6403c, Cond.code yJ7_copyOf_6403c cJ7_copyOf_6403c 4 (some (.array (.object "java/lang/Object"))), Cond.classLink RJ7 110 "[Ljava/lang/Object;", Cond.classLink RJ7 2 "java/lang/Object", Cond.methodLink RJ7 304 Lib.Math.min.name, Cond.methodLink RJ7 150 arraycopyName, Cond.native arraycopyName, Cond.static arraycopyName, Cond.initialized "java/lang/System"]
def wsX7_post : List Cond := .code yX7_post cX7_post 8 (some .int) :: ((wsX7_post_r1 ++ (wsX7_post_r2 ++ (wsX7_post_r3 ++ (wsX7_post_r4 ++ (wsX7_post_r5 ++ wsX7_post_r6))))) ++ wsX10 ++ wsX50 ++ wsX70 ++ wsJx4a65c0 ++ wsX30 ++ wsX00)
def wsX7_items_r1 : List Cond := [Cond.fieldLink RX7 111 "ClearingFiles$Bank" "output" "LClearingFiles$Output;", Cond.methodLink RX7 61 yX7_bankAt, Cond.instanceMethod yX7_bankAt, Cond.selects RX7 yX7_bankAt yX7_bankAt, Cond.initialized RX7, Cond.code yX7_bankAt cX7_bankAt 2 (some (.object "ClearingFiles$Bank")), Cond.fieldLink RX7 10 "ClearingFiles" "banks" "Ljava/util/ArrayList;", Cond.classLink RX7 52 "ClearingFiles$Bank", Cond.methodLink RX7 48 yJx4a65c_size_8abf5, Cond.instanceMethod yJx4a65c_size_8abf5, Cond.selects RJx4a65c yJx4a65c_size_8abf5 yJx4a65c_size_8abf5, Cond.initialized RJx4a65c, Cond.code yJx4a65c_size_8abf5 cJx4a65c_size_8abf5 1 (some .int), Cond.fieldLink RJx4a65c 48 "java/util/ArrayList" "size" "I", Cond.methodLink RX7 147 yJx4a65c_get_915e3, Cond.instanceMethod yJx4a65c_get_915e3, Cond.selects RJx4a65c yJx4a65c_get_915e3 yJx4a65c_get_915e3, Cond.code yJx4a65c_get_915e3 cJx4a65c_get_915e3 2 (some (.object "java/lang/Object")), Cond.methodLink RJx4a65c 118 yJ15_checkIndex_7cf53, Cond.static yJ15_checkIndex_7cf53, Cond.initialized RJ15, Cond.code yJ15_checkIndex_7cf53 cJ15_checkIndex_7cf53 2 (some .int), Cond.methodLink RJ15 105 yJ3_checkIndex_8e157, Cond.static yJ3_checkIndex_8e157]
def wsX7_items_r2 : List Cond := [Cond.initialized RJ3, Cond.code yJ3_checkIndex_8e157 cJ3_checkIndex_8e157 3 (some .int), Cond.methodLink RJx4a65c 123 yJx4a65c_elementData_915e3, Cond.instanceMethod yJx4a65c_elementData_915e3, Cond.selects RJx4a65c yJx4a65c_elementData_915e3 yJx4a65c_elementData_915e3, Cond.code yJx4a65c_elementData_915e3 cJx4a65c_elementData_915e3 2 (some (.object "java/lang/Object")), Cond.fieldLink RJx4a65c 9 "java/util/ArrayList" "elementData" "[Ljava/lang/Object;", Cond.methodLink RX7 131 yX5_size, Cond.instanceMethod yX5_size, Cond.selects RX5 yX5_size yX5_size, Cond.initialized RX5, Cond.code yX5_size cX5_size 1 (some .int), Cond.fieldLink RX5 10 "ClearingFiles$Output" "entries" "Ljava/util/ArrayList;", Cond.methodLink RX5 34 yJx4a65c_size_8abf5]
def wsX7_items : List Cond := .code yX7_items cX7_items 3 (some .int) :: ((wsX7_items_r1 ++ wsX7_items_r2) ++ wsX10 ++ wsX70 ++ wsJx4a65c0 ++ wsX50)
def wsX7_item_r1 : List Cond := [Cond.fieldLink RX7 111 "ClearingFiles$Bank" "output" "LClearingFiles$Output;", Cond.fieldLink RX7 144 "ClearingFiles$Output" "entries" "Ljava/util/ArrayList;", Cond.classLink RX7 151 "ClearingFiles$Entry", Cond.fieldLink RX7 157 "ClearingFiles$Entry" "code" "I", Cond.fieldLink RX7 160 "ClearingFiles$Entry" "receiver" "LClearingFiles$Bank;", Cond.fieldLink RX7 164 "ClearingFiles$Bank" "number" "I", Cond.fieldLink RX7 167 "ClearingFiles$Entry" "originator" "LClearingFiles$Bank;", Cond.fieldLink RX7 170 "ClearingFiles$Entry" "account" "I", Cond.fieldLink RX7 173 "ClearingFiles$Entry" "amount" "I", Cond.fieldLink RX7 176 "ClearingFiles$Entry" "trace" "I", Cond.fieldLink RX7 179 "ClearingFiles$Entry" "reason" "I", Cond.methodLink RX7 61 yX7_bankAt, Cond.instanceMethod yX7_bankAt, Cond.selects RX7 yX7_bankAt yX7_bankAt, Cond.initialized RX7, Cond.code yX7_bankAt cX7_bankAt 2 (some (.object "ClearingFiles$Bank")), Cond.fieldLink RX7 10 "ClearingFiles" "banks" "Ljava/util/ArrayList;", Cond.classLink RX7 52 "ClearingFiles$Bank", Cond.methodLink RX7 48 yJx4a65c_size_8abf5, Cond.instanceMethod yJx4a65c_size_8abf5, Cond.selects RJx4a65c yJx4a65c_size_8abf5 yJx4a65c_size_8abf5, Cond.initialized RJx4a65c, Cond.code yJx4a65c_size_8abf5 cJx4a65c_size_8abf5 1 (some .int), Cond.fieldLink RJx4a65c 48 "java/util/ArrayList" "size" "I"]
def wsX7_item_r2 : List Cond := [Cond.methodLink RX7 147 yJx4a65c_get_915e3, Cond.instanceMethod yJx4a65c_get_915e3, Cond.selects RJx4a65c yJx4a65c_get_915e3 yJx4a65c_get_915e3, Cond.code yJx4a65c_get_915e3 cJx4a65c_get_915e3 2 (some (.object "java/lang/Object")), Cond.methodLink RJx4a65c 118 yJ15_checkIndex_7cf53, Cond.static yJ15_checkIndex_7cf53, Cond.initialized RJ15, Cond.code yJ15_checkIndex_7cf53 cJ15_checkIndex_7cf53 2 (some .int), Cond.methodLink RJ15 105 yJ3_checkIndex_8e157, Cond.static yJ3_checkIndex_8e157, Cond.initialized RJ3, Cond.code yJ3_checkIndex_8e157 cJ3_checkIndex_8e157 3 (some .int), Cond.methodLink RJx4a65c 123 yJx4a65c_elementData_915e3, Cond.instanceMethod yJx4a65c_elementData_915e3, Cond.selects RJx4a65c yJx4a65c_elementData_915e3 yJx4a65c_elementData_915e3, Cond.code yJx4a65c_elementData_915e3 cJx4a65c_elementData_915e3 2 (some (.object "java/lang/Object")), Cond.fieldLink RJx4a65c 9 "java/util/ArrayList" "elementData" "[Ljava/lang/Object;", Cond.methodLink RX7 131 yX5_size, Cond.instanceMethod yX5_size, Cond.selects RX5 yX5_size yX5_size, Cond.initialized RX5, Cond.code yX5_size cX5_size 1 (some .int), Cond.fieldLink RX5 10 "ClearingFiles$Output" "entries" "Ljava/util/ArrayList;", Cond.methodLink RX5 34 yJx4a65c_size_8abf5]
def wsX7_item_r3 : List Cond := [Cond.methodLink RX7 141 yX5_isReturn, Cond.instanceMethod yX5_isReturn, Cond.selects RX5 yX5_isReturn yX5_isReturn, Cond.code yX5_isReturn cX5_isReturn 2 (some .boolean), Cond.fieldLink RX5 27 "ClearingFiles$Output" "returns" "I", Cond.methodLink RX7 182 yX5_stateOf, Cond.instanceMethod yX5_stateOf, Cond.selects RX5 yX5_stateOf yX5_stateOf, Cond.code yX5_stateOf cX5_stateOf 2 (some .int), Cond.fieldLink RX5 31 "ClearingFiles$Output" "done" "I", Cond.classLink RX5 46 "ClearingFiles$Entry", Cond.fieldLink RX5 48 "ClearingFiles$Entry" "reason" "I", Cond.methodLink RX5 38 yX5_isReturn, Cond.methodLink RX5 42 yJx4a65c_get_915e3]
def wsX7_item : List Cond := .code yX7_item cX7_item 7 (some .int) :: ((wsX7_item_r1 ++ (wsX7_item_r2 ++ wsX7_item_r3)) ++ wsX10 ++ wsX50 ++ wsX30 ++ wsX70 ++ wsJx4a65c0)
def wsX7_control_r1 : List Cond := [Cond.constantLong RX7 186 (-1), Cond.fieldLink RX7 111 "ClearingFiles$Bank" "output" "LClearingFiles$Output;", Cond.fieldLink RX7 188 "ClearingFiles$Output" "totals" "LClearingFiles$Totals;", Cond.fieldLink RX7 192 "ClearingFiles$Totals" "count" "J", Cond.fieldLink RX7 198 "ClearingFiles$Totals" "hash" "J", Cond.fieldLink RX7 201 "ClearingFiles$Totals" "debits" "J", Cond.fieldLink RX7 204 "ClearingFiles$Totals" "credits" "J", Cond.methodLink RX7 61 yX7_bankAt, Cond.instanceMethod yX7_bankAt, Cond.selects RX7 yX7_bankAt yX7_bankAt, Cond.initialized RX7, Cond.code yX7_bankAt cX7_bankAt 2 (some (.object "ClearingFiles$Bank")), Cond.fieldLink RX7 10 "ClearingFiles" "banks" "Ljava/util/ArrayList;", Cond.classLink RX7 52 "ClearingFiles$Bank", Cond.methodLink RX7 48 yJx4a65c_size_8abf5, Cond.instanceMethod yJx4a65c_size_8abf5, Cond.selects RJx4a65c yJx4a65c_size_8abf5 yJx4a65c_size_8abf5, Cond.initialized RJx4a65c, Cond.code yJx4a65c_size_8abf5 cJx4a65c_size_8abf5 1 (some .int), Cond.fieldLink RJx4a65c 48 "java/util/ArrayList" "size" "I", Cond.methodLink RX7 147 yJx4a65c_get_915e3, Cond.instanceMethod yJx4a65c_get_915e3, Cond.selects RJx4a65c yJx4a65c_get_915e3 yJx4a65c_get_915e3, Cond.code yJx4a65c_get_915e3 cJx4a65c_get_915e3 2 (some (.object "java/lang/Object"))]
def wsX7_control_r2 : List Cond := [Cond.methodLink RJx4a65c 118 yJ15_checkIndex_7cf53, Cond.static yJ15_checkIndex_7cf53, Cond.initialized RJ15, Cond.code yJ15_checkIndex_7cf53 cJ15_checkIndex_7cf53 2 (some .int), Cond.methodLink RJ15 105 yJ3_checkIndex_8e157, Cond.static yJ3_checkIndex_8e157, Cond.initialized RJ3, Cond.code yJ3_checkIndex_8e157 cJ3_checkIndex_8e157 3 (some .int), Cond.methodLink RJx4a65c 123 yJx4a65c_elementData_915e3, Cond.instanceMethod yJx4a65c_elementData_915e3, Cond.selects RJx4a65c yJx4a65c_elementData_915e3 yJx4a65c_elementData_915e3, Cond.code yJx4a65c_elementData_915e3 cJx4a65c_elementData_915e3 2 (some (.object "java/lang/Object")), Cond.fieldLink RJx4a65c 9 "java/util/ArrayList" "elementData" "[Ljava/lang/Object;"]
def wsX7_control : List Cond := .code yX7_control cX7_control 5 (some .long) :: ((wsX7_control_r1 ++ wsX7_control_r2) ++ wsX10 ++ wsX50 ++ wsX60 ++ wsX70 ++ wsJx4a65c0)
def wsX7_balance_r1 : List Cond := [Cond.constantLong RX7 186 (-1), Cond.fieldLink RX7 207 "ClearingFiles$Account" "balance" "J", Cond.methodLink RX7 61 yX7_bankAt, Cond.instanceMethod yX7_bankAt, Cond.selects RX7 yX7_bankAt yX7_bankAt, Cond.initialized RX7, Cond.code yX7_bankAt cX7_bankAt 2 (some (.object "ClearingFiles$Bank")), Cond.fieldLink RX7 10 "ClearingFiles" "banks" "Ljava/util/ArrayList;", Cond.classLink RX7 52 "ClearingFiles$Bank", Cond.methodLink RX7 48 yJx4a65c_size_8abf5, Cond.instanceMethod yJx4a65c_size_8abf5, Cond.selects RJx4a65c yJx4a65c_size_8abf5 yJx4a65c_size_8abf5, Cond.initialized RJx4a65c, Cond.code yJx4a65c_size_8abf5 cJx4a65c_size_8abf5 1 (some .int), Cond.fieldLink RJx4a65c 48 "java/util/ArrayList" "size" "I", Cond.methodLink RX7 147 yJx4a65c_get_915e3, Cond.instanceMethod yJx4a65c_get_915e3, Cond.selects RJx4a65c yJx4a65c_get_915e3 yJx4a65c_get_915e3, Cond.code yJx4a65c_get_915e3 cJx4a65c_get_915e3 2 (some (.object "java/lang/Object")), Cond.methodLink RJx4a65c 118 yJ15_checkIndex_7cf53, Cond.static yJ15_checkIndex_7cf53, Cond.initialized RJ15, Cond.code yJ15_checkIndex_7cf53 cJ15_checkIndex_7cf53 2 (some .int), Cond.methodLink RJ15 105 yJ3_checkIndex_8e157]
def wsX7_balance_r2 : List Cond := [Cond.static yJ3_checkIndex_8e157, Cond.initialized RJ3, Cond.code yJ3_checkIndex_8e157 cJ3_checkIndex_8e157 3 (some .int), Cond.methodLink RJx4a65c 123 yJx4a65c_elementData_915e3, Cond.instanceMethod yJx4a65c_elementData_915e3, Cond.selects RJx4a65c yJx4a65c_elementData_915e3 yJx4a65c_elementData_915e3, Cond.code yJx4a65c_elementData_915e3 cJx4a65c_elementData_915e3 2 (some (.object "java/lang/Object")), Cond.fieldLink RJx4a65c 9 "java/util/ArrayList" "elementData" "[Ljava/lang/Object;", Cond.methodLink RX7 66 yX7_accountOf, Cond.instanceMethod yX7_accountOf, Cond.selects RX7 yX7_accountOf yX7_accountOf, Cond.code yX7_accountOf cX7_accountOf 5 (some (.object "ClearingFiles$Account")), Cond.fieldLink RX7 16 "ClearingFiles" "accounts" "Ljava/util/ArrayList;", Cond.classLink RX7 70 "ClearingFiles$Account", Cond.fieldLink RX7 227 "ClearingFiles$Account" "bank" "LClearingFiles$Bank;", Cond.fieldLink RX7 230 "ClearingFiles$Account" "number" "I"]
def wsX7_balance : List Cond := .code yX7_balance cX7_balance 4 (some .long) :: ((wsX7_balance_r1 ++ wsX7_balance_r2) ++ wsX00 ++ wsX70 ++ wsJx4a65c0)
def wsX7_ledger_r1 : List Cond := [Cond.fieldLink RX7 210 "ClearingFiles$Bank" "ledger" "J", Cond.methodLink RX7 61 yX7_bankAt, Cond.instanceMethod yX7_bankAt, Cond.selects RX7 yX7_bankAt yX7_bankAt, Cond.initialized RX7, Cond.code yX7_bankAt cX7_bankAt 2 (some (.object "ClearingFiles$Bank")), Cond.fieldLink RX7 10 "ClearingFiles" "banks" "Ljava/util/ArrayList;", Cond.classLink RX7 52 "ClearingFiles$Bank", Cond.methodLink RX7 48 yJx4a65c_size_8abf5, Cond.instanceMethod yJx4a65c_size_8abf5, Cond.selects RJx4a65c yJx4a65c_size_8abf5 yJx4a65c_size_8abf5, Cond.initialized RJx4a65c, Cond.code yJx4a65c_size_8abf5 cJx4a65c_size_8abf5 1 (some .int), Cond.fieldLink RJx4a65c 48 "java/util/ArrayList" "size" "I", Cond.methodLink RX7 147 yJx4a65c_get_915e3, Cond.instanceMethod yJx4a65c_get_915e3, Cond.selects RJx4a65c yJx4a65c_get_915e3 yJx4a65c_get_915e3, Cond.code yJx4a65c_get_915e3 cJx4a65c_get_915e3 2 (some (.object "java/lang/Object")), Cond.methodLink RJx4a65c 118 yJ15_checkIndex_7cf53, Cond.static yJ15_checkIndex_7cf53, Cond.initialized RJ15, Cond.code yJ15_checkIndex_7cf53 cJ15_checkIndex_7cf53 2 (some .int), Cond.methodLink RJ15 105 yJ3_checkIndex_8e157, Cond.static yJ3_checkIndex_8e157]
def wsX7_ledger_r2 : List Cond := [Cond.initialized RJ3, Cond.code yJ3_checkIndex_8e157 cJ3_checkIndex_8e157 3 (some .int), Cond.methodLink RJx4a65c 123 yJx4a65c_elementData_915e3, Cond.instanceMethod yJx4a65c_elementData_915e3, Cond.selects RJx4a65c yJx4a65c_elementData_915e3 yJx4a65c_elementData_915e3, Cond.code yJx4a65c_elementData_915e3 cJx4a65c_elementData_915e3 2 (some (.object "java/lang/Object")), Cond.fieldLink RJx4a65c 9 "java/util/ArrayList" "elementData" "[Ljava/lang/Object;"]
def wsX7_ledger : List Cond := .code yX7_ledger cX7_ledger 3 (some .long) :: ((wsX7_ledger_r1 ++ wsX7_ledger_r2) ++ wsX10 ++ wsX70 ++ wsJx4a65c0)
def wsX7_rejected : List Cond := .code yX7_rejected cX7_rejected 2 (some .int) :: ([.fieldLink RX7 34 "ClearingFiles" "refusals" "[I"] ++ wsX70)
def wsX7_waiting_r1 : List Cond := [Cond.fieldLink RX7 213 "ClearingFiles$Bank" "entries" "Ljava/util/ArrayList;", Cond.fieldLink RX7 214 "ClearingFiles$Bank" "returns" "Ljava/util/ArrayList;", Cond.methodLink RX7 61 yX7_bankAt, Cond.instanceMethod yX7_bankAt, Cond.selects RX7 yX7_bankAt yX7_bankAt, Cond.initialized RX7, Cond.code yX7_bankAt cX7_bankAt 2 (some (.object "ClearingFiles$Bank")), Cond.fieldLink RX7 10 "ClearingFiles" "banks" "Ljava/util/ArrayList;", Cond.classLink RX7 52 "ClearingFiles$Bank", Cond.methodLink RX7 48 yJx4a65c_size_8abf5, Cond.instanceMethod yJx4a65c_size_8abf5, Cond.selects RJx4a65c yJx4a65c_size_8abf5 yJx4a65c_size_8abf5, Cond.initialized RJx4a65c, Cond.code yJx4a65c_size_8abf5 cJx4a65c_size_8abf5 1 (some .int), Cond.fieldLink RJx4a65c 48 "java/util/ArrayList" "size" "I", Cond.methodLink RX7 147 yJx4a65c_get_915e3, Cond.instanceMethod yJx4a65c_get_915e3, Cond.selects RJx4a65c yJx4a65c_get_915e3 yJx4a65c_get_915e3, Cond.code yJx4a65c_get_915e3 cJx4a65c_get_915e3 2 (some (.object "java/lang/Object")), Cond.methodLink RJx4a65c 118 yJ15_checkIndex_7cf53, Cond.static yJ15_checkIndex_7cf53, Cond.initialized RJ15, Cond.code yJ15_checkIndex_7cf53 cJ15_checkIndex_7cf53 2 (some .int), Cond.methodLink RJ15 105 yJ3_checkIndex_8e157]
def wsX7_waiting_r2 : List Cond := [Cond.static yJ3_checkIndex_8e157, Cond.initialized RJ3, Cond.code yJ3_checkIndex_8e157 cJ3_checkIndex_8e157 3 (some .int), Cond.methodLink RJx4a65c 123 yJx4a65c_elementData_915e3, Cond.instanceMethod yJx4a65c_elementData_915e3, Cond.selects RJx4a65c yJx4a65c_elementData_915e3 yJx4a65c_elementData_915e3, Cond.code yJx4a65c_elementData_915e3 cJx4a65c_elementData_915e3 2 (some (.object "java/lang/Object")), Cond.fieldLink RJx4a65c 9 "java/util/ArrayList" "elementData" "[Ljava/lang/Object;"]
def wsX7_waiting : List Cond := .code yX7_waiting cX7_waiting 4 (some .int) :: ((wsX7_waiting_r1 ++ wsX7_waiting_r2) ++ wsX10 ++ wsX70 ++ wsJx4a65c0)
def wsX8_init_r1 : List Cond := [Cond.methodLink RX8 1 objectInit, Cond.instanceMethod objectInit, Cond.code objectInit ⟨#[0xb1]⟩ 1 none, Cond.arrayClass .int, Cond.fieldLink RX8 7 "ClearingFilesModel" "routings" "[I", Cond.arrayClass .long, Cond.fieldLink RX8 13 "ClearingFilesModel" "ledgers" "[J", Cond.fieldLink RX8 17 "ClearingFilesModel" "owner" "[I", Cond.fieldLink RX8 20 "ClearingFilesModel" "number" "[I", Cond.fieldLink RX8 23 "ClearingFilesModel" "balances" "[J", Cond.arrayClass .boolean, Cond.fieldLink RX8 26 "ClearingFilesModel" "closed" "[Z", Cond.fieldLink RX8 30 "ClearingFilesModel" "from" "[I", Cond.fieldLink RX8 33 "ClearingFilesModel" "batchNumber" "[I", Cond.fieldLink RX8 36 "ClearingFilesModel" "batchDay" "[I", Cond.fieldLink RX8 39 "ClearingFilesModel" "saysCount" "[I", Cond.fieldLink RX8 42 "ClearingFilesModel" "saysHash" "[I", Cond.fieldLink RX8 45 "ClearingFilesModel" "saysDebits" "[I", Cond.fieldLink RX8 48 "ClearingFilesModel" "saysCredits" "[I", Cond.fieldLink RX8 51 "ClearingFilesModel" "inBatch" "[I", Cond.fieldLink RX8 54 "ClearingFilesModel" "inCode" "[I", Cond.fieldLink RX8 57 "ClearingFilesModel" "inRouting" "[I", Cond.fieldLink RX8 60 "ClearingFilesModel" "inAccount" "[I", Cond.fieldLink RX8 63 "ClearingFilesModel" "inAmount" "[I"]
def wsX8_init_r2 : List Cond := [Cond.fieldLink RX8 66 "ClearingFilesModel" "inTrace" "[I", Cond.fieldLink RX8 69 "ClearingFilesModel" "files" "[I", Cond.fieldLink RX8 72 "ClearingFilesModel" "code" "[I", Cond.fieldLink RX8 75 "ClearingFilesModel" "giver" "[I", Cond.fieldLink RX8 78 "ClearingFilesModel" "taker" "[I", Cond.fieldLink RX8 81 "ClearingFilesModel" "account" "[I", Cond.fieldLink RX8 84 "ClearingFilesModel" "amount" "[I", Cond.fieldLink RX8 87 "ClearingFilesModel" "trace" "[I", Cond.fieldLink RX8 90 "ClearingFilesModel" "due" "[I", Cond.fieldLink RX8 93 "ClearingFilesModel" "state" "[I", Cond.fieldLink RX8 96 "ClearingFilesModel" "reason" "[I", Cond.fieldLink RX8 99 "ClearingFilesModel" "back" "[I", Cond.fieldLink RX8 102 "ClearingFilesModel" "outCount" "[I", Cond.fieldLink RX8 105 "ClearingFilesModel" "outRow" "[I", Cond.fieldLink RX8 108 "ClearingFilesModel" "outReturn" "[Z", Cond.fieldLink RX8 111 "ClearingFilesModel" "outDone" "[I", Cond.fieldLink RX8 114 "ClearingFilesModel" "tally" "[I"]
def wsX8_init : List Cond := .code yX8_init cX8_init 1 none :: ((wsX8_init_r1 ++ wsX8_init_r2) ++ wsX80)
def wsX8_within : List Cond := .code yX8_within cX8_within 2 (some .boolean) :: ([])
def wsX8_right : List Cond := .code yX8_right cX8_right 6 (some .boolean) :: ([])
def wsX8_digits : List Cond := .code yX8_digits cX8_digits 9 (some .int) :: ([.constantLong RX8 117 (10)])
def wsX8_bankOf : List Cond := .code yX8_bankOf cX8_bankOf 3 (some .int) :: ([.fieldLink RX8 119 "ClearingFilesModel" "banks" "I", .fieldLink RX8 7 "ClearingFilesModel" "routings" "[I"] ++ wsX80)
def wsX8_join : List Cond := .code yX8_join cX8_join 2 (some .int) :: ([.fieldLink RX8 119 "ClearingFilesModel" "banks" "I", .fieldLink RX8 7 "ClearingFilesModel" "routings" "[I", .methodLink RX8 123 yX8_within, .static yX8_within, .initialized RX8, .code yX8_within cX8_within 2 (some .boolean), .methodLink RX8 127 yX8_right, .static yX8_right, .code yX8_right cX8_right 6 (some .boolean), .methodLink RX8 130 yX8_bankOf, .instanceMethod yX8_bankOf, .selects RX8 yX8_bankOf yX8_bankOf, .code yX8_bankOf cX8_bankOf 3 (some .int)] ++ wsX80)
def wsX8_accountOf : List Cond := .code yX8_accountOf cX8_accountOf 4 (some .int) :: ([.fieldLink RX8 134 "ClearingFilesModel" "accounts" "I", .fieldLink RX8 17 "ClearingFilesModel" "owner" "[I", .fieldLink RX8 20 "ClearingFilesModel" "number" "[I"] ++ wsX80)
def wsX8_open : List Cond := .code yX8_open cX8_open 5 (some .boolean) :: ([.fieldLink RX8 119 "ClearingFilesModel" "banks" "I", .constant RX8 137 (1000000), .constant RX8 138 (1000001), .fieldLink RX8 134 "ClearingFilesModel" "accounts" "I", .fieldLink RX8 17 "ClearingFilesModel" "owner" "[I", .fieldLink RX8 20 "ClearingFilesModel" "number" "[I", .fieldLink RX8 23 "ClearingFilesModel" "balances" "[J", .methodLink RX8 123 yX8_within, .static yX8_within, .initialized RX8, .code yX8_within cX8_within 2 (some .boolean), .methodLink RX8 127 yX8_right, .static yX8_right, .code yX8_right cX8_right 6 (some .boolean), .methodLink RX8 139 yX8_accountOf, .instanceMethod yX8_accountOf, .selects RX8 yX8_accountOf yX8_accountOf, .code yX8_accountOf cX8_accountOf 4 (some .int)] ++ wsX80)
def wsX8_shut : List Cond := .code yX8_shut cX8_shut 4 (some .boolean) :: ([.fieldLink RX8 26 "ClearingFilesModel" "closed" "[Z", .methodLink RX8 139 yX8_accountOf, .instanceMethod yX8_accountOf, .selects RX8 yX8_accountOf yX8_accountOf, .initialized RX8, .code yX8_accountOf cX8_accountOf 4 (some .int), .fieldLink RX8 134 "ClearingFilesModel" "accounts" "I", .fieldLink RX8 17 "ClearingFilesModel" "owner" "[I", .fieldLink RX8 20 "ClearingFilesModel" "number" "[I"] ++ wsX80)
def wsX8_day : List Cond := .code yX8_day cX8_day 1 (some .int) :: ([.fieldLink RX8 143 "ClearingFilesModel" "today" "I"] ++ wsX80)
def wsX8_batch : List Cond := .code yX8_batch cX8_batch 3 (some .int) :: ([.fieldLink RX8 161 "ClearingFilesModel" "batches" "I", .fieldLink RX8 30 "ClearingFilesModel" "from" "[I", .fieldLink RX8 33 "ClearingFilesModel" "batchNumber" "[I", .fieldLink RX8 36 "ClearingFilesModel" "batchDay" "[I", .fieldLink RX8 152 "ClearingFilesModel" "stage" "I", .methodLink RX8 148 yX8_digits, .static yX8_digits, .initialized RX8, .code yX8_digits cX8_digits 9 (some .int), .constantLong RX8 117 (10)] ++ wsX80)
def wsX8_entry : List Cond := .code yX8_entry cX8_entry 5 (some .int) :: ([.fieldLink RX8 164 "ClearingFilesModel" "entries" "I", .fieldLink RX8 51 "ClearingFilesModel" "inBatch" "[I", .fieldLink RX8 161 "ClearingFilesModel" "batches" "I", .fieldLink RX8 54 "ClearingFilesModel" "inCode" "[I", .fieldLink RX8 57 "ClearingFilesModel" "inRouting" "[I", .fieldLink RX8 60 "ClearingFilesModel" "inAccount" "[I", .fieldLink RX8 63 "ClearingFilesModel" "inAmount" "[I", .fieldLink RX8 66 "ClearingFilesModel" "inTrace" "[I", .fieldLink RX8 152 "ClearingFilesModel" "stage" "I", .methodLink RX8 148 yX8_digits, .static yX8_digits, .initialized RX8, .code yX8_digits cX8_digits 9 (some .int), .constantLong RX8 117 (10)] ++ wsX80)
def wsX8_total : List Cond := .code yX8_total cX8_total 8 (some .long) :: ([.fieldLink RX8 164 "ClearingFilesModel" "entries" "I", .fieldLink RX8 51 "ClearingFilesModel" "inBatch" "[I", .fieldLink RX8 57 "ClearingFilesModel" "inRouting" "[I", .fieldLink RX8 54 "ClearingFilesModel" "inCode" "[I", .fieldLink RX8 63 "ClearingFilesModel" "inAmount" "[I"] ++ wsX80)
def wsX8_waitingInAll : List Cond := .code yX8_waitingInAll cX8_waitingInAll 3 (some .int) :: ([.fieldLink RX8 182 "ClearingFilesModel" "rows" "I", .fieldLink RX8 93 "ClearingFilesModel" "state" "[I"] ++ wsX80)
def wsX8_batchFault_r1 : List Cond := [Cond.fieldLink RX8 30 "ClearingFilesModel" "from" "[I", Cond.fieldLink RX8 33 "ClearingFilesModel" "batchNumber" "[I", Cond.fieldLink RX8 36 "ClearingFilesModel" "batchDay" "[I", Cond.fieldLink RX8 143 "ClearingFilesModel" "today" "I", Cond.fieldLink RX8 39 "ClearingFilesModel" "saysCount" "[I", Cond.fieldLink RX8 42 "ClearingFilesModel" "saysHash" "[I", Cond.fieldLink RX8 45 "ClearingFilesModel" "saysDebits" "[I", Cond.fieldLink RX8 48 "ClearingFilesModel" "saysCredits" "[I", Cond.fieldLink RX8 164 "ClearingFilesModel" "entries" "I", Cond.fieldLink RX8 51 "ClearingFilesModel" "inBatch" "[I", Cond.fieldLink RX8 66 "ClearingFilesModel" "inTrace" "[I", Cond.methodLink RX8 130 yX8_bankOf, Cond.instanceMethod yX8_bankOf, Cond.selects RX8 yX8_bankOf yX8_bankOf, Cond.initialized RX8, Cond.code yX8_bankOf cX8_bankOf 3 (some .int), Cond.fieldLink RX8 119 "ClearingFilesModel" "banks" "I", Cond.fieldLink RX8 7 "ClearingFilesModel" "routings" "[I", Cond.methodLink RX8 178 yX8_total, Cond.instanceMethod yX8_total, Cond.selects RX8 yX8_total yX8_total, Cond.code yX8_total cX8_total 8 (some .long), Cond.fieldLink RX8 57 "ClearingFilesModel" "inRouting" "[I", Cond.fieldLink RX8 54 "ClearingFilesModel" "inCode" "[I"]
def wsX8_batchFault_r2 : List Cond := [Cond.fieldLink RX8 63 "ClearingFilesModel" "inAmount" "[I"]
def wsX8_batchFault : List Cond := .code yX8_batchFault cX8_batchFault 3 (some .int) :: ((wsX8_batchFault_r1 ++ wsX8_batchFault_r2) ++ wsX80)
def wsX8_entryFault : List Cond := .code yX8_entryFault cX8_entryFault 2 (some .int) :: ([.fieldLink RX8 57 "ClearingFilesModel" "inRouting" "[I", .fieldLink RX8 54 "ClearingFilesModel" "inCode" "[I", .fieldLink RX8 63 "ClearingFilesModel" "inAmount" "[I", .methodLink RX8 127 yX8_right, .static yX8_right, .initialized RX8, .code yX8_right cX8_right 6 (some .boolean), .methodLink RX8 130 yX8_bankOf, .instanceMethod yX8_bankOf, .selects RX8 yX8_bankOf yX8_bankOf, .code yX8_bankOf cX8_bankOf 3 (some .int), .fieldLink RX8 119 "ClearingFilesModel" "banks" "I", .fieldLink RX8 7 "ClearingFilesModel" "routings" "[I"] ++ wsX80)
def wsX8_goodEntries_r1 : List Cond := [Cond.fieldLink RX8 164 "ClearingFilesModel" "entries" "I", Cond.fieldLink RX8 51 "ClearingFilesModel" "inBatch" "[I", Cond.methodLink RX8 185 yX8_batchFault, Cond.instanceMethod yX8_batchFault, Cond.selects RX8 yX8_batchFault yX8_batchFault, Cond.initialized RX8, Cond.code yX8_batchFault cX8_batchFault 3 (some .int), Cond.fieldLink RX8 30 "ClearingFilesModel" "from" "[I", Cond.fieldLink RX8 33 "ClearingFilesModel" "batchNumber" "[I", Cond.fieldLink RX8 36 "ClearingFilesModel" "batchDay" "[I", Cond.fieldLink RX8 143 "ClearingFilesModel" "today" "I", Cond.fieldLink RX8 39 "ClearingFilesModel" "saysCount" "[I", Cond.fieldLink RX8 42 "ClearingFilesModel" "saysHash" "[I", Cond.fieldLink RX8 45 "ClearingFilesModel" "saysDebits" "[I", Cond.fieldLink RX8 48 "ClearingFilesModel" "saysCredits" "[I", Cond.fieldLink RX8 66 "ClearingFilesModel" "inTrace" "[I", Cond.methodLink RX8 130 yX8_bankOf, Cond.instanceMethod yX8_bankOf, Cond.selects RX8 yX8_bankOf yX8_bankOf, Cond.code yX8_bankOf cX8_bankOf 3 (some .int), Cond.fieldLink RX8 119 "ClearingFilesModel" "banks" "I", Cond.fieldLink RX8 7 "ClearingFilesModel" "routings" "[I", Cond.methodLink RX8 178 yX8_total, Cond.instanceMethod yX8_total]
def wsX8_goodEntries_r2 : List Cond := [Cond.selects RX8 yX8_total yX8_total, Cond.code yX8_total cX8_total 8 (some .long), Cond.fieldLink RX8 57 "ClearingFilesModel" "inRouting" "[I", Cond.fieldLink RX8 54 "ClearingFilesModel" "inCode" "[I", Cond.fieldLink RX8 63 "ClearingFilesModel" "inAmount" "[I", Cond.methodLink RX8 188 yX8_entryFault, Cond.instanceMethod yX8_entryFault, Cond.selects RX8 yX8_entryFault yX8_entryFault, Cond.code yX8_entryFault cX8_entryFault 2 (some .int), Cond.methodLink RX8 127 yX8_right, Cond.static yX8_right, Cond.code yX8_right cX8_right 6 (some .boolean)]
def wsX8_goodEntries : List Cond := .code yX8_goodEntries cX8_goodEntries 3 (some .int) :: ((wsX8_goodEntries_r1 ++ wsX8_goodEntries_r2) ++ wsX80)
def wsX8_fileFault_r1 : List Cond := [Cond.fieldLink RX8 155 "ClearingFilesModel" "sender" "I", Cond.fieldLink RX8 191 "ClearingFilesModel" "fileCount" "I", Cond.fieldLink RX8 69 "ClearingFilesModel" "files" "[I", Cond.fieldLink RX8 158 "ClearingFilesModel" "fileNumber" "I", Cond.fieldLink RX8 161 "ClearingFilesModel" "batches" "I", Cond.fieldLink RX8 164 "ClearingFilesModel" "entries" "I", Cond.methodLink RX8 130 yX8_bankOf, Cond.instanceMethod yX8_bankOf, Cond.selects RX8 yX8_bankOf yX8_bankOf, Cond.initialized RX8, Cond.code yX8_bankOf cX8_bankOf 3 (some .int), Cond.fieldLink RX8 119 "ClearingFilesModel" "banks" "I", Cond.fieldLink RX8 7 "ClearingFilesModel" "routings" "[I", Cond.methodLink RX8 148 yX8_digits, Cond.static yX8_digits, Cond.code yX8_digits cX8_digits 9 (some .int), Cond.constantLong RX8 117 (10), Cond.methodLink RX8 178 yX8_total, Cond.instanceMethod yX8_total, Cond.selects RX8 yX8_total yX8_total, Cond.code yX8_total cX8_total 8 (some .long), Cond.fieldLink RX8 51 "ClearingFilesModel" "inBatch" "[I", Cond.fieldLink RX8 57 "ClearingFilesModel" "inRouting" "[I", Cond.fieldLink RX8 54 "ClearingFilesModel" "inCode" "[I"]
def wsX8_fileFault_r2 : List Cond := [Cond.fieldLink RX8 63 "ClearingFilesModel" "inAmount" "[I", Cond.methodLink RX8 194 yX8_waitingInAll, Cond.instanceMethod yX8_waitingInAll, Cond.selects RX8 yX8_waitingInAll yX8_waitingInAll, Cond.code yX8_waitingInAll cX8_waitingInAll 3 (some .int), Cond.fieldLink RX8 182 "ClearingFilesModel" "rows" "I", Cond.fieldLink RX8 93 "ClearingFilesModel" "state" "[I", Cond.methodLink RX8 198 yX8_goodEntries, Cond.instanceMethod yX8_goodEntries, Cond.selects RX8 yX8_goodEntries yX8_goodEntries, Cond.code yX8_goodEntries cX8_goodEntries 3 (some .int), Cond.methodLink RX8 185 yX8_batchFault, Cond.instanceMethod yX8_batchFault, Cond.selects RX8 yX8_batchFault yX8_batchFault, Cond.code yX8_batchFault cX8_batchFault 3 (some .int), Cond.fieldLink RX8 30 "ClearingFilesModel" "from" "[I", Cond.fieldLink RX8 33 "ClearingFilesModel" "batchNumber" "[I", Cond.fieldLink RX8 36 "ClearingFilesModel" "batchDay" "[I", Cond.fieldLink RX8 143 "ClearingFilesModel" "today" "I", Cond.fieldLink RX8 39 "ClearingFilesModel" "saysCount" "[I", Cond.fieldLink RX8 42 "ClearingFilesModel" "saysHash" "[I", Cond.fieldLink RX8 45 "ClearingFilesModel" "saysDebits" "[I", Cond.fieldLink RX8 48 "ClearingFilesModel" "saysCredits" "[I", Cond.fieldLink RX8 66 "ClearingFilesModel" "inTrace" "[I"]
def wsX8_fileFault_r3 : List Cond := [Cond.methodLink RX8 188 yX8_entryFault, Cond.instanceMethod yX8_entryFault, Cond.selects RX8 yX8_entryFault yX8_entryFault, Cond.code yX8_entryFault cX8_entryFault 2 (some .int), Cond.methodLink RX8 127 yX8_right, Cond.static yX8_right, Cond.code yX8_right cX8_right 6 (some .boolean)]
def wsX8_fileFault : List Cond := .code yX8_fileFault cX8_fileFault 7 (some .int) :: ((wsX8_fileFault_r1 ++ (wsX8_fileFault_r2 ++ wsX8_fileFault_r3)) ++ wsX80)
def wsX8_accept : List Cond := .code yX8_accept cX8_accept 3 none :: ([.fieldLink RX8 51 "ClearingFilesModel" "inBatch" "[I", .fieldLink RX8 72 "ClearingFilesModel" "code" "[I", .fieldLink RX8 182 "ClearingFilesModel" "rows" "I", .fieldLink RX8 54 "ClearingFilesModel" "inCode" "[I", .fieldLink RX8 75 "ClearingFilesModel" "giver" "[I", .fieldLink RX8 30 "ClearingFilesModel" "from" "[I", .fieldLink RX8 78 "ClearingFilesModel" "taker" "[I", .fieldLink RX8 57 "ClearingFilesModel" "inRouting" "[I", .fieldLink RX8 81 "ClearingFilesModel" "account" "[I", .fieldLink RX8 60 "ClearingFilesModel" "inAccount" "[I", .fieldLink RX8 84 "ClearingFilesModel" "amount" "[I", .fieldLink RX8 63 "ClearingFilesModel" "inAmount" "[I", .fieldLink RX8 87 "ClearingFilesModel" "trace" "[I", .fieldLink RX8 66 "ClearingFilesModel" "inTrace" "[I", .fieldLink RX8 90 "ClearingFilesModel" "due" "[I", .fieldLink RX8 36 "ClearingFilesModel" "batchDay" "[I", .fieldLink RX8 93 "ClearingFilesModel" "state" "[I", .methodLink RX8 130 yX8_bankOf, .instanceMethod yX8_bankOf, .selects RX8 yX8_bankOf yX8_bankOf, .initialized RX8, .code yX8_bankOf cX8_bankOf 3 (some .int), .fieldLink RX8 119 "ClearingFilesModel" "banks" "I", .fieldLink RX8 7 "ClearingFilesModel" "routings" "[I"] ++ wsX80)
def wsX8_ended_r1 : List Cond := [Cond.fieldLink RX8 114 "ClearingFilesModel" "tally" "[I", Cond.fieldLink RX8 69 "ClearingFilesModel" "files" "[I", Cond.fieldLink RX8 191 "ClearingFilesModel" "fileCount" "I", Cond.fieldLink RX8 155 "ClearingFilesModel" "sender" "I", Cond.fieldLink RX8 158 "ClearingFilesModel" "fileNumber" "I", Cond.fieldLink RX8 161 "ClearingFilesModel" "batches" "I", Cond.fieldLink RX8 164 "ClearingFilesModel" "entries" "I", Cond.fieldLink RX8 51 "ClearingFilesModel" "inBatch" "[I", Cond.methodLink RX8 201 yX8_fileFault, Cond.instanceMethod yX8_fileFault, Cond.selects RX8 yX8_fileFault yX8_fileFault, Cond.initialized RX8, Cond.code yX8_fileFault cX8_fileFault 7 (some .int), Cond.methodLink RX8 130 yX8_bankOf, Cond.instanceMethod yX8_bankOf, Cond.selects RX8 yX8_bankOf yX8_bankOf, Cond.code yX8_bankOf cX8_bankOf 3 (some .int), Cond.fieldLink RX8 119 "ClearingFilesModel" "banks" "I", Cond.fieldLink RX8 7 "ClearingFilesModel" "routings" "[I", Cond.methodLink RX8 148 yX8_digits, Cond.static yX8_digits, Cond.code yX8_digits cX8_digits 9 (some .int), Cond.constantLong RX8 117 (10), Cond.methodLink RX8 178 yX8_total]
def wsX8_ended_r2 : List Cond := [Cond.instanceMethod yX8_total, Cond.selects RX8 yX8_total yX8_total, Cond.code yX8_total cX8_total 8 (some .long), Cond.fieldLink RX8 57 "ClearingFilesModel" "inRouting" "[I", Cond.fieldLink RX8 54 "ClearingFilesModel" "inCode" "[I", Cond.fieldLink RX8 63 "ClearingFilesModel" "inAmount" "[I", Cond.methodLink RX8 194 yX8_waitingInAll, Cond.instanceMethod yX8_waitingInAll, Cond.selects RX8 yX8_waitingInAll yX8_waitingInAll, Cond.code yX8_waitingInAll cX8_waitingInAll 3 (some .int), Cond.fieldLink RX8 182 "ClearingFilesModel" "rows" "I", Cond.fieldLink RX8 93 "ClearingFilesModel" "state" "[I", Cond.methodLink RX8 198 yX8_goodEntries, Cond.instanceMethod yX8_goodEntries, Cond.selects RX8 yX8_goodEntries yX8_goodEntries, Cond.code yX8_goodEntries cX8_goodEntries 3 (some .int), Cond.methodLink RX8 185 yX8_batchFault, Cond.instanceMethod yX8_batchFault, Cond.selects RX8 yX8_batchFault yX8_batchFault, Cond.code yX8_batchFault cX8_batchFault 3 (some .int), Cond.fieldLink RX8 30 "ClearingFilesModel" "from" "[I", Cond.fieldLink RX8 33 "ClearingFilesModel" "batchNumber" "[I", Cond.fieldLink RX8 36 "ClearingFilesModel" "batchDay" "[I", Cond.fieldLink RX8 143 "ClearingFilesModel" "today" "I"]
def wsX8_ended_r3 : List Cond := [Cond.fieldLink RX8 39 "ClearingFilesModel" "saysCount" "[I", Cond.fieldLink RX8 42 "ClearingFilesModel" "saysHash" "[I", Cond.fieldLink RX8 45 "ClearingFilesModel" "saysDebits" "[I", Cond.fieldLink RX8 48 "ClearingFilesModel" "saysCredits" "[I", Cond.fieldLink RX8 66 "ClearingFilesModel" "inTrace" "[I", Cond.methodLink RX8 188 yX8_entryFault, Cond.instanceMethod yX8_entryFault, Cond.selects RX8 yX8_entryFault yX8_entryFault, Cond.code yX8_entryFault cX8_entryFault 2 (some .int), Cond.methodLink RX8 127 yX8_right, Cond.static yX8_right, Cond.code yX8_right cX8_right 6 (some .boolean), Cond.methodLink RX8 204 yX8_accept, Cond.instanceMethod yX8_accept, Cond.selects RX8 yX8_accept yX8_accept, Cond.code yX8_accept cX8_accept 3 none, Cond.fieldLink RX8 72 "ClearingFilesModel" "code" "[I", Cond.fieldLink RX8 75 "ClearingFilesModel" "giver" "[I", Cond.fieldLink RX8 78 "ClearingFilesModel" "taker" "[I", Cond.fieldLink RX8 81 "ClearingFilesModel" "account" "[I", Cond.fieldLink RX8 60 "ClearingFilesModel" "inAccount" "[I", Cond.fieldLink RX8 84 "ClearingFilesModel" "amount" "[I", Cond.fieldLink RX8 87 "ClearingFilesModel" "trace" "[I", Cond.fieldLink RX8 90 "ClearingFilesModel" "due" "[I"]
def wsX8_ended : List Cond := .code yX8_ended cX8_ended 9 (some .int) :: ((wsX8_ended_r1 ++ (wsX8_ended_r2 ++ wsX8_ended_r3)) ++ wsX80)
def wsX8_put_r1 : List Cond := [Cond.constantLong RX8 146 (999999999999999999), Cond.fieldLink RX8 152 "ClearingFilesModel" "stage" "I", Cond.fieldLink RX8 155 "ClearingFilesModel" "sender" "I", Cond.fieldLink RX8 158 "ClearingFilesModel" "fileNumber" "I", Cond.fieldLink RX8 161 "ClearingFilesModel" "batches" "I", Cond.fieldLink RX8 164 "ClearingFilesModel" "entries" "I", Cond.fieldLink RX8 39 "ClearingFilesModel" "saysCount" "[I", Cond.fieldLink RX8 42 "ClearingFilesModel" "saysHash" "[I", Cond.fieldLink RX8 45 "ClearingFilesModel" "saysDebits" "[I", Cond.fieldLink RX8 48 "ClearingFilesModel" "saysCredits" "[I", Cond.methodLink RX8 148 yX8_digits, Cond.static yX8_digits, Cond.initialized RX8, Cond.code yX8_digits cX8_digits 9 (some .int), Cond.constantLong RX8 117 (10), Cond.methodLink RX8 167 yX8_batch, Cond.instanceMethod yX8_batch, Cond.selects RX8 yX8_batch yX8_batch, Cond.code yX8_batch cX8_batch 3 (some .int), Cond.fieldLink RX8 30 "ClearingFilesModel" "from" "[I", Cond.fieldLink RX8 33 "ClearingFilesModel" "batchNumber" "[I", Cond.fieldLink RX8 36 "ClearingFilesModel" "batchDay" "[I", Cond.methodLink RX8 171 yX8_entry, Cond.instanceMethod yX8_entry]
def wsX8_put_r2 : List Cond := [Cond.selects RX8 yX8_entry yX8_entry, Cond.code yX8_entry cX8_entry 5 (some .int), Cond.fieldLink RX8 51 "ClearingFilesModel" "inBatch" "[I", Cond.fieldLink RX8 54 "ClearingFilesModel" "inCode" "[I", Cond.fieldLink RX8 57 "ClearingFilesModel" "inRouting" "[I", Cond.fieldLink RX8 60 "ClearingFilesModel" "inAccount" "[I", Cond.fieldLink RX8 63 "ClearingFilesModel" "inAmount" "[I", Cond.fieldLink RX8 66 "ClearingFilesModel" "inTrace" "[I", Cond.methodLink RX8 175 yX8_ended, Cond.instanceMethod yX8_ended, Cond.selects RX8 yX8_ended yX8_ended, Cond.code yX8_ended cX8_ended 9 (some .int), Cond.fieldLink RX8 114 "ClearingFilesModel" "tally" "[I", Cond.fieldLink RX8 69 "ClearingFilesModel" "files" "[I", Cond.fieldLink RX8 191 "ClearingFilesModel" "fileCount" "I", Cond.methodLink RX8 201 yX8_fileFault, Cond.instanceMethod yX8_fileFault, Cond.selects RX8 yX8_fileFault yX8_fileFault, Cond.code yX8_fileFault cX8_fileFault 7 (some .int), Cond.methodLink RX8 130 yX8_bankOf, Cond.instanceMethod yX8_bankOf, Cond.selects RX8 yX8_bankOf yX8_bankOf, Cond.code yX8_bankOf cX8_bankOf 3 (some .int), Cond.fieldLink RX8 119 "ClearingFilesModel" "banks" "I"]
def wsX8_put_r3 : List Cond := [Cond.fieldLink RX8 7 "ClearingFilesModel" "routings" "[I", Cond.methodLink RX8 178 yX8_total, Cond.instanceMethod yX8_total, Cond.selects RX8 yX8_total yX8_total, Cond.code yX8_total cX8_total 8 (some .long), Cond.methodLink RX8 194 yX8_waitingInAll, Cond.instanceMethod yX8_waitingInAll, Cond.selects RX8 yX8_waitingInAll yX8_waitingInAll, Cond.code yX8_waitingInAll cX8_waitingInAll 3 (some .int), Cond.fieldLink RX8 182 "ClearingFilesModel" "rows" "I", Cond.fieldLink RX8 93 "ClearingFilesModel" "state" "[I", Cond.methodLink RX8 198 yX8_goodEntries, Cond.instanceMethod yX8_goodEntries, Cond.selects RX8 yX8_goodEntries yX8_goodEntries, Cond.code yX8_goodEntries cX8_goodEntries 3 (some .int), Cond.methodLink RX8 185 yX8_batchFault, Cond.instanceMethod yX8_batchFault, Cond.selects RX8 yX8_batchFault yX8_batchFault, Cond.code yX8_batchFault cX8_batchFault 3 (some .int), Cond.fieldLink RX8 143 "ClearingFilesModel" "today" "I", Cond.methodLink RX8 188 yX8_entryFault, Cond.instanceMethod yX8_entryFault, Cond.selects RX8 yX8_entryFault yX8_entryFault, Cond.code yX8_entryFault cX8_entryFault 2 (some .int)]
def wsX8_put_r4 : List Cond := [Cond.methodLink RX8 127 yX8_right, Cond.static yX8_right, Cond.code yX8_right cX8_right 6 (some .boolean), Cond.methodLink RX8 204 yX8_accept, Cond.instanceMethod yX8_accept, Cond.selects RX8 yX8_accept yX8_accept, Cond.code yX8_accept cX8_accept 3 none, Cond.fieldLink RX8 72 "ClearingFilesModel" "code" "[I", Cond.fieldLink RX8 75 "ClearingFilesModel" "giver" "[I", Cond.fieldLink RX8 78 "ClearingFilesModel" "taker" "[I", Cond.fieldLink RX8 81 "ClearingFilesModel" "account" "[I", Cond.fieldLink RX8 84 "ClearingFilesModel" "amount" "[I", Cond.fieldLink RX8 87 "ClearingFilesModel" "trace" "[I", Cond.fieldLink RX8 90 "ClearingFilesModel" "due" "[I"]
def wsX8_put : List Cond := .code yX8_put cX8_put 10 (some .int) :: ((wsX8_put_r1 ++ (wsX8_put_r2 ++ (wsX8_put_r3 ++ wsX8_put_r4))) ++ wsX80)
def wsX8_allDone : List Cond := .code yX8_allDone cX8_allDone 4 (some .boolean) :: ([.fieldLink RX8 102 "ClearingFilesModel" "outCount" "[I", .fieldLink RX8 111 "ClearingFilesModel" "outDone" "[I"] ++ wsX80)
def wsX8_take : List Cond := .code yX8_take cX8_take 7 none :: ([.fieldLink RX8 102 "ClearingFilesModel" "outCount" "[I", .fieldLink RX8 105 "ClearingFilesModel" "outRow" "[I", .fieldLink RX8 108 "ClearingFilesModel" "outReturn" "[Z", .fieldLink RX8 111 "ClearingFilesModel" "outDone" "[I", .fieldLink RX8 93 "ClearingFilesModel" "state" "[I", .fieldLink RX8 72 "ClearingFilesModel" "code" "[I", .fieldLink RX8 84 "ClearingFilesModel" "amount" "[I", .fieldLink RX8 13 "ClearingFilesModel" "ledgers" "[J", .fieldLink RX8 75 "ClearingFilesModel" "giver" "[I", .fieldLink RX8 78 "ClearingFilesModel" "taker" "[I"] ++ wsX80)
def wsX8_before : List Cond := .code yX8_before cX8_before 4 (some .boolean) :: ([.fieldLink RX8 99 "ClearingFilesModel" "back" "[I", .fieldLink RX8 90 "ClearingFilesModel" "due" "[I", .fieldLink RX8 75 "ClearingFilesModel" "giver" "[I"] ++ wsX80)
def wsX8_first : List Cond := .code yX8_first cX8_first 6 (some .int) :: ([.fieldLink RX8 182 "ClearingFilesModel" "rows" "I", .fieldLink RX8 93 "ClearingFilesModel" "state" "[I", .fieldLink RX8 75 "ClearingFilesModel" "giver" "[I", .fieldLink RX8 78 "ClearingFilesModel" "taker" "[I", .fieldLink RX8 90 "ClearingFilesModel" "due" "[I", .fieldLink RX8 143 "ClearingFilesModel" "today" "I", .methodLink RX8 208 yX8_before, .instanceMethod yX8_before, .selects RX8 yX8_before yX8_before, .initialized RX8, .code yX8_before cX8_before 4 (some .boolean), .fieldLink RX8 99 "ClearingFilesModel" "back" "[I"] ++ wsX80)
def wsX8_window_r1 : List Cond := [Cond.fieldLink RX8 119 "ClearingFilesModel" "banks" "I", Cond.fieldLink RX8 102 "ClearingFilesModel" "outCount" "[I", Cond.methodLink RX8 123 yX8_within, Cond.static yX8_within, Cond.initialized RX8, Cond.code yX8_within cX8_within 2 (some .boolean), Cond.methodLink RX8 212 yX8_allDone, Cond.instanceMethod yX8_allDone, Cond.selects RX8 yX8_allDone yX8_allDone, Cond.code yX8_allDone cX8_allDone 4 (some .boolean), Cond.fieldLink RX8 111 "ClearingFilesModel" "outDone" "[I", Cond.methodLink RX8 216 yX8_first, Cond.instanceMethod yX8_first, Cond.selects RX8 yX8_first yX8_first, Cond.code yX8_first cX8_first 6 (some .int), Cond.fieldLink RX8 182 "ClearingFilesModel" "rows" "I", Cond.fieldLink RX8 93 "ClearingFilesModel" "state" "[I", Cond.fieldLink RX8 75 "ClearingFilesModel" "giver" "[I", Cond.fieldLink RX8 78 "ClearingFilesModel" "taker" "[I", Cond.fieldLink RX8 90 "ClearingFilesModel" "due" "[I", Cond.fieldLink RX8 143 "ClearingFilesModel" "today" "I", Cond.methodLink RX8 208 yX8_before, Cond.instanceMethod yX8_before, Cond.selects RX8 yX8_before yX8_before]
def wsX8_window_r2 : List Cond := [Cond.code yX8_before cX8_before 4 (some .boolean), Cond.fieldLink RX8 99 "ClearingFilesModel" "back" "[I", Cond.methodLink RX8 220 yX8_take, Cond.instanceMethod yX8_take, Cond.selects RX8 yX8_take yX8_take, Cond.code yX8_take cX8_take 7 none, Cond.fieldLink RX8 105 "ClearingFilesModel" "outRow" "[I", Cond.fieldLink RX8 108 "ClearingFilesModel" "outReturn" "[Z", Cond.fieldLink RX8 72 "ClearingFilesModel" "code" "[I", Cond.fieldLink RX8 84 "ClearingFilesModel" "amount" "[I", Cond.fieldLink RX8 13 "ClearingFilesModel" "ledgers" "[J"]
def wsX8_window : List Cond := .code yX8_window cX8_window 5 (some .int) :: ((wsX8_window_r1 ++ wsX8_window_r2) ++ wsX80)
def wsX8_backFault : List Cond := .code yX8_backFault cX8_backFault 3 (some .int) :: ([.fieldLink RX8 81 "ClearingFilesModel" "account" "[I", .fieldLink RX8 78 "ClearingFilesModel" "taker" "[I", .fieldLink RX8 26 "ClearingFilesModel" "closed" "[Z", .fieldLink RX8 72 "ClearingFilesModel" "code" "[I", .fieldLink RX8 23 "ClearingFilesModel" "balances" "[J", .fieldLink RX8 84 "ClearingFilesModel" "amount" "[I", .methodLink RX8 127 yX8_right, .static yX8_right, .initialized RX8, .code yX8_right cX8_right 6 (some .boolean), .methodLink RX8 139 yX8_accountOf, .instanceMethod yX8_accountOf, .selects RX8 yX8_accountOf yX8_accountOf, .code yX8_accountOf cX8_accountOf 4 (some .int), .fieldLink RX8 134 "ClearingFilesModel" "accounts" "I", .fieldLink RX8 17 "ClearingFilesModel" "owner" "[I", .fieldLink RX8 20 "ClearingFilesModel" "number" "[I"] ++ wsX80)
def wsX8_does_r1 : List Cond := [Cond.fieldLink RX8 105 "ClearingFilesModel" "outRow" "[I", Cond.fieldLink RX8 111 "ClearingFilesModel" "outDone" "[I", Cond.fieldLink RX8 108 "ClearingFilesModel" "outReturn" "[Z", Cond.fieldLink RX8 114 "ClearingFilesModel" "tally" "[I", Cond.fieldLink RX8 96 "ClearingFilesModel" "reason" "[I", Cond.fieldLink RX8 93 "ClearingFilesModel" "state" "[I", Cond.fieldLink RX8 99 "ClearingFilesModel" "back" "[I", Cond.fieldLink RX8 227 "ClearingFilesModel" "backs" "I", Cond.fieldLink RX8 78 "ClearingFilesModel" "taker" "[I", Cond.fieldLink RX8 81 "ClearingFilesModel" "account" "[I", Cond.fieldLink RX8 23 "ClearingFilesModel" "balances" "[J", Cond.fieldLink RX8 72 "ClearingFilesModel" "code" "[I", Cond.fieldLink RX8 84 "ClearingFilesModel" "amount" "[I", Cond.methodLink RX8 224 yX8_backFault, Cond.instanceMethod yX8_backFault, Cond.selects RX8 yX8_backFault yX8_backFault, Cond.initialized RX8, Cond.code yX8_backFault cX8_backFault 3 (some .int), Cond.fieldLink RX8 26 "ClearingFilesModel" "closed" "[Z", Cond.methodLink RX8 127 yX8_right, Cond.static yX8_right, Cond.code yX8_right cX8_right 6 (some .boolean), Cond.methodLink RX8 139 yX8_accountOf, Cond.instanceMethod yX8_accountOf]
def wsX8_does_r2 : List Cond := [Cond.selects RX8 yX8_accountOf yX8_accountOf, Cond.code yX8_accountOf cX8_accountOf 4 (some .int), Cond.fieldLink RX8 134 "ClearingFilesModel" "accounts" "I", Cond.fieldLink RX8 17 "ClearingFilesModel" "owner" "[I", Cond.fieldLink RX8 20 "ClearingFilesModel" "number" "[I"]
def wsX8_does : List Cond := .code yX8_does cX8_does 5 (some .int) :: ((wsX8_does_r1 ++ wsX8_does_r2) ++ wsX80)
def wsX8_post_r1 : List Cond := [Cond.fieldLink RX8 119 "ClearingFilesModel" "banks" "I", Cond.fieldLink RX8 102 "ClearingFilesModel" "outCount" "[I", Cond.fieldLink RX8 111 "ClearingFilesModel" "outDone" "[I", Cond.methodLink RX8 123 yX8_within, Cond.static yX8_within, Cond.initialized RX8, Cond.code yX8_within cX8_within 2 (some .boolean), Cond.methodLink RX8 230 yX8_does, Cond.instanceMethod yX8_does, Cond.selects RX8 yX8_does yX8_does, Cond.code yX8_does cX8_does 5 (some .int), Cond.fieldLink RX8 105 "ClearingFilesModel" "outRow" "[I", Cond.fieldLink RX8 108 "ClearingFilesModel" "outReturn" "[Z", Cond.fieldLink RX8 114 "ClearingFilesModel" "tally" "[I", Cond.fieldLink RX8 96 "ClearingFilesModel" "reason" "[I", Cond.fieldLink RX8 93 "ClearingFilesModel" "state" "[I", Cond.fieldLink RX8 99 "ClearingFilesModel" "back" "[I", Cond.fieldLink RX8 227 "ClearingFilesModel" "backs" "I", Cond.fieldLink RX8 78 "ClearingFilesModel" "taker" "[I", Cond.fieldLink RX8 81 "ClearingFilesModel" "account" "[I", Cond.fieldLink RX8 23 "ClearingFilesModel" "balances" "[J", Cond.fieldLink RX8 72 "ClearingFilesModel" "code" "[I", Cond.fieldLink RX8 84 "ClearingFilesModel" "amount" "[I", Cond.methodLink RX8 224 yX8_backFault]
def wsX8_post_r2 : List Cond := [Cond.instanceMethod yX8_backFault, Cond.selects RX8 yX8_backFault yX8_backFault, Cond.code yX8_backFault cX8_backFault 3 (some .int), Cond.fieldLink RX8 26 "ClearingFilesModel" "closed" "[Z", Cond.methodLink RX8 127 yX8_right, Cond.static yX8_right, Cond.code yX8_right cX8_right 6 (some .boolean), Cond.methodLink RX8 139 yX8_accountOf, Cond.instanceMethod yX8_accountOf, Cond.selects RX8 yX8_accountOf yX8_accountOf, Cond.code yX8_accountOf cX8_accountOf 4 (some .int), Cond.fieldLink RX8 134 "ClearingFilesModel" "accounts" "I", Cond.fieldLink RX8 17 "ClearingFilesModel" "owner" "[I", Cond.fieldLink RX8 20 "ClearingFilesModel" "number" "[I"]
def wsX8_post : List Cond := .code yX8_post cX8_post 6 (some .int) :: ((wsX8_post_r1 ++ wsX8_post_r2) ++ wsX80)
def wsX8_items : List Cond := .code yX8_items cX8_items 2 (some .int) :: ([.fieldLink RX8 119 "ClearingFilesModel" "banks" "I", .fieldLink RX8 102 "ClearingFilesModel" "outCount" "[I", .methodLink RX8 123 yX8_within, .static yX8_within, .initialized RX8, .code yX8_within cX8_within 2 (some .boolean)] ++ wsX80)
def wsX8_item : List Cond := .code yX8_item cX8_item 6 (some .int) :: ([.fieldLink RX8 119 "ClearingFilesModel" "banks" "I", .fieldLink RX8 102 "ClearingFilesModel" "outCount" "[I", .fieldLink RX8 105 "ClearingFilesModel" "outRow" "[I", .fieldLink RX8 72 "ClearingFilesModel" "code" "[I", .fieldLink RX8 108 "ClearingFilesModel" "outReturn" "[Z", .fieldLink RX8 78 "ClearingFilesModel" "taker" "[I", .fieldLink RX8 75 "ClearingFilesModel" "giver" "[I", .fieldLink RX8 81 "ClearingFilesModel" "account" "[I", .fieldLink RX8 84 "ClearingFilesModel" "amount" "[I", .fieldLink RX8 87 "ClearingFilesModel" "trace" "[I", .fieldLink RX8 96 "ClearingFilesModel" "reason" "[I", .fieldLink RX8 111 "ClearingFilesModel" "outDone" "[I", .methodLink RX8 123 yX8_within, .static yX8_within, .initialized RX8, .code yX8_within cX8_within 2 (some .boolean)] ++ wsX80)
def wsX8_control : List Cond := .code yX8_control cX8_control 7 (some .long) :: ([.fieldLink RX8 119 "ClearingFilesModel" "banks" "I", .constantLong RX8 233 (-1), .fieldLink RX8 102 "ClearingFilesModel" "outCount" "[I", .fieldLink RX8 105 "ClearingFilesModel" "outRow" "[I", .fieldLink RX8 7 "ClearingFilesModel" "routings" "[I", .fieldLink RX8 78 "ClearingFilesModel" "taker" "[I", .fieldLink RX8 72 "ClearingFilesModel" "code" "[I", .fieldLink RX8 84 "ClearingFilesModel" "amount" "[I", .methodLink RX8 123 yX8_within, .static yX8_within, .initialized RX8, .code yX8_within cX8_within 2 (some .boolean)] ++ wsX80)
def wsX8_balance : List Cond := .code yX8_balance cX8_balance 4 (some .long) :: ([.constantLong RX8 233 (-1), .fieldLink RX8 23 "ClearingFilesModel" "balances" "[J", .methodLink RX8 139 yX8_accountOf, .instanceMethod yX8_accountOf, .selects RX8 yX8_accountOf yX8_accountOf, .initialized RX8, .code yX8_accountOf cX8_accountOf 4 (some .int), .fieldLink RX8 134 "ClearingFilesModel" "accounts" "I", .fieldLink RX8 17 "ClearingFilesModel" "owner" "[I", .fieldLink RX8 20 "ClearingFilesModel" "number" "[I"] ++ wsX80)
def wsX8_ledger : List Cond := .code yX8_ledger cX8_ledger 2 (some .long) :: ([.fieldLink RX8 119 "ClearingFilesModel" "banks" "I", .fieldLink RX8 13 "ClearingFilesModel" "ledgers" "[J", .methodLink RX8 123 yX8_within, .static yX8_within, .initialized RX8, .code yX8_within cX8_within 2 (some .boolean)] ++ wsX80)
def wsX8_rejected : List Cond := .code yX8_rejected cX8_rejected 3 (some .int) :: ([.fieldLink RX8 114 "ClearingFilesModel" "tally" "[I"] ++ wsX80)
def wsX8_waiting : List Cond := .code yX8_waiting cX8_waiting 6 (some .int) :: ([.fieldLink RX8 119 "ClearingFilesModel" "banks" "I", .fieldLink RX8 182 "ClearingFilesModel" "rows" "I", .fieldLink RX8 93 "ClearingFilesModel" "state" "[I", .fieldLink RX8 78 "ClearingFilesModel" "taker" "[I", .fieldLink RX8 75 "ClearingFilesModel" "giver" "[I", .methodLink RX8 123 yX8_within, .static yX8_within, .initialized RX8, .code yX8_within cX8_within 2 (some .boolean)] ++ wsX80)
def wsJ9_max_7cf53 : List Cond := .code yJ9_max_7cf53 cJ9_max_7cf53 2 (some .int) :: ([])
def wsJ9_min_7cf53 : List Cond := .code yJ9_min_7cf53 cJ9_min_7cf53 2 (some .int) :: ([])
def wsL_law_r1 : List Cond := [Cond.classLink RL 7 RX7, Cond.instantiable RX7 7, Cond.initialized RX7, Cond.classLink RL 10 RX8, Cond.instantiable RX8 46, Cond.initialized RX8, Cond.constantLong RL 33 (4294967295), Cond.methodLink RL 9 yX7_init, Cond.instanceMethod yX7_init, Cond.code yX7_init cX7_init 1 none, Cond.methodLink RX7 1 objectInit, Cond.instanceMethod objectInit, Cond.code objectInit ⟨#[0xb1]⟩ 1 none, Cond.classLink RX7 7 RJx4a65c, Cond.instantiable RJx4a65c 3, Cond.initialized RJx4a65c, Cond.fieldLink RX7 10 "ClearingFiles" "banks" "Ljava/util/ArrayList;", Cond.fieldLink RX7 16 "ClearingFiles" "accounts" "Ljava/util/ArrayList;", Cond.classLink RX7 19 RX4, Cond.instantiable RX4 8, Cond.initialized RX4, Cond.fieldLink RX7 22 "ClearingFiles" "file" "LClearingFiles$Incoming;", Cond.arrayClass .int, Cond.fieldLink RX7 26 "ClearingFiles" "acceptedFiles" "[I"]
def wsL_law_r2 : List Cond := [Cond.fieldLink RX7 30 "ClearingFiles" "acceptedCount" "I", Cond.fieldLink RX7 34 "ClearingFiles" "refusals" "[I", Cond.fieldLink RX7 37 "ClearingFiles" "today" "I", Cond.methodLink RX7 9 yJx4a65c_init_da8c8, Cond.instanceMethod yJx4a65c_init_da8c8, Cond.code yJx4a65c_init_da8c8 cJx4a65c_init_da8c8 1 none, Cond.fieldLink RJx4a65c 39 "java/util/ArrayList" "DEFAULTCAPACITY_EMPTY_ELEMENTDATA" "[Ljava/lang/Object;", Cond.fieldLink RJx4a65c 9 "java/util/ArrayList" "elementData" "[Ljava/lang/Object;", Cond.methodLink RJx4a65c 1 yJxc12de_init_da8c8, Cond.instanceMethod yJxc12de_init_da8c8, Cond.initialized RJxc12de, Cond.code yJxc12de_init_da8c8 cJxc12de_init_da8c8 1 none, Cond.fieldLink RJxc12de 7 "java/util/AbstractList" "modCount" "I", Cond.methodLink RJxc12de 1 yJxa1e45_init_da8c8, Cond.instanceMethod yJxa1e45_init_da8c8, Cond.initialized RJxa1e45, Cond.code yJxa1e45_init_da8c8 cJxa1e45_init_da8c8 1 none, Cond.methodLink RJxa1e45 1 objectInit, Cond.methodLink RX7 21 yX4_init, Cond.instanceMethod yX4_init, Cond.code yX4_init cX4_init 2 none, Cond.methodLink RX4 3 objectInit, Cond.classLink RX4 9 RX2, Cond.fieldLink RX4 11 "ClearingFiles$Incoming" "batches" "[LClearingFiles$Batch;"]
def wsL_law_r3 : List Cond := [Cond.classLink RX4 17 RX6, Cond.instantiable RX6 4, Cond.initialized RX6, Cond.fieldLink RX4 20 "ClearingFiles$Incoming" "totals" "LClearingFiles$Totals;", Cond.instantiable RX2 9, Cond.initialized RX2, Cond.fieldLink RX4 25 "ClearingFiles$Incoming" "current" "LClearingFiles$Batch;", Cond.instanceMethod yX6_init, Cond.code yX6_init cX6_init 1 none, Cond.methodLink RX6 3 objectInit, Cond.instanceMethod yX2_init, Cond.code yX2_init cX2_init 1 none, Cond.methodLink RX2 1 objectInit, Cond.classLink RX2 7 RJx4a65c, Cond.fieldLink RX2 10 "ClearingFiles$Batch" "entries" "Ljava/util/ArrayList;", Cond.classLink RX2 16 RX6, Cond.fieldLink RX2 19 "ClearingFiles$Batch" "totals" "LClearingFiles$Totals;", Cond.methodLink RX2 9 yJx4a65c_init_da8c8, Cond.methodLink RL 12 yX8_init, Cond.instanceMethod yX8_init, Cond.code yX8_init cX8_init 1 none, Cond.methodLink RX8 1 objectInit, Cond.fieldLink RX8 7 "ClearingFilesModel" "routings" "[I", Cond.arrayClass .long]
def wsL_law_r4 : List Cond := [Cond.fieldLink RX8 13 "ClearingFilesModel" "ledgers" "[J", Cond.fieldLink RX8 17 "ClearingFilesModel" "owner" "[I", Cond.fieldLink RX8 20 "ClearingFilesModel" "number" "[I", Cond.fieldLink RX8 23 "ClearingFilesModel" "balances" "[J", Cond.arrayClass .boolean, Cond.fieldLink RX8 26 "ClearingFilesModel" "closed" "[Z", Cond.fieldLink RX8 30 "ClearingFilesModel" "from" "[I", Cond.fieldLink RX8 33 "ClearingFilesModel" "batchNumber" "[I", Cond.fieldLink RX8 36 "ClearingFilesModel" "batchDay" "[I", Cond.fieldLink RX8 39 "ClearingFilesModel" "saysCount" "[I", Cond.fieldLink RX8 42 "ClearingFilesModel" "saysHash" "[I", Cond.fieldLink RX8 45 "ClearingFilesModel" "saysDebits" "[I", Cond.fieldLink RX8 48 "ClearingFilesModel" "saysCredits" "[I", Cond.fieldLink RX8 51 "ClearingFilesModel" "inBatch" "[I", Cond.fieldLink RX8 54 "ClearingFilesModel" "inCode" "[I", Cond.fieldLink RX8 57 "ClearingFilesModel" "inRouting" "[I", Cond.fieldLink RX8 60 "ClearingFilesModel" "inAccount" "[I", Cond.fieldLink RX8 63 "ClearingFilesModel" "inAmount" "[I", Cond.fieldLink RX8 66 "ClearingFilesModel" "inTrace" "[I", Cond.fieldLink RX8 69 "ClearingFilesModel" "files" "[I", Cond.fieldLink RX8 72 "ClearingFilesModel" "code" "[I", Cond.fieldLink RX8 75 "ClearingFilesModel" "giver" "[I", Cond.fieldLink RX8 78 "ClearingFilesModel" "taker" "[I", Cond.fieldLink RX8 81 "ClearingFilesModel" "account" "[I"]
def wsL_law_r5 : List Cond := [Cond.fieldLink RX8 84 "ClearingFilesModel" "amount" "[I", Cond.fieldLink RX8 87 "ClearingFilesModel" "trace" "[I", Cond.fieldLink RX8 90 "ClearingFilesModel" "due" "[I", Cond.fieldLink RX8 93 "ClearingFilesModel" "state" "[I", Cond.fieldLink RX8 96 "ClearingFilesModel" "reason" "[I", Cond.fieldLink RX8 99 "ClearingFilesModel" "back" "[I", Cond.fieldLink RX8 102 "ClearingFilesModel" "outCount" "[I", Cond.fieldLink RX8 105 "ClearingFilesModel" "outRow" "[I", Cond.fieldLink RX8 108 "ClearingFilesModel" "outReturn" "[Z", Cond.fieldLink RX8 111 "ClearingFilesModel" "outDone" "[I", Cond.fieldLink RX8 114 "ClearingFilesModel" "tally" "[I", Cond.methodLink RL 13 yX7_join, Cond.instanceMethod yX7_join, Cond.selects RX7 yX7_join yX7_join, Cond.code yX7_join cX7_join 3 (some .int), Cond.classLink RX7 52 RX1, Cond.instantiable RX1 6, Cond.initialized RX1, Cond.methodLink RX7 40 yX7_isRight, Cond.static yX7_isRight, Cond.code yX7_isRight cX7_isRight 5 (some .boolean), Cond.fieldLink RX7 221 "ClearingFiles" "WEIGHTS" "[I", Cond.methodLink RX7 44 yX7_bankWithRouting, Cond.instanceMethod yX7_bankWithRouting]
def wsL_law_r6 : List Cond := [Cond.selects RX7 yX7_bankWithRouting yX7_bankWithRouting, Cond.code yX7_bankWithRouting cX7_bankWithRouting 3 (some (.object "ClearingFiles$Bank")), Cond.classLink RX7 52 "ClearingFiles$Bank", Cond.fieldLink RX7 224 "ClearingFiles$Bank" "routing" "I", Cond.methodLink RX7 48 yJx4a65c_size_8abf5, Cond.instanceMethod yJx4a65c_size_8abf5, Cond.selects RJx4a65c yJx4a65c_size_8abf5 yJx4a65c_size_8abf5, Cond.code yJx4a65c_size_8abf5 cJx4a65c_size_8abf5 1 (some .int), Cond.fieldLink RJx4a65c 48 "java/util/ArrayList" "size" "I", Cond.methodLink RX7 147 yJx4a65c_get_915e3, Cond.instanceMethod yJx4a65c_get_915e3, Cond.selects RJx4a65c yJx4a65c_get_915e3 yJx4a65c_get_915e3, Cond.code yJx4a65c_get_915e3 cJx4a65c_get_915e3 2 (some (.object "java/lang/Object")), Cond.methodLink RJx4a65c 118 yJ15_checkIndex_7cf53, Cond.static yJ15_checkIndex_7cf53, Cond.initialized RJ15, Cond.code yJ15_checkIndex_7cf53 cJ15_checkIndex_7cf53 2 (some .int), Cond.methodLink RJ15 105 yJ3_checkIndex_8e157, Cond.static yJ3_checkIndex_8e157, Cond.initialized RJ3, Cond.code yJ3_checkIndex_8e157 cJ3_checkIndex_8e157 3 (some .int), Cond.methodLink RJx4a65c 123 yJx4a65c_elementData_915e3, Cond.instanceMethod yJx4a65c_elementData_915e3, Cond.selects RJx4a65c yJx4a65c_elementData_915e3 yJx4a65c_elementData_915e3]
def wsL_law_r7 : List Cond := [Cond.code yJx4a65c_elementData_915e3 cJx4a65c_elementData_915e3 2 (some (.object "java/lang/Object")), Cond.methodLink RX7 54 yX1_init, Cond.instanceMethod yX1_init, Cond.code yX1_init cX1_init 3 none, Cond.methodLink RX1 1 objectInit, Cond.classLink RX1 7 RJx4a65c, Cond.fieldLink RX1 10 "ClearingFiles$Bank" "entries" "Ljava/util/ArrayList;", Cond.fieldLink RX1 16 "ClearingFiles$Bank" "returns" "Ljava/util/ArrayList;", Cond.classLink RX1 19 RX5, Cond.instantiable RX5 4, Cond.initialized RX5, Cond.fieldLink RX1 22 "ClearingFiles$Bank" "output" "LClearingFiles$Output;", Cond.fieldLink RX1 26 "ClearingFiles$Bank" "number" "I", Cond.fieldLink RX1 30 "ClearingFiles$Bank" "routing" "I", Cond.methodLink RX1 9 yJx4a65c_init_da8c8, Cond.instanceMethod yX5_init, Cond.code yX5_init cX5_init 1 none, Cond.methodLink RX5 1 objectInit, Cond.classLink RX5 7 RJx4a65c, Cond.fieldLink RX5 10 "ClearingFiles$Output" "entries" "Ljava/util/ArrayList;", Cond.classLink RX5 16 RX6, Cond.fieldLink RX5 19 "ClearingFiles$Output" "totals" "LClearingFiles$Totals;", Cond.methodLink RX5 9 yJx4a65c_init_da8c8, Cond.methodLink RX7 57 yJx4a65c_add_9ea2d]
def wsL_law_r8 : List Cond := [Cond.instanceMethod yJx4a65c_add_9ea2d, Cond.selects RJx4a65c yJx4a65c_add_9ea2d yJx4a65c_add_9ea2d, Cond.code yJx4a65c_add_9ea2d cJx4a65c_add_9ea2d 2 (some .boolean), Cond.fieldLink RJx4a65c 63 "java/util/ArrayList" "modCount" "I", Cond.sameField "java/util/ArrayList" "java/util/AbstractList" "modCount" "I", Cond.methodLink RJx4a65c 131 yJx4a65c_add_72be8, Cond.instanceMethod yJx4a65c_add_72be8, Cond.selects RJx4a65c yJx4a65c_add_72be8 yJx4a65c_add_72be8, Cond.code yJx4a65c_add_72be8 cJx4a65c_add_72be8 4 none, Cond.methodLink RJx4a65c 129 yJx4a65c_grow_d5877, Cond.instanceMethod yJx4a65c_grow_d5877, Cond.selects RJx4a65c yJx4a65c_grow_d5877 yJx4a65c_grow_d5877, Cond.code yJx4a65c_grow_d5877 cJx4a65c_grow_d5877 1 (some (.array (.object "java/lang/Object"))), Cond.methodLink RJx4a65c 69 yJx4a65c_grow_92f84, Cond.instanceMethod yJx4a65c_grow_92f84, Cond.selects RJx4a65c yJx4a65c_grow_92f84 yJx4a65c_grow_92f84, Cond.code yJx4a65c_grow_92f84 cJx4a65c_grow_92f84 4 (some (.array (.object "java/lang/Object"))), Cond.methodLink RJx4a65c 79 Lib.Math.max.name, Cond.static Lib.Math.max.name, Cond.initialized "java/lang/Math", Cond.code Lib.Math.max.name Lib.Math.max.code 2 (some .int), Cond.classLink RJx4a65c 7 "java/lang/Object", Cond.methodLink RJx4a65c 73 yJ8_newLength_cabcc, Cond.static yJ8_newLength_cabcc]
def wsL_law_r9 : List Cond := [Cond.initialized RJ8, Cond.code yJ8_newLength_cabcc cJ8_newLength_cabcc 4 (some .int), Cond.methodLink RJ8 194 Lib.Math.max.name, Cond.constant RJ8 200 (2147483639), Cond.methodLink RJ8 201 yJ8_hugeLength_7cf53, Cond.static yJ8_hugeLength_7cf53, Cond.code yJ8_hugeLength_7cf53 cJ8_hugeLength_7cf53 3 (some .int), Cond.methodLink RJx4a65c 66 yJ7_copyOf_1904c, Cond.static yJ7_copyOf_1904c, Cond.initialized RJ7, Cond.code yJ7_copyOf_1904c cJ7_copyOf_1904c 2 (some (.array (.object "java/lang/Object"))), Cond.methodLink RJ7 86 ⟨"java/lang/Object", "getClass", "()Ljava/lang/Class;"⟩, Cond.selects "[Ljava/lang/Object;" ⟨"java/lang/Object", "getClass", "()Ljava/lang/Class;"⟩ ⟨"java/lang/Object", "getClass", "()Ljava/lang/Class;"⟩, Cond.instanceMethod ⟨"java/lang/Object", "getClass", "()Ljava/lang/Class;"⟩, Cond.native ⟨"java/lang/Object", "getClass", "()Ljava/lang/Class;"⟩, Cond.methodLink RJ7 300 yJ7_copyOf_6403c, Cond.static yJ7_copyOf_6403c, Cond.code yJ7_copyOf_6403c cJ7_copyOf_6403c 4 (some (.array (.object "java/lang/Object"))), Cond.classLink RJ7 110 "[Ljava/lang/Object;", Cond.classLink RJ7 2 "java/lang/Object", Cond.methodLink RJ7 304 Lib.Math.min.name, Cond.static Lib.Math.min.name, Cond.code Lib.Math.min.name Lib.Math.min.code 2 (some .int), Cond.methodLink RJ7 150 arraycopyName]
def wsL_law_r10 : List Cond := [Cond.native arraycopyName, Cond.static arraycopyName, Cond.initialized "java/lang/System", Cond.methodLink RL 17 yX8_join, Cond.instanceMethod yX8_join, Cond.selects RX8 yX8_join yX8_join, Cond.code yX8_join cX8_join 2 (some .int), Cond.fieldLink RX8 119 "ClearingFilesModel" "banks" "I", Cond.methodLink RX8 123 yX8_within, Cond.static yX8_within, Cond.code yX8_within cX8_within 2 (some .boolean), Cond.methodLink RX8 127 yX8_right, Cond.static yX8_right, Cond.code yX8_right cX8_right 6 (some .boolean), Cond.methodLink RX8 130 yX8_bankOf, Cond.instanceMethod yX8_bankOf, Cond.selects RX8 yX8_bankOf yX8_bankOf, Cond.code yX8_bankOf cX8_bankOf 3 (some .int), Cond.methodLink RL 18 yX7_open, Cond.instanceMethod yX7_open, Cond.selects RX7 yX7_open yX7_open, Cond.code yX7_open cX7_open 5 (some .boolean), Cond.constant RX7 64 (999999), Cond.constant RX7 65 (1000000)]
def wsL_law_r11 : List Cond := [Cond.classLink RX7 70 RX0, Cond.instantiable RX0 4, Cond.initialized RX0, Cond.methodLink RX7 61 yX7_bankAt, Cond.instanceMethod yX7_bankAt, Cond.selects RX7 yX7_bankAt yX7_bankAt, Cond.code yX7_bankAt cX7_bankAt 2 (some (.object "ClearingFiles$Bank")), Cond.methodLink RX7 66 yX7_accountOf, Cond.instanceMethod yX7_accountOf, Cond.selects RX7 yX7_accountOf yX7_accountOf, Cond.code yX7_accountOf cX7_accountOf 5 (some (.object "ClearingFiles$Account")), Cond.classLink RX7 70 "ClearingFiles$Account", Cond.fieldLink RX7 227 "ClearingFiles$Account" "bank" "LClearingFiles$Bank;", Cond.fieldLink RX7 230 "ClearingFiles$Account" "number" "I", Cond.methodLink RX7 72 yX0_init, Cond.instanceMethod yX0_init, Cond.code yX0_init cX0_init 4 none, Cond.methodLink RX0 1 objectInit, Cond.fieldLink RX0 7 "ClearingFiles$Account" "bank" "LClearingFiles$Bank;", Cond.fieldLink RX0 13 "ClearingFiles$Account" "number" "I", Cond.fieldLink RX0 17 "ClearingFiles$Account" "balance" "J", Cond.methodLink RL 22 yX8_open, Cond.instanceMethod yX8_open, Cond.selects RX8 yX8_open yX8_open]
def wsL_law_r12 : List Cond := [Cond.code yX8_open cX8_open 5 (some .boolean), Cond.constant RX8 137 (1000000), Cond.constant RX8 138 (1000001), Cond.fieldLink RX8 134 "ClearingFilesModel" "accounts" "I", Cond.methodLink RX8 139 yX8_accountOf, Cond.instanceMethod yX8_accountOf, Cond.selects RX8 yX8_accountOf yX8_accountOf, Cond.code yX8_accountOf cX8_accountOf 4 (some .int), Cond.methodLink RL 23 yX7_shut, Cond.instanceMethod yX7_shut, Cond.selects RX7 yX7_shut yX7_shut, Cond.code yX7_shut cX7_shut 4 (some .boolean), Cond.fieldLink RX7 75 "ClearingFiles$Account" "isShut" "Z", Cond.methodLink RL 27 yX8_shut, Cond.instanceMethod yX8_shut, Cond.selects RX8 yX8_shut yX8_shut, Cond.code yX8_shut cX8_shut 4 (some .boolean), Cond.methodLink RL 28 yX7_day, Cond.instanceMethod yX7_day, Cond.selects RX7 yX7_day yX7_day, Cond.code yX7_day cX7_day 1 (some .int), Cond.methodLink RL 32 yX8_day, Cond.instanceMethod yX8_day, Cond.selects RX8 yX8_day yX8_day]
def wsL_law_r13 : List Cond := [Cond.code yX8_day cX8_day 1 (some .int), Cond.fieldLink RX8 143 "ClearingFilesModel" "today" "I", Cond.methodLink RL 35 yX7_put, Cond.instanceMethod yX7_put, Cond.selects RX7 yX7_put yX7_put, Cond.code yX7_put cX7_put 6 (some .int), Cond.methodLink RX7 79 yX7_isHalf, Cond.static yX7_isHalf, Cond.code yX7_isHalf cX7_isHalf 2 (some .boolean), Cond.constantLong RX7 217 (999999999999999999), Cond.methodLink RX7 83 yX7_digits, Cond.static yX7_digits, Cond.code yX7_digits cX7_digits 14 (some .int), Cond.constantLong RX7 219 (10), Cond.methodLink RX7 87 yX4_allows, Cond.instanceMethod yX4_allows, Cond.selects RX4 yX4_allows yX4_allows, Cond.code yX4_allows cX4_allows 2 (some .boolean), Cond.fieldLink RX4 29 "ClearingFiles$Incoming" "underWay" "Z", Cond.fieldLink RX4 33 "ClearingFiles$Incoming" "inBatch" "Z", Cond.methodLink RX7 91 yX4_end, Cond.instanceMethod yX4_end, Cond.selects RX4 yX4_end yX4_end, Cond.code yX4_end cX4_end 1 none]
def wsL_law_r14 : List Cond := [Cond.methodLink RX7 94 yX4_begin, Cond.instanceMethod yX4_begin, Cond.selects RX4 yX4_begin yX4_begin, Cond.code yX4_begin cX4_begin 3 none, Cond.fieldLink RX4 36 "ClearingFiles$Incoming" "sender" "I", Cond.fieldLink RX4 40 "ClearingFiles$Incoming" "number" "I", Cond.fieldLink RX4 46 "ClearingFiles$Incoming" "batchCount" "I", Cond.methodLink RX4 43 yX6_clear, Cond.instanceMethod yX6_clear, Cond.selects RX6 yX6_clear yX6_clear, Cond.code yX6_clear cX6_clear 1 none, Cond.fieldLink RX6 9 "ClearingFiles$Totals" "count" "J", Cond.fieldLink RX6 15 "ClearingFiles$Totals" "hash" "J", Cond.fieldLink RX6 18 "ClearingFiles$Totals" "debits" "J", Cond.fieldLink RX6 21 "ClearingFiles$Totals" "credits" "J", Cond.methodLink RX7 97 yX7_beginBatch, Cond.instanceMethod yX7_beginBatch, Cond.selects RX7 yX7_beginBatch yX7_beginBatch, Cond.code yX7_beginBatch cX7_beginBatch 6 (some .int), Cond.fieldLink RX7 231 "ClearingFiles$Incoming" "batchCount" "I", Cond.fieldLink RX7 234 "ClearingFiles$Incoming" "batches" "[LClearingFiles$Batch;", Cond.fieldLink RX7 243 "ClearingFiles$Incoming" "current" "LClearingFiles$Batch;", Cond.fieldLink RX7 247 "ClearingFiles$Incoming" "inBatch" "Z", Cond.methodLink RX7 238 yX2_begin]
def wsL_law_r15 : List Cond := [Cond.instanceMethod yX2_begin, Cond.selects RX2 yX2_begin yX2_begin, Cond.code yX2_begin cX2_begin 4 none, Cond.fieldLink RX2 23 "ClearingFiles$Batch" "originator" "I", Cond.fieldLink RX2 27 "ClearingFiles$Batch" "number" "I", Cond.fieldLink RX2 30 "ClearingFiles$Batch" "day" "I", Cond.fieldLink RX2 37 "ClearingFiles$Batch" "lastTrace" "I", Cond.fieldLink RX2 40 "ClearingFiles$Batch" "tracesGrow" "Z", Cond.methodLink RX2 33 yJx4a65c_clear_da8c8, Cond.instanceMethod yJx4a65c_clear_da8c8, Cond.selects RJx4a65c yJx4a65c_clear_da8c8 yJx4a65c_clear_da8c8, Cond.code yJx4a65c_clear_da8c8 cJx4a65c_clear_da8c8 4 none, Cond.methodLink RX2 36 yX6_clear, Cond.methodLink RX7 101 yX7_addEntry, Cond.instanceMethod yX7_addEntry, Cond.selects RX7 yX7_addEntry yX7_addEntry, Cond.code yX7_addEntry cX7_addEntry 6 (some .int), Cond.fieldLink RX7 250 "ClearingFiles$Incoming" "totals" "LClearingFiles$Totals;", Cond.fieldLink RX7 192 "ClearingFiles$Totals" "count" "J", Cond.constantLong RX7 251 (20), Cond.classLink RX7 151 RX3, Cond.instantiable RX3 9, Cond.initialized RX3, Cond.fieldLink RX7 157 "ClearingFiles$Entry" "code" "I"]
def wsL_law_r16 : List Cond := [Cond.fieldLink RX7 254 "ClearingFiles$Entry" "routing" "I", Cond.fieldLink RX7 170 "ClearingFiles$Entry" "account" "I", Cond.fieldLink RX7 173 "ClearingFiles$Entry" "amount" "I", Cond.fieldLink RX7 176 "ClearingFiles$Entry" "trace" "I", Cond.instanceMethod yX3_init, Cond.code yX3_init cX3_init 1 none, Cond.methodLink RX3 1 objectInit, Cond.methodLink RX7 255 yX2_add, Cond.instanceMethod yX2_add, Cond.selects RX2 yX2_add yX2_add, Cond.code yX2_add cX2_add 2 none, Cond.fieldLink RX2 51 "ClearingFiles$Entry" "trace" "I", Cond.methodLink RX2 44 yJx4a65c_add_9ea2d, Cond.methodLink RX2 48 yX6_add, Cond.instanceMethod yX6_add, Cond.selects RX6 yX6_add yX6_add, Cond.code yX6_add cX6_add 2 none, Cond.fieldLink RX6 24 "ClearingFiles$Entry" "routing" "I", Cond.fieldLink RX6 30 "ClearingFiles$Entry" "code" "I", Cond.fieldLink RX6 33 "ClearingFiles$Entry" "amount" "I", Cond.methodLink RX7 258 yX6_add, Cond.methodLink RX7 104 yX7_endBatch, Cond.instanceMethod yX7_endBatch, Cond.selects RX7 yX7_endBatch yX7_endBatch]
def wsL_law_r17 : List Cond := [Cond.code yX7_endBatch cX7_endBatch 6 none, Cond.fieldLink RX7 259 "ClearingFiles$Batch" "totals" "LClearingFiles$Totals;", Cond.fieldLink RX7 264 "ClearingFiles$Batch" "controlHolds" "Z", Cond.methodLink RX7 260 yX6_are, Cond.instanceMethod yX6_are, Cond.selects RX6 yX6_are yX6_are, Cond.code yX6_are cX6_are 5 (some .boolean), Cond.methodLink RX7 108 yX7_endFile, Cond.instanceMethod yX7_endFile, Cond.selects RX7 yX7_endFile yX7_endFile, Cond.code yX7_endFile cX7_endFile 6 (some .int), Cond.methodLink RX7 267 yX7_reasonAgainstFile, Cond.instanceMethod yX7_reasonAgainstFile, Cond.selects RX7 yX7_reasonAgainstFile yX7_reasonAgainstFile, Cond.code yX7_reasonAgainstFile cX7_reasonAgainstFile 5 (some .int), Cond.fieldLink RX7 283 "ClearingFiles$Incoming" "sender" "I", Cond.methodLink RX7 274 yX7_fileKey, Cond.instanceMethod yX7_fileKey, Cond.selects RX7 yX7_fileKey yX7_fileKey, Cond.code yX7_fileKey cX7_fileKey 1 (some .int), Cond.fieldLink RX7 295 "ClearingFiles$Incoming" "number" "I", Cond.methodLink RX7 286 yX7_wasAccepted, Cond.instanceMethod yX7_wasAccepted, Cond.selects RX7 yX7_wasAccepted yX7_wasAccepted]
def wsL_law_r18 : List Cond := [Cond.code yX7_wasAccepted cX7_wasAccepted 3 (some .boolean), Cond.methodLink RX7 289 yX7_waitingInAll, Cond.instanceMethod yX7_waitingInAll, Cond.selects RX7 yX7_waitingInAll yX7_waitingInAll, Cond.code yX7_waitingInAll cX7_waitingInAll 3 (some .int), Cond.fieldLink RX7 213 "ClearingFiles$Bank" "entries" "Ljava/util/ArrayList;", Cond.methodLink RX7 292 yX7_judgeBatches, Cond.instanceMethod yX7_judgeBatches, Cond.selects RX7 yX7_judgeBatches yX7_judgeBatches, Cond.code yX7_judgeBatches cX7_judgeBatches 5 (some .int), Cond.fieldLink RX7 300 "ClearingFiles$Batch" "reason" "I", Cond.fieldLink RX7 305 "ClearingFiles$Batch" "number" "I", Cond.methodLink RX7 296 yX7_reasonAgainstBatch, Cond.instanceMethod yX7_reasonAgainstBatch, Cond.selects RX7 yX7_reasonAgainstBatch yX7_reasonAgainstBatch, Cond.code yX7_reasonAgainstBatch cX7_reasonAgainstBatch 3 (some .int), Cond.fieldLink RX7 306 "ClearingFiles$Batch" "originator" "I", Cond.fieldLink RX7 308 "ClearingFiles$Batch" "day" "I", Cond.fieldLink RX7 311 "ClearingFiles$Batch" "tracesGrow" "Z", Cond.methodLink RX7 301 yX7_judgeEntries, Cond.instanceMethod yX7_judgeEntries, Cond.selects RX7 yX7_judgeEntries yX7_judgeEntries, Cond.code yX7_judgeEntries cX7_judgeEntries 5 (some .int), Cond.fieldLink RX7 314 "ClearingFiles$Batch" "entries" "Ljava/util/ArrayList;"]
def wsL_law_r19 : List Cond := [Cond.classLink RX7 151 "ClearingFiles$Entry", Cond.fieldLink RX7 315 "ClearingFiles$Entry" "day" "I", Cond.fieldLink RX7 167 "ClearingFiles$Entry" "originator" "LClearingFiles$Bank;", Cond.fieldLink RX7 160 "ClearingFiles$Entry" "receiver" "LClearingFiles$Bank;", Cond.fieldLink RX7 179 "ClearingFiles$Entry" "reason" "I", Cond.methodLink RX7 316 yX7_reasonAgainstEntry, Cond.static yX7_reasonAgainstEntry, Cond.code yX7_reasonAgainstEntry cX7_reasonAgainstEntry 1 (some .int), Cond.methodLink RX7 270 yX7_countRefusal, Cond.instanceMethod yX7_countRefusal, Cond.selects RX7 yX7_countRefusal yX7_countRefusal, Cond.code yX7_countRefusal cX7_countRefusal 2 none, Cond.methodLink RX7 277 yX7_keepAsAccepted, Cond.instanceMethod yX7_keepAsAccepted, Cond.selects RX7 yX7_keepAsAccepted yX7_keepAsAccepted, Cond.code yX7_keepAsAccepted cX7_keepAsAccepted 2 none, Cond.methodLink RX7 280 yX7_acceptBatches, Cond.instanceMethod yX7_acceptBatches, Cond.selects RX7 yX7_acceptBatches yX7_acceptBatches, Cond.code yX7_acceptBatches cX7_acceptBatches 4 (some .int), Cond.methodLink RX7 320 yX7_acceptEntries, Cond.instanceMethod yX7_acceptEntries, Cond.selects RX7 yX7_acceptEntries yX7_acceptEntries, Cond.code yX7_acceptEntries cX7_acceptEntries 5 (some .int)]
def wsL_law_r20 : List Cond := [Cond.methodLink RL 39 yX8_put, Cond.instanceMethod yX8_put, Cond.selects RX8 yX8_put yX8_put, Cond.code yX8_put cX8_put 10 (some .int), Cond.constantLong RX8 146 (999999999999999999), Cond.fieldLink RX8 152 "ClearingFilesModel" "stage" "I", Cond.fieldLink RX8 155 "ClearingFilesModel" "sender" "I", Cond.fieldLink RX8 158 "ClearingFilesModel" "fileNumber" "I", Cond.fieldLink RX8 161 "ClearingFilesModel" "batches" "I", Cond.fieldLink RX8 164 "ClearingFilesModel" "entries" "I", Cond.methodLink RX8 148 yX8_digits, Cond.static yX8_digits, Cond.code yX8_digits cX8_digits 9 (some .int), Cond.constantLong RX8 117 (10), Cond.methodLink RX8 167 yX8_batch, Cond.instanceMethod yX8_batch, Cond.selects RX8 yX8_batch yX8_batch, Cond.code yX8_batch cX8_batch 3 (some .int), Cond.methodLink RX8 171 yX8_entry, Cond.instanceMethod yX8_entry, Cond.selects RX8 yX8_entry yX8_entry, Cond.code yX8_entry cX8_entry 5 (some .int), Cond.methodLink RX8 175 yX8_ended, Cond.instanceMethod yX8_ended]
def wsL_law_r21 : List Cond := [Cond.selects RX8 yX8_ended yX8_ended, Cond.code yX8_ended cX8_ended 9 (some .int), Cond.fieldLink RX8 191 "ClearingFilesModel" "fileCount" "I", Cond.methodLink RX8 201 yX8_fileFault, Cond.instanceMethod yX8_fileFault, Cond.selects RX8 yX8_fileFault yX8_fileFault, Cond.code yX8_fileFault cX8_fileFault 7 (some .int), Cond.methodLink RX8 178 yX8_total, Cond.instanceMethod yX8_total, Cond.selects RX8 yX8_total yX8_total, Cond.code yX8_total cX8_total 8 (some .long), Cond.methodLink RX8 194 yX8_waitingInAll, Cond.instanceMethod yX8_waitingInAll, Cond.selects RX8 yX8_waitingInAll yX8_waitingInAll, Cond.code yX8_waitingInAll cX8_waitingInAll 3 (some .int), Cond.fieldLink RX8 182 "ClearingFilesModel" "rows" "I", Cond.methodLink RX8 198 yX8_goodEntries, Cond.instanceMethod yX8_goodEntries, Cond.selects RX8 yX8_goodEntries yX8_goodEntries, Cond.code yX8_goodEntries cX8_goodEntries 3 (some .int), Cond.methodLink RX8 185 yX8_batchFault, Cond.instanceMethod yX8_batchFault, Cond.selects RX8 yX8_batchFault yX8_batchFault, Cond.code yX8_batchFault cX8_batchFault 3 (some .int)]
def wsL_law_r22 : List Cond := [Cond.methodLink RX8 188 yX8_entryFault, Cond.instanceMethod yX8_entryFault, Cond.selects RX8 yX8_entryFault yX8_entryFault, Cond.code yX8_entryFault cX8_entryFault 2 (some .int), Cond.methodLink RX8 204 yX8_accept, Cond.instanceMethod yX8_accept, Cond.selects RX8 yX8_accept yX8_accept, Cond.code yX8_accept cX8_accept 3 none, Cond.methodLink RL 40 yX7_window, Cond.instanceMethod yX7_window, Cond.selects RX7 yX7_window yX7_window, Cond.code yX7_window cX7_window 3 (some .int), Cond.fieldLink RX7 111 "ClearingFiles$Bank" "output" "LClearingFiles$Output;", Cond.methodLink RX7 115 yX5_isDone, Cond.instanceMethod yX5_isDone, Cond.selects RX5 yX5_isDone yX5_isDone, Cond.code yX5_isDone cX5_isDone 1 (some .boolean), Cond.fieldLink RX5 31 "ClearingFiles$Output" "done" "I", Cond.methodLink RX5 34 yJx4a65c_size_8abf5, Cond.methodLink RX7 121 yX5_clear, Cond.instanceMethod yX5_clear, Cond.selects RX5 yX5_clear yX5_clear, Cond.code yX5_clear cX5_clear 1 none, Cond.fieldLink RX5 27 "ClearingFiles$Output" "returns" "I"]
def wsL_law_r23 : List Cond := [Cond.methodLink RX5 23 yJx4a65c_clear_da8c8, Cond.methodLink RX5 26 yX6_clear, Cond.methodLink RX7 124 yX7_handOutReturns, Cond.static yX7_handOutReturns, Cond.code yX7_handOutReturns cX7_handOutReturns 3 none, Cond.fieldLink RX7 214 "ClearingFiles$Bank" "returns" "Ljava/util/ArrayList;", Cond.methodLink RX7 323 yX5_addReturn, Cond.instanceMethod yX5_addReturn, Cond.selects RX5 yX5_addReturn yX5_addReturn, Cond.code yX5_addReturn cX5_addReturn 2 none, Cond.methodLink RX5 51 yJx4a65c_add_9ea2d, Cond.methodLink RX5 55 yX6_add, Cond.methodLink RX7 326 yX7_settle, Cond.static yX7_settle, Cond.code yX7_settle cX7_settle 5 none, Cond.fieldLink RX7 210 "ClearingFiles$Bank" "ledger" "J", Cond.methodLink RX7 330 yJx4a65c_clear_da8c8, Cond.methodLink RX7 128 yX7_handOutEntries, Cond.instanceMethod yX7_handOutEntries, Cond.selects RX7 yX7_handOutEntries yX7_handOutEntries, Cond.code yX7_handOutEntries cX7_handOutEntries 4 none, Cond.methodLink RX7 331 yX5_addEntry, Cond.instanceMethod yX5_addEntry, Cond.selects RX5 yX5_addEntry yX5_addEntry]
def wsL_law_r24 : List Cond := [Cond.code yX5_addEntry cX5_addEntry 3 none, Cond.classLink RX5 46 "ClearingFiles$Entry", Cond.methodLink RX5 42 yJx4a65c_get_915e3, Cond.methodLink RX5 58 yX3_goesBefore, Cond.instanceMethod yX3_goesBefore, Cond.selects RX3 yX3_goesBefore yX3_goesBefore, Cond.code yX3_goesBefore cX3_goesBefore 2 (some .boolean), Cond.fieldLink RX3 7 "ClearingFiles$Entry" "day" "I", Cond.fieldLink RX3 13 "ClearingFiles$Entry" "originator" "LClearingFiles$Bank;", Cond.fieldLink RX3 17 "ClearingFiles$Bank" "number" "I", Cond.methodLink RX5 62 yJx4a65c_add_7a177, Cond.instanceMethod yJx4a65c_add_7a177, Cond.selects RJx4a65c yJx4a65c_add_7a177 yJx4a65c_add_7a177, Cond.code yJx4a65c_add_7a177 cJx4a65c_add_7a177 5 none, Cond.methodLink RJx4a65c 112 arraycopyName, Cond.methodLink RJx4a65c 135 yJx4a65c_rangeCheckForAdd_d00df, Cond.instanceMethod yJx4a65c_rangeCheckForAdd_d00df, Cond.selects RJx4a65c yJx4a65c_rangeCheckForAdd_d00df yJx4a65c_rangeCheckForAdd_d00df, Cond.code yJx4a65c_rangeCheckForAdd_d00df cJx4a65c_rangeCheckForAdd_d00df 2 none, Cond.methodLink RX7 333 yJx4a65c_remove_915e3, Cond.instanceMethod yJx4a65c_remove_915e3, Cond.selects RJx4a65c yJx4a65c_remove_915e3 yJx4a65c_remove_915e3, Cond.code yJx4a65c_remove_915e3 cJx4a65c_remove_915e3 4 (some (.object "java/lang/Object")), Cond.methodLink RJx4a65c 144 yJx4a65c_fastRemove_b59b0]
def wsL_law_r25 : List Cond := [Cond.instanceMethod yJx4a65c_fastRemove_b59b0, Cond.selects RJx4a65c yJx4a65c_fastRemove_b59b0 yJx4a65c_fastRemove_b59b0, Cond.code yJx4a65c_fastRemove_b59b0 cJx4a65c_fastRemove_b59b0 4 none, Cond.methodLink RX7 131 yX5_size, Cond.instanceMethod yX5_size, Cond.selects RX5 yX5_size yX5_size, Cond.code yX5_size cX5_size 1 (some .int), Cond.methodLink RL 43 yX8_window, Cond.instanceMethod yX8_window, Cond.selects RX8 yX8_window yX8_window, Cond.code yX8_window cX8_window 5 (some .int), Cond.methodLink RX8 212 yX8_allDone, Cond.instanceMethod yX8_allDone, Cond.selects RX8 yX8_allDone yX8_allDone, Cond.code yX8_allDone cX8_allDone 4 (some .boolean), Cond.methodLink RX8 216 yX8_first, Cond.instanceMethod yX8_first, Cond.selects RX8 yX8_first yX8_first, Cond.code yX8_first cX8_first 6 (some .int), Cond.methodLink RX8 208 yX8_before, Cond.instanceMethod yX8_before, Cond.selects RX8 yX8_before yX8_before, Cond.code yX8_before cX8_before 4 (some .boolean), Cond.methodLink RX8 220 yX8_take]
def wsL_law_r26 : List Cond := [Cond.instanceMethod yX8_take, Cond.selects RX8 yX8_take yX8_take, Cond.code yX8_take cX8_take 7 none, Cond.methodLink RL 44 yX7_post, Cond.instanceMethod yX7_post, Cond.selects RX7 yX7_post yX7_post, Cond.code yX7_post cX7_post 8 (some .int), Cond.fieldLink RX7 132 "ClearingFiles$Output" "done" "I", Cond.methodLink RX7 135 Lib.Math.min.name, Cond.fieldLink RX7 144 "ClearingFiles$Output" "entries" "Ljava/util/ArrayList;", Cond.methodLink RX7 141 yX5_isReturn, Cond.instanceMethod yX5_isReturn, Cond.selects RX5 yX5_isReturn yX5_isReturn, Cond.code yX5_isReturn cX5_isReturn 2 (some .boolean), Cond.methodLink RX7 153 yX7_postOrSendBack, Cond.instanceMethod yX7_postOrSendBack, Cond.selects RX7 yX7_postOrSendBack yX7_postOrSendBack, Cond.code yX7_postOrSendBack cX7_postOrSendBack 3 (some .boolean), Cond.fieldLink RX7 207 "ClearingFiles$Account" "balance" "J", Cond.methodLink RX7 336 yX7_reasonToSendBack, Cond.static yX7_reasonToSendBack, Cond.code yX7_reasonToSendBack cX7_reasonToSendBack 2 (some .int), Cond.methodLink RX7 340 yX7_sendBack, Cond.instanceMethod yX7_sendBack]
def wsL_law_r27 : List Cond := [Cond.selects RX7 yX7_sendBack yX7_sendBack, Cond.code yX7_sendBack cX7_sendBack 2 none, Cond.methodLink RL 48 yX8_post, Cond.instanceMethod yX8_post, Cond.selects RX8 yX8_post yX8_post, Cond.code yX8_post cX8_post 6 (some .int), Cond.methodLink RX8 230 yX8_does, Cond.instanceMethod yX8_does, Cond.selects RX8 yX8_does yX8_does, Cond.code yX8_does cX8_does 5 (some .int), Cond.fieldLink RX8 227 "ClearingFilesModel" "backs" "I", Cond.methodLink RX8 224 yX8_backFault, Cond.instanceMethod yX8_backFault, Cond.selects RX8 yX8_backFault yX8_backFault, Cond.code yX8_backFault cX8_backFault 3 (some .int), Cond.methodLink RL 49 yX7_items, Cond.instanceMethod yX7_items, Cond.selects RX7 yX7_items yX7_items, Cond.code yX7_items cX7_items 3 (some .int), Cond.methodLink RL 52 yX8_items, Cond.instanceMethod yX8_items, Cond.selects RX8 yX8_items yX8_items, Cond.code yX8_items cX8_items 2 (some .int), Cond.methodLink RL 53 yX7_item]
def wsL_law_r28 : List Cond := [Cond.instanceMethod yX7_item, Cond.selects RX7 yX7_item yX7_item, Cond.code yX7_item cX7_item 7 (some .int), Cond.fieldLink RX7 164 "ClearingFiles$Bank" "number" "I", Cond.methodLink RX7 182 yX5_stateOf, Cond.instanceMethod yX5_stateOf, Cond.selects RX5 yX5_stateOf yX5_stateOf, Cond.code yX5_stateOf cX5_stateOf 2 (some .int), Cond.fieldLink RX5 48 "ClearingFiles$Entry" "reason" "I", Cond.methodLink RX5 38 yX5_isReturn, Cond.methodLink RL 57 yX8_item, Cond.instanceMethod yX8_item, Cond.selects RX8 yX8_item yX8_item, Cond.code yX8_item cX8_item 6 (some .int), Cond.methodLink RL 58 yX7_control, Cond.instanceMethod yX7_control, Cond.selects RX7 yX7_control yX7_control, Cond.code yX7_control cX7_control 5 (some .long), Cond.constantLong RX7 186 (-1), Cond.fieldLink RX7 188 "ClearingFiles$Output" "totals" "LClearingFiles$Totals;", Cond.fieldLink RX7 198 "ClearingFiles$Totals" "hash" "J", Cond.fieldLink RX7 201 "ClearingFiles$Totals" "debits" "J", Cond.fieldLink RX7 204 "ClearingFiles$Totals" "credits" "J", Cond.methodLink RL 62 yX8_control]
def wsL_law_r29 : List Cond := [Cond.instanceMethod yX8_control, Cond.selects RX8 yX8_control yX8_control, Cond.code yX8_control cX8_control 7 (some .long), Cond.constantLong RX8 233 (-1), Cond.methodLink RL 63 yX7_balance, Cond.instanceMethod yX7_balance, Cond.selects RX7 yX7_balance yX7_balance, Cond.code yX7_balance cX7_balance 4 (some .long), Cond.methodLink RL 66 yX8_balance, Cond.instanceMethod yX8_balance, Cond.selects RX8 yX8_balance yX8_balance, Cond.code yX8_balance cX8_balance 4 (some .long), Cond.methodLink RL 67 yX7_ledger, Cond.instanceMethod yX7_ledger, Cond.selects RX7 yX7_ledger yX7_ledger, Cond.code yX7_ledger cX7_ledger 3 (some .long), Cond.methodLink RL 71 yX8_ledger, Cond.instanceMethod yX8_ledger, Cond.selects RX8 yX8_ledger yX8_ledger, Cond.code yX8_ledger cX8_ledger 2 (some .long), Cond.methodLink RL 72 yX7_rejected, Cond.instanceMethod yX7_rejected, Cond.selects RX7 yX7_rejected yX7_rejected, Cond.code yX7_rejected cX7_rejected 2 (some .int)]
def wsL_law_r30 : List Cond := [Cond.methodLink RL 75 yX8_rejected, Cond.instanceMethod yX8_rejected, Cond.selects RX8 yX8_rejected yX8_rejected, Cond.code yX8_rejected cX8_rejected 3 (some .int), Cond.methodLink RL 76 yX7_waiting, Cond.instanceMethod yX7_waiting, Cond.selects RX7 yX7_waiting yX7_waiting, Cond.code yX7_waiting cX7_waiting 4 (some .int), Cond.methodLink RL 79 yX8_waiting, Cond.instanceMethod yX8_waiting, Cond.selects RX8 yX8_waiting yX8_waiting, Cond.code yX8_waiting cX8_waiting 6 (some .int)]
def wsL_law : List Cond := (wsL_law_r1 ++ (wsL_law_r2 ++ (wsL_law_r3 ++ (wsL_law_r4 ++ (wsL_law_r5 ++ (wsL_law_r6 ++ (wsL_law_r7 ++ (wsL_law_r8 ++ (wsL_law_r9 ++ (wsL_law_r10 ++ (wsL_law_r11 ++ (wsL_law_r12 ++ (wsL_law_r13 ++ (wsL_law_r14 ++ (wsL_law_r15 ++ (wsL_law_r16 ++ (wsL_law_r17 ++ (wsL_law_r18 ++ (wsL_law_r19 ++ (wsL_law_r20 ++ (wsL_law_r21 ++ (wsL_law_r22 ++ (wsL_law_r23 ++ (wsL_law_r24 ++ (wsL_law_r25 ++ (wsL_law_r26 ++ (wsL_law_r27 ++ (wsL_law_r28 ++ (wsL_law_r29 ++ wsL_law_r30))))))))))))))))))))))))))))) ++ wsX70 ++ wsX80 ++ wsJx4a65c0 ++ wsX40 ++ wsX60 ++ wsX20 ++ wsX10 ++ wsX50 ++ wsX00 ++ wsX30 ++ ([] : List Cond)
theorem inlX0 : ∀ w ∈ wsX00, w ∈ wsL_law := fun _ h => List.mem_append_left _ (List.mem_append_left _ (List.mem_append_right _ h))
theorem inlX1 : ∀ w ∈ wsX10, w ∈ wsL_law := fun _ h => List.mem_append_left _ (List.mem_append_left _ (List.mem_append_left _ (List.mem_append_left _ (List.mem_append_right _ h))))
theorem inlX2 : ∀ w ∈ wsX20, w ∈ wsL_law := fun _ h => List.mem_append_left _ (List.mem_append_left _ (List.mem_append_left _ (List.mem_append_left _ (List.mem_append_left _ (List.mem_append_right _ h)))))
theorem inlX3 : ∀ w ∈ wsX30, w ∈ wsL_law := fun _ h => List.mem_append_left _ (List.mem_append_right _ h)
theorem inlX4 : ∀ w ∈ wsX40, w ∈ wsL_law := fun _ h => List.mem_append_left _ (List.mem_append_left _ (List.mem_append_left _ (List.mem_append_left _ (List.mem_append_left _ (List.mem_append_left _ (List.mem_append_left _ (List.mem_append_right _ h)))))))
theorem inlX5 : ∀ w ∈ wsX50, w ∈ wsL_law := fun _ h => List.mem_append_left _ (List.mem_append_left _ (List.mem_append_left _ (List.mem_append_right _ h)))
theorem inlX6 : ∀ w ∈ wsX60, w ∈ wsL_law := fun _ h => List.mem_append_left _ (List.mem_append_left _ (List.mem_append_left _ (List.mem_append_left _ (List.mem_append_left _ (List.mem_append_left _ (List.mem_append_right _ h))))))
theorem inlX7 : ∀ w ∈ wsX70, w ∈ wsL_law := fun _ h => List.mem_append_left _ (List.mem_append_left _ (List.mem_append_left _ (List.mem_append_left _ (List.mem_append_left _ (List.mem_append_left _ (List.mem_append_left _ (List.mem_append_left _ (List.mem_append_left _ (List.mem_append_left _ (List.mem_append_right _ h))))))))))
theorem inlX8 : ∀ w ∈ wsX80, w ∈ wsL_law := fun _ h => List.mem_append_left _ (List.mem_append_left _ (List.mem_append_left _ (List.mem_append_left _ (List.mem_append_left _ (List.mem_append_left _ (List.mem_append_left _ (List.mem_append_left _ (List.mem_append_left _ (List.mem_append_right _ h)))))))))
theorem inJx145de : ∀ w ∈ wsJx145de0, w ∈ lw_tbl := by decide +kernel
theorem inJx8e188 : ∀ w ∈ wsJx8e1880, w ∈ lw_tbl := by decide +kernel
theorem inJxab1ab : ∀ w ∈ wsJxab1ab0, w ∈ lw_tbl := by decide +kernel
theorem inJ9 : ∀ w ∈ wsJ90, w ∈ lw_tbl := by decide +kernel
theorem inJ10 : ∀ w ∈ wsJ100, w ∈ lw_tbl := by decide +kernel
theorem inJxa1e45 : ∀ w ∈ wsJxa1e450, w ∈ lw_tbl := by decide +kernel
theorem inJxc12de : ∀ w ∈ wsJxc12de0, w ∈ lw_tbl := by decide +kernel
theorem inlJx4a65c : ∀ w ∈ wsJx4a65c0, w ∈ wsL_law := fun _ h => List.mem_append_left _ (List.mem_append_left _ (List.mem_append_left _ (List.mem_append_left _ (List.mem_append_left _ (List.mem_append_left _ (List.mem_append_left _ (List.mem_append_left _ (List.mem_append_right _ h))))))))
theorem inJ7 : ∀ w ∈ wsJ70, w ∈ lw_tbl := by decide +kernel
theorem inJx5ef63 : ∀ w ∈ wsJx5ef630, w ∈ lw_tbl := by decide +kernel
theorem inJxbd725 : ∀ w ∈ wsJxbd7250, w ∈ lw_tbl := by decide +kernel
theorem inJ15 : ∀ w ∈ wsJ150, w ∈ lw_tbl := by decide +kernel
theorem inJxf0a74 : ∀ w ∈ wsJxf0a740, w ∈ lw_tbl := by decide +kernel
theorem inJxa66e6 : ∀ w ∈ wsJxa66e60, w ∈ lw_tbl := by decide +kernel
theorem inJ8 : ∀ w ∈ wsJ80, w ∈ lw_tbl := by decide +kernel
theorem inJ3 : ∀ w ∈ wsJ30, w ∈ lw_tbl := by decide +kernel
end
section
theorem dX0_init_0 : decode cX0_init 0 = .ok (.aload_n 0, 1) := by decide +kernel
theorem dX0_init_1 : decode cX0_init 1 = .ok (.invokespecial 1, 3) := by decide +kernel
theorem dX0_init_4 : decode cX0_init 4 = .ok (.aload_n 0, 1) := by decide +kernel
theorem dX0_init_5 : decode cX0_init 5 = .ok (.aload_n 1, 1) := by decide +kernel
theorem dX0_init_6 : decode cX0_init 6 = .ok (.putfield 7, 3) := by decide +kernel
theorem dX0_init_9 : decode cX0_init 9 = .ok (.aload_n 0, 1) := by decide +kernel
theorem dX0_init_10 : decode cX0_init 10 = .ok (.iload_n 2, 1) := by decide +kernel
theorem dX0_init_11 : decode cX0_init 11 = .ok (.putfield 13, 3) := by decide +kernel
theorem dX0_init_14 : decode cX0_init 14 = .ok (.aload_n 0, 1) := by decide +kernel
theorem dX0_init_15 : decode cX0_init 15 = .ok (.iload_n 3, 1) := by decide +kernel
theorem dX0_init_16 : decode cX0_init 16 = .ok (.i2l, 1) := by decide +kernel
theorem dX0_init_17 : decode cX0_init 17 = .ok (.putfield 17, 3) := by decide +kernel
theorem dX0_init_20 : decode cX0_init 20 = .ok (.return_, 1) := by decide +kernel
set_option maxRecDepth 20000 in
theorem ggX1_init_Jx4a65c_init_da8c8 : GoodIn wsX1_init wsJx4a65c_init_da8c8 := goodIn_r _ [17, 18, 19, 20, 21, 22, 23, 24, 25, 26, 27, 28, 29, 2, 3, 43, 44, 45] (by decide +kernel) (by decide +kernel)
set_option maxRecDepth 20000 in
theorem gX1_init_Jx4a65c_init_da8c8 : GoodIn wsX1_init (wsJx4a65c_init_da8c8) := ggX1_init_Jx4a65c_init_da8c8
set_option maxRecDepth 20000 in
theorem ggX1_init_X5_init : GoodIn wsX1_init wsX5_init := goodIn_r _ [31, 32, 2, 3, 33, 5, 6, 34, 35, 36, 37, 38, 39, 16, 17, 18, 19, 20, 21, 22, 23, 24, 25, 26, 27, 28, 29, 40, 41, 42, 43, 44, 45, 52, 53, 54, 55, 56, 57, 58, 59] (by decide +kernel) (by decide +kernel)
set_option maxRecDepth 20000 in
theorem gX1_init_X5_init_n21 : GoodIn wsX1_init (wsX5_init) := ggX1_init_X5_init
theorem dX1_init_0 : decode cX1_init 0 = .ok (.aload_n 0, 1) := by decide +kernel
theorem dX1_init_1 : decode cX1_init 1 = .ok (.invokespecial 1, 3) := by decide +kernel
theorem dX1_init_4 : decode cX1_init 4 = .ok (.aload_n 0, 1) := by decide +kernel
theorem dX1_init_5 : decode cX1_init 5 = .ok (.new 7, 3) := by decide +kernel
theorem dX1_init_8 : decode cX1_init 8 = .ok (.dup, 1) := by decide +kernel
theorem dX1_init_9 : decode cX1_init 9 = .ok (.invokespecial 9, 3) := by decide +kernel
theorem dX1_init_12 : decode cX1_init 12 = .ok (.putfield 10, 3) := by decide +kernel
theorem dX1_init_15 : decode cX1_init 15 = .ok (.aload_n 0, 1) := by decide +kernel
theorem dX1_init_16 : decode cX1_init 16 = .ok (.new 7, 3) := by decide +kernel
theorem dX1_init_19 : decode cX1_init 19 = .ok (.dup, 1) := by decide +kernel
theorem dX1_init_20 : decode cX1_init 20 = .ok (.invokespecial 9, 3) := by decide +kernel
theorem dX1_init_23 : decode cX1_init 23 = .ok (.putfield 16, 3) := by decide +kernel
theorem dX1_init_26 : decode cX1_init 26 = .ok (.aload_n 0, 1) := by decide +kernel
theorem dX1_init_27 : decode cX1_init 27 = .ok (.new 19, 3) := by decide +kernel
theorem dX1_init_30 : decode cX1_init 30 = .ok (.dup, 1) := by decide +kernel
theorem dX1_init_31 : decode cX1_init 31 = .ok (.invokespecial 21, 3) := by decide +kernel
theorem dX1_init_34 : decode cX1_init 34 = .ok (.putfield 22, 3) := by decide +kernel
theorem dX1_init_37 : decode cX1_init 37 = .ok (.aload_n 0, 1) := by decide +kernel
theorem dX1_init_38 : decode cX1_init 38 = .ok (.iload_n 1, 1) := by decide +kernel
theorem dX1_init_39 : decode cX1_init 39 = .ok (.putfield 26, 3) := by decide +kernel
theorem dX1_init_42 : decode cX1_init 42 = .ok (.aload_n 0, 1) := by decide +kernel
theorem dX1_init_43 : decode cX1_init 43 = .ok (.iload_n 2, 1) := by decide +kernel
theorem dX1_init_44 : decode cX1_init 44 = .ok (.putfield 30, 3) := by decide +kernel
theorem dX1_init_47 : decode cX1_init 47 = .ok (.return_, 1) := by decide +kernel
set_option maxRecDepth 20000 in
theorem ggX2_init_Jx4a65c_init_da8c8 : GoodIn wsX2_init wsJx4a65c_init_da8c8 := goodIn_r _ [14, 15, 16, 17, 18, 19, 20, 21, 22, 23, 24, 25, 26, 2, 3, 30, 31, 32] (by decide +kernel) (by decide +kernel)
set_option maxRecDepth 20000 in
theorem gX2_init_Jx4a65c_init_da8c8 : GoodIn wsX2_init (wsJx4a65c_init_da8c8) := ggX2_init_Jx4a65c_init_da8c8
set_option maxRecDepth 20000 in
theorem ggX2_init_X6_init : GoodIn wsX2_init wsX6_init := goodIn_r _ [28, 29, 2, 3] (by decide +kernel) (by decide +kernel)
set_option maxRecDepth 20000 in
theorem gX2_init_X6_init_n18 : GoodIn wsX2_init (wsX6_init) := ggX2_init_X6_init
theorem dX2_init_0 : decode cX2_init 0 = .ok (.aload_n 0, 1) := by decide +kernel
theorem dX2_init_1 : decode cX2_init 1 = .ok (.invokespecial 1, 3) := by decide +kernel
theorem dX2_init_4 : decode cX2_init 4 = .ok (.aload_n 0, 1) := by decide +kernel
theorem dX2_init_5 : decode cX2_init 5 = .ok (.new 7, 3) := by decide +kernel
theorem dX2_init_8 : decode cX2_init 8 = .ok (.dup, 1) := by decide +kernel
theorem dX2_init_9 : decode cX2_init 9 = .ok (.invokespecial 9, 3) := by decide +kernel
theorem dX2_init_12 : decode cX2_init 12 = .ok (.putfield 10, 3) := by decide +kernel
theorem dX2_init_15 : decode cX2_init 15 = .ok (.aload_n 0, 1) := by decide +kernel
theorem dX2_init_16 : decode cX2_init 16 = .ok (.new 16, 3) := by decide +kernel
theorem dX2_init_19 : decode cX2_init 19 = .ok (.dup, 1) := by decide +kernel
theorem dX2_init_20 : decode cX2_init 20 = .ok (.invokespecial 18, 3) := by decide +kernel
theorem dX2_init_23 : decode cX2_init 23 = .ok (.putfield 19, 3) := by decide +kernel
theorem dX2_init_26 : decode cX2_init 26 = .ok (.return_, 1) := by decide +kernel
set_option maxRecDepth 20000 in
theorem ggX2_begin_Jx4a65c_clear_da8c8 : GoodIn wsX2_begin wsJx4a65c_clear_da8c8 := goodIn_r _ [12, 13, 14, 15, 16, 35, 36, 37] (by decide +kernel) (by decide +kernel)
set_option maxRecDepth 20000 in
theorem gX2_begin_Jx4a65c_clear_da8c8 : GoodIn wsX2_begin (wsV RX2 33 RJx4a65c yJx4a65c_clear_da8c8 wsJx4a65c_clear_da8c8) := goodIn_app (goodIn_of _ (by decide +kernel)) ggX2_begin_Jx4a65c_clear_da8c8
set_option maxRecDepth 20000 in
theorem ggX2_begin_X6_clear : GoodIn wsX2_begin wsX6_clear := goodIn_r _ [21, 22, 23, 24, 25, 38, 39, 40, 41] (by decide +kernel) (by decide +kernel)
set_option maxRecDepth 20000 in
theorem gX2_begin_X6_clear : GoodIn wsX2_begin (wsV RX2 36 RX6 yX6_clear wsX6_clear) := goodIn_app (goodIn_of _ (by decide +kernel)) ggX2_begin_X6_clear
theorem dX2_begin_0 : decode cX2_begin 0 = .ok (.aload_n 0, 1) := by decide +kernel
theorem dX2_begin_1 : decode cX2_begin 1 = .ok (.iload_n 1, 1) := by decide +kernel
theorem dX2_begin_2 : decode cX2_begin 2 = .ok (.putfield 23, 3) := by decide +kernel
theorem dX2_begin_5 : decode cX2_begin 5 = .ok (.aload_n 0, 1) := by decide +kernel
theorem dX2_begin_6 : decode cX2_begin 6 = .ok (.iload_n 2, 1) := by decide +kernel
theorem dX2_begin_7 : decode cX2_begin 7 = .ok (.putfield 27, 3) := by decide +kernel
theorem dX2_begin_10 : decode cX2_begin 10 = .ok (.aload_n 0, 1) := by decide +kernel
theorem dX2_begin_11 : decode cX2_begin 11 = .ok (.iload_n 3, 1) := by decide +kernel
theorem dX2_begin_12 : decode cX2_begin 12 = .ok (.putfield 30, 3) := by decide +kernel
theorem dX2_begin_15 : decode cX2_begin 15 = .ok (.aload_n 0, 1) := by decide +kernel
theorem dX2_begin_16 : decode cX2_begin 16 = .ok (.getfield 10, 3) := by decide +kernel
theorem dX2_begin_19 : decode cX2_begin 19 = .ok (.invokevirtual 33, 3) := by decide +kernel
theorem dX2_begin_22 : decode cX2_begin 22 = .ok (.aload_n 0, 1) := by decide +kernel
theorem dX2_begin_23 : decode cX2_begin 23 = .ok (.getfield 19, 3) := by decide +kernel
theorem dX2_begin_26 : decode cX2_begin 26 = .ok (.invokevirtual 36, 3) := by decide +kernel
theorem dX2_begin_29 : decode cX2_begin 29 = .ok (.aload_n 0, 1) := by decide +kernel
theorem dX2_begin_30 : decode cX2_begin 30 = .ok (.iconst (-1), 1) := by decide +kernel
theorem dX2_begin_31 : decode cX2_begin 31 = .ok (.putfield 37, 3) := by decide +kernel
theorem dX2_begin_34 : decode cX2_begin 34 = .ok (.aload_n 0, 1) := by decide +kernel
theorem dX2_begin_35 : decode cX2_begin 35 = .ok (.iconst 1, 1) := by decide +kernel
theorem dX2_begin_36 : decode cX2_begin 36 = .ok (.putfield 40, 3) := by decide +kernel
theorem dX2_begin_39 : decode cX2_begin 39 = .ok (.return_, 1) := by decide +kernel
set_option maxRecDepth 20000 in
theorem ggX2_add_Jx4a65c_add_9ea2d : GoodIn wsX2_add wsJx4a65c_add_9ea2d := goodIn_r _ [10, 11, 12, 13, 14, 15, 16, 17, 9, 18, 19, 20, 21, 22, 23, 24, 25, 26, 27, 28, 29, 30, 31, 32, 33, 34, 35, 36, 37, 38, 39, 40, 41, 42, 43, 44, 45, 46, 47, 48, 49, 50, 51, 52, 53, 54, 55, 56, 57, 58, 59, 60, 61, 92, 93, 94] (by decide +kernel) (by decide +kernel)
set_option maxRecDepth 20000 in
theorem gX2_add_Jx4a65c_add_9ea2d : GoodIn wsX2_add (wsV RX2 44 RJx4a65c yJx4a65c_add_9ea2d wsJx4a65c_add_9ea2d) := goodIn_app (goodIn_of _ (by decide +kernel)) ggX2_add_Jx4a65c_add_9ea2d
set_option maxRecDepth 20000 in
theorem ggX2_add_X6_add : GoodIn wsX2_add wsX6_add := goodIn_r _ [66, 67, 68, 69, 70, 71, 72, 73, 95, 96, 97, 98, 83, 84, 85, 86, 87, 88, 89, 90, 91] (by decide +kernel) (by decide +kernel)
set_option maxRecDepth 20000 in
theorem gX2_add_X6_add : GoodIn wsX2_add (wsV RX2 48 RX6 yX6_add wsX6_add) := goodIn_app (goodIn_of _ (by decide +kernel)) ggX2_add_X6_add
theorem dX2_add_0 : decode cX2_add 0 = .ok (.aload_n 0, 1) := by decide +kernel
theorem dX2_add_1 : decode cX2_add 1 = .ok (.getfield 10, 3) := by decide +kernel
theorem dX2_add_4 : decode cX2_add 4 = .ok (.aload_n 1, 1) := by decide +kernel
theorem dX2_add_5 : decode cX2_add 5 = .ok (.invokevirtual 44, 3) := by decide +kernel
theorem dX2_add_8 : decode cX2_add 8 = .ok (.pop, 1) := by decide +kernel
theorem dX2_add_9 : decode cX2_add 9 = .ok (.aload_n 0, 1) := by decide +kernel
theorem dX2_add_10 : decode cX2_add 10 = .ok (.getfield 19, 3) := by decide +kernel
theorem dX2_add_13 : decode cX2_add 13 = .ok (.aload_n 1, 1) := by decide +kernel
theorem dX2_add_14 : decode cX2_add 14 = .ok (.invokevirtual 48, 3) := by decide +kernel
theorem dX2_add_17 : decode cX2_add 17 = .ok (.aload_n 1, 1) := by decide +kernel
theorem dX2_add_18 : decode cX2_add 18 = .ok (.getfield 51, 3) := by decide +kernel
theorem dX2_add_21 : decode cX2_add 21 = .ok (.aload_n 0, 1) := by decide +kernel
theorem dX2_add_22 : decode cX2_add 22 = .ok (.getfield 37, 3) := by decide +kernel
theorem dX2_add_25 : decode cX2_add 25 = .ok (.if_icmp .gt 8, 3) := by decide +kernel
theorem dX2_add_28 : decode cX2_add 28 = .ok (.aload_n 0, 1) := by decide +kernel
theorem dX2_add_29 : decode cX2_add 29 = .ok (.iconst 0, 1) := by decide +kernel
theorem dX2_add_30 : decode cX2_add 30 = .ok (.putfield 40, 3) := by decide +kernel
theorem dX2_add_33 : decode cX2_add 33 = .ok (.aload_n 0, 1) := by decide +kernel
theorem dX2_add_34 : decode cX2_add 34 = .ok (.aload_n 1, 1) := by decide +kernel
theorem dX2_add_35 : decode cX2_add 35 = .ok (.getfield 51, 3) := by decide +kernel
theorem dX2_add_38 : decode cX2_add 38 = .ok (.putfield 37, 3) := by decide +kernel
theorem dX2_add_41 : decode cX2_add 41 = .ok (.return_, 1) := by decide +kernel
theorem dX3_init_0 : decode cX3_init 0 = .ok (.aload_n 0, 1) := by decide +kernel
theorem dX3_init_1 : decode cX3_init 1 = .ok (.invokespecial 1, 3) := by decide +kernel
theorem dX3_init_4 : decode cX3_init 4 = .ok (.return_, 1) := by decide +kernel
theorem dX3_goesBefore_0 : decode cX3_goesBefore 0 = .ok (.aload_n 0, 1) := by decide +kernel
theorem dX3_goesBefore_1 : decode cX3_goesBefore 1 = .ok (.getfield 7, 3) := by decide +kernel
theorem dX3_goesBefore_4 : decode cX3_goesBefore 4 = .ok (.aload_n 1, 1) := by decide +kernel
theorem dX3_goesBefore_5 : decode cX3_goesBefore 5 = .ok (.getfield 7, 3) := by decide +kernel
theorem dX3_goesBefore_8 : decode cX3_goesBefore 8 = .ok (.if_icmp .eq 20, 3) := by decide +kernel
theorem dX3_goesBefore_11 : decode cX3_goesBefore 11 = .ok (.aload_n 0, 1) := by decide +kernel
theorem dX3_goesBefore_12 : decode cX3_goesBefore 12 = .ok (.getfield 7, 3) := by decide +kernel
theorem dX3_goesBefore_15 : decode cX3_goesBefore 15 = .ok (.aload_n 1, 1) := by decide +kernel
theorem dX3_goesBefore_16 : decode cX3_goesBefore 16 = .ok (.getfield 7, 3) := by decide +kernel
theorem dX3_goesBefore_19 : decode cX3_goesBefore 19 = .ok (.if_icmp .ge 7, 3) := by decide +kernel
theorem dX3_goesBefore_22 : decode cX3_goesBefore 22 = .ok (.iconst 1, 1) := by decide +kernel
theorem dX3_goesBefore_23 : decode cX3_goesBefore 23 = .ok (.goto 4, 3) := by decide +kernel
theorem dX3_goesBefore_26 : decode cX3_goesBefore 26 = .ok (.iconst 0, 1) := by decide +kernel
theorem dX3_goesBefore_27 : decode cX3_goesBefore 27 = .ok (.ireturn, 1) := by decide +kernel
theorem dX3_goesBefore_28 : decode cX3_goesBefore 28 = .ok (.aload_n 0, 1) := by decide +kernel
theorem dX3_goesBefore_29 : decode cX3_goesBefore 29 = .ok (.getfield 13, 3) := by decide +kernel
theorem dX3_goesBefore_32 : decode cX3_goesBefore 32 = .ok (.getfield 17, 3) := by decide +kernel
theorem dX3_goesBefore_35 : decode cX3_goesBefore 35 = .ok (.aload_n 1, 1) := by decide +kernel
theorem dX3_goesBefore_36 : decode cX3_goesBefore 36 = .ok (.getfield 13, 3) := by decide +kernel
theorem dX3_goesBefore_39 : decode cX3_goesBefore 39 = .ok (.getfield 17, 3) := by decide +kernel
theorem dX3_goesBefore_42 : decode cX3_goesBefore 42 = .ok (.if_icmp .ge 7, 3) := by decide +kernel
theorem dX3_goesBefore_45 : decode cX3_goesBefore 45 = .ok (.iconst 1, 1) := by decide +kernel
theorem dX3_goesBefore_46 : decode cX3_goesBefore 46 = .ok (.goto 4, 3) := by decide +kernel
theorem dX3_goesBefore_49 : decode cX3_goesBefore 49 = .ok (.iconst 0, 1) := by decide +kernel
theorem dX3_goesBefore_50 : decode cX3_goesBefore 50 = .ok (.ireturn, 1) := by decide +kernel
set_option maxRecDepth 20000 in
theorem ggX4_init_X6_init : GoodIn wsX4_init wsX6_init := goodIn_r _ [14, 15, 2, 3] (by decide +kernel) (by decide +kernel)
set_option maxRecDepth 20000 in
theorem gX4_init_X6_init_n19 : GoodIn wsX4_init (wsX6_init) := ggX4_init_X6_init
set_option maxRecDepth 20000 in
theorem ggX4_init_X2_init : GoodIn wsX4_init wsX2_init := goodIn_r _ [17, 18, 2, 3, 19, 20, 21, 22, 23, 7, 8, 24, 25, 26, 27, 28, 29, 30, 31, 32, 33, 34, 35, 36, 37, 38, 39, 13, 14, 15, 61, 62, 63, 52, 53, 54, 55, 56, 57, 58, 59, 60, 48, 49, 50, 51] (by decide +kernel) (by decide +kernel)
set_option maxRecDepth 20000 in
theorem gX4_init_X2_init_n24 : GoodIn wsX4_init (wsX2_init) := ggX4_init_X2_init
theorem dX4_init_0 : decode cX4_init 0 = .ok (.aload_n 0, 1) := by decide +kernel
theorem dX4_init_1 : decode cX4_init 1 = .ok (.invokespecial 3, 3) := by decide +kernel
theorem dX4_init_4 : decode cX4_init 4 = .ok (.aload_n 0, 1) := by decide +kernel
theorem dX4_init_5 : decode cX4_init 5 = .ok (.iconst 4, 1) := by decide +kernel
theorem dX4_init_6 : decode cX4_init 6 = .ok (.anewarray 9, 3) := by decide +kernel
theorem dX4_init_9 : decode cX4_init 9 = .ok (.putfield 11, 3) := by decide +kernel
theorem dX4_init_12 : decode cX4_init 12 = .ok (.aload_n 0, 1) := by decide +kernel
theorem dX4_init_13 : decode cX4_init 13 = .ok (.new 17, 3) := by decide +kernel
theorem dX4_init_16 : decode cX4_init 16 = .ok (.dup, 1) := by decide +kernel
theorem dX4_init_17 : decode cX4_init 17 = .ok (.invokespecial 19, 3) := by decide +kernel
theorem dX4_init_20 : decode cX4_init 20 = .ok (.putfield 20, 3) := by decide +kernel
theorem dX4_init_23 : decode cX4_init 23 = .ok (.iconst 0, 1) := by decide +kernel
theorem dX4_init_24 : decode cX4_init 24 = .ok (.istore_n 1, 1) := by decide +kernel
theorem dX4_init_25 : decode cX4_init 25 = .ok (.iload_n 1, 1) := by decide +kernel
theorem dX4_init_26 : decode cX4_init 26 = .ok (.aload_n 0, 1) := by decide +kernel
theorem dX4_init_27 : decode cX4_init 27 = .ok (.getfield 11, 3) := by decide +kernel
theorem dX4_init_30 : decode cX4_init 30 = .ok (.arraylength, 1) := by decide +kernel
theorem dX4_init_31 : decode cX4_init 31 = .ok (.if_icmp .ge 22, 3) := by decide +kernel
theorem dX4_init_34 : decode cX4_init 34 = .ok (.aload_n 0, 1) := by decide +kernel
theorem dX4_init_35 : decode cX4_init 35 = .ok (.getfield 11, 3) := by decide +kernel
theorem dX4_init_38 : decode cX4_init 38 = .ok (.iload_n 1, 1) := by decide +kernel
theorem dX4_init_39 : decode cX4_init 39 = .ok (.new 9, 3) := by decide +kernel
theorem dX4_init_42 : decode cX4_init 42 = .ok (.dup, 1) := by decide +kernel
theorem dX4_init_43 : decode cX4_init 43 = .ok (.invokespecial 24, 3) := by decide +kernel
theorem dX4_init_46 : decode cX4_init 46 = .ok (.aastore, 1) := by decide +kernel
theorem dX4_init_47 : decode cX4_init 47 = .ok (.iinc 1 1, 3) := by decide +kernel
theorem dX4_init_50 : decode cX4_init 50 = .ok (.goto (-25), 3) := by decide +kernel
theorem dX4_init_53 : decode cX4_init 53 = .ok (.aload_n 0, 1) := by decide +kernel
theorem dX4_init_54 : decode cX4_init 54 = .ok (.aload_n 0, 1) := by decide +kernel
theorem dX4_init_55 : decode cX4_init 55 = .ok (.getfield 11, 3) := by decide +kernel
theorem dX4_init_58 : decode cX4_init 58 = .ok (.iconst 0, 1) := by decide +kernel
theorem dX4_init_59 : decode cX4_init 59 = .ok (.aaload, 1) := by decide +kernel
theorem dX4_init_60 : decode cX4_init 60 = .ok (.putfield 25, 3) := by decide +kernel
theorem dX4_init_63 : decode cX4_init 63 = .ok (.return_, 1) := by decide +kernel
theorem dX4_allows_0 : decode cX4_allows 0 = .ok (.aload_n 0, 1) := by decide +kernel
theorem dX4_allows_1 : decode cX4_allows 1 = .ok (.getfield 29, 3) := by decide +kernel
theorem dX4_allows_4 : decode cX4_allows 4 = .ok (.ifCond .ne 14, 3) := by decide +kernel
theorem dX4_allows_7 : decode cX4_allows 7 = .ok (.iload_n 1, 1) := by decide +kernel
theorem dX4_allows_8 : decode cX4_allows 8 = .ok (.iconst 1, 1) := by decide +kernel
theorem dX4_allows_9 : decode cX4_allows 9 = .ok (.if_icmp .ne 7, 3) := by decide +kernel
theorem dX4_allows_12 : decode cX4_allows 12 = .ok (.iconst 1, 1) := by decide +kernel
theorem dX4_allows_13 : decode cX4_allows 13 = .ok (.goto 4, 3) := by decide +kernel
theorem dX4_allows_16 : decode cX4_allows 16 = .ok (.iconst 0, 1) := by decide +kernel
theorem dX4_allows_17 : decode cX4_allows 17 = .ok (.ireturn, 1) := by decide +kernel
theorem dX4_allows_18 : decode cX4_allows 18 = .ok (.aload_n 0, 1) := by decide +kernel
theorem dX4_allows_19 : decode cX4_allows 19 = .ok (.getfield 33, 3) := by decide +kernel
theorem dX4_allows_22 : decode cX4_allows 22 = .ok (.ifCond .eq 21, 3) := by decide +kernel
theorem dX4_allows_25 : decode cX4_allows 25 = .ok (.iload_n 1, 1) := by decide +kernel
theorem dX4_allows_26 : decode cX4_allows 26 = .ok (.bipush 6, 2) := by decide +kernel
theorem dX4_allows_28 : decode cX4_allows 28 = .ok (.if_icmp .eq 9, 3) := by decide +kernel
theorem dX4_allows_31 : decode cX4_allows 31 = .ok (.iload_n 1, 1) := by decide +kernel
theorem dX4_allows_32 : decode cX4_allows 32 = .ok (.bipush 8, 2) := by decide +kernel
theorem dX4_allows_34 : decode cX4_allows 34 = .ok (.if_icmp .ne 7, 3) := by decide +kernel
theorem dX4_allows_37 : decode cX4_allows 37 = .ok (.iconst 1, 1) := by decide +kernel
theorem dX4_allows_38 : decode cX4_allows 38 = .ok (.goto 4, 3) := by decide +kernel
theorem dX4_allows_41 : decode cX4_allows 41 = .ok (.iconst 0, 1) := by decide +kernel
theorem dX4_allows_42 : decode cX4_allows 42 = .ok (.ireturn, 1) := by decide +kernel
theorem dX4_allows_43 : decode cX4_allows 43 = .ok (.iload_n 1, 1) := by decide +kernel
theorem dX4_allows_44 : decode cX4_allows 44 = .ok (.iconst 5, 1) := by decide +kernel
theorem dX4_allows_45 : decode cX4_allows 45 = .ok (.if_icmp .eq 9, 3) := by decide +kernel
theorem dX4_allows_48 : decode cX4_allows 48 = .ok (.iload_n 1, 1) := by decide +kernel
theorem dX4_allows_49 : decode cX4_allows 49 = .ok (.bipush 9, 2) := by decide +kernel
theorem dX4_allows_51 : decode cX4_allows 51 = .ok (.if_icmp .ne 7, 3) := by decide +kernel
theorem dX4_allows_54 : decode cX4_allows 54 = .ok (.iconst 1, 1) := by decide +kernel
theorem dX4_allows_55 : decode cX4_allows 55 = .ok (.goto 4, 3) := by decide +kernel
theorem dX4_allows_58 : decode cX4_allows 58 = .ok (.iconst 0, 1) := by decide +kernel
theorem dX4_allows_59 : decode cX4_allows 59 = .ok (.ireturn, 1) := by decide +kernel
set_option maxRecDepth 20000 in
theorem ggX4_begin_X6_clear : GoodIn wsX4_begin wsX6_clear := goodIn_r _ [11, 12, 13, 14, 15, 24, 25, 26, 27] (by decide +kernel) (by decide +kernel)
set_option maxRecDepth 20000 in
theorem gX4_begin_X6_clear : GoodIn wsX4_begin (wsV RX4 43 RX6 yX6_clear wsX6_clear) := goodIn_app (goodIn_of _ (by decide +kernel)) ggX4_begin_X6_clear
theorem dX4_begin_0 : decode cX4_begin 0 = .ok (.aload_n 0, 1) := by decide +kernel
theorem dX4_begin_1 : decode cX4_begin 1 = .ok (.iload_n 1, 1) := by decide +kernel
theorem dX4_begin_2 : decode cX4_begin 2 = .ok (.putfield 36, 3) := by decide +kernel
theorem dX4_begin_5 : decode cX4_begin 5 = .ok (.aload_n 0, 1) := by decide +kernel
theorem dX4_begin_6 : decode cX4_begin 6 = .ok (.iload_n 2, 1) := by decide +kernel
theorem dX4_begin_7 : decode cX4_begin 7 = .ok (.putfield 40, 3) := by decide +kernel
theorem dX4_begin_10 : decode cX4_begin 10 = .ok (.aload_n 0, 1) := by decide +kernel
theorem dX4_begin_11 : decode cX4_begin 11 = .ok (.getfield 20, 3) := by decide +kernel
theorem dX4_begin_14 : decode cX4_begin 14 = .ok (.invokevirtual 43, 3) := by decide +kernel
theorem dX4_begin_17 : decode cX4_begin 17 = .ok (.aload_n 0, 1) := by decide +kernel
theorem dX4_begin_18 : decode cX4_begin 18 = .ok (.iconst 0, 1) := by decide +kernel
theorem dX4_begin_19 : decode cX4_begin 19 = .ok (.putfield 46, 3) := by decide +kernel
theorem dX4_begin_22 : decode cX4_begin 22 = .ok (.aload_n 0, 1) := by decide +kernel
theorem dX4_begin_23 : decode cX4_begin 23 = .ok (.iconst 0, 1) := by decide +kernel
theorem dX4_begin_24 : decode cX4_begin 24 = .ok (.putfield 33, 3) := by decide +kernel
theorem dX4_begin_27 : decode cX4_begin 27 = .ok (.aload_n 0, 1) := by decide +kernel
theorem dX4_begin_28 : decode cX4_begin 28 = .ok (.iconst 1, 1) := by decide +kernel
theorem dX4_begin_29 : decode cX4_begin 29 = .ok (.putfield 29, 3) := by decide +kernel
theorem dX4_begin_32 : decode cX4_begin 32 = .ok (.return_, 1) := by decide +kernel
theorem dX4_end_0 : decode cX4_end 0 = .ok (.aload_n 0, 1) := by decide +kernel
theorem dX4_end_1 : decode cX4_end 1 = .ok (.iconst 0, 1) := by decide +kernel
theorem dX4_end_2 : decode cX4_end 2 = .ok (.putfield 29, 3) := by decide +kernel
theorem dX4_end_5 : decode cX4_end 5 = .ok (.return_, 1) := by decide +kernel
set_option maxRecDepth 20000 in
theorem ggX5_init_Jx4a65c_init_da8c8 : GoodIn wsX5_init wsJx4a65c_init_da8c8 := goodIn_r _ [14, 15, 16, 17, 18, 19, 20, 21, 22, 23, 24, 25, 26, 2, 3, 30, 31, 32] (by decide +kernel) (by decide +kernel)
set_option maxRecDepth 20000 in
theorem gX5_init_Jx4a65c_init_da8c8 : GoodIn wsX5_init (wsJx4a65c_init_da8c8) := ggX5_init_Jx4a65c_init_da8c8
set_option maxRecDepth 20000 in
theorem ggX5_init_X6_init : GoodIn wsX5_init wsX6_init := goodIn_r _ [28, 29, 2, 3] (by decide +kernel) (by decide +kernel)
set_option maxRecDepth 20000 in
theorem gX5_init_X6_init_n18 : GoodIn wsX5_init (wsX6_init) := ggX5_init_X6_init
theorem dX5_init_0 : decode cX5_init 0 = .ok (.aload_n 0, 1) := by decide +kernel
theorem dX5_init_1 : decode cX5_init 1 = .ok (.invokespecial 1, 3) := by decide +kernel
theorem dX5_init_4 : decode cX5_init 4 = .ok (.aload_n 0, 1) := by decide +kernel
theorem dX5_init_5 : decode cX5_init 5 = .ok (.new 7, 3) := by decide +kernel
theorem dX5_init_8 : decode cX5_init 8 = .ok (.dup, 1) := by decide +kernel
theorem dX5_init_9 : decode cX5_init 9 = .ok (.invokespecial 9, 3) := by decide +kernel
theorem dX5_init_12 : decode cX5_init 12 = .ok (.putfield 10, 3) := by decide +kernel
theorem dX5_init_15 : decode cX5_init 15 = .ok (.aload_n 0, 1) := by decide +kernel
theorem dX5_init_16 : decode cX5_init 16 = .ok (.new 16, 3) := by decide +kernel
theorem dX5_init_19 : decode cX5_init 19 = .ok (.dup, 1) := by decide +kernel
theorem dX5_init_20 : decode cX5_init 20 = .ok (.invokespecial 18, 3) := by decide +kernel
theorem dX5_init_23 : decode cX5_init 23 = .ok (.putfield 19, 3) := by decide +kernel
theorem dX5_init_26 : decode cX5_init 26 = .ok (.return_, 1) := by decide +kernel
set_option maxRecDepth 20000 in
theorem ggX5_clear_Jx4a65c_clear_da8c8 : GoodIn wsX5_clear wsJx4a65c_clear_da8c8 := goodIn_r _ [9, 10, 11, 12, 13, 27, 28, 29] (by decide +kernel) (by decide +kernel)
set_option maxRecDepth 20000 in
theorem gX5_clear_Jx4a65c_clear_da8c8 : GoodIn wsX5_clear (wsV RX5 23 RJx4a65c yJx4a65c_clear_da8c8 wsJx4a65c_clear_da8c8) := goodIn_app (goodIn_of _ (by decide +kernel)) ggX5_clear_Jx4a65c_clear_da8c8
set_option maxRecDepth 20000 in
theorem ggX5_clear_X6_clear : GoodIn wsX5_clear wsX6_clear := goodIn_r _ [18, 19, 20, 21, 22, 30, 31, 32, 33] (by decide +kernel) (by decide +kernel)
set_option maxRecDepth 20000 in
theorem gX5_clear_X6_clear : GoodIn wsX5_clear (wsV RX5 26 RX6 yX6_clear wsX6_clear) := goodIn_app (goodIn_of _ (by decide +kernel)) ggX5_clear_X6_clear
theorem dX5_clear_0 : decode cX5_clear 0 = .ok (.aload_n 0, 1) := by decide +kernel
theorem dX5_clear_1 : decode cX5_clear 1 = .ok (.getfield 10, 3) := by decide +kernel
theorem dX5_clear_4 : decode cX5_clear 4 = .ok (.invokevirtual 23, 3) := by decide +kernel
theorem dX5_clear_7 : decode cX5_clear 7 = .ok (.aload_n 0, 1) := by decide +kernel
theorem dX5_clear_8 : decode cX5_clear 8 = .ok (.getfield 19, 3) := by decide +kernel
theorem dX5_clear_11 : decode cX5_clear 11 = .ok (.invokevirtual 26, 3) := by decide +kernel
theorem dX5_clear_14 : decode cX5_clear 14 = .ok (.aload_n 0, 1) := by decide +kernel
theorem dX5_clear_15 : decode cX5_clear 15 = .ok (.iconst 0, 1) := by decide +kernel
theorem dX5_clear_16 : decode cX5_clear 16 = .ok (.putfield 27, 3) := by decide +kernel
theorem dX5_clear_19 : decode cX5_clear 19 = .ok (.aload_n 0, 1) := by decide +kernel
theorem dX5_clear_20 : decode cX5_clear 20 = .ok (.iconst 0, 1) := by decide +kernel
theorem dX5_clear_21 : decode cX5_clear 21 = .ok (.putfield 31, 3) := by decide +kernel
theorem dX5_clear_24 : decode cX5_clear 24 = .ok (.return_, 1) := by decide +kernel
set_option maxRecDepth 20000 in
theorem ggX5_size_Jx4a65c_size_8abf5 : GoodIn wsX5_size wsJx4a65c_size_8abf5 := goodIn_r _ [6, 7, 12, 13, 14] (by decide +kernel) (by decide +kernel)
set_option maxRecDepth 20000 in
theorem gX5_size_Jx4a65c_size_8abf5 : GoodIn wsX5_size (wsV RX5 34 RJx4a65c yJx4a65c_size_8abf5 wsJx4a65c_size_8abf5) := goodIn_app (goodIn_of _ (by decide +kernel)) ggX5_size_Jx4a65c_size_8abf5
theorem dX5_size_0 : decode cX5_size 0 = .ok (.aload_n 0, 1) := by decide +kernel
theorem dX5_size_1 : decode cX5_size 1 = .ok (.getfield 10, 3) := by decide +kernel
theorem dX5_size_4 : decode cX5_size 4 = .ok (.invokevirtual 34, 3) := by decide +kernel
theorem dX5_size_7 : decode cX5_size 7 = .ok (.ireturn, 1) := by decide +kernel
set_option maxRecDepth 20000 in
theorem ggX5_isDone_Jx4a65c_size_8abf5 : GoodIn wsX5_isDone wsJx4a65c_size_8abf5 := goodIn_r _ [7, 8, 13, 14, 15] (by decide +kernel) (by decide +kernel)
set_option maxRecDepth 20000 in
theorem gX5_isDone_Jx4a65c_size_8abf5 : GoodIn wsX5_isDone (wsV RX5 34 RJx4a65c yJx4a65c_size_8abf5 wsJx4a65c_size_8abf5) := goodIn_app (goodIn_of _ (by decide +kernel)) ggX5_isDone_Jx4a65c_size_8abf5
theorem dX5_isDone_0 : decode cX5_isDone 0 = .ok (.aload_n 0, 1) := by decide +kernel
theorem dX5_isDone_1 : decode cX5_isDone 1 = .ok (.getfield 31, 3) := by decide +kernel
theorem dX5_isDone_4 : decode cX5_isDone 4 = .ok (.aload_n 0, 1) := by decide +kernel
theorem dX5_isDone_5 : decode cX5_isDone 5 = .ok (.getfield 10, 3) := by decide +kernel
theorem dX5_isDone_8 : decode cX5_isDone 8 = .ok (.invokevirtual 34, 3) := by decide +kernel
theorem dX5_isDone_11 : decode cX5_isDone 11 = .ok (.if_icmp .lt 7, 3) := by decide +kernel
theorem dX5_isDone_14 : decode cX5_isDone 14 = .ok (.iconst 1, 1) := by decide +kernel
theorem dX5_isDone_15 : decode cX5_isDone 15 = .ok (.goto 4, 3) := by decide +kernel
theorem dX5_isDone_18 : decode cX5_isDone 18 = .ok (.iconst 0, 1) := by decide +kernel
theorem dX5_isDone_19 : decode cX5_isDone 19 = .ok (.ireturn, 1) := by decide +kernel
theorem dX5_isReturn_0 : decode cX5_isReturn 0 = .ok (.iload_n 1, 1) := by decide +kernel
theorem dX5_isReturn_1 : decode cX5_isReturn 1 = .ok (.aload_n 0, 1) := by decide +kernel
theorem dX5_isReturn_2 : decode cX5_isReturn 2 = .ok (.getfield 27, 3) := by decide +kernel
theorem dX5_isReturn_5 : decode cX5_isReturn 5 = .ok (.if_icmp .ge 7, 3) := by decide +kernel
theorem dX5_isReturn_8 : decode cX5_isReturn 8 = .ok (.iconst 1, 1) := by decide +kernel
theorem dX5_isReturn_9 : decode cX5_isReturn 9 = .ok (.goto 4, 3) := by decide +kernel
theorem dX5_isReturn_12 : decode cX5_isReturn 12 = .ok (.iconst 0, 1) := by decide +kernel
theorem dX5_isReturn_13 : decode cX5_isReturn 13 = .ok (.ireturn, 1) := by decide +kernel
set_option maxRecDepth 20000 in
theorem ggX5_stateOf_X5_isReturn : GoodIn wsX5_stateOf wsX5_isReturn := goodIn_r _ [9, 10, 30, 31, 32, 33] (by decide +kernel) (by decide +kernel)
set_option maxRecDepth 20000 in
theorem gX5_stateOf_X5_isReturn : GoodIn wsX5_stateOf (wsV RX5 38 RX5 yX5_isReturn wsX5_isReturn) := goodIn_app (goodIn_of _ (by decide +kernel)) ggX5_stateOf_X5_isReturn
set_option maxRecDepth 20000 in
theorem ggX5_stateOf_Jx4a65c_get_915e3 : GoodIn wsX5_stateOf wsJx4a65c_get_915e3 := goodIn_r _ [15, 16, 17, 18, 19, 20, 21, 22, 23, 24, 25, 26, 27, 14, 28, 29, 43, 44, 45] (by decide +kernel) (by decide +kernel)
set_option maxRecDepth 20000 in
theorem gX5_stateOf_Jx4a65c_get_915e3 : GoodIn wsX5_stateOf (wsV RX5 42 RJx4a65c yJx4a65c_get_915e3 wsJx4a65c_get_915e3) := goodIn_app (goodIn_of _ (by decide +kernel)) ggX5_stateOf_Jx4a65c_get_915e3
theorem dX5_stateOf_0 : decode cX5_stateOf 0 = .ok (.iload_n 1, 1) := by decide +kernel
theorem dX5_stateOf_1 : decode cX5_stateOf 1 = .ok (.aload_n 0, 1) := by decide +kernel
theorem dX5_stateOf_2 : decode cX5_stateOf 2 = .ok (.getfield 31, 3) := by decide +kernel
theorem dX5_stateOf_5 : decode cX5_stateOf 5 = .ok (.if_icmp .lt 5, 3) := by decide +kernel
theorem dX5_stateOf_8 : decode cX5_stateOf 8 = .ok (.iconst 0, 1) := by decide +kernel
theorem dX5_stateOf_9 : decode cX5_stateOf 9 = .ok (.ireturn, 1) := by decide +kernel
theorem dX5_stateOf_10 : decode cX5_stateOf 10 = .ok (.aload_n 0, 1) := by decide +kernel
theorem dX5_stateOf_11 : decode cX5_stateOf 11 = .ok (.iload_n 1, 1) := by decide +kernel
theorem dX5_stateOf_12 : decode cX5_stateOf 12 = .ok (.invokevirtual 38, 3) := by decide +kernel
theorem dX5_stateOf_15 : decode cX5_stateOf 15 = .ok (.ifCond .ne 24, 3) := by decide +kernel
theorem dX5_stateOf_18 : decode cX5_stateOf 18 = .ok (.aload_n 0, 1) := by decide +kernel
theorem dX5_stateOf_19 : decode cX5_stateOf 19 = .ok (.getfield 10, 3) := by decide +kernel
theorem dX5_stateOf_22 : decode cX5_stateOf 22 = .ok (.iload_n 1, 1) := by decide +kernel
theorem dX5_stateOf_23 : decode cX5_stateOf 23 = .ok (.invokevirtual 42, 3) := by decide +kernel
theorem dX5_stateOf_26 : decode cX5_stateOf 26 = .ok (.checkcast 46, 3) := by decide +kernel
theorem dX5_stateOf_29 : decode cX5_stateOf 29 = .ok (.getfield 48, 3) := by decide +kernel
theorem dX5_stateOf_32 : decode cX5_stateOf 32 = .ok (.ifCond .eq 7, 3) := by decide +kernel
theorem dX5_stateOf_35 : decode cX5_stateOf 35 = .ok (.iconst 2, 1) := by decide +kernel
theorem dX5_stateOf_36 : decode cX5_stateOf 36 = .ok (.goto 4, 3) := by decide +kernel
theorem dX5_stateOf_39 : decode cX5_stateOf 39 = .ok (.iconst 1, 1) := by decide +kernel
theorem dX5_stateOf_40 : decode cX5_stateOf 40 = .ok (.ireturn, 1) := by decide +kernel
set_option maxRecDepth 20000 in
theorem ggX5_addReturn_Jx4a65c_add_9ea2d : GoodIn wsX5_addReturn wsJx4a65c_add_9ea2d := goodIn_r _ [8, 9, 10, 11, 12, 13, 14, 15, 7, 16, 17, 18, 19, 20, 21, 22, 23, 24, 25, 26, 27, 28, 29, 30, 31, 32, 33, 34, 35, 36, 37, 38, 39, 40, 41, 42, 43, 44, 45, 46, 47, 48, 49, 50, 51, 52, 53, 54, 55, 56, 57, 58, 59, 76, 77, 78] (by decide +kernel) (by decide +kernel)
set_option maxRecDepth 20000 in
theorem gX5_addReturn_Jx4a65c_add_9ea2d : GoodIn wsX5_addReturn (wsV RX5 51 RJx4a65c yJx4a65c_add_9ea2d wsJx4a65c_add_9ea2d) := goodIn_app (goodIn_of _ (by decide +kernel)) ggX5_addReturn_Jx4a65c_add_9ea2d
set_option maxRecDepth 20000 in
theorem ggX5_addReturn_X6_add : GoodIn wsX5_addReturn wsX6_add := goodIn_r _ [64, 65, 66, 67, 68, 69, 70, 71, 79, 80, 81, 82, 83, 84, 85, 86, 87, 88, 89, 90, 91] (by decide +kernel) (by decide +kernel)
set_option maxRecDepth 20000 in
theorem gX5_addReturn_X6_add : GoodIn wsX5_addReturn (wsV RX5 55 RX6 yX6_add wsX6_add) := goodIn_app (goodIn_of _ (by decide +kernel)) ggX5_addReturn_X6_add
theorem dX5_addReturn_0 : decode cX5_addReturn 0 = .ok (.aload_n 0, 1) := by decide +kernel
theorem dX5_addReturn_1 : decode cX5_addReturn 1 = .ok (.getfield 10, 3) := by decide +kernel
theorem dX5_addReturn_4 : decode cX5_addReturn 4 = .ok (.aload_n 1, 1) := by decide +kernel
theorem dX5_addReturn_5 : decode cX5_addReturn 5 = .ok (.invokevirtual 51, 3) := by decide +kernel
theorem dX5_addReturn_8 : decode cX5_addReturn 8 = .ok (.pop, 1) := by decide +kernel
theorem dX5_addReturn_9 : decode cX5_addReturn 9 = .ok (.aload_n 0, 1) := by decide +kernel
theorem dX5_addReturn_10 : decode cX5_addReturn 10 = .ok (.getfield 19, 3) := by decide +kernel
theorem dX5_addReturn_13 : decode cX5_addReturn 13 = .ok (.aload_n 1, 1) := by decide +kernel
theorem dX5_addReturn_14 : decode cX5_addReturn 14 = .ok (.invokevirtual 55, 3) := by decide +kernel
theorem dX5_addReturn_17 : decode cX5_addReturn 17 = .ok (.aload_n 0, 1) := by decide +kernel
theorem dX5_addReturn_18 : decode cX5_addReturn 18 = .ok (.dup, 1) := by decide +kernel
theorem dX5_addReturn_19 : decode cX5_addReturn 19 = .ok (.getfield 27, 3) := by decide +kernel
theorem dX5_addReturn_22 : decode cX5_addReturn 22 = .ok (.iconst 1, 1) := by decide +kernel
theorem dX5_addReturn_23 : decode cX5_addReturn 23 = .ok (.iadd, 1) := by decide +kernel
theorem dX5_addReturn_24 : decode cX5_addReturn 24 = .ok (.putfield 27, 3) := by decide +kernel
theorem dX5_addReturn_27 : decode cX5_addReturn 27 = .ok (.return_, 1) := by decide +kernel
set_option maxRecDepth 20000 in
theorem ggX5_addEntry_Jx4a65c_size_8abf5 : GoodIn wsX5_addEntry wsJx4a65c_size_8abf5 := goodIn_r _ [9, 10, 106, 107, 108] (by decide +kernel) (by decide +kernel)
set_option maxRecDepth 20000 in
theorem gX5_addEntry_Jx4a65c_size_8abf5 : GoodIn wsX5_addEntry (wsV RX5 34 RJx4a65c yJx4a65c_size_8abf5 wsJx4a65c_size_8abf5) := goodIn_app (goodIn_of _ (by decide +kernel)) ggX5_addEntry_Jx4a65c_size_8abf5
set_option maxRecDepth 20000 in
theorem ggX5_addEntry_Jx4a65c_get_915e3 : GoodIn wsX5_addEntry wsJx4a65c_get_915e3 := goodIn_r _ [14, 10, 15, 16, 17, 18, 19, 20, 21, 22, 23, 24, 25, 8, 26, 27, 106, 107, 108] (by decide +kernel) (by decide +kernel)
set_option maxRecDepth 20000 in
theorem gX5_addEntry_Jx4a65c_get_915e3 : GoodIn wsX5_addEntry (wsV RX5 42 RJx4a65c yJx4a65c_get_915e3 wsJx4a65c_get_915e3) := goodIn_app (goodIn_of _ (by decide +kernel)) ggX5_addEntry_Jx4a65c_get_915e3
set_option maxRecDepth 20000 in
theorem ggX5_addEntry_X3_goesBefore : GoodIn wsX5_addEntry wsX3_goesBefore := goodIn_r _ [32, 33, 34, 35, 109, 110, 111, 112, 113, 114, 115, 116, 117, 118, 119, 120, 121, 122, 123] (by decide +kernel) (by decide +kernel)
set_option maxRecDepth 20000 in
theorem gX5_addEntry_X3_goesBefore : GoodIn wsX5_addEntry (wsV RX5 58 RX3 yX3_goesBefore wsX3_goesBefore) := goodIn_app (goodIn_of _ (by decide +kernel)) ggX5_addEntry_X3_goesBefore
set_option maxRecDepth 20000 in
theorem ggX5_addEntry_Jx4a65c_add_7a177 : GoodIn wsX5_addEntry wsJx4a65c_add_7a177 := goodIn_r _ [39, 40, 41, 10, 27, 42, 43, 44, 45, 46, 47, 48, 8, 49, 50, 51, 52, 53, 54, 55, 56, 57, 58, 59, 60, 61, 62, 63, 64, 65, 66, 67, 68, 69, 70, 71, 72, 73, 74, 75, 76, 77, 78, 79, 80, 81, 82, 83, 84, 85, 86, 87, 88, 89, 106, 107, 108] (by decide +kernel) (by decide +kernel)
set_option maxRecDepth 20000 in
theorem gX5_addEntry_Jx4a65c_add_7a177 : GoodIn wsX5_addEntry (wsV RX5 62 RJx4a65c yJx4a65c_add_7a177 wsJx4a65c_add_7a177) := goodIn_app (goodIn_of _ (by decide +kernel)) ggX5_addEntry_Jx4a65c_add_7a177
set_option maxRecDepth 20000 in
theorem ggX5_addEntry_X6_add : GoodIn wsX5_addEntry wsX6_add := goodIn_r _ [94, 95, 96, 97, 98, 99, 100, 101, 124, 125, 126, 127, 109, 110, 111, 112, 113, 114, 115, 116, 117] (by decide +kernel) (by decide +kernel)
set_option maxRecDepth 20000 in
theorem gX5_addEntry_X6_add : GoodIn wsX5_addEntry (wsV RX5 55 RX6 yX6_add wsX6_add) := goodIn_app (goodIn_of _ (by decide +kernel)) ggX5_addEntry_X6_add
theorem dX5_addEntry_0 : decode cX5_addEntry 0 = .ok (.aload_n 0, 1) := by decide +kernel
theorem dX5_addEntry_1 : decode cX5_addEntry 1 = .ok (.getfield 10, 3) := by decide +kernel
theorem dX5_addEntry_4 : decode cX5_addEntry 4 = .ok (.invokevirtual 34, 3) := by decide +kernel
theorem dX5_addEntry_7 : decode cX5_addEntry 7 = .ok (.istore_n 2, 1) := by decide +kernel
theorem dX5_addEntry_8 : decode cX5_addEntry 8 = .ok (.iload_n 2, 1) := by decide +kernel
theorem dX5_addEntry_9 : decode cX5_addEntry 9 = .ok (.aload_n 0, 1) := by decide +kernel
theorem dX5_addEntry_10 : decode cX5_addEntry 10 = .ok (.getfield 27, 3) := by decide +kernel
theorem dX5_addEntry_13 : decode cX5_addEntry 13 = .ok (.if_icmp .le 29, 3) := by decide +kernel
theorem dX5_addEntry_16 : decode cX5_addEntry 16 = .ok (.aload_n 1, 1) := by decide +kernel
theorem dX5_addEntry_17 : decode cX5_addEntry 17 = .ok (.aload_n 0, 1) := by decide +kernel
theorem dX5_addEntry_18 : decode cX5_addEntry 18 = .ok (.getfield 10, 3) := by decide +kernel
theorem dX5_addEntry_21 : decode cX5_addEntry 21 = .ok (.iload_n 2, 1) := by decide +kernel
theorem dX5_addEntry_22 : decode cX5_addEntry 22 = .ok (.iconst 1, 1) := by decide +kernel
theorem dX5_addEntry_23 : decode cX5_addEntry 23 = .ok (.isub, 1) := by decide +kernel
theorem dX5_addEntry_24 : decode cX5_addEntry 24 = .ok (.invokevirtual 42, 3) := by decide +kernel
theorem dX5_addEntry_27 : decode cX5_addEntry 27 = .ok (.checkcast 46, 3) := by decide +kernel
theorem dX5_addEntry_30 : decode cX5_addEntry 30 = .ok (.invokevirtual 58, 3) := by decide +kernel
theorem dX5_addEntry_33 : decode cX5_addEntry 33 = .ok (.ifCond .eq 9, 3) := by decide +kernel
theorem dX5_addEntry_36 : decode cX5_addEntry 36 = .ok (.iinc 2 (-1), 3) := by decide +kernel
theorem dX5_addEntry_39 : decode cX5_addEntry 39 = .ok (.goto (-31), 3) := by decide +kernel
theorem dX5_addEntry_42 : decode cX5_addEntry 42 = .ok (.aload_n 0, 1) := by decide +kernel
theorem dX5_addEntry_43 : decode cX5_addEntry 43 = .ok (.getfield 10, 3) := by decide +kernel
theorem dX5_addEntry_46 : decode cX5_addEntry 46 = .ok (.iload_n 2, 1) := by decide +kernel
theorem dX5_addEntry_47 : decode cX5_addEntry 47 = .ok (.aload_n 1, 1) := by decide +kernel
theorem dX5_addEntry_48 : decode cX5_addEntry 48 = .ok (.invokevirtual 62, 3) := by decide +kernel
theorem dX5_addEntry_51 : decode cX5_addEntry 51 = .ok (.aload_n 0, 1) := by decide +kernel
theorem dX5_addEntry_52 : decode cX5_addEntry 52 = .ok (.getfield 19, 3) := by decide +kernel
theorem dX5_addEntry_55 : decode cX5_addEntry 55 = .ok (.aload_n 1, 1) := by decide +kernel
theorem dX5_addEntry_56 : decode cX5_addEntry 56 = .ok (.invokevirtual 55, 3) := by decide +kernel
theorem dX5_addEntry_59 : decode cX5_addEntry 59 = .ok (.return_, 1) := by decide +kernel
theorem dX6_init_0 : decode cX6_init 0 = .ok (.aload_n 0, 1) := by decide +kernel
theorem dX6_init_1 : decode cX6_init 1 = .ok (.invokespecial 3, 3) := by decide +kernel
theorem dX6_init_4 : decode cX6_init 4 = .ok (.return_, 1) := by decide +kernel
theorem dX6_clear_0 : decode cX6_clear 0 = .ok (.aload_n 0, 1) := by decide +kernel
theorem dX6_clear_1 : decode cX6_clear 1 = .ok (.lconst 0, 1) := by decide +kernel
theorem dX6_clear_2 : decode cX6_clear 2 = .ok (.putfield 9, 3) := by decide +kernel
theorem dX6_clear_5 : decode cX6_clear 5 = .ok (.aload_n 0, 1) := by decide +kernel
theorem dX6_clear_6 : decode cX6_clear 6 = .ok (.lconst 0, 1) := by decide +kernel
theorem dX6_clear_7 : decode cX6_clear 7 = .ok (.putfield 15, 3) := by decide +kernel
theorem dX6_clear_10 : decode cX6_clear 10 = .ok (.aload_n 0, 1) := by decide +kernel
theorem dX6_clear_11 : decode cX6_clear 11 = .ok (.lconst 0, 1) := by decide +kernel
theorem dX6_clear_12 : decode cX6_clear 12 = .ok (.putfield 18, 3) := by decide +kernel
theorem dX6_clear_15 : decode cX6_clear 15 = .ok (.aload_n 0, 1) := by decide +kernel
theorem dX6_clear_16 : decode cX6_clear 16 = .ok (.lconst 0, 1) := by decide +kernel
theorem dX6_clear_17 : decode cX6_clear 17 = .ok (.putfield 21, 3) := by decide +kernel
theorem dX6_clear_20 : decode cX6_clear 20 = .ok (.return_, 1) := by decide +kernel
theorem dX6_add_0 : decode cX6_add 0 = .ok (.aload_n 0, 1) := by decide +kernel
theorem dX6_add_1 : decode cX6_add 1 = .ok (.dup, 1) := by decide +kernel
theorem dX6_add_2 : decode cX6_add 2 = .ok (.getfield 9, 3) := by decide +kernel
theorem dX6_add_5 : decode cX6_add 5 = .ok (.lconst 1, 1) := by decide +kernel
theorem dX6_add_6 : decode cX6_add 6 = .ok (.ladd, 1) := by decide +kernel
theorem dX6_add_7 : decode cX6_add 7 = .ok (.putfield 9, 3) := by decide +kernel
theorem dX6_add_10 : decode cX6_add 10 = .ok (.aload_n 0, 1) := by decide +kernel
theorem dX6_add_11 : decode cX6_add 11 = .ok (.dup, 1) := by decide +kernel
theorem dX6_add_12 : decode cX6_add 12 = .ok (.getfield 15, 3) := by decide +kernel
theorem dX6_add_15 : decode cX6_add 15 = .ok (.aload_n 1, 1) := by decide +kernel
theorem dX6_add_16 : decode cX6_add 16 = .ok (.getfield 24, 3) := by decide +kernel
theorem dX6_add_19 : decode cX6_add 19 = .ok (.i2l, 1) := by decide +kernel
theorem dX6_add_20 : decode cX6_add 20 = .ok (.ladd, 1) := by decide +kernel
theorem dX6_add_21 : decode cX6_add 21 = .ok (.putfield 15, 3) := by decide +kernel
theorem dX6_add_24 : decode cX6_add 24 = .ok (.aload_n 1, 1) := by decide +kernel
theorem dX6_add_25 : decode cX6_add 25 = .ok (.getfield 30, 3) := by decide +kernel
theorem dX6_add_28 : decode cX6_add 28 = .ok (.bipush 7, 2) := by decide +kernel
theorem dX6_add_30 : decode cX6_add 30 = .ok (.if_icmp .ne 20, 3) := by decide +kernel
theorem dX6_add_33 : decode cX6_add 33 = .ok (.aload_n 0, 1) := by decide +kernel
theorem dX6_add_34 : decode cX6_add 34 = .ok (.dup, 1) := by decide +kernel
theorem dX6_add_35 : decode cX6_add 35 = .ok (.getfield 18, 3) := by decide +kernel
theorem dX6_add_38 : decode cX6_add 38 = .ok (.aload_n 1, 1) := by decide +kernel
theorem dX6_add_39 : decode cX6_add 39 = .ok (.getfield 33, 3) := by decide +kernel
theorem dX6_add_42 : decode cX6_add 42 = .ok (.i2l, 1) := by decide +kernel
theorem dX6_add_43 : decode cX6_add 43 = .ok (.ladd, 1) := by decide +kernel
theorem dX6_add_44 : decode cX6_add 44 = .ok (.putfield 18, 3) := by decide +kernel
theorem dX6_add_47 : decode cX6_add 47 = .ok (.goto 25, 3) := by decide +kernel
theorem dX6_add_50 : decode cX6_add 50 = .ok (.aload_n 1, 1) := by decide +kernel
theorem dX6_add_51 : decode cX6_add 51 = .ok (.getfield 30, 3) := by decide +kernel
theorem dX6_add_54 : decode cX6_add 54 = .ok (.iconst 2, 1) := by decide +kernel
theorem dX6_add_55 : decode cX6_add 55 = .ok (.if_icmp .ne 17, 3) := by decide +kernel
theorem dX6_add_58 : decode cX6_add 58 = .ok (.aload_n 0, 1) := by decide +kernel
theorem dX6_add_59 : decode cX6_add 59 = .ok (.dup, 1) := by decide +kernel
theorem dX6_add_60 : decode cX6_add 60 = .ok (.getfield 21, 3) := by decide +kernel
theorem dX6_add_63 : decode cX6_add 63 = .ok (.aload_n 1, 1) := by decide +kernel
theorem dX6_add_64 : decode cX6_add 64 = .ok (.getfield 33, 3) := by decide +kernel
theorem dX6_add_67 : decode cX6_add 67 = .ok (.i2l, 1) := by decide +kernel
theorem dX6_add_68 : decode cX6_add 68 = .ok (.ladd, 1) := by decide +kernel
theorem dX6_add_69 : decode cX6_add 69 = .ok (.putfield 21, 3) := by decide +kernel
theorem dX6_add_72 : decode cX6_add 72 = .ok (.return_, 1) := by decide +kernel
theorem dX6_are_0 : decode cX6_are 0 = .ok (.aload_n 0, 1) := by decide +kernel
theorem dX6_are_1 : decode cX6_are 1 = .ok (.getfield 9, 3) := by decide +kernel
theorem dX6_are_4 : decode cX6_are 4 = .ok (.iload_n 1, 1) := by decide +kernel
theorem dX6_are_5 : decode cX6_are 5 = .ok (.i2l, 1) := by decide +kernel
theorem dX6_are_6 : decode cX6_are 6 = .ok (.lcmp, 1) := by decide +kernel
theorem dX6_are_7 : decode cX6_are 7 = .ok (.ifCond .ne 38, 3) := by decide +kernel
theorem dX6_are_10 : decode cX6_are 10 = .ok (.aload_n 0, 1) := by decide +kernel
theorem dX6_are_11 : decode cX6_are 11 = .ok (.getfield 15, 3) := by decide +kernel
theorem dX6_are_14 : decode cX6_are 14 = .ok (.iload_n 2, 1) := by decide +kernel
theorem dX6_are_15 : decode cX6_are 15 = .ok (.i2l, 1) := by decide +kernel
theorem dX6_are_16 : decode cX6_are 16 = .ok (.lcmp, 1) := by decide +kernel
theorem dX6_are_17 : decode cX6_are 17 = .ok (.ifCond .ne 28, 3) := by decide +kernel
theorem dX6_are_20 : decode cX6_are 20 = .ok (.aload_n 0, 1) := by decide +kernel
theorem dX6_are_21 : decode cX6_are 21 = .ok (.getfield 18, 3) := by decide +kernel
theorem dX6_are_24 : decode cX6_are 24 = .ok (.iload_n 3, 1) := by decide +kernel
theorem dX6_are_25 : decode cX6_are 25 = .ok (.i2l, 1) := by decide +kernel
theorem dX6_are_26 : decode cX6_are 26 = .ok (.lcmp, 1) := by decide +kernel
theorem dX6_are_27 : decode cX6_are 27 = .ok (.ifCond .ne 18, 3) := by decide +kernel
theorem dX6_are_30 : decode cX6_are 30 = .ok (.aload_n 0, 1) := by decide +kernel
theorem dX6_are_31 : decode cX6_are 31 = .ok (.getfield 21, 3) := by decide +kernel
theorem dX6_are_34 : decode cX6_are 34 = .ok (.iload 4, 2) := by decide +kernel
theorem dX6_are_36 : decode cX6_are 36 = .ok (.i2l, 1) := by decide +kernel
theorem dX6_are_37 : decode cX6_are 37 = .ok (.lcmp, 1) := by decide +kernel
theorem dX6_are_38 : decode cX6_are 38 = .ok (.ifCond .ne 7, 3) := by decide +kernel
theorem dX6_are_41 : decode cX6_are 41 = .ok (.iconst 1, 1) := by decide +kernel
theorem dX6_are_42 : decode cX6_are 42 = .ok (.goto 4, 3) := by decide +kernel
theorem dX6_are_45 : decode cX6_are 45 = .ok (.iconst 0, 1) := by decide +kernel
theorem dX6_are_46 : decode cX6_are 46 = .ok (.ireturn, 1) := by decide +kernel
set_option maxRecDepth 20000 in
theorem ggX7_init_Jx4a65c_init_da8c8 : GoodIn wsX7_init wsJx4a65c_init_da8c8 := goodIn_r _ [20, 21, 22, 23, 24, 25, 26, 27, 28, 29, 30, 31, 32, 2, 3, 57, 58, 59] (by decide +kernel) (by decide +kernel)
set_option maxRecDepth 20000 in
theorem gX7_init_Jx4a65c_init_da8c8 : GoodIn wsX7_init (wsJx4a65c_init_da8c8) := ggX7_init_Jx4a65c_init_da8c8
set_option maxRecDepth 20000 in
theorem ggX7_init_X4_init : GoodIn wsX7_init wsX4_init := goodIn_r _ [35, 36, 2, 3, 37, 38, 39, 40, 41, 42, 43, 44, 45, 46, 47, 48, 49, 50, 51, 52, 5, 6, 53, 54, 55, 56, 19, 20, 21, 22, 23, 24, 25, 26, 27, 28, 29, 30, 31, 32, 67, 68, 69, 70, 71, 72, 73, 74, 75, 76, 77, 78, 79, 80, 81, 82, 83, 84, 85, 86, 87, 57, 58, 59] (by decide +kernel) (by decide +kernel)
set_option maxRecDepth 20000 in
theorem gX7_init_X4_init : GoodIn wsX7_init (wsX4_init) := ggX7_init_X4_init
theorem dX7_init_0 : decode cX7_init 0 = .ok (.aload_n 0, 1) := by decide +kernel
theorem dX7_init_1 : decode cX7_init 1 = .ok (.invokespecial 1, 3) := by decide +kernel
theorem dX7_init_4 : decode cX7_init 4 = .ok (.aload_n 0, 1) := by decide +kernel
theorem dX7_init_5 : decode cX7_init 5 = .ok (.new 7, 3) := by decide +kernel
theorem dX7_init_8 : decode cX7_init 8 = .ok (.dup, 1) := by decide +kernel
theorem dX7_init_9 : decode cX7_init 9 = .ok (.invokespecial 9, 3) := by decide +kernel
theorem dX7_init_12 : decode cX7_init 12 = .ok (.putfield 10, 3) := by decide +kernel
theorem dX7_init_15 : decode cX7_init 15 = .ok (.aload_n 0, 1) := by decide +kernel
theorem dX7_init_16 : decode cX7_init 16 = .ok (.new 7, 3) := by decide +kernel
theorem dX7_init_19 : decode cX7_init 19 = .ok (.dup, 1) := by decide +kernel
theorem dX7_init_20 : decode cX7_init 20 = .ok (.invokespecial 9, 3) := by decide +kernel
theorem dX7_init_23 : decode cX7_init 23 = .ok (.putfield 16, 3) := by decide +kernel
theorem dX7_init_26 : decode cX7_init 26 = .ok (.aload_n 0, 1) := by decide +kernel
theorem dX7_init_27 : decode cX7_init 27 = .ok (.new 19, 3) := by decide +kernel
theorem dX7_init_30 : decode cX7_init 30 = .ok (.dup, 1) := by decide +kernel
theorem dX7_init_31 : decode cX7_init 31 = .ok (.invokespecial 21, 3) := by decide +kernel
theorem dX7_init_34 : decode cX7_init 34 = .ok (.putfield 22, 3) := by decide +kernel
theorem dX7_init_37 : decode cX7_init 37 = .ok (.aload_n 0, 1) := by decide +kernel
theorem dX7_init_38 : decode cX7_init 38 = .ok (.sipush 256, 3) := by decide +kernel
theorem dX7_init_41 : decode cX7_init 41 = .ok (.newarray .int, 2) := by decide +kernel
theorem dX7_init_43 : decode cX7_init 43 = .ok (.putfield 26, 3) := by decide +kernel
theorem dX7_init_46 : decode cX7_init 46 = .ok (.aload_n 0, 1) := by decide +kernel
theorem dX7_init_47 : decode cX7_init 47 = .ok (.iconst 0, 1) := by decide +kernel
theorem dX7_init_48 : decode cX7_init 48 = .ok (.putfield 30, 3) := by decide +kernel
theorem dX7_init_51 : decode cX7_init 51 = .ok (.aload_n 0, 1) := by decide +kernel
theorem dX7_init_52 : decode cX7_init 52 = .ok (.bipush 34, 2) := by decide +kernel
theorem dX7_init_54 : decode cX7_init 54 = .ok (.newarray .int, 2) := by decide +kernel
theorem dX7_init_56 : decode cX7_init 56 = .ok (.putfield 34, 3) := by decide +kernel
theorem dX7_init_59 : decode cX7_init 59 = .ok (.aload_n 0, 1) := by decide +kernel
theorem dX7_init_60 : decode cX7_init 60 = .ok (.iconst 0, 1) := by decide +kernel
theorem dX7_init_61 : decode cX7_init 61 = .ok (.putfield 37, 3) := by decide +kernel
theorem dX7_init_64 : decode cX7_init 64 = .ok (.return_, 1) := by decide +kernel
set_option maxRecDepth 20000 in
theorem ggX7_join_X7_isRight : GoodIn wsX7_join wsX7_isRight := goodIn_r _ [8, 9] (by decide +kernel) (by decide +kernel)
set_option maxRecDepth 20000 in
theorem gX7_join_X7_isRight : GoodIn wsX7_join (va_wsS RX7 40 yX7_isRight wsX7_isRight) := goodIn_app (goodIn_of _ (by decide +kernel)) ggX7_join_X7_isRight
set_option maxRecDepth 20000 in
theorem ggX7_join_X7_bankWithRouting : GoodIn wsX7_join wsX7_bankWithRouting := goodIn_r _ [13, 1, 14, 15, 16, 17, 18, 19, 20, 21, 22, 23, 24, 25, 26, 27, 28, 29, 30, 31, 32, 33, 34, 35, 36, 37, 38, 134, 135, 136, 137, 138, 139, 140, 141, 142, 143, 144, 145, 146, 147, 148, 149] (by decide +kernel) (by decide +kernel)
set_option maxRecDepth 20000 in
theorem gX7_join_X7_bankWithRouting : GoodIn wsX7_join (wsV RX7 44 RX7 yX7_bankWithRouting wsX7_bankWithRouting) := goodIn_app (goodIn_of _ (by decide +kernel)) ggX7_join_X7_bankWithRouting
set_option maxRecDepth 20000 in
theorem ggX7_join_Jx4a65c_size_8abf5 : GoodIn wsX7_join wsJx4a65c_size_8abf5 := goodIn_r _ [20, 21, 147, 148, 149] (by decide +kernel) (by decide +kernel)
set_option maxRecDepth 20000 in
theorem gX7_join_Jx4a65c_size_8abf5 : GoodIn wsX7_join (wsV RX7 48 RJx4a65c yJx4a65c_size_8abf5 wsJx4a65c_size_8abf5) := goodIn_app (goodIn_of _ (by decide +kernel)) ggX7_join_Jx4a65c_size_8abf5
set_option maxRecDepth 20000 in
theorem ggX7_join_X1_init : GoodIn wsX7_join wsX1_init := goodIn_r _ [41, 42, 43, 44, 45, 46, 19, 47, 48, 49, 50, 51, 52, 53, 54, 55, 56, 57, 58, 38, 59, 60, 61, 62, 63, 64, 65, 66, 67, 68, 69, 70, 71, 72, 73, 74, 75, 76, 77, 78, 79, 80, 81, 147, 148, 149, 141, 142, 143, 144, 145, 146, 150, 151, 152, 153, 154, 155, 156, 157] (by decide +kernel) (by decide +kernel)
set_option maxRecDepth 20000 in
theorem gX7_join_X1_init : GoodIn wsX7_join (wsX1_init) := ggX7_join_X1_init
set_option maxRecDepth 20000 in
theorem ggX7_join_Jx4a65c_add_9ea2d : GoodIn wsX7_join wsJx4a65c_add_9ea2d := goodIn_r _ [85, 86, 87, 38, 21, 88, 89, 90, 19, 91, 92, 93, 94, 95, 96, 97, 98, 99, 58, 100, 101, 102, 103, 104, 105, 106, 107, 108, 109, 110, 111, 112, 113, 114, 115, 116, 117, 118, 119, 120, 121, 122, 123, 124, 125, 126, 127, 128, 129, 130, 131, 132, 133, 147, 148, 149] (by decide +kernel) (by decide +kernel)
set_option maxRecDepth 20000 in
theorem gX7_join_Jx4a65c_add_9ea2d : GoodIn wsX7_join (wsV RX7 57 RJx4a65c yJx4a65c_add_9ea2d wsJx4a65c_add_9ea2d) := goodIn_app (goodIn_of _ (by decide +kernel)) ggX7_join_Jx4a65c_add_9ea2d
theorem dX7_join_0 : decode cX7_join 0 = .ok (.iload_n 1, 1) := by decide +kernel
theorem dX7_join_1 : decode cX7_join 1 = .ok (.ifCond .lt 18, 3) := by decide +kernel
theorem dX7_join_4 : decode cX7_join 4 = .ok (.iload_n 1, 1) := by decide +kernel
theorem dX7_join_5 : decode cX7_join 5 = .ok (.sipush 9999, 3) := by decide +kernel
theorem dX7_join_8 : decode cX7_join 8 = .ok (.if_icmp .gt 11, 3) := by decide +kernel
theorem dX7_join_11 : decode cX7_join 11 = .ok (.iload_n 1, 1) := by decide +kernel
theorem dX7_join_12 : decode cX7_join 12 = .ok (.iconst 4, 1) := by decide +kernel
theorem dX7_join_13 : decode cX7_join 13 = .ok (.invokestatic 40, 3) := by decide +kernel
theorem dX7_join_16 : decode cX7_join 16 = .ok (.ifCond .ne 5, 3) := by decide +kernel
theorem dX7_join_19 : decode cX7_join 19 = .ok (.iconst (-1), 1) := by decide +kernel
theorem dX7_join_20 : decode cX7_join 20 = .ok (.ireturn, 1) := by decide +kernel
theorem dX7_join_21 : decode cX7_join 21 = .ok (.aload_n 0, 1) := by decide +kernel
theorem dX7_join_22 : decode cX7_join 22 = .ok (.iload_n 1, 1) := by decide +kernel
theorem dX7_join_23 : decode cX7_join 23 = .ok (.invokevirtual 44, 3) := by decide +kernel
theorem dX7_join_26 : decode cX7_join 26 = .ok (.ifnull 5, 3) := by decide +kernel
theorem dX7_join_29 : decode cX7_join 29 = .ok (.iconst (-1), 1) := by decide +kernel
theorem dX7_join_30 : decode cX7_join 30 = .ok (.ireturn, 1) := by decide +kernel
theorem dX7_join_31 : decode cX7_join 31 = .ok (.aload_n 0, 1) := by decide +kernel
theorem dX7_join_32 : decode cX7_join 32 = .ok (.getfield 10, 3) := by decide +kernel
theorem dX7_join_35 : decode cX7_join 35 = .ok (.invokevirtual 48, 3) := by decide +kernel
theorem dX7_join_38 : decode cX7_join 38 = .ok (.iconst 5, 1) := by decide +kernel
theorem dX7_join_39 : decode cX7_join 39 = .ok (.if_icmp .lt 6, 3) := by decide +kernel
theorem dX7_join_42 : decode cX7_join 42 = .ok (.bipush (-3), 2) := by decide +kernel
theorem dX7_join_44 : decode cX7_join 44 = .ok (.ireturn, 1) := by decide +kernel
theorem dX7_join_45 : decode cX7_join 45 = .ok (.aload_n 0, 1) := by decide +kernel
theorem dX7_join_46 : decode cX7_join 46 = .ok (.getfield 10, 3) := by decide +kernel
theorem dX7_join_49 : decode cX7_join 49 = .ok (.invokevirtual 48, 3) := by decide +kernel
theorem dX7_join_52 : decode cX7_join 52 = .ok (.istore_n 2, 1) := by decide +kernel
theorem dX7_join_53 : decode cX7_join 53 = .ok (.aload_n 0, 1) := by decide +kernel
theorem dX7_join_54 : decode cX7_join 54 = .ok (.getfield 10, 3) := by decide +kernel
theorem dX7_join_57 : decode cX7_join 57 = .ok (.new 52, 3) := by decide +kernel
theorem dX7_join_60 : decode cX7_join 60 = .ok (.dup, 1) := by decide +kernel
theorem dX7_join_61 : decode cX7_join 61 = .ok (.iload_n 2, 1) := by decide +kernel
theorem dX7_join_62 : decode cX7_join 62 = .ok (.iload_n 1, 1) := by decide +kernel
theorem dX7_join_63 : decode cX7_join 63 = .ok (.invokespecial 54, 3) := by decide +kernel
theorem dX7_join_66 : decode cX7_join 66 = .ok (.invokevirtual 57, 3) := by decide +kernel
theorem dX7_join_69 : decode cX7_join 69 = .ok (.pop, 1) := by decide +kernel
theorem dX7_join_70 : decode cX7_join 70 = .ok (.iload_n 2, 1) := by decide +kernel
theorem dX7_join_71 : decode cX7_join 71 = .ok (.ireturn, 1) := by decide +kernel
set_option maxRecDepth 20000 in
theorem ggX7_open_X7_bankAt : GoodIn wsX7_open wsX7_bankAt := goodIn_r _ [11, 12, 13, 14, 15, 16, 17, 18, 19, 20, 21, 22, 23, 24, 25, 26, 27, 28, 29, 30, 31, 32, 33, 34, 35, 36, 110, 111, 112, 113, 114, 115, 116, 121, 122, 123] (by decide +kernel) (by decide +kernel)
set_option maxRecDepth 20000 in
theorem gX7_open_X7_bankAt : GoodIn wsX7_open (wsV RX7 61 RX7 yX7_bankAt wsX7_bankAt) := goodIn_app (goodIn_of _ (by decide +kernel)) ggX7_open_X7_bankAt
set_option maxRecDepth 20000 in
theorem ggX7_open_X7_isRight : GoodIn wsX7_open wsX7_isRight := goodIn_r _ [39, 40] (by decide +kernel) (by decide +kernel)
set_option maxRecDepth 20000 in
theorem gX7_open_X7_isRight : GoodIn wsX7_open (va_wsS RX7 40 yX7_isRight wsX7_isRight) := goodIn_app (goodIn_of _ (by decide +kernel)) ggX7_open_X7_isRight
set_option maxRecDepth 20000 in
theorem ggX7_open_X7_accountOf : GoodIn wsX7_open wsX7_accountOf := goodIn_r _ [44, 3, 45, 46, 47, 14, 15, 16, 17, 18, 19, 20, 21, 22, 23, 24, 25, 26, 27, 28, 29, 30, 31, 32, 33, 34, 35, 36, 110, 111, 112, 113, 114, 115, 116, 117, 118, 119, 120, 121, 122, 123] (by decide +kernel) (by decide +kernel)
set_option maxRecDepth 20000 in
theorem gX7_open_X7_accountOf : GoodIn wsX7_open (wsV RX7 66 RX7 yX7_accountOf wsX7_accountOf) := goodIn_app (goodIn_of _ (by decide +kernel)) ggX7_open_X7_accountOf
set_option maxRecDepth 20000 in
theorem ggX7_open_Jx4a65c_size_8abf5 : GoodIn wsX7_open wsJx4a65c_size_8abf5 := goodIn_r _ [18, 19, 121, 122, 123] (by decide +kernel) (by decide +kernel)
set_option maxRecDepth 20000 in
theorem gX7_open_Jx4a65c_size_8abf5 : GoodIn wsX7_open (wsV RX7 48 RJx4a65c yJx4a65c_size_8abf5 wsJx4a65c_size_8abf5) := goodIn_app (goodIn_of _ (by decide +kernel)) ggX7_open_Jx4a65c_size_8abf5
set_option maxRecDepth 20000 in
theorem ggX7_open_X0_init : GoodIn wsX7_open wsX0_init := goodIn_r _ [50, 51, 52, 53, 54, 55, 56, 117, 118, 119, 120] (by decide +kernel) (by decide +kernel)
set_option maxRecDepth 20000 in
theorem gX7_open_X0_init : GoodIn wsX7_open (wsX0_init) := ggX7_open_X0_init
set_option maxRecDepth 20000 in
theorem ggX7_open_Jx4a65c_add_9ea2d : GoodIn wsX7_open wsJx4a65c_add_9ea2d := goodIn_r _ [60, 61, 62, 36, 19, 63, 64, 65, 17, 66, 67, 68, 69, 70, 71, 72, 73, 74, 75, 76, 77, 78, 79, 80, 81, 82, 83, 84, 85, 86, 87, 88, 89, 90, 91, 92, 93, 94, 95, 96, 97, 98, 99, 100, 101, 102, 103, 104, 105, 106, 107, 108, 109, 121, 122, 123] (by decide +kernel) (by decide +kernel)
set_option maxRecDepth 20000 in
theorem gX7_open_Jx4a65c_add_9ea2d : GoodIn wsX7_open (wsV RX7 57 RJx4a65c yJx4a65c_add_9ea2d wsJx4a65c_add_9ea2d) := goodIn_app (goodIn_of _ (by decide +kernel)) ggX7_open_Jx4a65c_add_9ea2d
theorem dX7_open_0 : decode cX7_open 0 = .ok (.aload_n 0, 1) := by decide +kernel
theorem dX7_open_1 : decode cX7_open 1 = .ok (.iload_n 1, 1) := by decide +kernel
theorem dX7_open_2 : decode cX7_open 2 = .ok (.invokevirtual 61, 3) := by decide +kernel
theorem dX7_open_5 : decode cX7_open 5 = .ok (.astore 4, 2) := by decide +kernel
theorem dX7_open_7 : decode cX7_open 7 = .ok (.aload 4, 2) := by decide +kernel
theorem dX7_open_9 : decode cX7_open 9 = .ok (.ifnull 13, 3) := by decide +kernel
theorem dX7_open_12 : decode cX7_open 12 = .ok (.iload_n 2, 1) := by decide +kernel
theorem dX7_open_13 : decode cX7_open 13 = .ok (.ifCond .lt 9, 3) := by decide +kernel
theorem dX7_open_16 : decode cX7_open 16 = .ok (.iload_n 2, 1) := by decide +kernel
theorem dX7_open_17 : decode cX7_open 17 = .ok (.ldc 64, 2) := by decide +kernel
theorem dX7_open_19 : decode cX7_open 19 = .ok (.if_icmp .le 5, 3) := by decide +kernel
theorem dX7_open_22 : decode cX7_open 22 = .ok (.iconst 0, 1) := by decide +kernel
theorem dX7_open_23 : decode cX7_open 23 = .ok (.ireturn, 1) := by decide +kernel
theorem dX7_open_24 : decode cX7_open 24 = .ok (.iload_n 2, 1) := by decide +kernel
theorem dX7_open_25 : decode cX7_open 25 = .ok (.bipush 6, 2) := by decide +kernel
theorem dX7_open_27 : decode cX7_open 27 = .ok (.invokestatic 40, 3) := by decide +kernel
theorem dX7_open_30 : decode cX7_open 30 = .ok (.ifCond .eq 13, 3) := by decide +kernel
theorem dX7_open_33 : decode cX7_open 33 = .ok (.iload_n 3, 1) := by decide +kernel
theorem dX7_open_34 : decode cX7_open 34 = .ok (.ifCond .lt 9, 3) := by decide +kernel
theorem dX7_open_37 : decode cX7_open 37 = .ok (.iload_n 3, 1) := by decide +kernel
theorem dX7_open_38 : decode cX7_open 38 = .ok (.ldc 65, 2) := by decide +kernel
theorem dX7_open_40 : decode cX7_open 40 = .ok (.if_icmp .le 5, 3) := by decide +kernel
theorem dX7_open_43 : decode cX7_open 43 = .ok (.iconst 0, 1) := by decide +kernel
theorem dX7_open_44 : decode cX7_open 44 = .ok (.ireturn, 1) := by decide +kernel
theorem dX7_open_45 : decode cX7_open 45 = .ok (.aload_n 0, 1) := by decide +kernel
theorem dX7_open_46 : decode cX7_open 46 = .ok (.aload 4, 2) := by decide +kernel
theorem dX7_open_48 : decode cX7_open 48 = .ok (.iload_n 2, 1) := by decide +kernel
theorem dX7_open_49 : decode cX7_open 49 = .ok (.invokevirtual 66, 3) := by decide +kernel
theorem dX7_open_52 : decode cX7_open 52 = .ok (.ifnonnull 15, 3) := by decide +kernel
theorem dX7_open_55 : decode cX7_open 55 = .ok (.aload_n 0, 1) := by decide +kernel
theorem dX7_open_56 : decode cX7_open 56 = .ok (.getfield 16, 3) := by decide +kernel
theorem dX7_open_59 : decode cX7_open 59 = .ok (.invokevirtual 48, 3) := by decide +kernel
theorem dX7_open_62 : decode cX7_open 62 = .ok (.bipush 12, 2) := by decide +kernel
theorem dX7_open_64 : decode cX7_open 64 = .ok (.if_icmp .lt 5, 3) := by decide +kernel
theorem dX7_open_67 : decode cX7_open 67 = .ok (.iconst 0, 1) := by decide +kernel
theorem dX7_open_68 : decode cX7_open 68 = .ok (.ireturn, 1) := by decide +kernel
theorem dX7_open_69 : decode cX7_open 69 = .ok (.aload_n 0, 1) := by decide +kernel
theorem dX7_open_70 : decode cX7_open 70 = .ok (.getfield 16, 3) := by decide +kernel
theorem dX7_open_73 : decode cX7_open 73 = .ok (.new 70, 3) := by decide +kernel
theorem dX7_open_76 : decode cX7_open 76 = .ok (.dup, 1) := by decide +kernel
theorem dX7_open_77 : decode cX7_open 77 = .ok (.aload 4, 2) := by decide +kernel
theorem dX7_open_79 : decode cX7_open 79 = .ok (.iload_n 2, 1) := by decide +kernel
theorem dX7_open_80 : decode cX7_open 80 = .ok (.iload_n 3, 1) := by decide +kernel
theorem dX7_open_81 : decode cX7_open 81 = .ok (.invokespecial 72, 3) := by decide +kernel
theorem dX7_open_84 : decode cX7_open 84 = .ok (.invokevirtual 57, 3) := by decide +kernel
theorem dX7_open_87 : decode cX7_open 87 = .ok (.pop, 1) := by decide +kernel
theorem dX7_open_88 : decode cX7_open 88 = .ok (.iconst 1, 1) := by decide +kernel
theorem dX7_open_89 : decode cX7_open 89 = .ok (.ireturn, 1) := by decide +kernel
set_option maxRecDepth 20000 in
theorem ggX7_shut_X7_bankAt : GoodIn wsX7_shut wsX7_bankAt := goodIn_r _ [6, 7, 8, 9, 10, 11, 12, 13, 14, 15, 16, 17, 18, 19, 20, 21, 22, 23, 24, 25, 26, 27, 28, 29, 30, 31, 44, 45, 46, 47, 48, 49, 50, 51, 52, 53] (by decide +kernel) (by decide +kernel)
set_option maxRecDepth 20000 in
theorem gX7_shut_X7_bankAt : GoodIn wsX7_shut (wsV RX7 61 RX7 yX7_bankAt wsX7_bankAt) := goodIn_app (goodIn_of _ (by decide +kernel)) ggX7_shut_X7_bankAt
set_option maxRecDepth 20000 in
theorem ggX7_shut_X7_accountOf : GoodIn wsX7_shut wsX7_accountOf := goodIn_r _ [35, 36, 37, 38, 39, 9, 10, 11, 12, 13, 14, 15, 16, 17, 18, 19, 20, 21, 22, 23, 24, 25, 26, 27, 28, 29, 30, 31, 44, 45, 46, 47, 48, 49, 50, 40, 41, 42, 43, 51, 52, 53] (by decide +kernel) (by decide +kernel)
set_option maxRecDepth 20000 in
theorem gX7_shut_X7_accountOf : GoodIn wsX7_shut (wsV RX7 66 RX7 yX7_accountOf wsX7_accountOf) := goodIn_app (goodIn_of _ (by decide +kernel)) ggX7_shut_X7_accountOf
theorem dX7_shut_0 : decode cX7_shut 0 = .ok (.aload_n 0, 1) := by decide +kernel
theorem dX7_shut_1 : decode cX7_shut 1 = .ok (.aload_n 0, 1) := by decide +kernel
theorem dX7_shut_2 : decode cX7_shut 2 = .ok (.iload_n 1, 1) := by decide +kernel
theorem dX7_shut_3 : decode cX7_shut 3 = .ok (.invokevirtual 61, 3) := by decide +kernel
theorem dX7_shut_6 : decode cX7_shut 6 = .ok (.iload_n 2, 1) := by decide +kernel
theorem dX7_shut_7 : decode cX7_shut 7 = .ok (.invokevirtual 66, 3) := by decide +kernel
theorem dX7_shut_10 : decode cX7_shut 10 = .ok (.astore_n 3, 1) := by decide +kernel
theorem dX7_shut_11 : decode cX7_shut 11 = .ok (.aload_n 3, 1) := by decide +kernel
theorem dX7_shut_12 : decode cX7_shut 12 = .ok (.ifnull 10, 3) := by decide +kernel
theorem dX7_shut_15 : decode cX7_shut 15 = .ok (.aload_n 3, 1) := by decide +kernel
theorem dX7_shut_16 : decode cX7_shut 16 = .ok (.getfield 75, 3) := by decide +kernel
theorem dX7_shut_19 : decode cX7_shut 19 = .ok (.ifCond .eq 5, 3) := by decide +kernel
theorem dX7_shut_22 : decode cX7_shut 22 = .ok (.iconst 0, 1) := by decide +kernel
theorem dX7_shut_23 : decode cX7_shut 23 = .ok (.ireturn, 1) := by decide +kernel
theorem dX7_shut_24 : decode cX7_shut 24 = .ok (.aload_n 3, 1) := by decide +kernel
theorem dX7_shut_25 : decode cX7_shut 25 = .ok (.iconst 1, 1) := by decide +kernel
theorem dX7_shut_26 : decode cX7_shut 26 = .ok (.putfield 75, 3) := by decide +kernel
theorem dX7_shut_29 : decode cX7_shut 29 = .ok (.iconst 1, 1) := by decide +kernel
theorem dX7_shut_30 : decode cX7_shut 30 = .ok (.ireturn, 1) := by decide +kernel
theorem dX7_day_0 : decode cX7_day 0 = .ok (.aload_n 0, 1) := by decide +kernel
theorem dX7_day_1 : decode cX7_day 1 = .ok (.dup, 1) := by decide +kernel
theorem dX7_day_2 : decode cX7_day 2 = .ok (.getfield 37, 3) := by decide +kernel
theorem dX7_day_5 : decode cX7_day 5 = .ok (.iconst 1, 1) := by decide +kernel
theorem dX7_day_6 : decode cX7_day 6 = .ok (.iadd, 1) := by decide +kernel
theorem dX7_day_7 : decode cX7_day 7 = .ok (.putfield 37, 3) := by decide +kernel
theorem dX7_day_10 : decode cX7_day 10 = .ok (.aload_n 0, 1) := by decide +kernel
theorem dX7_day_11 : decode cX7_day 11 = .ok (.getfield 37, 3) := by decide +kernel
theorem dX7_day_14 : decode cX7_day 14 = .ok (.ireturn, 1) := by decide +kernel
set_option maxRecDepth 20000 in
theorem ggX7_put_X7_isHalf : GoodIn wsX7_put wsX7_isHalf := goodIn_r _ [5, 6] (by decide +kernel) (by decide +kernel)
set_option maxRecDepth 20000 in
theorem gX7_put_X7_isHalf : GoodIn wsX7_put (va_wsS RX7 79 yX7_isHalf wsX7_isHalf) := goodIn_app (goodIn_of _ (by decide +kernel)) ggX7_put_X7_isHalf
set_option maxRecDepth 20000 in
theorem ggX7_put_X7_digits : GoodIn wsX7_put wsX7_digits := goodIn_r _ [9, 10] (by decide +kernel) (by decide +kernel)
set_option maxRecDepth 20000 in
theorem gX7_put_X7_digits : GoodIn wsX7_put (va_wsS RX7 83 yX7_digits wsX7_digits) := goodIn_app (goodIn_of _ (by decide +kernel)) ggX7_put_X7_digits
set_option maxRecDepth 20000 in
theorem ggX7_put_X4_allows : GoodIn wsX7_put wsX4_allows := goodIn_r _ [15, 16, 17, 271, 272, 273, 274, 275, 276, 277, 278] (by decide +kernel) (by decide +kernel)
set_option maxRecDepth 20000 in
theorem gX7_put_X4_allows : GoodIn wsX7_put (wsV RX7 87 RX4 yX4_allows wsX4_allows) := goodIn_app (goodIn_of _ (by decide +kernel)) ggX7_put_X4_allows
set_option maxRecDepth 20000 in
theorem ggX7_put_X4_end : GoodIn wsX7_put wsX4_end := goodIn_r _ [21, 16, 271, 272, 273, 274, 275, 276, 277, 278] (by decide +kernel) (by decide +kernel)
set_option maxRecDepth 20000 in
theorem gX7_put_X4_end : GoodIn wsX7_put (wsV RX7 91 RX4 yX4_end wsX4_end) := goodIn_app (goodIn_of _ (by decide +kernel)) ggX7_put_X4_end
set_option maxRecDepth 20000 in
theorem ggX7_put_X4_begin : GoodIn wsX7_put wsX4_begin := goodIn_r _ [25, 26, 27, 28, 29, 17, 16, 30, 31, 32, 33, 34, 35, 36, 37, 38, 271, 272, 273, 274, 275, 276, 277, 278, 279, 280, 281, 282] (by decide +kernel) (by decide +kernel)
set_option maxRecDepth 20000 in
theorem gX7_put_X4_begin : GoodIn wsX7_put (wsV RX7 94 RX4 yX4_begin wsX4_begin) := goodIn_app (goodIn_of _ (by decide +kernel)) ggX7_put_X4_begin
set_option maxRecDepth 20000 in
theorem ggX7_put_X7_beginBatch : GoodIn wsX7_put wsX7_beginBatch := goodIn_r _ [42, 1, 43, 44, 45, 46, 18, 19, 20, 14, 21, 16, 7, 8, 4, 9, 10, 47, 48, 49, 50, 51, 52, 53, 54, 55, 56, 57, 58, 59, 60, 61, 62, 63, 64, 65, 66, 67, 68, 31, 32, 33, 34, 35, 36, 37, 38, 264, 265, 266, 267, 268, 269, 270, 271, 272, 273, 274, 275, 276, 277, 278, 283, 284, 285, 286, 287, 288, 289, 290, 291, 292, 293, 294, 279, 280, 281, 282] (by decide +kernel) (by decide +kernel)
set_option maxRecDepth 20000 in
theorem gX7_put_X7_beginBatch : GoodIn wsX7_put (wsV RX7 97 RX7 yX7_beginBatch wsX7_beginBatch) := goodIn_app (goodIn_of _ (by decide +kernel)) ggX7_put_X7_beginBatch
set_option maxRecDepth 20000 in
theorem ggX7_put_X7_addEntry : GoodIn wsX7_put wsX7_addEntry := goodIn_r _ [72, 1, 73, 74, 75, 76, 77, 78, 79, 80, 81, 82, 83, 45, 18, 19, 20, 14, 21, 16, 84, 85, 86, 87, 88, 7, 8, 4, 9, 10, 89, 90, 91, 50, 92, 55, 56, 93, 57, 58, 94, 95, 96, 62, 97, 64, 65, 66, 67, 98, 99, 100, 101, 102, 103, 104, 105, 106, 107, 108, 109, 110, 111, 112, 113, 114, 115, 116, 117, 118, 119, 120, 121, 122, 123, 124, 125, 126, 127, 128, 129, 130, 131, 132, 133, 134, 135, 136, 137, 138, 139, 140, 141, 142, 143, 144, 145, 146, 147, 33, 148, 35, 36, 149, 150, 37, 151, 38, 152, 264, 265, 266, 267, 268, 269, 270, 271, 272, 273, 274, 275, 276, 277, 278, 279, 280, 281, 282, 295, 296, 297, 298, 299, 300, 301, 302, 303, 283, 284, 285, 286, 287, 288, 289, 290, 291, 292, 293, 294] (by decide +kernel) (by decide +kernel)
set_option maxRecDepth 20000 in
theorem gX7_put_X7_addEntry : GoodIn wsX7_put (wsV RX7 101 RX7 yX7_addEntry wsX7_addEntry) := goodIn_app (goodIn_of _ (by decide +kernel)) ggX7_put_X7_addEntry
set_option maxRecDepth 20000 in
theorem ggX7_put_X7_endBatch : GoodIn wsX7_put wsX7_endBatch := goodIn_r _ [156, 1, 45, 157, 158, 46, 7, 8, 4, 9, 10, 159, 160, 161, 33, 162, 35, 36, 37, 38, 264, 265, 266, 267, 268, 269, 270, 271, 272, 273, 274, 275, 276, 277, 278, 283, 284, 285, 286, 287, 288, 289, 290, 291, 279, 280, 281, 282] (by decide +kernel) (by decide +kernel)
set_option maxRecDepth 20000 in
theorem gX7_put_X7_endBatch : GoodIn wsX7_put (wsV RX7 104 RX7 yX7_endBatch wsX7_endBatch) := goodIn_app (goodIn_of _ (by decide +kernel)) ggX7_put_X7_endBatch
set_option maxRecDepth 20000 in
theorem ggX7_put_X7_endFile : GoodIn wsX7_put wsX7_endFile := goodIn_r _ [166, 1, 18, 19, 20, 14, 21, 16, 167, 168, 169, 4, 170, 171, 43, 73, 172, 173, 174, 175, 176, 177, 178, 179, 180, 181, 62, 182, 67, 183, 184, 185, 186, 187, 188, 189, 190, 191, 192, 193, 194, 195, 196, 197, 198, 66, 199, 200, 201, 202, 203, 204, 205, 206, 207, 208, 209, 7, 8, 9, 10, 159, 160, 161, 33, 162, 35, 36, 37, 38, 210, 211, 212, 213, 214, 215, 216, 217, 218, 44, 219, 220, 221, 222, 223, 224, 225, 226, 227, 158, 228, 229, 230, 231, 232, 233, 234, 235, 236, 80, 237, 238, 239, 240, 241, 79, 82, 242, 243, 244, 245, 246, 247, 248, 249, 250, 251, 252, 253, 254, 255, 256, 257, 258, 259, 260, 261, 262, 263, 95, 96, 97, 64, 65, 98, 99, 100, 101, 102, 103, 104, 105, 106, 107, 108, 109, 110, 111, 112, 113, 114, 115, 116, 117, 118, 119, 120, 121, 122, 123, 124, 125, 126, 127, 128, 129, 130, 131, 132, 133, 134, 135, 136, 137, 138, 139, 140, 141, 142, 143, 144, 264, 265, 266, 267, 268, 269, 270, 271, 272, 273, 274, 275, 276, 277, 278, 304, 305, 306, 307, 308, 309, 292, 293, 294, 279, 280, 281, 282, 283, 284, 285, 286, 287, 288, 289, 290, 291, 295, 296, 297, 298, 299, 300, 301, 302, 303] (by decide +kernel) (by decide +kernel)
set_option maxRecDepth 20000 in
theorem gX7_put_X7_endFile : GoodIn wsX7_put (wsV RX7 108 RX7 yX7_endFile wsX7_endFile) := goodIn_app (goodIn_of _ (by decide +kernel)) ggX7_put_X7_endFile
theorem dX7_put_0 : decode cX7_put 0 = .ok (.lload_n 1, 1) := by decide +kernel
theorem dX7_put_1 : decode cX7_put 1 = .ok (.invokestatic 79, 3) := by decide +kernel
theorem dX7_put_4 : decode cX7_put 4 = .ok (.ifCond .eq 10, 3) := by decide +kernel
theorem dX7_put_7 : decode cX7_put 7 = .ok (.lload_n 3, 1) := by decide +kernel
theorem dX7_put_8 : decode cX7_put 8 = .ok (.invokestatic 79, 3) := by decide +kernel
theorem dX7_put_11 : decode cX7_put 11 = .ok (.ifCond .ne 5, 3) := by decide +kernel
theorem dX7_put_14 : decode cX7_put 14 = .ok (.iconst (-1), 1) := by decide +kernel
theorem dX7_put_15 : decode cX7_put 15 = .ok (.ireturn, 1) := by decide +kernel
theorem dX7_put_16 : decode cX7_put 16 = .ok (.lload_n 1, 1) := by decide +kernel
theorem dX7_put_17 : decode cX7_put 17 = .ok (.lload_n 3, 1) := by decide +kernel
theorem dX7_put_18 : decode cX7_put 18 = .ok (.iconst 0, 1) := by decide +kernel
theorem dX7_put_19 : decode cX7_put 19 = .ok (.iconst 0, 1) := by decide +kernel
theorem dX7_put_20 : decode cX7_put 20 = .ok (.invokestatic 83, 3) := by decide +kernel
theorem dX7_put_23 : decode cX7_put 23 = .ok (.istore 5, 2) := by decide +kernel
theorem dX7_put_25 : decode cX7_put 25 = .ok (.aload_n 0, 1) := by decide +kernel
theorem dX7_put_26 : decode cX7_put 26 = .ok (.getfield 22, 3) := by decide +kernel
theorem dX7_put_29 : decode cX7_put 29 = .ok (.iload 5, 2) := by decide +kernel
theorem dX7_put_31 : decode cX7_put 31 = .ok (.invokevirtual 87, 3) := by decide +kernel
theorem dX7_put_34 : decode cX7_put 34 = .ok (.ifCond .ne 13, 3) := by decide +kernel
theorem dX7_put_37 : decode cX7_put 37 = .ok (.aload_n 0, 1) := by decide +kernel
theorem dX7_put_38 : decode cX7_put 38 = .ok (.getfield 22, 3) := by decide +kernel
theorem dX7_put_41 : decode cX7_put 41 = .ok (.invokevirtual 91, 3) := by decide +kernel
theorem dX7_put_44 : decode cX7_put 44 = .ok (.bipush (-2), 2) := by decide +kernel
theorem dX7_put_46 : decode cX7_put 46 = .ok (.ireturn, 1) := by decide +kernel
theorem dX7_put_47 : decode cX7_put 47 = .ok (.iload 5, 2) := by decide +kernel
theorem dX7_put_49 : decode cX7_put 49 = .ok (.tableswitch 93 1 8 #[47, 93, 93, 93, 71, 78, 93, 85], 47) := by decide +kernel
theorem dX7_put_96 : decode cX7_put 96 = .ok (.aload_n 0, 1) := by decide +kernel
theorem dX7_put_97 : decode cX7_put 97 = .ok (.getfield 22, 3) := by decide +kernel
theorem dX7_put_100 : decode cX7_put 100 = .ok (.lload_n 1, 1) := by decide +kernel
theorem dX7_put_101 : decode cX7_put 101 = .ok (.lload_n 3, 1) := by decide +kernel
theorem dX7_put_102 : decode cX7_put 102 = .ok (.iconst 1, 1) := by decide +kernel
theorem dX7_put_103 : decode cX7_put 103 = .ok (.iconst 4, 1) := by decide +kernel
theorem dX7_put_104 : decode cX7_put 104 = .ok (.invokestatic 83, 3) := by decide +kernel
theorem dX7_put_107 : decode cX7_put 107 = .ok (.lload_n 1, 1) := by decide +kernel
theorem dX7_put_108 : decode cX7_put 108 = .ok (.lload_n 3, 1) := by decide +kernel
theorem dX7_put_109 : decode cX7_put 109 = .ok (.iconst 5, 1) := by decide +kernel
theorem dX7_put_110 : decode cX7_put 110 = .ok (.bipush 8, 2) := by decide +kernel
theorem dX7_put_112 : decode cX7_put 112 = .ok (.invokestatic 83, 3) := by decide +kernel
theorem dX7_put_115 : decode cX7_put 115 = .ok (.invokevirtual 94, 3) := by decide +kernel
theorem dX7_put_118 : decode cX7_put 118 = .ok (.iconst 0, 1) := by decide +kernel
theorem dX7_put_119 : decode cX7_put 119 = .ok (.ireturn, 1) := by decide +kernel
theorem dX7_put_120 : decode cX7_put 120 = .ok (.aload_n 0, 1) := by decide +kernel
theorem dX7_put_121 : decode cX7_put 121 = .ok (.lload_n 1, 1) := by decide +kernel
theorem dX7_put_122 : decode cX7_put 122 = .ok (.lload_n 3, 1) := by decide +kernel
theorem dX7_put_123 : decode cX7_put 123 = .ok (.invokevirtual 97, 3) := by decide +kernel
theorem dX7_put_126 : decode cX7_put 126 = .ok (.ireturn, 1) := by decide +kernel
theorem dX7_put_127 : decode cX7_put 127 = .ok (.aload_n 0, 1) := by decide +kernel
theorem dX7_put_128 : decode cX7_put 128 = .ok (.lload_n 1, 1) := by decide +kernel
theorem dX7_put_129 : decode cX7_put 129 = .ok (.lload_n 3, 1) := by decide +kernel
theorem dX7_put_130 : decode cX7_put 130 = .ok (.invokevirtual 101, 3) := by decide +kernel
theorem dX7_put_133 : decode cX7_put 133 = .ok (.ireturn, 1) := by decide +kernel
theorem dX7_put_134 : decode cX7_put 134 = .ok (.aload_n 0, 1) := by decide +kernel
theorem dX7_put_135 : decode cX7_put 135 = .ok (.lload_n 1, 1) := by decide +kernel
theorem dX7_put_136 : decode cX7_put 136 = .ok (.lload_n 3, 1) := by decide +kernel
theorem dX7_put_137 : decode cX7_put 137 = .ok (.invokevirtual 104, 3) := by decide +kernel
theorem dX7_put_140 : decode cX7_put 140 = .ok (.iconst 0, 1) := by decide +kernel
theorem dX7_put_141 : decode cX7_put 141 = .ok (.ireturn, 1) := by decide +kernel
theorem dX7_put_142 : decode cX7_put 142 = .ok (.aload_n 0, 1) := by decide +kernel
theorem dX7_put_143 : decode cX7_put 143 = .ok (.lload_n 1, 1) := by decide +kernel
theorem dX7_put_144 : decode cX7_put 144 = .ok (.lload_n 3, 1) := by decide +kernel
theorem dX7_put_145 : decode cX7_put 145 = .ok (.invokevirtual 108, 3) := by decide +kernel
theorem dX7_put_148 : decode cX7_put 148 = .ok (.ireturn, 1) := by decide +kernel
set_option maxRecDepth 20000 in
theorem ggX7_window_X7_bankAt : GoodIn wsX7_window wsX7_bankAt := goodIn_r _ [6, 7, 8, 9, 10, 11, 12, 13, 14, 15, 16, 17, 18, 19, 20, 21, 22, 23, 24, 25, 26, 27, 28, 29, 30, 31, 185, 186, 187, 188, 189, 190, 191, 192, 193, 194] (by decide +kernel) (by decide +kernel)
set_option maxRecDepth 20000 in
theorem gX7_window_X7_bankAt : GoodIn wsX7_window (wsV RX7 61 RX7 yX7_bankAt wsX7_bankAt) := goodIn_app (goodIn_of _ (by decide +kernel)) ggX7_window_X7_bankAt
set_option maxRecDepth 20000 in
theorem ggX7_window_X5_isDone : GoodIn wsX7_window wsX5_isDone := goodIn_r _ [36, 37, 38, 39, 10, 11, 12, 13, 14, 195, 196, 197, 198, 192, 193, 194] (by decide +kernel) (by decide +kernel)
set_option maxRecDepth 20000 in
theorem gX7_window_X5_isDone : GoodIn wsX7_window (wsV RX7 115 RX5 yX5_isDone wsX5_isDone) := goodIn_app (goodIn_of _ (by decide +kernel)) ggX7_window_X5_isDone
set_option maxRecDepth 20000 in
theorem ggX7_window_X5_clear : GoodIn wsX7_window wsX5_clear := goodIn_r _ [43, 38, 44, 45, 37, 46, 47, 48, 12, 49, 50, 51, 31, 14, 52, 53, 54, 55, 56, 57, 58, 59, 60, 195, 196, 197, 198, 192, 193, 194, 199, 200, 201, 202] (by decide +kernel) (by decide +kernel)
set_option maxRecDepth 20000 in
theorem gX7_window_X5_clear : GoodIn wsX7_window (wsV RX7 121 RX5 yX5_clear wsX5_clear) := goodIn_app (goodIn_of _ (by decide +kernel)) ggX7_window_X5_clear
set_option maxRecDepth 20000 in
theorem ggX7_window_X7_handOutReturns : GoodIn wsX7_window wsX7_handOutReturns := goodIn_r _ [63, 64, 65, 1, 9, 10, 11, 12, 13, 14, 15, 16, 17, 18, 19, 20, 21, 22, 23, 24, 25, 26, 27, 28, 29, 30, 31, 66, 67, 68, 35, 69, 38, 44, 45, 70, 71, 72, 73, 50, 51, 74, 75, 76, 77, 78, 79, 80, 81, 82, 83, 84, 85, 86, 87, 88, 89, 90, 91, 92, 93, 94, 95, 96, 97, 98, 99, 100, 101, 102, 103, 104, 105, 106, 107, 108, 109, 110, 111, 112, 113, 114, 115, 116, 117, 118, 119, 120, 121, 122, 123, 55, 124, 57, 58, 125, 126, 59, 127, 60, 128, 129, 5, 130, 131, 132, 133, 134, 135, 136, 47, 48, 49, 179, 180, 181, 182, 183, 184, 192, 193, 194, 195, 196, 197, 198, 199, 200, 201, 202, 203, 204, 205, 206, 207, 208, 209, 210, 211] (by decide +kernel) (by decide +kernel)
set_option maxRecDepth 20000 in
theorem gX7_window_X7_handOutReturns : GoodIn wsX7_window (va_wsS RX7 124 yX7_handOutReturns wsX7_handOutReturns) := goodIn_app (goodIn_of _ (by decide +kernel)) ggX7_window_X7_handOutReturns
set_option maxRecDepth 20000 in
theorem ggX7_window_X7_handOutEntries : GoodIn wsX7_window wsX7_handOutEntries := goodIn_r _ [140, 141, 65, 142, 143, 1, 9, 10, 11, 12, 13, 14, 15, 16, 17, 18, 19, 20, 21, 22, 23, 24, 25, 26, 27, 28, 29, 30, 31, 144, 145, 146, 35, 147, 38, 45, 148, 44, 39, 149, 150, 151, 152, 153, 154, 155, 156, 157, 158, 159, 160, 161, 50, 51, 162, 118, 119, 120, 163, 164, 165, 166, 78, 79, 80, 81, 82, 83, 84, 85, 86, 87, 88, 89, 90, 91, 92, 93, 94, 95, 96, 97, 98, 99, 100, 101, 102, 103, 104, 105, 106, 107, 108, 109, 110, 111, 112, 113, 114, 115, 116, 117, 121, 122, 123, 55, 124, 57, 58, 125, 126, 59, 127, 60, 128, 129, 5, 130, 131, 132, 133, 134, 135, 167, 168, 169, 170, 171, 172, 173, 174, 179, 180, 181, 182, 183, 184, 203, 204, 205, 206, 207, 208, 209, 210, 211, 185, 186, 187, 188, 189, 190, 191, 192, 193, 194, 195, 196, 197, 198, 199, 200, 201, 202] (by decide +kernel) (by decide +kernel)
set_option maxRecDepth 20000 in
theorem gX7_window_X7_handOutEntries : GoodIn wsX7_window (wsV RX7 128 RX7 yX7_handOutEntries wsX7_handOutEntries) := goodIn_app (goodIn_of _ (by decide +kernel)) ggX7_window_X7_handOutEntries
set_option maxRecDepth 20000 in
theorem ggX7_window_X5_size : GoodIn wsX7_window wsX5_size := goodIn_r _ [178, 38, 39, 10, 11, 12, 13, 14, 195, 196, 197, 198, 192, 193, 194] (by decide +kernel) (by decide +kernel)
set_option maxRecDepth 20000 in
theorem gX7_window_X5_size : GoodIn wsX7_window (wsV RX7 131 RX5 yX5_size wsX5_size) := goodIn_app (goodIn_of _ (by decide +kernel)) ggX7_window_X5_size
theorem dX7_window_0 : decode cX7_window 0 = .ok (.aload_n 0, 1) := by decide +kernel
theorem dX7_window_1 : decode cX7_window 1 = .ok (.iload_n 1, 1) := by decide +kernel
theorem dX7_window_2 : decode cX7_window 2 = .ok (.invokevirtual 61, 3) := by decide +kernel
theorem dX7_window_5 : decode cX7_window 5 = .ok (.astore_n 2, 1) := by decide +kernel
theorem dX7_window_6 : decode cX7_window 6 = .ok (.aload_n 2, 1) := by decide +kernel
theorem dX7_window_7 : decode cX7_window 7 = .ok (.ifnonnull 5, 3) := by decide +kernel
theorem dX7_window_10 : decode cX7_window 10 = .ok (.iconst (-1), 1) := by decide +kernel
theorem dX7_window_11 : decode cX7_window 11 = .ok (.ireturn, 1) := by decide +kernel
theorem dX7_window_12 : decode cX7_window 12 = .ok (.aload_n 2, 1) := by decide +kernel
theorem dX7_window_13 : decode cX7_window 13 = .ok (.getfield 111, 3) := by decide +kernel
theorem dX7_window_16 : decode cX7_window 16 = .ok (.invokevirtual 115, 3) := by decide +kernel
theorem dX7_window_19 : decode cX7_window 19 = .ok (.ifCond .ne 6, 3) := by decide +kernel
theorem dX7_window_22 : decode cX7_window 22 = .ok (.bipush (-4), 2) := by decide +kernel
theorem dX7_window_24 : decode cX7_window 24 = .ok (.ireturn, 1) := by decide +kernel
theorem dX7_window_25 : decode cX7_window 25 = .ok (.aload_n 2, 1) := by decide +kernel
theorem dX7_window_26 : decode cX7_window 26 = .ok (.getfield 111, 3) := by decide +kernel
theorem dX7_window_29 : decode cX7_window 29 = .ok (.invokevirtual 121, 3) := by decide +kernel
theorem dX7_window_32 : decode cX7_window 32 = .ok (.aload_n 2, 1) := by decide +kernel
theorem dX7_window_33 : decode cX7_window 33 = .ok (.invokestatic 124, 3) := by decide +kernel
theorem dX7_window_36 : decode cX7_window 36 = .ok (.aload_n 0, 1) := by decide +kernel
theorem dX7_window_37 : decode cX7_window 37 = .ok (.aload_n 2, 1) := by decide +kernel
theorem dX7_window_38 : decode cX7_window 38 = .ok (.invokevirtual 128, 3) := by decide +kernel
theorem dX7_window_41 : decode cX7_window 41 = .ok (.aload_n 2, 1) := by decide +kernel
theorem dX7_window_42 : decode cX7_window 42 = .ok (.getfield 111, 3) := by decide +kernel
theorem dX7_window_45 : decode cX7_window 45 = .ok (.invokevirtual 131, 3) := by decide +kernel
theorem dX7_window_48 : decode cX7_window 48 = .ok (.ireturn, 1) := by decide +kernel
set_option maxRecDepth 20000 in
theorem ggX7_post_X7_bankAt : GoodIn wsX7_post wsX7_bankAt := goodIn_r _ [13, 14, 15, 16, 17, 18, 19, 20, 21, 22, 23, 24, 25, 26, 27, 28, 29, 30, 31, 32, 33, 34, 35, 36, 37, 38, 148, 149, 150, 151, 152, 153, 154, 155, 156, 157] (by decide +kernel) (by decide +kernel)
set_option maxRecDepth 20000 in
theorem gX7_post_X7_bankAt : GoodIn wsX7_post (wsV RX7 61 RX7 yX7_bankAt wsX7_bankAt) := goodIn_app (goodIn_of _ (by decide +kernel)) ggX7_post_X7_bankAt
set_option maxRecDepth 20000 in
theorem ggX7_post_X5_size : GoodIn wsX7_post wsX5_size := goodIn_r _ [43, 44, 45, 17, 18, 19, 20, 21, 144, 145, 146, 147, 155, 156, 157] (by decide +kernel) (by decide +kernel)
set_option maxRecDepth 20000 in
theorem gX7_post_X5_size : GoodIn wsX7_post (wsV RX7 131 RX5 yX5_size wsX5_size) := goodIn_app (goodIn_of _ (by decide +kernel)) ggX7_post_X5_size
set_option maxRecDepth 20000 in
theorem ggX7_post_X5_isReturn : GoodIn wsX7_post wsX5_isReturn := goodIn_r _ [49, 50, 144, 145, 146, 147] (by decide +kernel) (by decide +kernel)
set_option maxRecDepth 20000 in
theorem gX7_post_X5_isReturn : GoodIn wsX7_post (wsV RX7 141 RX5 yX5_isReturn wsX5_isReturn) := goodIn_app (goodIn_of _ (by decide +kernel)) ggX7_post_X5_isReturn
set_option maxRecDepth 20000 in
theorem ggX7_post_Jx4a65c_get_915e3 : GoodIn wsX7_post wsJx4a65c_get_915e3 := goodIn_r _ [25, 21, 26, 27, 28, 29, 30, 31, 32, 33, 34, 35, 36, 19, 37, 38, 155, 156, 157] (by decide +kernel) (by decide +kernel)
set_option maxRecDepth 20000 in
theorem gX7_post_Jx4a65c_get_915e3 : GoodIn wsX7_post (wsV RX7 147 RJx4a65c yJx4a65c_get_915e3 wsJx4a65c_get_915e3) := goodIn_app (goodIn_of _ (by decide +kernel)) ggX7_post_Jx4a65c_get_915e3
set_option maxRecDepth 20000 in
theorem ggX7_post_X7_postOrSendBack : GoodIn wsX7_post wsX7_postOrSendBack := goodIn_r _ [54, 55, 56, 57, 58, 59, 60, 61, 62, 63, 12, 64, 65, 66, 67, 68, 16, 17, 18, 19, 20, 21, 22, 23, 24, 25, 26, 27, 28, 29, 30, 31, 32, 33, 34, 35, 36, 37, 38, 69, 70, 71, 72, 73, 74, 75, 76, 77, 78, 79, 80, 81, 82, 83, 84, 85, 86, 87, 88, 89, 90, 91, 92, 93, 94, 95, 96, 97, 98, 99, 100, 101, 102, 103, 104, 105, 106, 107, 108, 5, 109, 110, 111, 112, 113, 114, 115, 116, 117, 118, 119, 120, 121, 122, 123, 124, 125, 126, 127, 128, 129, 130, 131, 132, 133, 4, 6, 134, 135, 136, 137, 158, 159, 160, 161, 162, 163, 164, 165, 166, 167, 168, 169, 170, 148, 149, 150, 151, 152, 153, 154, 155, 156, 157, 138, 139, 140, 141, 142, 143] (by decide +kernel) (by decide +kernel)
set_option maxRecDepth 20000 in
theorem gX7_post_X7_postOrSendBack : GoodIn wsX7_post (wsV RX7 153 RX7 yX7_postOrSendBack wsX7_postOrSendBack) := goodIn_app (goodIn_of _ (by decide +kernel)) ggX7_post_X7_postOrSendBack
theorem dX7_post_0 : decode cX7_post 0 = .ok (.aload_n 0, 1) := by decide +kernel
theorem dX7_post_1 : decode cX7_post 1 = .ok (.iload_n 1, 1) := by decide +kernel
theorem dX7_post_2 : decode cX7_post 2 = .ok (.invokevirtual 61, 3) := by decide +kernel
theorem dX7_post_5 : decode cX7_post 5 = .ok (.astore_n 3, 1) := by decide +kernel
theorem dX7_post_6 : decode cX7_post 6 = .ok (.aload_n 3, 1) := by decide +kernel
theorem dX7_post_7 : decode cX7_post 7 = .ok (.ifnull 14, 3) := by decide +kernel
theorem dX7_post_10 : decode cX7_post 10 = .ok (.iload_n 2, 1) := by decide +kernel
theorem dX7_post_11 : decode cX7_post 11 = .ok (.iconst 1, 1) := by decide +kernel
theorem dX7_post_12 : decode cX7_post 12 = .ok (.if_icmp .lt 9, 3) := by decide +kernel
theorem dX7_post_15 : decode cX7_post 15 = .ok (.iload_n 2, 1) := by decide +kernel
theorem dX7_post_16 : decode cX7_post 16 = .ok (.bipush 40, 2) := by decide +kernel
theorem dX7_post_18 : decode cX7_post 18 = .ok (.if_icmp .le 5, 3) := by decide +kernel
theorem dX7_post_21 : decode cX7_post 21 = .ok (.iconst (-1), 1) := by decide +kernel
theorem dX7_post_22 : decode cX7_post 22 = .ok (.ireturn, 1) := by decide +kernel
theorem dX7_post_23 : decode cX7_post 23 = .ok (.aload_n 3, 1) := by decide +kernel
theorem dX7_post_24 : decode cX7_post 24 = .ok (.getfield 111, 3) := by decide +kernel
theorem dX7_post_27 : decode cX7_post 27 = .ok (.astore 4, 2) := by decide +kernel
theorem dX7_post_29 : decode cX7_post 29 = .ok (.aload 4, 2) := by decide +kernel
theorem dX7_post_31 : decode cX7_post 31 = .ok (.getfield 132, 3) := by decide +kernel
theorem dX7_post_34 : decode cX7_post 34 = .ok (.iload_n 2, 1) := by decide +kernel
theorem dX7_post_35 : decode cX7_post 35 = .ok (.iadd, 1) := by decide +kernel
theorem dX7_post_36 : decode cX7_post 36 = .ok (.aload 4, 2) := by decide +kernel
theorem dX7_post_38 : decode cX7_post 38 = .ok (.invokevirtual 131, 3) := by decide +kernel
theorem dX7_post_41 : decode cX7_post 41 = .ok (.invokestatic 135, 3) := by decide +kernel
theorem dX7_post_44 : decode cX7_post 44 = .ok (.istore 5, 2) := by decide +kernel
theorem dX7_post_46 : decode cX7_post 46 = .ok (.iconst 0, 1) := by decide +kernel
theorem dX7_post_47 : decode cX7_post 47 = .ok (.istore 6, 2) := by decide +kernel
theorem dX7_post_49 : decode cX7_post 49 = .ok (.aload 4, 2) := by decide +kernel
theorem dX7_post_51 : decode cX7_post 51 = .ok (.getfield 132, 3) := by decide +kernel
theorem dX7_post_54 : decode cX7_post 54 = .ok (.istore 7, 2) := by decide +kernel
theorem dX7_post_56 : decode cX7_post 56 = .ok (.iload 7, 2) := by decide +kernel
theorem dX7_post_58 : decode cX7_post 58 = .ok (.iload 5, 2) := by decide +kernel
theorem dX7_post_60 : decode cX7_post 60 = .ok (.if_icmp .ge 42, 3) := by decide +kernel
theorem dX7_post_63 : decode cX7_post 63 = .ok (.aload 4, 2) := by decide +kernel
theorem dX7_post_65 : decode cX7_post 65 = .ok (.iload 7, 2) := by decide +kernel
theorem dX7_post_67 : decode cX7_post 67 = .ok (.invokevirtual 141, 3) := by decide +kernel
theorem dX7_post_70 : decode cX7_post 70 = .ok (.ifCond .ne 26, 3) := by decide +kernel
theorem dX7_post_73 : decode cX7_post 73 = .ok (.aload_n 0, 1) := by decide +kernel
theorem dX7_post_74 : decode cX7_post 74 = .ok (.aload 4, 2) := by decide +kernel
theorem dX7_post_76 : decode cX7_post 76 = .ok (.getfield 144, 3) := by decide +kernel
theorem dX7_post_79 : decode cX7_post 79 = .ok (.iload 7, 2) := by decide +kernel
theorem dX7_post_81 : decode cX7_post 81 = .ok (.invokevirtual 147, 3) := by decide +kernel
theorem dX7_post_84 : decode cX7_post 84 = .ok (.checkcast 151, 3) := by decide +kernel
theorem dX7_post_87 : decode cX7_post 87 = .ok (.invokevirtual 153, 3) := by decide +kernel
theorem dX7_post_90 : decode cX7_post 90 = .ok (.ifCond .eq 6, 3) := by decide +kernel
theorem dX7_post_93 : decode cX7_post 93 = .ok (.iinc 6 1, 3) := by decide +kernel
theorem dX7_post_96 : decode cX7_post 96 = .ok (.iinc 7 1, 3) := by decide +kernel
theorem dX7_post_99 : decode cX7_post 99 = .ok (.goto (-43), 3) := by decide +kernel
theorem dX7_post_102 : decode cX7_post 102 = .ok (.aload 4, 2) := by decide +kernel
theorem dX7_post_104 : decode cX7_post 104 = .ok (.iload 5, 2) := by decide +kernel
theorem dX7_post_106 : decode cX7_post 106 = .ok (.putfield 132, 3) := by decide +kernel
theorem dX7_post_109 : decode cX7_post 109 = .ok (.iload 6, 2) := by decide +kernel
theorem dX7_post_111 : decode cX7_post 111 = .ok (.ireturn, 1) := by decide +kernel
set_option maxRecDepth 20000 in
theorem ggX7_items_X7_bankAt : GoodIn wsX7_items wsX7_bankAt := goodIn_r _ [6, 7, 8, 9, 10, 11, 12, 13, 14, 15, 16, 17, 18, 19, 20, 21, 22, 23, 24, 25, 26, 27, 28, 29, 30, 31, 45, 46, 47, 48, 49, 50, 51, 52, 53, 54] (by decide +kernel) (by decide +kernel)
set_option maxRecDepth 20000 in
theorem gX7_items_X7_bankAt : GoodIn wsX7_items (wsV RX7 61 RX7 yX7_bankAt wsX7_bankAt) := goodIn_app (goodIn_of _ (by decide +kernel)) ggX7_items_X7_bankAt
set_option maxRecDepth 20000 in
theorem ggX7_items_X5_size : GoodIn wsX7_items wsX5_size := goodIn_r _ [36, 37, 38, 10, 11, 12, 13, 14, 55, 56, 57, 58, 52, 53, 54] (by decide +kernel) (by decide +kernel)
set_option maxRecDepth 20000 in
theorem gX7_items_X5_size : GoodIn wsX7_items (wsV RX7 131 RX5 yX5_size wsX5_size) := goodIn_app (goodIn_of _ (by decide +kernel)) ggX7_items_X5_size
theorem dX7_items_0 : decode cX7_items 0 = .ok (.aload_n 0, 1) := by decide +kernel
theorem dX7_items_1 : decode cX7_items 1 = .ok (.iload_n 1, 1) := by decide +kernel
theorem dX7_items_2 : decode cX7_items 2 = .ok (.invokevirtual 61, 3) := by decide +kernel
theorem dX7_items_5 : decode cX7_items 5 = .ok (.astore_n 2, 1) := by decide +kernel
theorem dX7_items_6 : decode cX7_items 6 = .ok (.aload_n 2, 1) := by decide +kernel
theorem dX7_items_7 : decode cX7_items 7 = .ok (.ifnonnull 7, 3) := by decide +kernel
theorem dX7_items_10 : decode cX7_items 10 = .ok (.iconst (-1), 1) := by decide +kernel
theorem dX7_items_11 : decode cX7_items 11 = .ok (.goto 10, 3) := by decide +kernel
theorem dX7_items_14 : decode cX7_items 14 = .ok (.aload_n 2, 1) := by decide +kernel
theorem dX7_items_15 : decode cX7_items 15 = .ok (.getfield 111, 3) := by decide +kernel
theorem dX7_items_18 : decode cX7_items 18 = .ok (.invokevirtual 131, 3) := by decide +kernel
theorem dX7_items_21 : decode cX7_items 21 = .ok (.ireturn, 1) := by decide +kernel
set_option maxRecDepth 20000 in
theorem ggX7_item_X7_bankAt : GoodIn wsX7_item wsX7_bankAt := goodIn_r _ [16, 17, 18, 19, 20, 21, 22, 23, 24, 25, 26, 27, 28, 29, 30, 31, 32, 33, 34, 35, 36, 37, 38, 39, 40, 41, 82, 83, 84, 85, 86, 87, 88, 89, 90, 91] (by decide +kernel) (by decide +kernel)
set_option maxRecDepth 20000 in
theorem gX7_item_X7_bankAt : GoodIn wsX7_item (wsV RX7 61 RX7 yX7_bankAt wsX7_bankAt) := goodIn_app (goodIn_of _ (by decide +kernel)) ggX7_item_X7_bankAt
set_option maxRecDepth 20000 in
theorem ggX7_item_X5_size : GoodIn wsX7_item wsX5_size := goodIn_r _ [46, 47, 48, 20, 21, 22, 23, 24, 69, 70, 71, 72, 89, 90, 91] (by decide +kernel) (by decide +kernel)
set_option maxRecDepth 20000 in
theorem gX7_item_X5_size : GoodIn wsX7_item (wsV RX7 131 RX5 yX5_size wsX5_size) := goodIn_app (goodIn_of _ (by decide +kernel)) ggX7_item_X5_size
set_option maxRecDepth 20000 in
theorem ggX7_item_Jx4a65c_get_915e3 : GoodIn wsX7_item wsJx4a65c_get_915e3 := goodIn_r _ [28, 24, 29, 30, 31, 32, 33, 34, 35, 36, 37, 38, 39, 22, 40, 41, 89, 90, 91] (by decide +kernel) (by decide +kernel)
set_option maxRecDepth 20000 in
theorem gX7_item_Jx4a65c_get_915e3 : GoodIn wsX7_item (wsV RX7 147 RJx4a65c yJx4a65c_get_915e3 wsJx4a65c_get_915e3) := goodIn_app (goodIn_of _ (by decide +kernel)) ggX7_item_Jx4a65c_get_915e3
set_option maxRecDepth 20000 in
theorem ggX7_item_X5_isReturn : GoodIn wsX7_item wsX5_isReturn := goodIn_r _ [52, 53, 69, 70, 71, 72] (by decide +kernel) (by decide +kernel)
set_option maxRecDepth 20000 in
theorem gX7_item_X5_isReturn : GoodIn wsX7_item (wsV RX7 141 RX5 yX5_isReturn wsX5_isReturn) := goodIn_app (goodIn_of _ (by decide +kernel)) ggX7_item_X5_isReturn
set_option maxRecDepth 20000 in
theorem ggX7_item_X5_stateOf : GoodIn wsX7_item wsX5_stateOf := goodIn_r _ [57, 58, 47, 59, 60, 61, 50, 51, 45, 52, 53, 62, 26, 27, 22, 28, 24, 29, 30, 31, 32, 33, 34, 35, 36, 37, 38, 39, 40, 41, 69, 70, 71, 72, 73, 74, 75, 76, 77, 78, 79, 80, 81, 89, 90, 91] (by decide +kernel) (by decide +kernel)
set_option maxRecDepth 20000 in
theorem gX7_item_X5_stateOf : GoodIn wsX7_item (wsV RX7 182 RX5 yX5_stateOf wsX5_stateOf) := goodIn_app (goodIn_of _ (by decide +kernel)) ggX7_item_X5_stateOf
theorem dX7_item_0 : decode cX7_item 0 = .ok (.aload_n 0, 1) := by decide +kernel
theorem dX7_item_1 : decode cX7_item 1 = .ok (.iload_n 1, 1) := by decide +kernel
theorem dX7_item_2 : decode cX7_item 2 = .ok (.invokevirtual 61, 3) := by decide +kernel
theorem dX7_item_5 : decode cX7_item 5 = .ok (.astore 4, 2) := by decide +kernel
theorem dX7_item_7 : decode cX7_item 7 = .ok (.aload 4, 2) := by decide +kernel
theorem dX7_item_9 : decode cX7_item 9 = .ok (.ifnull 19, 3) := by decide +kernel
theorem dX7_item_12 : decode cX7_item 12 = .ok (.iload_n 2, 1) := by decide +kernel
theorem dX7_item_13 : decode cX7_item 13 = .ok (.ifCond .lt 15, 3) := by decide +kernel
theorem dX7_item_16 : decode cX7_item 16 = .ok (.iload_n 2, 1) := by decide +kernel
theorem dX7_item_17 : decode cX7_item 17 = .ok (.aload 4, 2) := by decide +kernel
theorem dX7_item_19 : decode cX7_item 19 = .ok (.getfield 111, 3) := by decide +kernel
theorem dX7_item_22 : decode cX7_item 22 = .ok (.invokevirtual 131, 3) := by decide +kernel
theorem dX7_item_25 : decode cX7_item 25 = .ok (.if_icmp .lt 5, 3) := by decide +kernel
theorem dX7_item_28 : decode cX7_item 28 = .ok (.iconst (-1), 1) := by decide +kernel
theorem dX7_item_29 : decode cX7_item 29 = .ok (.ireturn, 1) := by decide +kernel
theorem dX7_item_30 : decode cX7_item 30 = .ok (.aload 4, 2) := by decide +kernel
theorem dX7_item_32 : decode cX7_item 32 = .ok (.getfield 111, 3) := by decide +kernel
end
section
theorem dX7_item_35 : decode cX7_item 35 = .ok (.getfield 144, 3) := by decide +kernel
theorem dX7_item_38 : decode cX7_item 38 = .ok (.iload_n 2, 1) := by decide +kernel
theorem dX7_item_39 : decode cX7_item 39 = .ok (.invokevirtual 147, 3) := by decide +kernel
theorem dX7_item_42 : decode cX7_item 42 = .ok (.checkcast 151, 3) := by decide +kernel
theorem dX7_item_45 : decode cX7_item 45 = .ok (.astore 5, 2) := by decide +kernel
theorem dX7_item_47 : decode cX7_item 47 = .ok (.aload 4, 2) := by decide +kernel
theorem dX7_item_49 : decode cX7_item 49 = .ok (.getfield 111, 3) := by decide +kernel
theorem dX7_item_52 : decode cX7_item 52 = .ok (.iload_n 2, 1) := by decide +kernel
theorem dX7_item_53 : decode cX7_item 53 = .ok (.invokevirtual 141, 3) := by decide +kernel
theorem dX7_item_56 : decode cX7_item 56 = .ok (.istore 6, 2) := by decide +kernel
theorem dX7_item_58 : decode cX7_item 58 = .ok (.iload_n 3, 1) := by decide +kernel
theorem dX7_item_59 : decode cX7_item 59 = .ok (.tableswitch 115 0 6 #[41, 47, 72, 78, 84, 90, 105], 41) := by decide +kernel
theorem dX7_item_100 : decode cX7_item 100 = .ok (.aload 5, 2) := by decide +kernel
theorem dX7_item_102 : decode cX7_item 102 = .ok (.getfield 157, 3) := by decide +kernel
theorem dX7_item_105 : decode cX7_item 105 = .ok (.ireturn, 1) := by decide +kernel
theorem dX7_item_106 : decode cX7_item 106 = .ok (.iload 6, 2) := by decide +kernel
theorem dX7_item_108 : decode cX7_item 108 = .ok (.ifCond .eq 14, 3) := by decide +kernel
theorem dX7_item_111 : decode cX7_item 111 = .ok (.aload 5, 2) := by decide +kernel
theorem dX7_item_113 : decode cX7_item 113 = .ok (.getfield 160, 3) := by decide +kernel
theorem dX7_item_116 : decode cX7_item 116 = .ok (.getfield 164, 3) := by decide +kernel
theorem dX7_item_119 : decode cX7_item 119 = .ok (.goto 11, 3) := by decide +kernel
theorem dX7_item_122 : decode cX7_item 122 = .ok (.aload 5, 2) := by decide +kernel
theorem dX7_item_124 : decode cX7_item 124 = .ok (.getfield 167, 3) := by decide +kernel
theorem dX7_item_127 : decode cX7_item 127 = .ok (.getfield 164, 3) := by decide +kernel
theorem dX7_item_130 : decode cX7_item 130 = .ok (.ireturn, 1) := by decide +kernel
theorem dX7_item_131 : decode cX7_item 131 = .ok (.aload 5, 2) := by decide +kernel
theorem dX7_item_133 : decode cX7_item 133 = .ok (.getfield 170, 3) := by decide +kernel
theorem dX7_item_136 : decode cX7_item 136 = .ok (.ireturn, 1) := by decide +kernel
theorem dX7_item_137 : decode cX7_item 137 = .ok (.aload 5, 2) := by decide +kernel
theorem dX7_item_139 : decode cX7_item 139 = .ok (.getfield 173, 3) := by decide +kernel
theorem dX7_item_142 : decode cX7_item 142 = .ok (.ireturn, 1) := by decide +kernel
theorem dX7_item_143 : decode cX7_item 143 = .ok (.aload 5, 2) := by decide +kernel
theorem dX7_item_145 : decode cX7_item 145 = .ok (.getfield 176, 3) := by decide +kernel
theorem dX7_item_148 : decode cX7_item 148 = .ok (.ireturn, 1) := by decide +kernel
theorem dX7_item_149 : decode cX7_item 149 = .ok (.iload 6, 2) := by decide +kernel
theorem dX7_item_151 : decode cX7_item 151 = .ok (.ifCond .eq 11, 3) := by decide +kernel
theorem dX7_item_154 : decode cX7_item 154 = .ok (.aload 5, 2) := by decide +kernel
theorem dX7_item_156 : decode cX7_item 156 = .ok (.getfield 179, 3) := by decide +kernel
theorem dX7_item_159 : decode cX7_item 159 = .ok (.goto 4, 3) := by decide +kernel
theorem dX7_item_162 : decode cX7_item 162 = .ok (.iconst 0, 1) := by decide +kernel
theorem dX7_item_163 : decode cX7_item 163 = .ok (.ireturn, 1) := by decide +kernel
theorem dX7_item_164 : decode cX7_item 164 = .ok (.aload 4, 2) := by decide +kernel
theorem dX7_item_166 : decode cX7_item 166 = .ok (.getfield 111, 3) := by decide +kernel
theorem dX7_item_169 : decode cX7_item 169 = .ok (.iload_n 2, 1) := by decide +kernel
theorem dX7_item_170 : decode cX7_item 170 = .ok (.invokevirtual 182, 3) := by decide +kernel
theorem dX7_item_173 : decode cX7_item 173 = .ok (.ireturn, 1) := by decide +kernel
theorem dX7_item_174 : decode cX7_item 174 = .ok (.iconst (-1), 1) := by decide +kernel
theorem dX7_item_175 : decode cX7_item 175 = .ok (.ireturn, 1) := by decide +kernel
set_option maxRecDepth 20000 in
theorem ggX7_control_X7_bankAt : GoodIn wsX7_control wsX7_bankAt := goodIn_r _ [12, 13, 14, 15, 16, 17, 18, 19, 20, 21, 22, 23, 24, 25, 26, 27, 28, 29, 30, 31, 32, 33, 34, 35, 36, 37, 52, 53, 54, 55, 56, 57, 58, 59, 60, 61] (by decide +kernel) (by decide +kernel)
set_option maxRecDepth 20000 in
theorem gX7_control_X7_bankAt : GoodIn wsX7_control (wsV RX7 61 RX7 yX7_bankAt wsX7_bankAt) := goodIn_app (goodIn_of _ (by decide +kernel)) ggX7_control_X7_bankAt
theorem dX7_control_0 : decode cX7_control 0 = .ok (.aload_n 0, 1) := by decide +kernel
theorem dX7_control_1 : decode cX7_control 1 = .ok (.iload_n 1, 1) := by decide +kernel
theorem dX7_control_2 : decode cX7_control 2 = .ok (.invokevirtual 61, 3) := by decide +kernel
theorem dX7_control_5 : decode cX7_control 5 = .ok (.astore_n 3, 1) := by decide +kernel
theorem dX7_control_6 : decode cX7_control 6 = .ok (.aload_n 3, 1) := by decide +kernel
theorem dX7_control_7 : decode cX7_control 7 = .ok (.ifnonnull 7, 3) := by decide +kernel
theorem dX7_control_10 : decode cX7_control 10 = .ok (.ldc2_w 186, 3) := by decide +kernel
theorem dX7_control_13 : decode cX7_control 13 = .ok (.lreturn, 1) := by decide +kernel
theorem dX7_control_14 : decode cX7_control 14 = .ok (.aload_n 3, 1) := by decide +kernel
theorem dX7_control_15 : decode cX7_control 15 = .ok (.getfield 111, 3) := by decide +kernel
theorem dX7_control_18 : decode cX7_control 18 = .ok (.getfield 188, 3) := by decide +kernel
theorem dX7_control_21 : decode cX7_control 21 = .ok (.astore 4, 2) := by decide +kernel
theorem dX7_control_23 : decode cX7_control 23 = .ok (.iload_n 2, 1) := by decide +kernel
theorem dX7_control_24 : decode cX7_control 24 = .ok (.tableswitch 56 0 3 #[32, 38, 44, 50], 32) := by decide +kernel
theorem dX7_control_56 : decode cX7_control 56 = .ok (.aload 4, 2) := by decide +kernel
theorem dX7_control_58 : decode cX7_control 58 = .ok (.getfield 192, 3) := by decide +kernel
theorem dX7_control_61 : decode cX7_control 61 = .ok (.lreturn, 1) := by decide +kernel
theorem dX7_control_62 : decode cX7_control 62 = .ok (.aload 4, 2) := by decide +kernel
theorem dX7_control_64 : decode cX7_control 64 = .ok (.getfield 198, 3) := by decide +kernel
theorem dX7_control_67 : decode cX7_control 67 = .ok (.lreturn, 1) := by decide +kernel
theorem dX7_control_68 : decode cX7_control 68 = .ok (.aload 4, 2) := by decide +kernel
theorem dX7_control_70 : decode cX7_control 70 = .ok (.getfield 201, 3) := by decide +kernel
theorem dX7_control_73 : decode cX7_control 73 = .ok (.lreturn, 1) := by decide +kernel
theorem dX7_control_74 : decode cX7_control 74 = .ok (.aload 4, 2) := by decide +kernel
theorem dX7_control_76 : decode cX7_control 76 = .ok (.getfield 204, 3) := by decide +kernel
theorem dX7_control_79 : decode cX7_control 79 = .ok (.lreturn, 1) := by decide +kernel
theorem dX7_control_80 : decode cX7_control 80 = .ok (.ldc2_w 186, 3) := by decide +kernel
theorem dX7_control_83 : decode cX7_control 83 = .ok (.lreturn, 1) := by decide +kernel
set_option maxRecDepth 20000 in
theorem ggX7_balance_X7_bankAt : GoodIn wsX7_balance wsX7_bankAt := goodIn_r _ [7, 8, 9, 10, 11, 12, 13, 14, 15, 16, 17, 18, 19, 20, 21, 22, 23, 24, 25, 26, 27, 28, 29, 30, 31, 32, 45, 46, 47, 48, 49, 50, 51, 52, 53, 54] (by decide +kernel) (by decide +kernel)
set_option maxRecDepth 20000 in
theorem gX7_balance_X7_bankAt : GoodIn wsX7_balance (wsV RX7 61 RX7 yX7_bankAt wsX7_bankAt) := goodIn_app (goodIn_of _ (by decide +kernel)) ggX7_balance_X7_bankAt
set_option maxRecDepth 20000 in
theorem ggX7_balance_X7_accountOf : GoodIn wsX7_balance wsX7_accountOf := goodIn_r _ [36, 37, 38, 39, 40, 10, 11, 12, 13, 14, 15, 16, 17, 18, 19, 20, 21, 22, 23, 24, 25, 26, 27, 28, 29, 30, 31, 32, 45, 46, 47, 48, 49, 50, 51, 41, 42, 43, 44, 52, 53, 54] (by decide +kernel) (by decide +kernel)
set_option maxRecDepth 20000 in
theorem gX7_balance_X7_accountOf : GoodIn wsX7_balance (wsV RX7 66 RX7 yX7_accountOf wsX7_accountOf) := goodIn_app (goodIn_of _ (by decide +kernel)) ggX7_balance_X7_accountOf
theorem dX7_balance_0 : decode cX7_balance 0 = .ok (.aload_n 0, 1) := by decide +kernel
theorem dX7_balance_1 : decode cX7_balance 1 = .ok (.aload_n 0, 1) := by decide +kernel
theorem dX7_balance_2 : decode cX7_balance 2 = .ok (.iload_n 1, 1) := by decide +kernel
theorem dX7_balance_3 : decode cX7_balance 3 = .ok (.invokevirtual 61, 3) := by decide +kernel
theorem dX7_balance_6 : decode cX7_balance 6 = .ok (.iload_n 2, 1) := by decide +kernel
theorem dX7_balance_7 : decode cX7_balance 7 = .ok (.invokevirtual 66, 3) := by decide +kernel
theorem dX7_balance_10 : decode cX7_balance 10 = .ok (.astore_n 3, 1) := by decide +kernel
theorem dX7_balance_11 : decode cX7_balance 11 = .ok (.aload_n 3, 1) := by decide +kernel
theorem dX7_balance_12 : decode cX7_balance 12 = .ok (.ifnonnull 9, 3) := by decide +kernel
theorem dX7_balance_15 : decode cX7_balance 15 = .ok (.ldc2_w 186, 3) := by decide +kernel
theorem dX7_balance_18 : decode cX7_balance 18 = .ok (.goto 7, 3) := by decide +kernel
theorem dX7_balance_21 : decode cX7_balance 21 = .ok (.aload_n 3, 1) := by decide +kernel
theorem dX7_balance_22 : decode cX7_balance 22 = .ok (.getfield 207, 3) := by decide +kernel
theorem dX7_balance_25 : decode cX7_balance 25 = .ok (.lreturn, 1) := by decide +kernel
set_option maxRecDepth 20000 in
theorem ggX7_ledger_X7_bankAt : GoodIn wsX7_ledger wsX7_bankAt := goodIn_r _ [6, 7, 8, 9, 10, 11, 12, 13, 14, 15, 16, 17, 18, 19, 20, 21, 22, 23, 24, 25, 26, 27, 28, 29, 30, 31, 38, 39, 40, 41, 42, 43, 44, 45, 46, 47] (by decide +kernel) (by decide +kernel)
set_option maxRecDepth 20000 in
theorem gX7_ledger_X7_bankAt : GoodIn wsX7_ledger (wsV RX7 61 RX7 yX7_bankAt wsX7_bankAt) := goodIn_app (goodIn_of _ (by decide +kernel)) ggX7_ledger_X7_bankAt
theorem dX7_ledger_0 : decode cX7_ledger 0 = .ok (.aload_n 0, 1) := by decide +kernel
theorem dX7_ledger_1 : decode cX7_ledger 1 = .ok (.iload_n 1, 1) := by decide +kernel
theorem dX7_ledger_2 : decode cX7_ledger 2 = .ok (.invokevirtual 61, 3) := by decide +kernel
theorem dX7_ledger_5 : decode cX7_ledger 5 = .ok (.astore_n 2, 1) := by decide +kernel
theorem dX7_ledger_6 : decode cX7_ledger 6 = .ok (.aload_n 2, 1) := by decide +kernel
theorem dX7_ledger_7 : decode cX7_ledger 7 = .ok (.ifnonnull 7, 3) := by decide +kernel
theorem dX7_ledger_10 : decode cX7_ledger 10 = .ok (.lconst 0, 1) := by decide +kernel
theorem dX7_ledger_11 : decode cX7_ledger 11 = .ok (.goto 7, 3) := by decide +kernel
theorem dX7_ledger_14 : decode cX7_ledger 14 = .ok (.aload_n 2, 1) := by decide +kernel
theorem dX7_ledger_15 : decode cX7_ledger 15 = .ok (.getfield 210, 3) := by decide +kernel
theorem dX7_ledger_18 : decode cX7_ledger 18 = .ok (.lreturn, 1) := by decide +kernel
theorem dX7_rejected_0 : decode cX7_rejected 0 = .ok (.iload_n 1, 1) := by decide +kernel
theorem dX7_rejected_1 : decode cX7_rejected 1 = .ok (.ifCond .lt 12, 3) := by decide +kernel
theorem dX7_rejected_4 : decode cX7_rejected 4 = .ok (.iload_n 1, 1) := by decide +kernel
theorem dX7_rejected_5 : decode cX7_rejected 5 = .ok (.aload_n 0, 1) := by decide +kernel
theorem dX7_rejected_6 : decode cX7_rejected 6 = .ok (.getfield 34, 3) := by decide +kernel
theorem dX7_rejected_9 : decode cX7_rejected 9 = .ok (.arraylength, 1) := by decide +kernel
theorem dX7_rejected_10 : decode cX7_rejected 10 = .ok (.if_icmp .lt 7, 3) := by decide +kernel
theorem dX7_rejected_13 : decode cX7_rejected 13 = .ok (.iconst 0, 1) := by decide +kernel
theorem dX7_rejected_14 : decode cX7_rejected 14 = .ok (.goto 9, 3) := by decide +kernel
theorem dX7_rejected_17 : decode cX7_rejected 17 = .ok (.aload_n 0, 1) := by decide +kernel
theorem dX7_rejected_18 : decode cX7_rejected 18 = .ok (.getfield 34, 3) := by decide +kernel
theorem dX7_rejected_21 : decode cX7_rejected 21 = .ok (.iload_n 1, 1) := by decide +kernel
theorem dX7_rejected_22 : decode cX7_rejected 22 = .ok (.iaload, 1) := by decide +kernel
theorem dX7_rejected_23 : decode cX7_rejected 23 = .ok (.ireturn, 1) := by decide +kernel
set_option maxRecDepth 20000 in
theorem ggX7_waiting_X7_bankAt : GoodIn wsX7_waiting wsX7_bankAt := goodIn_r _ [7, 8, 9, 10, 11, 12, 13, 14, 15, 16, 17, 18, 19, 20, 21, 22, 23, 24, 25, 26, 27, 28, 29, 30, 31, 32, 39, 40, 41, 42, 43, 44, 45, 46, 47, 48] (by decide +kernel) (by decide +kernel)
set_option maxRecDepth 20000 in
theorem gX7_waiting_X7_bankAt : GoodIn wsX7_waiting (wsV RX7 61 RX7 yX7_bankAt wsX7_bankAt) := goodIn_app (goodIn_of _ (by decide +kernel)) ggX7_waiting_X7_bankAt
set_option maxRecDepth 20000 in
theorem ggX7_waiting_Jx4a65c_size_8abf5 : GoodIn wsX7_waiting wsJx4a65c_size_8abf5 := goodIn_r _ [14, 15, 46, 47, 48] (by decide +kernel) (by decide +kernel)
set_option maxRecDepth 20000 in
theorem gX7_waiting_Jx4a65c_size_8abf5 : GoodIn wsX7_waiting (wsV RX7 48 RJx4a65c yJx4a65c_size_8abf5 wsJx4a65c_size_8abf5) := goodIn_app (goodIn_of _ (by decide +kernel)) ggX7_waiting_Jx4a65c_size_8abf5
theorem dX7_waiting_0 : decode cX7_waiting 0 = .ok (.aload_n 0, 1) := by decide +kernel
theorem dX7_waiting_1 : decode cX7_waiting 1 = .ok (.iload_n 1, 1) := by decide +kernel
theorem dX7_waiting_2 : decode cX7_waiting 2 = .ok (.invokevirtual 61, 3) := by decide +kernel
theorem dX7_waiting_5 : decode cX7_waiting 5 = .ok (.astore_n 3, 1) := by decide +kernel
theorem dX7_waiting_6 : decode cX7_waiting 6 = .ok (.aload_n 3, 1) := by decide +kernel
theorem dX7_waiting_7 : decode cX7_waiting 7 = .ok (.ifnull 12, 3) := by decide +kernel
theorem dX7_waiting_10 : decode cX7_waiting 10 = .ok (.iload_n 2, 1) := by decide +kernel
theorem dX7_waiting_11 : decode cX7_waiting 11 = .ok (.ifCond .lt 8, 3) := by decide +kernel
theorem dX7_waiting_14 : decode cX7_waiting 14 = .ok (.iload_n 2, 1) := by decide +kernel
theorem dX7_waiting_15 : decode cX7_waiting 15 = .ok (.iconst 1, 1) := by decide +kernel
theorem dX7_waiting_16 : decode cX7_waiting 16 = .ok (.if_icmp .le 5, 3) := by decide +kernel
theorem dX7_waiting_19 : decode cX7_waiting 19 = .ok (.iconst (-1), 1) := by decide +kernel
theorem dX7_waiting_20 : decode cX7_waiting 20 = .ok (.ireturn, 1) := by decide +kernel
theorem dX7_waiting_21 : decode cX7_waiting 21 = .ok (.iload_n 2, 1) := by decide +kernel
theorem dX7_waiting_22 : decode cX7_waiting 22 = .ok (.ifCond .ne 13, 3) := by decide +kernel
theorem dX7_waiting_25 : decode cX7_waiting 25 = .ok (.aload_n 3, 1) := by decide +kernel
theorem dX7_waiting_26 : decode cX7_waiting 26 = .ok (.getfield 213, 3) := by decide +kernel
theorem dX7_waiting_29 : decode cX7_waiting 29 = .ok (.invokevirtual 48, 3) := by decide +kernel
theorem dX7_waiting_32 : decode cX7_waiting 32 = .ok (.goto 10, 3) := by decide +kernel
theorem dX7_waiting_35 : decode cX7_waiting 35 = .ok (.aload_n 3, 1) := by decide +kernel
theorem dX7_waiting_36 : decode cX7_waiting 36 = .ok (.getfield 214, 3) := by decide +kernel
theorem dX7_waiting_39 : decode cX7_waiting 39 = .ok (.invokevirtual 48, 3) := by decide +kernel
theorem dX7_waiting_42 : decode cX7_waiting 42 = .ok (.ireturn, 1) := by decide +kernel
theorem dX7_isHalf_0 : decode cX7_isHalf 0 = .ok (.lload_n 0, 1) := by decide +kernel
theorem dX7_isHalf_1 : decode cX7_isHalf 1 = .ok (.lconst 0, 1) := by decide +kernel
theorem dX7_isHalf_2 : decode cX7_isHalf 2 = .ok (.lcmp, 1) := by decide +kernel
theorem dX7_isHalf_3 : decode cX7_isHalf 3 = .ok (.ifCond .lt 15, 3) := by decide +kernel
theorem dX7_isHalf_6 : decode cX7_isHalf 6 = .ok (.lload_n 0, 1) := by decide +kernel
theorem dX7_isHalf_7 : decode cX7_isHalf 7 = .ok (.ldc2_w 217, 3) := by decide +kernel
theorem dX7_isHalf_10 : decode cX7_isHalf 10 = .ok (.lcmp, 1) := by decide +kernel
theorem dX7_isHalf_11 : decode cX7_isHalf 11 = .ok (.ifCond .gt 7, 3) := by decide +kernel
theorem dX7_isHalf_14 : decode cX7_isHalf 14 = .ok (.iconst 1, 1) := by decide +kernel
theorem dX7_isHalf_15 : decode cX7_isHalf 15 = .ok (.goto 4, 3) := by decide +kernel
theorem dX7_isHalf_18 : decode cX7_isHalf 18 = .ok (.iconst 0, 1) := by decide +kernel
theorem dX7_isHalf_19 : decode cX7_isHalf 19 = .ok (.ireturn, 1) := by decide +kernel
theorem dX7_digits_0 : decode cX7_digits 0 = .ok (.iload 5, 2) := by decide +kernel
theorem dX7_digits_2 : decode cX7_digits 2 = .ok (.bipush 18, 2) := by decide +kernel
theorem dX7_digits_4 : decode cX7_digits 4 = .ok (.if_icmp .ge 7, 3) := by decide +kernel
theorem dX7_digits_7 : decode cX7_digits 7 = .ok (.iconst 1, 1) := by decide +kernel
theorem dX7_digits_8 : decode cX7_digits 8 = .ok (.goto 4, 3) := by decide +kernel
theorem dX7_digits_11 : decode cX7_digits 11 = .ok (.iconst 0, 1) := by decide +kernel
theorem dX7_digits_12 : decode cX7_digits 12 = .ok (.istore 6, 2) := by decide +kernel
theorem dX7_digits_14 : decode cX7_digits 14 = .ok (.iload 6, 2) := by decide +kernel
theorem dX7_digits_16 : decode cX7_digits 16 = .ok (.ifCond .eq 7, 3) := by decide +kernel
theorem dX7_digits_19 : decode cX7_digits 19 = .ok (.lload_n 0, 1) := by decide +kernel
theorem dX7_digits_20 : decode cX7_digits 20 = .ok (.goto 4, 3) := by decide +kernel
theorem dX7_digits_23 : decode cX7_digits 23 = .ok (.lload_n 2, 1) := by decide +kernel
theorem dX7_digits_24 : decode cX7_digits 24 = .ok (.lstore 7, 2) := by decide +kernel
theorem dX7_digits_26 : decode cX7_digits 26 = .ok (.iload 6, 2) := by decide +kernel
theorem dX7_digits_28 : decode cX7_digits 28 = .ok (.ifCond .eq 8, 3) := by decide +kernel
theorem dX7_digits_31 : decode cX7_digits 31 = .ok (.bipush 17, 2) := by decide +kernel
theorem dX7_digits_33 : decode cX7_digits 33 = .ok (.goto 5, 3) := by decide +kernel
theorem dX7_digits_36 : decode cX7_digits 36 = .ok (.bipush 35, 2) := by decide +kernel
theorem dX7_digits_38 : decode cX7_digits 38 = .ok (.istore 9, 2) := by decide +kernel
theorem dX7_digits_40 : decode cX7_digits 40 = .ok (.iload 9, 2) := by decide +kernel
theorem dX7_digits_42 : decode cX7_digits 42 = .ok (.iload 5, 2) := by decide +kernel
theorem dX7_digits_44 : decode cX7_digits 44 = .ok (.if_icmp .le 17, 3) := by decide +kernel
theorem dX7_digits_47 : decode cX7_digits 47 = .ok (.lload 7, 2) := by decide +kernel
theorem dX7_digits_49 : decode cX7_digits 49 = .ok (.ldc2_w 219, 3) := by decide +kernel
theorem dX7_digits_52 : decode cX7_digits 52 = .ok (.ldiv, 1) := by decide +kernel
theorem dX7_digits_53 : decode cX7_digits 53 = .ok (.lstore 7, 2) := by decide +kernel
theorem dX7_digits_55 : decode cX7_digits 55 = .ok (.iinc 9 (-1), 3) := by decide +kernel
theorem dX7_digits_58 : decode cX7_digits 58 = .ok (.goto (-18), 3) := by decide +kernel
theorem dX7_digits_61 : decode cX7_digits 61 = .ok (.lconst 0, 1) := by decide +kernel
theorem dX7_digits_62 : decode cX7_digits 62 = .ok (.lstore 9, 2) := by decide +kernel
theorem dX7_digits_64 : decode cX7_digits 64 = .ok (.lconst 1, 1) := by decide +kernel
theorem dX7_digits_65 : decode cX7_digits 65 = .ok (.lstore 11, 2) := by decide +kernel
theorem dX7_digits_67 : decode cX7_digits 67 = .ok (.iload 5, 2) := by decide +kernel
theorem dX7_digits_69 : decode cX7_digits 69 = .ok (.istore 13, 2) := by decide +kernel
theorem dX7_digits_71 : decode cX7_digits 71 = .ok (.iload 13, 2) := by decide +kernel
theorem dX7_digits_73 : decode cX7_digits 73 = .ok (.iload 4, 2) := by decide +kernel
theorem dX7_digits_75 : decode cX7_digits 75 = .ok (.if_icmp .lt 39, 3) := by decide +kernel
theorem dX7_digits_78 : decode cX7_digits 78 = .ok (.lload 9, 2) := by decide +kernel
theorem dX7_digits_80 : decode cX7_digits 80 = .ok (.lload 7, 2) := by decide +kernel
theorem dX7_digits_82 : decode cX7_digits 82 = .ok (.ldc2_w 219, 3) := by decide +kernel
theorem dX7_digits_85 : decode cX7_digits 85 = .ok (.lrem, 1) := by decide +kernel
theorem dX7_digits_86 : decode cX7_digits 86 = .ok (.lload 11, 2) := by decide +kernel
theorem dX7_digits_88 : decode cX7_digits 88 = .ok (.lmul, 1) := by decide +kernel
theorem dX7_digits_89 : decode cX7_digits 89 = .ok (.ladd, 1) := by decide +kernel
theorem dX7_digits_90 : decode cX7_digits 90 = .ok (.lstore 9, 2) := by decide +kernel
theorem dX7_digits_92 : decode cX7_digits 92 = .ok (.lload 11, 2) := by decide +kernel
theorem dX7_digits_94 : decode cX7_digits 94 = .ok (.ldc2_w 219, 3) := by decide +kernel
theorem dX7_digits_97 : decode cX7_digits 97 = .ok (.lmul, 1) := by decide +kernel
theorem dX7_digits_98 : decode cX7_digits 98 = .ok (.lstore 11, 2) := by decide +kernel
theorem dX7_digits_100 : decode cX7_digits 100 = .ok (.lload 7, 2) := by decide +kernel
theorem dX7_digits_102 : decode cX7_digits 102 = .ok (.ldc2_w 219, 3) := by decide +kernel
theorem dX7_digits_105 : decode cX7_digits 105 = .ok (.ldiv, 1) := by decide +kernel
theorem dX7_digits_106 : decode cX7_digits 106 = .ok (.lstore 7, 2) := by decide +kernel
theorem dX7_digits_108 : decode cX7_digits 108 = .ok (.iinc 13 (-1), 3) := by decide +kernel
theorem dX7_digits_111 : decode cX7_digits 111 = .ok (.goto (-40), 3) := by decide +kernel
theorem dX7_digits_114 : decode cX7_digits 114 = .ok (.lload 9, 2) := by decide +kernel
theorem dX7_digits_116 : decode cX7_digits 116 = .ok (.l2i, 1) := by decide +kernel
theorem dX7_digits_117 : decode cX7_digits 117 = .ok (.ireturn, 1) := by decide +kernel
theorem dX7_isRight_0 : decode cX7_isRight 0 = .ok (.iload_n 0, 1) := by decide +kernel
theorem dX7_isRight_1 : decode cX7_isRight 1 = .ok (.istore_n 2, 1) := by decide +kernel
theorem dX7_isRight_2 : decode cX7_isRight 2 = .ok (.iconst 0, 1) := by decide +kernel
theorem dX7_isRight_3 : decode cX7_isRight 3 = .ok (.istore_n 3, 1) := by decide +kernel
theorem dX7_isRight_4 : decode cX7_isRight 4 = .ok (.iload_n 1, 1) := by decide +kernel
theorem dX7_isRight_5 : decode cX7_isRight 5 = .ok (.iconst 1, 1) := by decide +kernel
theorem dX7_isRight_6 : decode cX7_isRight 6 = .ok (.isub, 1) := by decide +kernel
theorem dX7_isRight_7 : decode cX7_isRight 7 = .ok (.istore 4, 2) := by decide +kernel
theorem dX7_isRight_9 : decode cX7_isRight 9 = .ok (.iload 4, 2) := by decide +kernel
theorem dX7_isRight_11 : decode cX7_isRight 11 = .ok (.ifCond .lt 30, 3) := by decide +kernel
theorem dX7_isRight_14 : decode cX7_isRight 14 = .ok (.iload_n 3, 1) := by decide +kernel
theorem dX7_isRight_15 : decode cX7_isRight 15 = .ok (.iload_n 2, 1) := by decide +kernel
theorem dX7_isRight_16 : decode cX7_isRight 16 = .ok (.bipush 10, 2) := by decide +kernel
theorem dX7_isRight_18 : decode cX7_isRight 18 = .ok (.irem, 1) := by decide +kernel
theorem dX7_isRight_19 : decode cX7_isRight 19 = .ok (.getstatic 221, 3) := by decide +kernel
theorem dX7_isRight_22 : decode cX7_isRight 22 = .ok (.iload 4, 2) := by decide +kernel
theorem dX7_isRight_24 : decode cX7_isRight 24 = .ok (.iconst 3, 1) := by decide +kernel
theorem dX7_isRight_25 : decode cX7_isRight 25 = .ok (.irem, 1) := by decide +kernel
theorem dX7_isRight_26 : decode cX7_isRight 26 = .ok (.iaload, 1) := by decide +kernel
theorem dX7_isRight_27 : decode cX7_isRight 27 = .ok (.imul, 1) := by decide +kernel
theorem dX7_isRight_28 : decode cX7_isRight 28 = .ok (.iadd, 1) := by decide +kernel
theorem dX7_isRight_29 : decode cX7_isRight 29 = .ok (.istore_n 3, 1) := by decide +kernel
theorem dX7_isRight_30 : decode cX7_isRight 30 = .ok (.iload_n 2, 1) := by decide +kernel
theorem dX7_isRight_31 : decode cX7_isRight 31 = .ok (.bipush 10, 2) := by decide +kernel
theorem dX7_isRight_33 : decode cX7_isRight 33 = .ok (.idiv, 1) := by decide +kernel
theorem dX7_isRight_34 : decode cX7_isRight 34 = .ok (.istore_n 2, 1) := by decide +kernel
theorem dX7_isRight_35 : decode cX7_isRight 35 = .ok (.iinc 4 (-1), 3) := by decide +kernel
theorem dX7_isRight_38 : decode cX7_isRight 38 = .ok (.goto (-29), 3) := by decide +kernel
theorem dX7_isRight_41 : decode cX7_isRight 41 = .ok (.iload_n 3, 1) := by decide +kernel
theorem dX7_isRight_42 : decode cX7_isRight 42 = .ok (.bipush 10, 2) := by decide +kernel
theorem dX7_isRight_44 : decode cX7_isRight 44 = .ok (.irem, 1) := by decide +kernel
theorem dX7_isRight_45 : decode cX7_isRight 45 = .ok (.ifCond .ne 7, 3) := by decide +kernel
theorem dX7_isRight_48 : decode cX7_isRight 48 = .ok (.iconst 1, 1) := by decide +kernel
theorem dX7_isRight_49 : decode cX7_isRight 49 = .ok (.goto 4, 3) := by decide +kernel
theorem dX7_isRight_52 : decode cX7_isRight 52 = .ok (.iconst 0, 1) := by decide +kernel
theorem dX7_isRight_53 : decode cX7_isRight 53 = .ok (.ireturn, 1) := by decide +kernel
set_option maxRecDepth 20000 in
theorem ggX7_bankAt_Jx4a65c_size_8abf5 : GoodIn wsX7_bankAt wsJx4a65c_size_8abf5 := goodIn_r _ [7, 8, 33, 34, 35] (by decide +kernel) (by decide +kernel)
set_option maxRecDepth 20000 in
theorem gX7_bankAt_Jx4a65c_size_8abf5 : GoodIn wsX7_bankAt (wsV RX7 48 RJx4a65c yJx4a65c_size_8abf5 wsJx4a65c_size_8abf5) := goodIn_app (goodIn_of _ (by decide +kernel)) ggX7_bankAt_Jx4a65c_size_8abf5
set_option maxRecDepth 20000 in
theorem ggX7_bankAt_Jx4a65c_get_915e3 : GoodIn wsX7_bankAt wsJx4a65c_get_915e3 := goodIn_r _ [12, 8, 13, 14, 15, 16, 17, 18, 19, 20, 21, 22, 23, 6, 24, 25, 33, 34, 35] (by decide +kernel) (by decide +kernel)
set_option maxRecDepth 20000 in
theorem gX7_bankAt_Jx4a65c_get_915e3 : GoodIn wsX7_bankAt (wsV RX7 147 RJx4a65c yJx4a65c_get_915e3 wsJx4a65c_get_915e3) := goodIn_app (goodIn_of _ (by decide +kernel)) ggX7_bankAt_Jx4a65c_get_915e3
theorem dX7_bankAt_0 : decode cX7_bankAt 0 = .ok (.iload_n 1, 1) := by decide +kernel
theorem dX7_bankAt_1 : decode cX7_bankAt 1 = .ok (.ifCond .lt 14, 3) := by decide +kernel
theorem dX7_bankAt_4 : decode cX7_bankAt 4 = .ok (.iload_n 1, 1) := by decide +kernel
theorem dX7_bankAt_5 : decode cX7_bankAt 5 = .ok (.aload_n 0, 1) := by decide +kernel
theorem dX7_bankAt_6 : decode cX7_bankAt 6 = .ok (.getfield 10, 3) := by decide +kernel
theorem dX7_bankAt_9 : decode cX7_bankAt 9 = .ok (.invokevirtual 48, 3) := by decide +kernel
theorem dX7_bankAt_12 : decode cX7_bankAt 12 = .ok (.if_icmp .lt 7, 3) := by decide +kernel
theorem dX7_bankAt_15 : decode cX7_bankAt 15 = .ok (.aconst_null, 1) := by decide +kernel
theorem dX7_bankAt_16 : decode cX7_bankAt 16 = .ok (.goto 14, 3) := by decide +kernel
theorem dX7_bankAt_19 : decode cX7_bankAt 19 = .ok (.aload_n 0, 1) := by decide +kernel
theorem dX7_bankAt_20 : decode cX7_bankAt 20 = .ok (.getfield 10, 3) := by decide +kernel
theorem dX7_bankAt_23 : decode cX7_bankAt 23 = .ok (.iload_n 1, 1) := by decide +kernel
theorem dX7_bankAt_24 : decode cX7_bankAt 24 = .ok (.invokevirtual 147, 3) := by decide +kernel
theorem dX7_bankAt_27 : decode cX7_bankAt 27 = .ok (.checkcast 52, 3) := by decide +kernel
theorem dX7_bankAt_30 : decode cX7_bankAt 30 = .ok (.areturn, 1) := by decide +kernel
set_option maxRecDepth 20000 in
theorem ggX7_bankWithRouting_Jx4a65c_size_8abf5 : GoodIn wsX7_bankWithRouting wsJx4a65c_size_8abf5 := goodIn_r _ [8, 9, 40, 41, 42] (by decide +kernel) (by decide +kernel)
set_option maxRecDepth 20000 in
theorem gX7_bankWithRouting_Jx4a65c_size_8abf5 : GoodIn wsX7_bankWithRouting (wsV RX7 48 RJx4a65c yJx4a65c_size_8abf5 wsJx4a65c_size_8abf5) := goodIn_app (goodIn_of _ (by decide +kernel)) ggX7_bankWithRouting_Jx4a65c_size_8abf5
set_option maxRecDepth 20000 in
theorem ggX7_bankWithRouting_Jx4a65c_get_915e3 : GoodIn wsX7_bankWithRouting wsJx4a65c_get_915e3 := goodIn_r _ [13, 9, 14, 15, 16, 17, 18, 19, 20, 21, 22, 23, 24, 7, 25, 26, 40, 41, 42] (by decide +kernel) (by decide +kernel)
set_option maxRecDepth 20000 in
theorem gX7_bankWithRouting_Jx4a65c_get_915e3 : GoodIn wsX7_bankWithRouting (wsV RX7 147 RJx4a65c yJx4a65c_get_915e3 wsJx4a65c_get_915e3) := goodIn_app (goodIn_of _ (by decide +kernel)) ggX7_bankWithRouting_Jx4a65c_get_915e3
theorem dX7_bankWithRouting_0 : decode cX7_bankWithRouting 0 = .ok (.iconst 0, 1) := by decide +kernel
theorem dX7_bankWithRouting_1 : decode cX7_bankWithRouting 1 = .ok (.istore_n 2, 1) := by decide +kernel
theorem dX7_bankWithRouting_2 : decode cX7_bankWithRouting 2 = .ok (.iload_n 2, 1) := by decide +kernel
theorem dX7_bankWithRouting_3 : decode cX7_bankWithRouting 3 = .ok (.aload_n 0, 1) := by decide +kernel
theorem dX7_bankWithRouting_4 : decode cX7_bankWithRouting 4 = .ok (.getfield 10, 3) := by decide +kernel
theorem dX7_bankWithRouting_7 : decode cX7_bankWithRouting 7 = .ok (.invokevirtual 48, 3) := by decide +kernel
theorem dX7_bankWithRouting_10 : decode cX7_bankWithRouting 10 = .ok (.if_icmp .ge 39, 3) := by decide +kernel
theorem dX7_bankWithRouting_13 : decode cX7_bankWithRouting 13 = .ok (.aload_n 0, 1) := by decide +kernel
theorem dX7_bankWithRouting_14 : decode cX7_bankWithRouting 14 = .ok (.getfield 10, 3) := by decide +kernel
theorem dX7_bankWithRouting_17 : decode cX7_bankWithRouting 17 = .ok (.iload_n 2, 1) := by decide +kernel
theorem dX7_bankWithRouting_18 : decode cX7_bankWithRouting 18 = .ok (.invokevirtual 147, 3) := by decide +kernel
theorem dX7_bankWithRouting_21 : decode cX7_bankWithRouting 21 = .ok (.checkcast 52, 3) := by decide +kernel
theorem dX7_bankWithRouting_24 : decode cX7_bankWithRouting 24 = .ok (.getfield 224, 3) := by decide +kernel
theorem dX7_bankWithRouting_27 : decode cX7_bankWithRouting 27 = .ok (.iload_n 1, 1) := by decide +kernel
theorem dX7_bankWithRouting_28 : decode cX7_bankWithRouting 28 = .ok (.if_icmp .ne 15, 3) := by decide +kernel
theorem dX7_bankWithRouting_31 : decode cX7_bankWithRouting 31 = .ok (.aload_n 0, 1) := by decide +kernel
theorem dX7_bankWithRouting_32 : decode cX7_bankWithRouting 32 = .ok (.getfield 10, 3) := by decide +kernel
theorem dX7_bankWithRouting_35 : decode cX7_bankWithRouting 35 = .ok (.iload_n 2, 1) := by decide +kernel
theorem dX7_bankWithRouting_36 : decode cX7_bankWithRouting 36 = .ok (.invokevirtual 147, 3) := by decide +kernel
theorem dX7_bankWithRouting_39 : decode cX7_bankWithRouting 39 = .ok (.checkcast 52, 3) := by decide +kernel
theorem dX7_bankWithRouting_42 : decode cX7_bankWithRouting 42 = .ok (.areturn, 1) := by decide +kernel
theorem dX7_bankWithRouting_43 : decode cX7_bankWithRouting 43 = .ok (.iinc 2 1, 3) := by decide +kernel
theorem dX7_bankWithRouting_46 : decode cX7_bankWithRouting 46 = .ok (.goto (-44), 3) := by decide +kernel
theorem dX7_bankWithRouting_49 : decode cX7_bankWithRouting 49 = .ok (.aconst_null, 1) := by decide +kernel
theorem dX7_bankWithRouting_50 : decode cX7_bankWithRouting 50 = .ok (.areturn, 1) := by decide +kernel
set_option maxRecDepth 20000 in
theorem ggX7_accountOf_Jx4a65c_size_8abf5 : GoodIn wsX7_accountOf wsJx4a65c_size_8abf5 := goodIn_r _ [9, 10, 39, 40, 41] (by decide +kernel) (by decide +kernel)
set_option maxRecDepth 20000 in
theorem gX7_accountOf_Jx4a65c_size_8abf5 : GoodIn wsX7_accountOf (wsV RX7 48 RJx4a65c yJx4a65c_size_8abf5 wsJx4a65c_size_8abf5) := goodIn_app (goodIn_of _ (by decide +kernel)) ggX7_accountOf_Jx4a65c_size_8abf5
set_option maxRecDepth 20000 in
theorem ggX7_accountOf_Jx4a65c_get_915e3 : GoodIn wsX7_accountOf wsJx4a65c_get_915e3 := goodIn_r _ [14, 10, 15, 16, 17, 18, 19, 20, 21, 22, 23, 24, 25, 8, 26, 27, 39, 40, 41] (by decide +kernel) (by decide +kernel)
set_option maxRecDepth 20000 in
theorem gX7_accountOf_Jx4a65c_get_915e3 : GoodIn wsX7_accountOf (wsV RX7 147 RJx4a65c yJx4a65c_get_915e3 wsJx4a65c_get_915e3) := goodIn_app (goodIn_of _ (by decide +kernel)) ggX7_accountOf_Jx4a65c_get_915e3
theorem dX7_accountOf_0 : decode cX7_accountOf 0 = .ok (.iconst 0, 1) := by decide +kernel
theorem dX7_accountOf_1 : decode cX7_accountOf 1 = .ok (.istore_n 3, 1) := by decide +kernel
theorem dX7_accountOf_2 : decode cX7_accountOf 2 = .ok (.iload_n 3, 1) := by decide +kernel
theorem dX7_accountOf_3 : decode cX7_accountOf 3 = .ok (.aload_n 0, 1) := by decide +kernel
theorem dX7_accountOf_4 : decode cX7_accountOf 4 = .ok (.getfield 16, 3) := by decide +kernel
theorem dX7_accountOf_7 : decode cX7_accountOf 7 = .ok (.invokevirtual 48, 3) := by decide +kernel
theorem dX7_accountOf_10 : decode cX7_accountOf 10 = .ok (.if_icmp .ge 43, 3) := by decide +kernel
theorem dX7_accountOf_13 : decode cX7_accountOf 13 = .ok (.aload_n 0, 1) := by decide +kernel
theorem dX7_accountOf_14 : decode cX7_accountOf 14 = .ok (.getfield 16, 3) := by decide +kernel
theorem dX7_accountOf_17 : decode cX7_accountOf 17 = .ok (.iload_n 3, 1) := by decide +kernel
theorem dX7_accountOf_18 : decode cX7_accountOf 18 = .ok (.invokevirtual 147, 3) := by decide +kernel
theorem dX7_accountOf_21 : decode cX7_accountOf 21 = .ok (.checkcast 70, 3) := by decide +kernel
theorem dX7_accountOf_24 : decode cX7_accountOf 24 = .ok (.astore 4, 2) := by decide +kernel
theorem dX7_accountOf_26 : decode cX7_accountOf 26 = .ok (.aload 4, 2) := by decide +kernel
theorem dX7_accountOf_28 : decode cX7_accountOf 28 = .ok (.getfield 227, 3) := by decide +kernel
theorem dX7_accountOf_31 : decode cX7_accountOf 31 = .ok (.aload_n 1, 1) := by decide +kernel
theorem dX7_accountOf_32 : decode cX7_accountOf 32 = .ok (.if_acmp .ne 15, 3) := by decide +kernel
theorem dX7_accountOf_35 : decode cX7_accountOf 35 = .ok (.aload 4, 2) := by decide +kernel
theorem dX7_accountOf_37 : decode cX7_accountOf 37 = .ok (.getfield 230, 3) := by decide +kernel
theorem dX7_accountOf_40 : decode cX7_accountOf 40 = .ok (.iload_n 2, 1) := by decide +kernel
theorem dX7_accountOf_41 : decode cX7_accountOf 41 = .ok (.if_icmp .ne 6, 3) := by decide +kernel
theorem dX7_accountOf_44 : decode cX7_accountOf 44 = .ok (.aload 4, 2) := by decide +kernel
theorem dX7_accountOf_46 : decode cX7_accountOf 46 = .ok (.areturn, 1) := by decide +kernel
theorem dX7_accountOf_47 : decode cX7_accountOf 47 = .ok (.iinc 3 1, 3) := by decide +kernel
theorem dX7_accountOf_50 : decode cX7_accountOf 50 = .ok (.goto (-48), 3) := by decide +kernel
theorem dX7_accountOf_53 : decode cX7_accountOf 53 = .ok (.aconst_null, 1) := by decide +kernel
theorem dX7_accountOf_54 : decode cX7_accountOf 54 = .ok (.areturn, 1) := by decide +kernel
set_option maxRecDepth 20000 in
theorem ggX7_beginBatch_X4_end : GoodIn wsX7_beginBatch wsX4_end := goodIn_r _ [10, 11, 54, 55, 56, 57, 58, 59, 60, 61] (by decide +kernel) (by decide +kernel)
set_option maxRecDepth 20000 in
theorem gX7_beginBatch_X4_end : GoodIn wsX7_beginBatch (wsV RX7 91 RX4 yX4_end wsX4_end) := goodIn_app (goodIn_of _ (by decide +kernel)) ggX7_beginBatch_X4_end
set_option maxRecDepth 20000 in
theorem ggX7_beginBatch_X7_digits : GoodIn wsX7_beginBatch wsX7_digits := goodIn_r _ [15, 16] (by decide +kernel) (by decide +kernel)
set_option maxRecDepth 20000 in
theorem gX7_beginBatch_X7_digits : GoodIn wsX7_beginBatch (va_wsS RX7 83 yX7_digits wsX7_digits) := goodIn_app (goodIn_of _ (by decide +kernel)) ggX7_beginBatch_X7_digits
set_option maxRecDepth 20000 in
theorem ggX7_beginBatch_X2_begin : GoodIn wsX7_beginBatch wsX2_begin := goodIn_r _ [21, 22, 23, 24, 25, 26, 27, 28, 29, 30, 31, 32, 33, 34, 35, 36, 37, 38, 39, 40, 41, 42, 43, 44, 45, 46, 62, 63, 64, 65, 66, 67, 68, 69, 70, 71, 72, 73, 74, 75, 76, 77] (by decide +kernel) (by decide +kernel)
set_option maxRecDepth 20000 in
theorem gX7_beginBatch_X2_begin : GoodIn wsX7_beginBatch (wsV RX7 238 RX2 yX2_begin wsX2_begin) := goodIn_app (goodIn_of _ (by decide +kernel)) ggX7_beginBatch_X2_begin
theorem dX7_beginBatch_0 : decode cX7_beginBatch 0 = .ok (.aload_n 0, 1) := by decide +kernel
theorem dX7_beginBatch_1 : decode cX7_beginBatch 1 = .ok (.getfield 22, 3) := by decide +kernel
theorem dX7_beginBatch_4 : decode cX7_beginBatch 4 = .ok (.getfield 231, 3) := by decide +kernel
theorem dX7_beginBatch_7 : decode cX7_beginBatch 7 = .ok (.iconst 4, 1) := by decide +kernel
theorem dX7_beginBatch_8 : decode cX7_beginBatch 8 = .ok (.if_icmp .lt 13, 3) := by decide +kernel
theorem dX7_beginBatch_11 : decode cX7_beginBatch 11 = .ok (.aload_n 0, 1) := by decide +kernel
theorem dX7_beginBatch_12 : decode cX7_beginBatch 12 = .ok (.getfield 22, 3) := by decide +kernel
theorem dX7_beginBatch_15 : decode cX7_beginBatch 15 = .ok (.invokevirtual 91, 3) := by decide +kernel
theorem dX7_beginBatch_18 : decode cX7_beginBatch 18 = .ok (.bipush (-3), 2) := by decide +kernel
theorem dX7_beginBatch_20 : decode cX7_beginBatch 20 = .ok (.ireturn, 1) := by decide +kernel
theorem dX7_beginBatch_21 : decode cX7_beginBatch 21 = .ok (.aload_n 0, 1) := by decide +kernel
theorem dX7_beginBatch_22 : decode cX7_beginBatch 22 = .ok (.getfield 22, 3) := by decide +kernel
theorem dX7_beginBatch_25 : decode cX7_beginBatch 25 = .ok (.getfield 234, 3) := by decide +kernel
theorem dX7_beginBatch_28 : decode cX7_beginBatch 28 = .ok (.aload_n 0, 1) := by decide +kernel
theorem dX7_beginBatch_29 : decode cX7_beginBatch 29 = .ok (.getfield 22, 3) := by decide +kernel
theorem dX7_beginBatch_32 : decode cX7_beginBatch 32 = .ok (.getfield 231, 3) := by decide +kernel
theorem dX7_beginBatch_35 : decode cX7_beginBatch 35 = .ok (.aaload, 1) := by decide +kernel
theorem dX7_beginBatch_36 : decode cX7_beginBatch 36 = .ok (.astore 5, 2) := by decide +kernel
theorem dX7_beginBatch_38 : decode cX7_beginBatch 38 = .ok (.aload 5, 2) := by decide +kernel
theorem dX7_beginBatch_40 : decode cX7_beginBatch 40 = .ok (.lload_n 1, 1) := by decide +kernel
theorem dX7_beginBatch_41 : decode cX7_beginBatch 41 = .ok (.lload_n 3, 1) := by decide +kernel
theorem dX7_beginBatch_42 : decode cX7_beginBatch 42 = .ok (.iconst 1, 1) := by decide +kernel
theorem dX7_beginBatch_43 : decode cX7_beginBatch 43 = .ok (.iconst 4, 1) := by decide +kernel
theorem dX7_beginBatch_44 : decode cX7_beginBatch 44 = .ok (.invokestatic 83, 3) := by decide +kernel
theorem dX7_beginBatch_47 : decode cX7_beginBatch 47 = .ok (.lload_n 1, 1) := by decide +kernel
theorem dX7_beginBatch_48 : decode cX7_beginBatch 48 = .ok (.lload_n 3, 1) := by decide +kernel
theorem dX7_beginBatch_49 : decode cX7_beginBatch 49 = .ok (.iconst 5, 1) := by decide +kernel
theorem dX7_beginBatch_50 : decode cX7_beginBatch 50 = .ok (.bipush 8, 2) := by decide +kernel
theorem dX7_beginBatch_52 : decode cX7_beginBatch 52 = .ok (.invokestatic 83, 3) := by decide +kernel
theorem dX7_beginBatch_55 : decode cX7_beginBatch 55 = .ok (.lload_n 1, 1) := by decide +kernel
theorem dX7_beginBatch_56 : decode cX7_beginBatch 56 = .ok (.lload_n 3, 1) := by decide +kernel
theorem dX7_beginBatch_57 : decode cX7_beginBatch 57 = .ok (.bipush 9, 2) := by decide +kernel
theorem dX7_beginBatch_59 : decode cX7_beginBatch 59 = .ok (.bipush 12, 2) := by decide +kernel
theorem dX7_beginBatch_61 : decode cX7_beginBatch 61 = .ok (.invokestatic 83, 3) := by decide +kernel
theorem dX7_beginBatch_64 : decode cX7_beginBatch 64 = .ok (.invokevirtual 238, 3) := by decide +kernel
theorem dX7_beginBatch_67 : decode cX7_beginBatch 67 = .ok (.aload_n 0, 1) := by decide +kernel
theorem dX7_beginBatch_68 : decode cX7_beginBatch 68 = .ok (.getfield 22, 3) := by decide +kernel
theorem dX7_beginBatch_71 : decode cX7_beginBatch 71 = .ok (.dup, 1) := by decide +kernel
theorem dX7_beginBatch_72 : decode cX7_beginBatch 72 = .ok (.getfield 231, 3) := by decide +kernel
theorem dX7_beginBatch_75 : decode cX7_beginBatch 75 = .ok (.iconst 1, 1) := by decide +kernel
theorem dX7_beginBatch_76 : decode cX7_beginBatch 76 = .ok (.iadd, 1) := by decide +kernel
theorem dX7_beginBatch_77 : decode cX7_beginBatch 77 = .ok (.putfield 231, 3) := by decide +kernel
theorem dX7_beginBatch_80 : decode cX7_beginBatch 80 = .ok (.aload_n 0, 1) := by decide +kernel
theorem dX7_beginBatch_81 : decode cX7_beginBatch 81 = .ok (.getfield 22, 3) := by decide +kernel
theorem dX7_beginBatch_84 : decode cX7_beginBatch 84 = .ok (.aload 5, 2) := by decide +kernel
theorem dX7_beginBatch_86 : decode cX7_beginBatch 86 = .ok (.putfield 243, 3) := by decide +kernel
theorem dX7_beginBatch_89 : decode cX7_beginBatch 89 = .ok (.aload_n 0, 1) := by decide +kernel
theorem dX7_beginBatch_90 : decode cX7_beginBatch 90 = .ok (.getfield 22, 3) := by decide +kernel
theorem dX7_beginBatch_93 : decode cX7_beginBatch 93 = .ok (.iconst 1, 1) := by decide +kernel
theorem dX7_beginBatch_94 : decode cX7_beginBatch 94 = .ok (.putfield 247, 3) := by decide +kernel
theorem dX7_beginBatch_97 : decode cX7_beginBatch 97 = .ok (.iconst 0, 1) := by decide +kernel
theorem dX7_beginBatch_98 : decode cX7_beginBatch 98 = .ok (.ireturn, 1) := by decide +kernel
set_option maxRecDepth 20000 in
theorem ggX7_addEntry_X4_end : GoodIn wsX7_addEntry wsX4_end := goodIn_r _ [18, 19, 116, 117, 118, 119, 120, 121, 122, 123] (by decide +kernel) (by decide +kernel)
set_option maxRecDepth 20000 in
theorem gX7_addEntry_X4_end : GoodIn wsX7_addEntry (wsV RX7 91 RX4 yX4_end wsX4_end) := goodIn_app (goodIn_of _ (by decide +kernel)) ggX7_addEntry_X4_end
set_option maxRecDepth 20000 in
theorem ggX7_addEntry_X3_init : GoodIn wsX7_addEntry wsX3_init := goodIn_r _ [21, 22, 23, 24] (by decide +kernel) (by decide +kernel)
set_option maxRecDepth 20000 in
theorem gX7_addEntry_X3_init_n253 : GoodIn wsX7_addEntry (wsX3_init) := ggX7_addEntry_X3_init
set_option maxRecDepth 20000 in
theorem ggX7_addEntry_X7_digits : GoodIn wsX7_addEntry wsX7_digits := goodIn_r _ [28, 29] (by decide +kernel) (by decide +kernel)
set_option maxRecDepth 20000 in
theorem gX7_addEntry_X7_digits : GoodIn wsX7_addEntry (va_wsS RX7 83 yX7_digits wsX7_digits) := goodIn_app (goodIn_of _ (by decide +kernel)) ggX7_addEntry_X7_digits
set_option maxRecDepth 20000 in
theorem ggX7_addEntry_X2_add : GoodIn wsX7_addEntry wsX2_add := goodIn_r _ [34, 35, 36, 37, 38, 39, 40, 41, 42, 43, 44, 45, 46, 47, 48, 49, 50, 51, 52, 53, 54, 55, 56, 57, 58, 59, 60, 61, 62, 63, 64, 65, 66, 67, 68, 69, 70, 71, 72, 73, 74, 75, 76, 77, 78, 79, 80, 81, 82, 83, 84, 85, 86, 87, 88, 89, 90, 91, 92, 93, 94, 95, 96, 97, 98, 99, 100, 101, 102, 103, 104, 105, 106, 107, 137, 138, 139, 140, 141, 142, 143, 144, 145, 128, 129, 130, 131, 132, 133, 134, 135, 136, 146, 147, 148, 124, 125, 126, 127] (by decide +kernel) (by decide +kernel)
set_option maxRecDepth 20000 in
theorem gX7_addEntry_X2_add : GoodIn wsX7_addEntry (wsV RX7 255 RX2 yX2_add wsX2_add) := goodIn_app (goodIn_of _ (by decide +kernel)) ggX7_addEntry_X2_add
set_option maxRecDepth 20000 in
theorem ggX7_addEntry_X6_add : GoodIn wsX7_addEntry wsX6_add := goodIn_r _ [100, 101, 102, 103, 104, 105, 106, 107, 124, 125, 126, 127, 128, 129, 130, 131, 132, 133, 134, 135, 136] (by decide +kernel) (by decide +kernel)
set_option maxRecDepth 20000 in
theorem gX7_addEntry_X6_add : GoodIn wsX7_addEntry (wsV RX7 258 RX6 yX6_add wsX6_add) := goodIn_app (goodIn_of _ (by decide +kernel)) ggX7_addEntry_X6_add
theorem dX7_addEntry_0 : decode cX7_addEntry 0 = .ok (.aload_n 0, 1) := by decide +kernel
theorem dX7_addEntry_1 : decode cX7_addEntry 1 = .ok (.getfield 22, 3) := by decide +kernel
theorem dX7_addEntry_4 : decode cX7_addEntry 4 = .ok (.getfield 250, 3) := by decide +kernel
theorem dX7_addEntry_7 : decode cX7_addEntry 7 = .ok (.getfield 192, 3) := by decide +kernel
theorem dX7_addEntry_10 : decode cX7_addEntry 10 = .ok (.ldc2_w 251, 3) := by decide +kernel
theorem dX7_addEntry_13 : decode cX7_addEntry 13 = .ok (.lcmp, 1) := by decide +kernel
theorem dX7_addEntry_14 : decode cX7_addEntry 14 = .ok (.ifCond .lt 13, 3) := by decide +kernel
theorem dX7_addEntry_17 : decode cX7_addEntry 17 = .ok (.aload_n 0, 1) := by decide +kernel
theorem dX7_addEntry_18 : decode cX7_addEntry 18 = .ok (.getfield 22, 3) := by decide +kernel
theorem dX7_addEntry_21 : decode cX7_addEntry 21 = .ok (.invokevirtual 91, 3) := by decide +kernel
theorem dX7_addEntry_24 : decode cX7_addEntry 24 = .ok (.bipush (-3), 2) := by decide +kernel
theorem dX7_addEntry_26 : decode cX7_addEntry 26 = .ok (.ireturn, 1) := by decide +kernel
theorem dX7_addEntry_27 : decode cX7_addEntry 27 = .ok (.new 151, 3) := by decide +kernel
theorem dX7_addEntry_30 : decode cX7_addEntry 30 = .ok (.dup, 1) := by decide +kernel
theorem dX7_addEntry_31 : decode cX7_addEntry 31 = .ok (.invokespecial 253, 3) := by decide +kernel
theorem dX7_addEntry_34 : decode cX7_addEntry 34 = .ok (.astore 5, 2) := by decide +kernel
theorem dX7_addEntry_36 : decode cX7_addEntry 36 = .ok (.aload 5, 2) := by decide +kernel
theorem dX7_addEntry_38 : decode cX7_addEntry 38 = .ok (.lload_n 1, 1) := by decide +kernel
theorem dX7_addEntry_39 : decode cX7_addEntry 39 = .ok (.lload_n 3, 1) := by decide +kernel
theorem dX7_addEntry_40 : decode cX7_addEntry 40 = .ok (.iconst 1, 1) := by decide +kernel
theorem dX7_addEntry_41 : decode cX7_addEntry 41 = .ok (.iconst 1, 1) := by decide +kernel
theorem dX7_addEntry_42 : decode cX7_addEntry 42 = .ok (.invokestatic 83, 3) := by decide +kernel
theorem dX7_addEntry_45 : decode cX7_addEntry 45 = .ok (.putfield 157, 3) := by decide +kernel
theorem dX7_addEntry_48 : decode cX7_addEntry 48 = .ok (.aload 5, 2) := by decide +kernel
theorem dX7_addEntry_50 : decode cX7_addEntry 50 = .ok (.lload_n 1, 1) := by decide +kernel
theorem dX7_addEntry_51 : decode cX7_addEntry 51 = .ok (.lload_n 3, 1) := by decide +kernel
theorem dX7_addEntry_52 : decode cX7_addEntry 52 = .ok (.iconst 2, 1) := by decide +kernel
theorem dX7_addEntry_53 : decode cX7_addEntry 53 = .ok (.iconst 5, 1) := by decide +kernel
theorem dX7_addEntry_54 : decode cX7_addEntry 54 = .ok (.invokestatic 83, 3) := by decide +kernel
theorem dX7_addEntry_57 : decode cX7_addEntry 57 = .ok (.putfield 254, 3) := by decide +kernel
theorem dX7_addEntry_60 : decode cX7_addEntry 60 = .ok (.aload 5, 2) := by decide +kernel
theorem dX7_addEntry_62 : decode cX7_addEntry 62 = .ok (.lload_n 1, 1) := by decide +kernel
theorem dX7_addEntry_63 : decode cX7_addEntry 63 = .ok (.lload_n 3, 1) := by decide +kernel
theorem dX7_addEntry_64 : decode cX7_addEntry 64 = .ok (.bipush 6, 2) := by decide +kernel
theorem dX7_addEntry_66 : decode cX7_addEntry 66 = .ok (.bipush 11, 2) := by decide +kernel
theorem dX7_addEntry_68 : decode cX7_addEntry 68 = .ok (.invokestatic 83, 3) := by decide +kernel
theorem dX7_addEntry_71 : decode cX7_addEntry 71 = .ok (.putfield 170, 3) := by decide +kernel
theorem dX7_addEntry_74 : decode cX7_addEntry 74 = .ok (.aload 5, 2) := by decide +kernel
theorem dX7_addEntry_76 : decode cX7_addEntry 76 = .ok (.lload_n 1, 1) := by decide +kernel
theorem dX7_addEntry_77 : decode cX7_addEntry 77 = .ok (.lload_n 3, 1) := by decide +kernel
theorem dX7_addEntry_78 : decode cX7_addEntry 78 = .ok (.bipush 18, 2) := by decide +kernel
theorem dX7_addEntry_80 : decode cX7_addEntry 80 = .ok (.bipush 24, 2) := by decide +kernel
theorem dX7_addEntry_82 : decode cX7_addEntry 82 = .ok (.invokestatic 83, 3) := by decide +kernel
theorem dX7_addEntry_85 : decode cX7_addEntry 85 = .ok (.putfield 173, 3) := by decide +kernel
theorem dX7_addEntry_88 : decode cX7_addEntry 88 = .ok (.aload 5, 2) := by decide +kernel
theorem dX7_addEntry_90 : decode cX7_addEntry 90 = .ok (.lload_n 1, 1) := by decide +kernel
theorem dX7_addEntry_91 : decode cX7_addEntry 91 = .ok (.lload_n 3, 1) := by decide +kernel
theorem dX7_addEntry_92 : decode cX7_addEntry 92 = .ok (.bipush 25, 2) := by decide +kernel
theorem dX7_addEntry_94 : decode cX7_addEntry 94 = .ok (.bipush 31, 2) := by decide +kernel
theorem dX7_addEntry_96 : decode cX7_addEntry 96 = .ok (.invokestatic 83, 3) := by decide +kernel
theorem dX7_addEntry_99 : decode cX7_addEntry 99 = .ok (.putfield 176, 3) := by decide +kernel
theorem dX7_addEntry_102 : decode cX7_addEntry 102 = .ok (.aload_n 0, 1) := by decide +kernel
theorem dX7_addEntry_103 : decode cX7_addEntry 103 = .ok (.getfield 22, 3) := by decide +kernel
theorem dX7_addEntry_106 : decode cX7_addEntry 106 = .ok (.getfield 243, 3) := by decide +kernel
theorem dX7_addEntry_109 : decode cX7_addEntry 109 = .ok (.aload 5, 2) := by decide +kernel
theorem dX7_addEntry_111 : decode cX7_addEntry 111 = .ok (.invokevirtual 255, 3) := by decide +kernel
theorem dX7_addEntry_114 : decode cX7_addEntry 114 = .ok (.aload_n 0, 1) := by decide +kernel
theorem dX7_addEntry_115 : decode cX7_addEntry 115 = .ok (.getfield 22, 3) := by decide +kernel
theorem dX7_addEntry_118 : decode cX7_addEntry 118 = .ok (.getfield 250, 3) := by decide +kernel
theorem dX7_addEntry_121 : decode cX7_addEntry 121 = .ok (.aload 5, 2) := by decide +kernel
theorem dX7_addEntry_123 : decode cX7_addEntry 123 = .ok (.invokevirtual 258, 3) := by decide +kernel
theorem dX7_addEntry_126 : decode cX7_addEntry 126 = .ok (.iconst 0, 1) := by decide +kernel
theorem dX7_addEntry_127 : decode cX7_addEntry 127 = .ok (.ireturn, 1) := by decide +kernel
set_option maxRecDepth 20000 in
theorem ggX7_endBatch_X7_digits : GoodIn wsX7_endBatch wsX7_digits := goodIn_r _ [9, 10] (by decide +kernel) (by decide +kernel)
set_option maxRecDepth 20000 in
theorem gX7_endBatch_X7_digits : GoodIn wsX7_endBatch (va_wsS RX7 83 yX7_digits wsX7_digits) := goodIn_app (goodIn_of _ (by decide +kernel)) ggX7_endBatch_X7_digits
set_option maxRecDepth 20000 in
theorem ggX7_endBatch_X6_are : GoodIn wsX7_endBatch wsX6_are := goodIn_r _ [15, 16, 17, 18, 19, 44, 45, 46, 47] (by decide +kernel) (by decide +kernel)
set_option maxRecDepth 20000 in
theorem gX7_endBatch_X6_are : GoodIn wsX7_endBatch (wsV RX7 260 RX6 yX6_are wsX6_are) := goodIn_app (goodIn_of _ (by decide +kernel)) ggX7_endBatch_X6_are
theorem dX7_endBatch_0 : decode cX7_endBatch 0 = .ok (.aload_n 0, 1) := by decide +kernel
theorem dX7_endBatch_1 : decode cX7_endBatch 1 = .ok (.getfield 22, 3) := by decide +kernel
theorem dX7_endBatch_4 : decode cX7_endBatch 4 = .ok (.getfield 243, 3) := by decide +kernel
theorem dX7_endBatch_7 : decode cX7_endBatch 7 = .ok (.astore 5, 2) := by decide +kernel
theorem dX7_endBatch_9 : decode cX7_endBatch 9 = .ok (.aload 5, 2) := by decide +kernel
theorem dX7_endBatch_11 : decode cX7_endBatch 11 = .ok (.aload 5, 2) := by decide +kernel
theorem dX7_endBatch_13 : decode cX7_endBatch 13 = .ok (.getfield 259, 3) := by decide +kernel
theorem dX7_endBatch_16 : decode cX7_endBatch 16 = .ok (.lload_n 1, 1) := by decide +kernel
theorem dX7_endBatch_17 : decode cX7_endBatch 17 = .ok (.lload_n 3, 1) := by decide +kernel
theorem dX7_endBatch_18 : decode cX7_endBatch 18 = .ok (.iconst 1, 1) := by decide +kernel
theorem dX7_endBatch_19 : decode cX7_endBatch 19 = .ok (.iconst 4, 1) := by decide +kernel
theorem dX7_endBatch_20 : decode cX7_endBatch 20 = .ok (.invokestatic 83, 3) := by decide +kernel
theorem dX7_endBatch_23 : decode cX7_endBatch 23 = .ok (.lload_n 1, 1) := by decide +kernel
theorem dX7_endBatch_24 : decode cX7_endBatch 24 = .ok (.lload_n 3, 1) := by decide +kernel
theorem dX7_endBatch_25 : decode cX7_endBatch 25 = .ok (.iconst 5, 1) := by decide +kernel
theorem dX7_endBatch_26 : decode cX7_endBatch 26 = .ok (.bipush 10, 2) := by decide +kernel
theorem dX7_endBatch_28 : decode cX7_endBatch 28 = .ok (.invokestatic 83, 3) := by decide +kernel
theorem dX7_endBatch_31 : decode cX7_endBatch 31 = .ok (.lload_n 1, 1) := by decide +kernel
theorem dX7_endBatch_32 : decode cX7_endBatch 32 = .ok (.lload_n 3, 1) := by decide +kernel
theorem dX7_endBatch_33 : decode cX7_endBatch 33 = .ok (.bipush 18, 2) := by decide +kernel
theorem dX7_endBatch_35 : decode cX7_endBatch 35 = .ok (.bipush 26, 2) := by decide +kernel
theorem dX7_endBatch_37 : decode cX7_endBatch 37 = .ok (.invokestatic 83, 3) := by decide +kernel
theorem dX7_endBatch_40 : decode cX7_endBatch 40 = .ok (.lload_n 1, 1) := by decide +kernel
theorem dX7_endBatch_41 : decode cX7_endBatch 41 = .ok (.lload_n 3, 1) := by decide +kernel
theorem dX7_endBatch_42 : decode cX7_endBatch 42 = .ok (.bipush 27, 2) := by decide +kernel
theorem dX7_endBatch_44 : decode cX7_endBatch 44 = .ok (.bipush 35, 2) := by decide +kernel
theorem dX7_endBatch_46 : decode cX7_endBatch 46 = .ok (.invokestatic 83, 3) := by decide +kernel
theorem dX7_endBatch_49 : decode cX7_endBatch 49 = .ok (.invokevirtual 260, 3) := by decide +kernel
theorem dX7_endBatch_52 : decode cX7_endBatch 52 = .ok (.putfield 264, 3) := by decide +kernel
theorem dX7_endBatch_55 : decode cX7_endBatch 55 = .ok (.aload_n 0, 1) := by decide +kernel
theorem dX7_endBatch_56 : decode cX7_endBatch 56 = .ok (.getfield 22, 3) := by decide +kernel
theorem dX7_endBatch_59 : decode cX7_endBatch 59 = .ok (.iconst 0, 1) := by decide +kernel
theorem dX7_endBatch_60 : decode cX7_endBatch 60 = .ok (.putfield 247, 3) := by decide +kernel
theorem dX7_endBatch_63 : decode cX7_endBatch 63 = .ok (.return_, 1) := by decide +kernel
set_option maxRecDepth 20000 in
theorem ggX7_endFile_X4_end : GoodIn wsX7_endFile wsX4_end := goodIn_r _ [6, 7, 188, 189, 190, 191, 192, 193, 194, 195] (by decide +kernel) (by decide +kernel)
set_option maxRecDepth 20000 in
theorem gX7_endFile_X4_end : GoodIn wsX7_endFile (wsV RX7 91 RX4 yX4_end wsX4_end) := goodIn_app (goodIn_of _ (by decide +kernel)) ggX7_endFile_X4_end
set_option maxRecDepth 20000 in
theorem ggX7_endFile_X7_reasonAgainstFile : GoodIn wsX7_endFile wsX7_reasonAgainstFile := goodIn_r _ [12, 1, 13, 14, 15, 16, 17, 18, 11, 19, 20, 21, 22, 23, 24, 25, 26, 27, 28, 29, 30, 31, 32, 33, 34, 35, 36, 37, 38, 39, 40, 41, 42, 43, 44, 45, 46, 47, 48, 49, 50, 51, 52, 53, 54, 55, 56, 57, 58, 59, 60, 61, 62, 63, 64, 65, 66, 67, 68, 69, 70, 71, 72, 73, 74, 75, 76, 77, 78, 79, 80, 81, 82, 83, 84, 85, 86, 87, 88, 89, 90, 91, 92, 93, 94, 95, 96, 97, 98, 99, 100, 101, 102, 103, 104, 105, 106, 107, 108, 109, 110, 181, 182, 183, 184, 185, 186, 187, 188, 189, 190, 191, 192, 193, 194, 195, 196, 197, 198, 199, 200, 201, 202, 203, 204, 205, 206, 207, 208, 209, 210, 211, 212, 213, 214, 215, 216, 217, 218, 219, 220, 221, 222, 223, 224, 225, 226] (by decide +kernel) (by decide +kernel)
set_option maxRecDepth 20000 in
theorem gX7_endFile_X7_reasonAgainstFile : GoodIn wsX7_endFile (wsV RX7 267 RX7 yX7_reasonAgainstFile wsX7_reasonAgainstFile) := goodIn_app (goodIn_of _ (by decide +kernel)) ggX7_endFile_X7_reasonAgainstFile
set_option maxRecDepth 20000 in
theorem ggX7_endFile_X7_countRefusal : GoodIn wsX7_endFile wsX7_countRefusal := goodIn_r _ [114, 115, 181, 182, 183, 184, 185, 186, 187] (by decide +kernel) (by decide +kernel)
set_option maxRecDepth 20000 in
theorem gX7_endFile_X7_countRefusal : GoodIn wsX7_endFile (wsV RX7 270 RX7 yX7_countRefusal wsX7_countRefusal) := goodIn_app (goodIn_of _ (by decide +kernel)) ggX7_endFile_X7_countRefusal
set_option maxRecDepth 20000 in
theorem ggX7_endFile_X7_fileKey : GoodIn wsX7_endFile wsX7_fileKey := goodIn_r _ [49, 1, 13, 50, 181, 182, 183, 184, 185, 186, 187, 188, 189, 190, 191, 192, 193, 194, 195] (by decide +kernel) (by decide +kernel)
set_option maxRecDepth 20000 in
theorem gX7_endFile_X7_fileKey : GoodIn wsX7_endFile (wsV RX7 274 RX7 yX7_fileKey wsX7_fileKey) := goodIn_app (goodIn_of _ (by decide +kernel)) ggX7_endFile_X7_fileKey
set_option maxRecDepth 20000 in
theorem ggX7_endFile_X7_keepAsAccepted : GoodIn wsX7_endFile wsX7_keepAsAccepted := goodIn_r _ [119, 55, 56, 181, 182, 183, 184, 185, 186, 187] (by decide +kernel) (by decide +kernel)
set_option maxRecDepth 20000 in
theorem gX7_endFile_X7_keepAsAccepted : GoodIn wsX7_endFile (wsV RX7 277 RX7 yX7_keepAsAccepted wsX7_keepAsAccepted) := goodIn_app (goodIn_of _ (by decide +kernel)) ggX7_endFile_X7_keepAsAccepted
set_option maxRecDepth 20000 in
theorem ggX7_endFile_X7_acceptBatches : GoodIn wsX7_endFile wsX7_acceptBatches := goodIn_r _ [123, 1, 14, 79, 80, 111, 112, 113, 11, 114, 115, 124, 125, 126, 127, 95, 96, 101, 100, 74, 23, 24, 25, 26, 27, 28, 29, 30, 31, 32, 33, 34, 35, 36, 37, 38, 39, 40, 41, 42, 43, 44, 45, 128, 129, 130, 131, 132, 133, 134, 135, 136, 137, 138, 139, 140, 141, 142, 143, 144, 145, 146, 147, 148, 149, 150, 151, 152, 153, 154, 155, 156, 157, 158, 159, 160, 161, 162, 163, 164, 165, 166, 167, 168, 169, 170, 171, 172, 173, 174, 175, 176, 177, 178, 179, 180, 181, 182, 183, 184, 185, 186, 187, 188, 189, 190, 191, 192, 193, 194, 195, 209, 210, 211, 212, 213, 214, 215, 216, 217, 218, 219, 220, 221, 222, 223, 224, 225, 226, 196, 197, 198, 199, 200, 201, 202, 203, 204] (by decide +kernel) (by decide +kernel)
set_option maxRecDepth 20000 in
theorem gX7_endFile_X7_acceptBatches : GoodIn wsX7_endFile (wsV RX7 280 RX7 yX7_acceptBatches wsX7_acceptBatches) := goodIn_app (goodIn_of _ (by decide +kernel)) ggX7_endFile_X7_acceptBatches
theorem dX7_endFile_0 : decode cX7_endFile 0 = .ok (.aload_n 0, 1) := by decide +kernel
theorem dX7_endFile_1 : decode cX7_endFile 1 = .ok (.getfield 22, 3) := by decide +kernel
theorem dX7_endFile_4 : decode cX7_endFile 4 = .ok (.invokevirtual 91, 3) := by decide +kernel
theorem dX7_endFile_7 : decode cX7_endFile 7 = .ok (.aload_n 0, 1) := by decide +kernel
theorem dX7_endFile_8 : decode cX7_endFile 8 = .ok (.lload_n 1, 1) := by decide +kernel
theorem dX7_endFile_9 : decode cX7_endFile 9 = .ok (.lload_n 3, 1) := by decide +kernel
theorem dX7_endFile_10 : decode cX7_endFile 10 = .ok (.invokevirtual 267, 3) := by decide +kernel
theorem dX7_endFile_13 : decode cX7_endFile 13 = .ok (.istore 5, 2) := by decide +kernel
theorem dX7_endFile_15 : decode cX7_endFile 15 = .ok (.iload 5, 2) := by decide +kernel
theorem dX7_endFile_17 : decode cX7_endFile 17 = .ok (.ifCond .eq 13, 3) := by decide +kernel
theorem dX7_endFile_20 : decode cX7_endFile 20 = .ok (.aload_n 0, 1) := by decide +kernel
theorem dX7_endFile_21 : decode cX7_endFile 21 = .ok (.iload 5, 2) := by decide +kernel
theorem dX7_endFile_23 : decode cX7_endFile 23 = .ok (.invokevirtual 270, 3) := by decide +kernel
theorem dX7_endFile_26 : decode cX7_endFile 26 = .ok (.iload 5, 2) := by decide +kernel
theorem dX7_endFile_28 : decode cX7_endFile 28 = .ok (.ineg, 1) := by decide +kernel
theorem dX7_endFile_29 : decode cX7_endFile 29 = .ok (.ireturn, 1) := by decide +kernel
theorem dX7_endFile_30 : decode cX7_endFile 30 = .ok (.aload_n 0, 1) := by decide +kernel
theorem dX7_endFile_31 : decode cX7_endFile 31 = .ok (.aload_n 0, 1) := by decide +kernel
theorem dX7_endFile_32 : decode cX7_endFile 32 = .ok (.invokevirtual 274, 3) := by decide +kernel
theorem dX7_endFile_35 : decode cX7_endFile 35 = .ok (.invokevirtual 277, 3) := by decide +kernel
theorem dX7_endFile_38 : decode cX7_endFile 38 = .ok (.aload_n 0, 1) := by decide +kernel
theorem dX7_endFile_39 : decode cX7_endFile 39 = .ok (.invokevirtual 280, 3) := by decide +kernel
theorem dX7_endFile_42 : decode cX7_endFile 42 = .ok (.ireturn, 1) := by decide +kernel
set_option maxRecDepth 20000 in
theorem ggX7_reasonAgainstFile_X7_bankWithRouting : GoodIn wsX7_reasonAgainstFile wsX7_bankWithRouting := goodIn_r _ [9, 10, 11, 12, 13, 14, 15, 16, 17, 18, 19, 20, 21, 22, 23, 24, 25, 26, 27, 28, 29, 30, 31, 32, 33, 34, 35, 101, 102, 103, 104, 105, 106, 107, 116, 117, 118, 119, 120, 121, 122, 123, 124] (by decide +kernel) (by decide +kernel)
set_option maxRecDepth 20000 in
theorem gX7_reasonAgainstFile_X7_bankWithRouting : GoodIn wsX7_reasonAgainstFile (wsV RX7 44 RX7 yX7_bankWithRouting wsX7_bankWithRouting) := goodIn_app (goodIn_of _ (by decide +kernel)) ggX7_reasonAgainstFile_X7_bankWithRouting
set_option maxRecDepth 20000 in
theorem ggX7_reasonAgainstFile_X7_fileKey : GoodIn wsX7_reasonAgainstFile wsX7_fileKey := goodIn_r _ [39, 1, 2, 40, 101, 102, 103, 104, 105, 106, 107, 108, 109, 110, 111, 112, 113, 114, 115] (by decide +kernel) (by decide +kernel)
set_option maxRecDepth 20000 in
theorem gX7_reasonAgainstFile_X7_fileKey : GoodIn wsX7_reasonAgainstFile (wsV RX7 274 RX7 yX7_fileKey wsX7_fileKey) := goodIn_app (goodIn_of _ (by decide +kernel)) ggX7_reasonAgainstFile_X7_fileKey
set_option maxRecDepth 20000 in
theorem ggX7_reasonAgainstFile_X7_wasAccepted : GoodIn wsX7_reasonAgainstFile wsX7_wasAccepted := goodIn_r _ [44, 45, 46, 101, 102, 103, 104, 105, 106, 107] (by decide +kernel) (by decide +kernel)
set_option maxRecDepth 20000 in
theorem gX7_reasonAgainstFile_X7_wasAccepted : GoodIn wsX7_reasonAgainstFile (wsV RX7 286 RX7 yX7_wasAccepted wsX7_wasAccepted) := goodIn_app (goodIn_of _ (by decide +kernel)) ggX7_reasonAgainstFile_X7_wasAccepted
set_option maxRecDepth 20000 in
theorem ggX7_reasonAgainstFile_X7_digits : GoodIn wsX7_reasonAgainstFile wsX7_digits := goodIn_r _ [49, 50] (by decide +kernel) (by decide +kernel)
set_option maxRecDepth 20000 in
theorem gX7_reasonAgainstFile_X7_digits : GoodIn wsX7_reasonAgainstFile (va_wsS RX7 83 yX7_digits wsX7_digits) := goodIn_app (goodIn_of _ (by decide +kernel)) ggX7_reasonAgainstFile_X7_digits
set_option maxRecDepth 20000 in
theorem ggX7_reasonAgainstFile_X6_are : GoodIn wsX7_reasonAgainstFile wsX6_are := goodIn_r _ [55, 56, 57, 58, 59, 125, 126, 127, 128] (by decide +kernel) (by decide +kernel)
set_option maxRecDepth 20000 in
theorem gX7_reasonAgainstFile_X6_are : GoodIn wsX7_reasonAgainstFile (wsV RX7 260 RX6 yX6_are wsX6_are) := goodIn_app (goodIn_of _ (by decide +kernel)) ggX7_reasonAgainstFile_X6_are
set_option maxRecDepth 20000 in
theorem ggX7_reasonAgainstFile_X7_waitingInAll : GoodIn wsX7_reasonAgainstFile wsX7_waitingInAll := goodIn_r _ [63, 10, 11, 64, 13, 14, 15, 16, 17, 18, 19, 20, 21, 22, 23, 24, 25, 26, 27, 28, 29, 30, 31, 32, 33, 34, 35, 101, 102, 103, 104, 105, 106, 107, 116, 117, 118, 119, 120, 121, 122, 123, 124] (by decide +kernel) (by decide +kernel)
set_option maxRecDepth 20000 in
theorem gX7_reasonAgainstFile_X7_waitingInAll : GoodIn wsX7_reasonAgainstFile (wsV RX7 289 RX7 yX7_waitingInAll wsX7_waitingInAll) := goodIn_app (goodIn_of _ (by decide +kernel)) ggX7_reasonAgainstFile_X7_waitingInAll
set_option maxRecDepth 20000 in
theorem ggX7_reasonAgainstFile_X7_judgeBatches : GoodIn wsX7_reasonAgainstFile wsX7_judgeBatches := goodIn_r _ [68, 1, 3, 69, 70, 71, 72, 73, 74, 8, 75, 76, 77, 78, 79, 80, 5, 6, 7, 9, 10, 11, 12, 13, 14, 15, 16, 17, 18, 19, 20, 21, 22, 23, 24, 25, 26, 27, 28, 29, 30, 31, 32, 33, 34, 35, 81, 82, 83, 84, 85, 86, 87, 88, 89, 90, 91, 92, 93, 94, 95, 96, 97, 98, 99, 100, 101, 102, 103, 104, 105, 106, 107, 108, 109, 110, 111, 112, 113, 114, 115, 129, 130, 131, 132, 133, 134, 135, 136, 137, 116, 117, 118, 119, 120, 121, 122, 123, 124, 138, 139, 140, 141, 142, 143, 144, 145, 146] (by decide +kernel) (by decide +kernel)
set_option maxRecDepth 20000 in
theorem gX7_reasonAgainstFile_X7_judgeBatches : GoodIn wsX7_reasonAgainstFile (wsV RX7 292 RX7 yX7_judgeBatches wsX7_judgeBatches) := goodIn_app (goodIn_of _ (by decide +kernel)) ggX7_reasonAgainstFile_X7_judgeBatches
theorem dX7_reasonAgainstFile_0 : decode cX7_reasonAgainstFile 0 = .ok (.aload_n 0, 1) := by decide +kernel
theorem dX7_reasonAgainstFile_1 : decode cX7_reasonAgainstFile 1 = .ok (.aload_n 0, 1) := by decide +kernel
theorem dX7_reasonAgainstFile_2 : decode cX7_reasonAgainstFile 2 = .ok (.getfield 22, 3) := by decide +kernel
theorem dX7_reasonAgainstFile_5 : decode cX7_reasonAgainstFile 5 = .ok (.getfield 283, 3) := by decide +kernel
theorem dX7_reasonAgainstFile_8 : decode cX7_reasonAgainstFile 8 = .ok (.invokevirtual 44, 3) := by decide +kernel
theorem dX7_reasonAgainstFile_11 : decode cX7_reasonAgainstFile 11 = .ok (.ifnonnull 6, 3) := by decide +kernel
theorem dX7_reasonAgainstFile_14 : decode cX7_reasonAgainstFile 14 = .ok (.bipush 10, 2) := by decide +kernel
theorem dX7_reasonAgainstFile_16 : decode cX7_reasonAgainstFile 16 = .ok (.ireturn, 1) := by decide +kernel
theorem dX7_reasonAgainstFile_17 : decode cX7_reasonAgainstFile 17 = .ok (.aload_n 0, 1) := by decide +kernel
theorem dX7_reasonAgainstFile_18 : decode cX7_reasonAgainstFile 18 = .ok (.aload_n 0, 1) := by decide +kernel
theorem dX7_reasonAgainstFile_19 : decode cX7_reasonAgainstFile 19 = .ok (.invokevirtual 274, 3) := by decide +kernel
theorem dX7_reasonAgainstFile_22 : decode cX7_reasonAgainstFile 22 = .ok (.invokevirtual 286, 3) := by decide +kernel
theorem dX7_reasonAgainstFile_25 : decode cX7_reasonAgainstFile 25 = .ok (.ifCond .eq 6, 3) := by decide +kernel
theorem dX7_reasonAgainstFile_28 : decode cX7_reasonAgainstFile 28 = .ok (.bipush 11, 2) := by decide +kernel
theorem dX7_reasonAgainstFile_30 : decode cX7_reasonAgainstFile 30 = .ok (.ireturn, 1) := by decide +kernel
theorem dX7_reasonAgainstFile_31 : decode cX7_reasonAgainstFile 31 = .ok (.aload_n 0, 1) := by decide +kernel
theorem dX7_reasonAgainstFile_32 : decode cX7_reasonAgainstFile 32 = .ok (.getfield 22, 3) := by decide +kernel
theorem dX7_reasonAgainstFile_35 : decode cX7_reasonAgainstFile 35 = .ok (.getfield 231, 3) := by decide +kernel
theorem dX7_reasonAgainstFile_38 : decode cX7_reasonAgainstFile 38 = .ok (.lload_n 1, 1) := by decide +kernel
theorem dX7_reasonAgainstFile_39 : decode cX7_reasonAgainstFile 39 = .ok (.lload_n 3, 1) := by decide +kernel
theorem dX7_reasonAgainstFile_40 : decode cX7_reasonAgainstFile 40 = .ok (.iconst 1, 1) := by decide +kernel
theorem dX7_reasonAgainstFile_41 : decode cX7_reasonAgainstFile 41 = .ok (.iconst 4, 1) := by decide +kernel
theorem dX7_reasonAgainstFile_42 : decode cX7_reasonAgainstFile 42 = .ok (.invokestatic 83, 3) := by decide +kernel
theorem dX7_reasonAgainstFile_45 : decode cX7_reasonAgainstFile 45 = .ok (.if_icmp .eq 6, 3) := by decide +kernel
theorem dX7_reasonAgainstFile_48 : decode cX7_reasonAgainstFile 48 = .ok (.bipush 12, 2) := by decide +kernel
theorem dX7_reasonAgainstFile_50 : decode cX7_reasonAgainstFile 50 = .ok (.ireturn, 1) := by decide +kernel
theorem dX7_reasonAgainstFile_51 : decode cX7_reasonAgainstFile 51 = .ok (.aload_n 0, 1) := by decide +kernel
theorem dX7_reasonAgainstFile_52 : decode cX7_reasonAgainstFile 52 = .ok (.getfield 22, 3) := by decide +kernel
theorem dX7_reasonAgainstFile_55 : decode cX7_reasonAgainstFile 55 = .ok (.getfield 250, 3) := by decide +kernel
theorem dX7_reasonAgainstFile_58 : decode cX7_reasonAgainstFile 58 = .ok (.lload_n 1, 1) := by decide +kernel
theorem dX7_reasonAgainstFile_59 : decode cX7_reasonAgainstFile 59 = .ok (.lload_n 3, 1) := by decide +kernel
theorem dX7_reasonAgainstFile_60 : decode cX7_reasonAgainstFile 60 = .ok (.iconst 5, 1) := by decide +kernel
theorem dX7_reasonAgainstFile_61 : decode cX7_reasonAgainstFile 61 = .ok (.bipush 8, 2) := by decide +kernel
theorem dX7_reasonAgainstFile_63 : decode cX7_reasonAgainstFile 63 = .ok (.invokestatic 83, 3) := by decide +kernel
theorem dX7_reasonAgainstFile_66 : decode cX7_reasonAgainstFile 66 = .ok (.lload_n 1, 1) := by decide +kernel
theorem dX7_reasonAgainstFile_67 : decode cX7_reasonAgainstFile 67 = .ok (.lload_n 3, 1) := by decide +kernel
theorem dX7_reasonAgainstFile_68 : decode cX7_reasonAgainstFile 68 = .ok (.bipush 9, 2) := by decide +kernel
theorem dX7_reasonAgainstFile_70 : decode cX7_reasonAgainstFile 70 = .ok (.bipush 14, 2) := by decide +kernel
theorem dX7_reasonAgainstFile_72 : decode cX7_reasonAgainstFile 72 = .ok (.invokestatic 83, 3) := by decide +kernel
theorem dX7_reasonAgainstFile_75 : decode cX7_reasonAgainstFile 75 = .ok (.lload_n 1, 1) := by decide +kernel
theorem dX7_reasonAgainstFile_76 : decode cX7_reasonAgainstFile 76 = .ok (.lload_n 3, 1) := by decide +kernel
theorem dX7_reasonAgainstFile_77 : decode cX7_reasonAgainstFile 77 = .ok (.bipush 18, 2) := by decide +kernel
theorem dX7_reasonAgainstFile_79 : decode cX7_reasonAgainstFile 79 = .ok (.bipush 26, 2) := by decide +kernel
theorem dX7_reasonAgainstFile_81 : decode cX7_reasonAgainstFile 81 = .ok (.invokestatic 83, 3) := by decide +kernel
theorem dX7_reasonAgainstFile_84 : decode cX7_reasonAgainstFile 84 = .ok (.lload_n 1, 1) := by decide +kernel
theorem dX7_reasonAgainstFile_85 : decode cX7_reasonAgainstFile 85 = .ok (.lload_n 3, 1) := by decide +kernel
theorem dX7_reasonAgainstFile_86 : decode cX7_reasonAgainstFile 86 = .ok (.bipush 27, 2) := by decide +kernel
theorem dX7_reasonAgainstFile_88 : decode cX7_reasonAgainstFile 88 = .ok (.bipush 35, 2) := by decide +kernel
theorem dX7_reasonAgainstFile_90 : decode cX7_reasonAgainstFile 90 = .ok (.invokestatic 83, 3) := by decide +kernel
theorem dX7_reasonAgainstFile_93 : decode cX7_reasonAgainstFile 93 = .ok (.invokevirtual 260, 3) := by decide +kernel
theorem dX7_reasonAgainstFile_96 : decode cX7_reasonAgainstFile 96 = .ok (.ifCond .ne 6, 3) := by decide +kernel
theorem dX7_reasonAgainstFile_99 : decode cX7_reasonAgainstFile 99 = .ok (.bipush 12, 2) := by decide +kernel
theorem dX7_reasonAgainstFile_101 : decode cX7_reasonAgainstFile 101 = .ok (.ireturn, 1) := by decide +kernel
theorem dX7_reasonAgainstFile_102 : decode cX7_reasonAgainstFile 102 = .ok (.aload_n 0, 1) := by decide +kernel
theorem dX7_reasonAgainstFile_103 : decode cX7_reasonAgainstFile 103 = .ok (.invokevirtual 289, 3) := by decide +kernel
theorem dX7_reasonAgainstFile_106 : decode cX7_reasonAgainstFile 106 = .ok (.aload_n 0, 1) := by decide +kernel
theorem dX7_reasonAgainstFile_107 : decode cX7_reasonAgainstFile 107 = .ok (.invokevirtual 292, 3) := by decide +kernel
theorem dX7_reasonAgainstFile_110 : decode cX7_reasonAgainstFile 110 = .ok (.iadd, 1) := by decide +kernel
theorem dX7_reasonAgainstFile_111 : decode cX7_reasonAgainstFile 111 = .ok (.bipush 40, 2) := by decide +kernel
theorem dX7_reasonAgainstFile_113 : decode cX7_reasonAgainstFile 113 = .ok (.if_icmp .le 8, 3) := by decide +kernel
theorem dX7_reasonAgainstFile_116 : decode cX7_reasonAgainstFile 116 = .ok (.bipush 13, 2) := by decide +kernel
theorem dX7_reasonAgainstFile_118 : decode cX7_reasonAgainstFile 118 = .ok (.goto 4, 3) := by decide +kernel
theorem dX7_reasonAgainstFile_121 : decode cX7_reasonAgainstFile 121 = .ok (.iconst 0, 1) := by decide +kernel
theorem dX7_reasonAgainstFile_122 : decode cX7_reasonAgainstFile 122 = .ok (.ireturn, 1) := by decide +kernel
theorem dX7_fileKey_0 : decode cX7_fileKey 0 = .ok (.aload_n 0, 1) := by decide +kernel
theorem dX7_fileKey_1 : decode cX7_fileKey 1 = .ok (.getfield 22, 3) := by decide +kernel
theorem dX7_fileKey_4 : decode cX7_fileKey 4 = .ok (.getfield 283, 3) := by decide +kernel
theorem dX7_fileKey_7 : decode cX7_fileKey 7 = .ok (.sipush 10000, 3) := by decide +kernel
theorem dX7_fileKey_10 : decode cX7_fileKey 10 = .ok (.imul, 1) := by decide +kernel
theorem dX7_fileKey_11 : decode cX7_fileKey 11 = .ok (.aload_n 0, 1) := by decide +kernel
theorem dX7_fileKey_12 : decode cX7_fileKey 12 = .ok (.getfield 22, 3) := by decide +kernel
theorem dX7_fileKey_15 : decode cX7_fileKey 15 = .ok (.getfield 295, 3) := by decide +kernel
theorem dX7_fileKey_18 : decode cX7_fileKey 18 = .ok (.iadd, 1) := by decide +kernel
theorem dX7_fileKey_19 : decode cX7_fileKey 19 = .ok (.ireturn, 1) := by decide +kernel
theorem dX7_wasAccepted_0 : decode cX7_wasAccepted 0 = .ok (.iconst 0, 1) := by decide +kernel
theorem dX7_wasAccepted_1 : decode cX7_wasAccepted 1 = .ok (.istore_n 2, 1) := by decide +kernel
theorem dX7_wasAccepted_2 : decode cX7_wasAccepted 2 = .ok (.iload_n 2, 1) := by decide +kernel
theorem dX7_wasAccepted_3 : decode cX7_wasAccepted 3 = .ok (.aload_n 0, 1) := by decide +kernel
theorem dX7_wasAccepted_4 : decode cX7_wasAccepted 4 = .ok (.getfield 30, 3) := by decide +kernel
theorem dX7_wasAccepted_7 : decode cX7_wasAccepted 7 = .ok (.if_icmp .ge 21, 3) := by decide +kernel
theorem dX7_wasAccepted_10 : decode cX7_wasAccepted 10 = .ok (.aload_n 0, 1) := by decide +kernel
theorem dX7_wasAccepted_11 : decode cX7_wasAccepted 11 = .ok (.getfield 26, 3) := by decide +kernel
theorem dX7_wasAccepted_14 : decode cX7_wasAccepted 14 = .ok (.iload_n 2, 1) := by decide +kernel
theorem dX7_wasAccepted_15 : decode cX7_wasAccepted 15 = .ok (.iaload, 1) := by decide +kernel
theorem dX7_wasAccepted_16 : decode cX7_wasAccepted 16 = .ok (.iload_n 1, 1) := by decide +kernel
theorem dX7_wasAccepted_17 : decode cX7_wasAccepted 17 = .ok (.if_icmp .ne 5, 3) := by decide +kernel
theorem dX7_wasAccepted_20 : decode cX7_wasAccepted 20 = .ok (.iconst 1, 1) := by decide +kernel
theorem dX7_wasAccepted_21 : decode cX7_wasAccepted 21 = .ok (.ireturn, 1) := by decide +kernel
theorem dX7_wasAccepted_22 : decode cX7_wasAccepted 22 = .ok (.iinc 2 1, 3) := by decide +kernel
theorem dX7_wasAccepted_25 : decode cX7_wasAccepted 25 = .ok (.goto (-23), 3) := by decide +kernel
theorem dX7_wasAccepted_28 : decode cX7_wasAccepted 28 = .ok (.iconst 0, 1) := by decide +kernel
theorem dX7_wasAccepted_29 : decode cX7_wasAccepted 29 = .ok (.ireturn, 1) := by decide +kernel
theorem dX7_keepAsAccepted_0 : decode cX7_keepAsAccepted 0 = .ok (.aload_n 0, 1) := by decide +kernel
theorem dX7_keepAsAccepted_1 : decode cX7_keepAsAccepted 1 = .ok (.getfield 30, 3) := by decide +kernel
theorem dX7_keepAsAccepted_4 : decode cX7_keepAsAccepted 4 = .ok (.aload_n 0, 1) := by decide +kernel
theorem dX7_keepAsAccepted_5 : decode cX7_keepAsAccepted 5 = .ok (.getfield 26, 3) := by decide +kernel
theorem dX7_keepAsAccepted_8 : decode cX7_keepAsAccepted 8 = .ok (.arraylength, 1) := by decide +kernel
theorem dX7_keepAsAccepted_9 : decode cX7_keepAsAccepted 9 = .ok (.if_icmp .ge 23, 3) := by decide +kernel
theorem dX7_keepAsAccepted_12 : decode cX7_keepAsAccepted 12 = .ok (.aload_n 0, 1) := by decide +kernel
theorem dX7_keepAsAccepted_13 : decode cX7_keepAsAccepted 13 = .ok (.getfield 26, 3) := by decide +kernel
theorem dX7_keepAsAccepted_16 : decode cX7_keepAsAccepted 16 = .ok (.aload_n 0, 1) := by decide +kernel
theorem dX7_keepAsAccepted_17 : decode cX7_keepAsAccepted 17 = .ok (.getfield 30, 3) := by decide +kernel
theorem dX7_keepAsAccepted_20 : decode cX7_keepAsAccepted 20 = .ok (.iload_n 1, 1) := by decide +kernel
theorem dX7_keepAsAccepted_21 : decode cX7_keepAsAccepted 21 = .ok (.iastore, 1) := by decide +kernel
theorem dX7_keepAsAccepted_22 : decode cX7_keepAsAccepted 22 = .ok (.aload_n 0, 1) := by decide +kernel
theorem dX7_keepAsAccepted_23 : decode cX7_keepAsAccepted 23 = .ok (.dup, 1) := by decide +kernel
theorem dX7_keepAsAccepted_24 : decode cX7_keepAsAccepted 24 = .ok (.getfield 30, 3) := by decide +kernel
theorem dX7_keepAsAccepted_27 : decode cX7_keepAsAccepted 27 = .ok (.iconst 1, 1) := by decide +kernel
theorem dX7_keepAsAccepted_28 : decode cX7_keepAsAccepted 28 = .ok (.iadd, 1) := by decide +kernel
theorem dX7_keepAsAccepted_29 : decode cX7_keepAsAccepted 29 = .ok (.putfield 30, 3) := by decide +kernel
theorem dX7_keepAsAccepted_32 : decode cX7_keepAsAccepted 32 = .ok (.return_, 1) := by decide +kernel
set_option maxRecDepth 20000 in
theorem ggX7_waitingInAll_Jx4a65c_size_8abf5 : GoodIn wsX7_waitingInAll wsJx4a65c_size_8abf5 := goodIn_r _ [8, 9, 40, 41, 42] (by decide +kernel) (by decide +kernel)
set_option maxRecDepth 20000 in
theorem gX7_waitingInAll_Jx4a65c_size_8abf5 : GoodIn wsX7_waitingInAll (wsV RX7 48 RJx4a65c yJx4a65c_size_8abf5 wsJx4a65c_size_8abf5) := goodIn_app (goodIn_of _ (by decide +kernel)) ggX7_waitingInAll_Jx4a65c_size_8abf5
set_option maxRecDepth 20000 in
theorem ggX7_waitingInAll_Jx4a65c_get_915e3 : GoodIn wsX7_waitingInAll wsJx4a65c_get_915e3 := goodIn_r _ [13, 9, 14, 15, 16, 17, 18, 19, 20, 21, 22, 23, 24, 7, 25, 26, 40, 41, 42] (by decide +kernel) (by decide +kernel)
set_option maxRecDepth 20000 in
theorem gX7_waitingInAll_Jx4a65c_get_915e3 : GoodIn wsX7_waitingInAll (wsV RX7 147 RJx4a65c yJx4a65c_get_915e3 wsJx4a65c_get_915e3) := goodIn_app (goodIn_of _ (by decide +kernel)) ggX7_waitingInAll_Jx4a65c_get_915e3
theorem dX7_waitingInAll_0 : decode cX7_waitingInAll 0 = .ok (.iconst 0, 1) := by decide +kernel
theorem dX7_waitingInAll_1 : decode cX7_waitingInAll 1 = .ok (.istore_n 1, 1) := by decide +kernel
theorem dX7_waitingInAll_2 : decode cX7_waitingInAll 2 = .ok (.iconst 0, 1) := by decide +kernel
theorem dX7_waitingInAll_3 : decode cX7_waitingInAll 3 = .ok (.istore_n 2, 1) := by decide +kernel
theorem dX7_waitingInAll_4 : decode cX7_waitingInAll 4 = .ok (.iload_n 2, 1) := by decide +kernel
theorem dX7_waitingInAll_5 : decode cX7_waitingInAll 5 = .ok (.aload_n 0, 1) := by decide +kernel
theorem dX7_waitingInAll_6 : decode cX7_waitingInAll 6 = .ok (.getfield 10, 3) := by decide +kernel
theorem dX7_waitingInAll_9 : decode cX7_waitingInAll 9 = .ok (.invokevirtual 48, 3) := by decide +kernel
theorem dX7_waitingInAll_12 : decode cX7_waitingInAll 12 = .ok (.if_icmp .ge 29, 3) := by decide +kernel
theorem dX7_waitingInAll_15 : decode cX7_waitingInAll 15 = .ok (.iload_n 1, 1) := by decide +kernel
theorem dX7_waitingInAll_16 : decode cX7_waitingInAll 16 = .ok (.aload_n 0, 1) := by decide +kernel
theorem dX7_waitingInAll_17 : decode cX7_waitingInAll 17 = .ok (.getfield 10, 3) := by decide +kernel
theorem dX7_waitingInAll_20 : decode cX7_waitingInAll 20 = .ok (.iload_n 2, 1) := by decide +kernel
theorem dX7_waitingInAll_21 : decode cX7_waitingInAll 21 = .ok (.invokevirtual 147, 3) := by decide +kernel
theorem dX7_waitingInAll_24 : decode cX7_waitingInAll 24 = .ok (.checkcast 52, 3) := by decide +kernel
theorem dX7_waitingInAll_27 : decode cX7_waitingInAll 27 = .ok (.getfield 213, 3) := by decide +kernel
theorem dX7_waitingInAll_30 : decode cX7_waitingInAll 30 = .ok (.invokevirtual 48, 3) := by decide +kernel
theorem dX7_waitingInAll_33 : decode cX7_waitingInAll 33 = .ok (.iadd, 1) := by decide +kernel
theorem dX7_waitingInAll_34 : decode cX7_waitingInAll 34 = .ok (.istore_n 1, 1) := by decide +kernel
theorem dX7_waitingInAll_35 : decode cX7_waitingInAll 35 = .ok (.iinc 2 1, 3) := by decide +kernel
theorem dX7_waitingInAll_38 : decode cX7_waitingInAll 38 = .ok (.goto (-34), 3) := by decide +kernel
theorem dX7_waitingInAll_41 : decode cX7_waitingInAll 41 = .ok (.iload_n 1, 1) := by decide +kernel
theorem dX7_waitingInAll_42 : decode cX7_waitingInAll 42 = .ok (.ireturn, 1) := by decide +kernel
set_option maxRecDepth 20000 in
theorem ggX7_judgeBatches_X7_reasonAgainstBatch : GoodIn wsX7_judgeBatches wsX7_reasonAgainstBatch := goodIn_r _ [10, 11, 5, 12, 13, 14, 15, 16, 17, 18, 9, 19, 20, 21, 22, 23, 24, 25, 26, 27, 28, 29, 30, 31, 32, 33, 34, 35, 36, 37, 38, 39, 40, 41, 42, 43, 44, 45, 81, 82, 83, 84, 85, 86, 87, 88, 89, 66, 67, 68, 69, 70, 71, 72, 90, 91, 92, 93, 94, 95, 96, 97, 98] (by decide +kernel) (by decide +kernel)
set_option maxRecDepth 20000 in
theorem gX7_judgeBatches_X7_reasonAgainstBatch : GoodIn wsX7_judgeBatches (wsV RX7 296 RX7 yX7_reasonAgainstBatch wsX7_reasonAgainstBatch) := goodIn_app (goodIn_of _ (by decide +kernel)) ggX7_judgeBatches_X7_reasonAgainstBatch
set_option maxRecDepth 20000 in
theorem ggX7_judgeBatches_X7_judgeEntries : GoodIn wsX7_judgeBatches wsX7_judgeEntries := goodIn_r _ [49, 50, 51, 12, 52, 11, 53, 54, 55, 56, 23, 24, 25, 26, 27, 28, 29, 30, 31, 32, 33, 34, 35, 36, 37, 38, 39, 40, 41, 42, 43, 44, 45, 16, 17, 18, 9, 19, 20, 21, 22, 57, 58, 59, 60, 61, 62, 63, 64, 65, 81, 82, 83, 84, 85, 86, 87, 88, 89, 99, 100, 101, 102, 103, 104, 105, 106, 107, 96, 97, 98, 66, 67, 68, 69, 70, 71, 72, 90, 91, 92, 93, 94, 95] (by decide +kernel) (by decide +kernel)
set_option maxRecDepth 20000 in
theorem gX7_judgeBatches_X7_judgeEntries : GoodIn wsX7_judgeBatches (wsV RX7 301 RX7 yX7_judgeEntries wsX7_judgeEntries) := goodIn_app (goodIn_of _ (by decide +kernel)) ggX7_judgeBatches_X7_judgeEntries
theorem dX7_judgeBatches_0 : decode cX7_judgeBatches 0 = .ok (.iconst 0, 1) := by decide +kernel
theorem dX7_judgeBatches_1 : decode cX7_judgeBatches 1 = .ok (.istore_n 1, 1) := by decide +kernel
theorem dX7_judgeBatches_2 : decode cX7_judgeBatches 2 = .ok (.iconst (-1), 1) := by decide +kernel
theorem dX7_judgeBatches_3 : decode cX7_judgeBatches 3 = .ok (.istore_n 2, 1) := by decide +kernel
theorem dX7_judgeBatches_4 : decode cX7_judgeBatches 4 = .ok (.iconst 0, 1) := by decide +kernel
theorem dX7_judgeBatches_5 : decode cX7_judgeBatches 5 = .ok (.istore_n 3, 1) := by decide +kernel
theorem dX7_judgeBatches_6 : decode cX7_judgeBatches 6 = .ok (.iload_n 3, 1) := by decide +kernel
theorem dX7_judgeBatches_7 : decode cX7_judgeBatches 7 = .ok (.aload_n 0, 1) := by decide +kernel
theorem dX7_judgeBatches_8 : decode cX7_judgeBatches 8 = .ok (.getfield 22, 3) := by decide +kernel
theorem dX7_judgeBatches_11 : decode cX7_judgeBatches 11 = .ok (.getfield 231, 3) := by decide +kernel
theorem dX7_judgeBatches_14 : decode cX7_judgeBatches 14 = .ok (.if_icmp .ge 55, 3) := by decide +kernel
theorem dX7_judgeBatches_17 : decode cX7_judgeBatches 17 = .ok (.aload_n 0, 1) := by decide +kernel
theorem dX7_judgeBatches_18 : decode cX7_judgeBatches 18 = .ok (.getfield 22, 3) := by decide +kernel
theorem dX7_judgeBatches_21 : decode cX7_judgeBatches 21 = .ok (.getfield 234, 3) := by decide +kernel
theorem dX7_judgeBatches_24 : decode cX7_judgeBatches 24 = .ok (.iload_n 3, 1) := by decide +kernel
theorem dX7_judgeBatches_25 : decode cX7_judgeBatches 25 = .ok (.aaload, 1) := by decide +kernel
theorem dX7_judgeBatches_26 : decode cX7_judgeBatches 26 = .ok (.astore 4, 2) := by decide +kernel
theorem dX7_judgeBatches_28 : decode cX7_judgeBatches 28 = .ok (.aload 4, 2) := by decide +kernel
theorem dX7_judgeBatches_30 : decode cX7_judgeBatches 30 = .ok (.aload_n 0, 1) := by decide +kernel
theorem dX7_judgeBatches_31 : decode cX7_judgeBatches 31 = .ok (.aload 4, 2) := by decide +kernel
theorem dX7_judgeBatches_33 : decode cX7_judgeBatches 33 = .ok (.iload_n 2, 1) := by decide +kernel
theorem dX7_judgeBatches_34 : decode cX7_judgeBatches 34 = .ok (.invokevirtual 296, 3) := by decide +kernel
theorem dX7_judgeBatches_37 : decode cX7_judgeBatches 37 = .ok (.putfield 300, 3) := by decide +kernel
theorem dX7_judgeBatches_40 : decode cX7_judgeBatches 40 = .ok (.aload 4, 2) := by decide +kernel
theorem dX7_judgeBatches_42 : decode cX7_judgeBatches 42 = .ok (.getfield 300, 3) := by decide +kernel
theorem dX7_judgeBatches_45 : decode cX7_judgeBatches 45 = .ok (.ifCond .ne 12, 3) := by decide +kernel
theorem dX7_judgeBatches_48 : decode cX7_judgeBatches 48 = .ok (.iload_n 1, 1) := by decide +kernel
theorem dX7_judgeBatches_49 : decode cX7_judgeBatches 49 = .ok (.aload_n 0, 1) := by decide +kernel
theorem dX7_judgeBatches_50 : decode cX7_judgeBatches 50 = .ok (.aload 4, 2) := by decide +kernel
theorem dX7_judgeBatches_52 : decode cX7_judgeBatches 52 = .ok (.invokevirtual 301, 3) := by decide +kernel
theorem dX7_judgeBatches_55 : decode cX7_judgeBatches 55 = .ok (.iadd, 1) := by decide +kernel
theorem dX7_judgeBatches_56 : decode cX7_judgeBatches 56 = .ok (.istore_n 1, 1) := by decide +kernel
theorem dX7_judgeBatches_57 : decode cX7_judgeBatches 57 = .ok (.aload 4, 2) := by decide +kernel
theorem dX7_judgeBatches_59 : decode cX7_judgeBatches 59 = .ok (.getfield 305, 3) := by decide +kernel
theorem dX7_judgeBatches_62 : decode cX7_judgeBatches 62 = .ok (.istore_n 2, 1) := by decide +kernel
theorem dX7_judgeBatches_63 : decode cX7_judgeBatches 63 = .ok (.iinc 3 1, 3) := by decide +kernel
theorem dX7_judgeBatches_66 : decode cX7_judgeBatches 66 = .ok (.goto (-60), 3) := by decide +kernel
theorem dX7_judgeBatches_69 : decode cX7_judgeBatches 69 = .ok (.iload_n 1, 1) := by decide +kernel
theorem dX7_judgeBatches_70 : decode cX7_judgeBatches 70 = .ok (.ireturn, 1) := by decide +kernel
set_option maxRecDepth 20000 in
theorem ggX7_reasonAgainstBatch_X7_bankWithRouting : GoodIn wsX7_reasonAgainstBatch wsX7_bankWithRouting := goodIn_r _ [11, 12, 13, 14, 15, 16, 17, 18, 19, 20, 21, 22, 23, 24, 25, 26, 27, 28, 29, 30, 31, 32, 33, 34, 35, 36, 37, 47, 48, 49, 50, 51, 52, 53, 54, 55, 56, 57, 58, 59, 60, 61, 62] (by decide +kernel) (by decide +kernel)
set_option maxRecDepth 20000 in
theorem gX7_reasonAgainstBatch_X7_bankWithRouting : GoodIn wsX7_reasonAgainstBatch (wsV RX7 44 RX7 yX7_bankWithRouting wsX7_bankWithRouting) := goodIn_app (goodIn_of _ (by decide +kernel)) ggX7_reasonAgainstBatch_X7_bankWithRouting
theorem dX7_reasonAgainstBatch_0 : decode cX7_reasonAgainstBatch 0 = .ok (.aload_n 0, 1) := by decide +kernel
theorem dX7_reasonAgainstBatch_1 : decode cX7_reasonAgainstBatch 1 = .ok (.aload_n 1, 1) := by decide +kernel
theorem dX7_reasonAgainstBatch_2 : decode cX7_reasonAgainstBatch 2 = .ok (.getfield 306, 3) := by decide +kernel
theorem dX7_reasonAgainstBatch_5 : decode cX7_reasonAgainstBatch 5 = .ok (.invokevirtual 44, 3) := by decide +kernel
theorem dX7_reasonAgainstBatch_8 : decode cX7_reasonAgainstBatch 8 = .ok (.ifnonnull 6, 3) := by decide +kernel
theorem dX7_reasonAgainstBatch_11 : decode cX7_reasonAgainstBatch 11 = .ok (.bipush 20, 2) := by decide +kernel
theorem dX7_reasonAgainstBatch_13 : decode cX7_reasonAgainstBatch 13 = .ok (.ireturn, 1) := by decide +kernel
theorem dX7_reasonAgainstBatch_14 : decode cX7_reasonAgainstBatch 14 = .ok (.aload_n 1, 1) := by decide +kernel
theorem dX7_reasonAgainstBatch_15 : decode cX7_reasonAgainstBatch 15 = .ok (.getfield 305, 3) := by decide +kernel
theorem dX7_reasonAgainstBatch_18 : decode cX7_reasonAgainstBatch 18 = .ok (.iload_n 2, 1) := by decide +kernel
theorem dX7_reasonAgainstBatch_19 : decode cX7_reasonAgainstBatch 19 = .ok (.if_icmp .gt 6, 3) := by decide +kernel
theorem dX7_reasonAgainstBatch_22 : decode cX7_reasonAgainstBatch 22 = .ok (.bipush 21, 2) := by decide +kernel
theorem dX7_reasonAgainstBatch_24 : decode cX7_reasonAgainstBatch 24 = .ok (.ireturn, 1) := by decide +kernel
theorem dX7_reasonAgainstBatch_25 : decode cX7_reasonAgainstBatch 25 = .ok (.aload_n 1, 1) := by decide +kernel
theorem dX7_reasonAgainstBatch_26 : decode cX7_reasonAgainstBatch 26 = .ok (.getfield 308, 3) := by decide +kernel
theorem dX7_reasonAgainstBatch_29 : decode cX7_reasonAgainstBatch 29 = .ok (.aload_n 0, 1) := by decide +kernel
theorem dX7_reasonAgainstBatch_30 : decode cX7_reasonAgainstBatch 30 = .ok (.getfield 37, 3) := by decide +kernel
theorem dX7_reasonAgainstBatch_33 : decode cX7_reasonAgainstBatch 33 = .ok (.if_icmp .ge 6, 3) := by decide +kernel
theorem dX7_reasonAgainstBatch_36 : decode cX7_reasonAgainstBatch 36 = .ok (.bipush 22, 2) := by decide +kernel
theorem dX7_reasonAgainstBatch_38 : decode cX7_reasonAgainstBatch 38 = .ok (.ireturn, 1) := by decide +kernel
theorem dX7_reasonAgainstBatch_39 : decode cX7_reasonAgainstBatch 39 = .ok (.aload_n 1, 1) := by decide +kernel
theorem dX7_reasonAgainstBatch_40 : decode cX7_reasonAgainstBatch 40 = .ok (.getfield 264, 3) := by decide +kernel
theorem dX7_reasonAgainstBatch_43 : decode cX7_reasonAgainstBatch 43 = .ok (.ifCond .ne 6, 3) := by decide +kernel
theorem dX7_reasonAgainstBatch_46 : decode cX7_reasonAgainstBatch 46 = .ok (.bipush 23, 2) := by decide +kernel
theorem dX7_reasonAgainstBatch_48 : decode cX7_reasonAgainstBatch 48 = .ok (.ireturn, 1) := by decide +kernel
theorem dX7_reasonAgainstBatch_49 : decode cX7_reasonAgainstBatch 49 = .ok (.aload_n 1, 1) := by decide +kernel
theorem dX7_reasonAgainstBatch_50 : decode cX7_reasonAgainstBatch 50 = .ok (.getfield 311, 3) := by decide +kernel
theorem dX7_reasonAgainstBatch_53 : decode cX7_reasonAgainstBatch 53 = .ok (.ifCond .eq 7, 3) := by decide +kernel
theorem dX7_reasonAgainstBatch_56 : decode cX7_reasonAgainstBatch 56 = .ok (.iconst 0, 1) := by decide +kernel
theorem dX7_reasonAgainstBatch_57 : decode cX7_reasonAgainstBatch 57 = .ok (.goto 5, 3) := by decide +kernel
theorem dX7_reasonAgainstBatch_60 : decode cX7_reasonAgainstBatch 60 = .ok (.bipush 24, 2) := by decide +kernel
theorem dX7_reasonAgainstBatch_62 : decode cX7_reasonAgainstBatch 62 = .ok (.ireturn, 1) := by decide +kernel
set_option maxRecDepth 20000 in
theorem ggX7_judgeEntries_Jx4a65c_size_8abf5 : GoodIn wsX7_judgeEntries wsJx4a65c_size_8abf5 := goodIn_r _ [14, 15, 68, 69, 70] (by decide +kernel) (by decide +kernel)
set_option maxRecDepth 20000 in
theorem gX7_judgeEntries_Jx4a65c_size_8abf5 : GoodIn wsX7_judgeEntries (wsV RX7 48 RJx4a65c yJx4a65c_size_8abf5 wsJx4a65c_size_8abf5) := goodIn_app (goodIn_of _ (by decide +kernel)) ggX7_judgeEntries_Jx4a65c_size_8abf5
set_option maxRecDepth 20000 in
theorem ggX7_judgeEntries_Jx4a65c_get_915e3 : GoodIn wsX7_judgeEntries wsJx4a65c_get_915e3 := goodIn_r _ [19, 15, 20, 21, 22, 23, 24, 25, 26, 27, 28, 29, 30, 13, 31, 32, 68, 69, 70] (by decide +kernel) (by decide +kernel)
set_option maxRecDepth 20000 in
theorem gX7_judgeEntries_Jx4a65c_get_915e3 : GoodIn wsX7_judgeEntries (wsV RX7 147 RJx4a65c yJx4a65c_get_915e3 wsJx4a65c_get_915e3) := goodIn_app (goodIn_of _ (by decide +kernel)) ggX7_judgeEntries_Jx4a65c_get_915e3
set_option maxRecDepth 20000 in
theorem ggX7_judgeEntries_X7_bankWithRouting : GoodIn wsX7_judgeEntries wsX7_bankWithRouting := goodIn_r _ [37, 38, 39, 40, 10, 11, 12, 13, 14, 15, 16, 17, 18, 19, 20, 21, 22, 23, 24, 25, 26, 27, 28, 29, 30, 31, 32, 71, 72, 73, 74, 75, 76, 77, 78, 79, 80, 81, 82, 83, 68, 69, 70] (by decide +kernel) (by decide +kernel)
set_option maxRecDepth 20000 in
theorem gX7_judgeEntries_X7_bankWithRouting : GoodIn wsX7_judgeEntries (wsV RX7 44 RX7 yX7_bankWithRouting wsX7_bankWithRouting) := goodIn_app (goodIn_of _ (by decide +kernel)) ggX7_judgeEntries_X7_bankWithRouting
set_option maxRecDepth 20000 in
theorem ggX7_judgeEntries_X7_reasonAgainstEntry : GoodIn wsX7_judgeEntries wsX7_reasonAgainstEntry := goodIn_r _ [43, 7, 8, 44, 45, 46, 47, 36, 48, 49, 59, 60, 61, 62, 63, 64, 65, 66, 67] (by decide +kernel) (by decide +kernel)
set_option maxRecDepth 20000 in
theorem gX7_judgeEntries_X7_reasonAgainstEntry : GoodIn wsX7_judgeEntries (va_wsS RX7 316 yX7_reasonAgainstEntry wsX7_reasonAgainstEntry) := goodIn_app (goodIn_of _ (by decide +kernel)) ggX7_judgeEntries_X7_reasonAgainstEntry
theorem dX7_judgeEntries_0 : decode cX7_judgeEntries 0 = .ok (.iconst 0, 1) := by decide +kernel
theorem dX7_judgeEntries_1 : decode cX7_judgeEntries 1 = .ok (.istore_n 2, 1) := by decide +kernel
theorem dX7_judgeEntries_2 : decode cX7_judgeEntries 2 = .ok (.iconst 0, 1) := by decide +kernel
theorem dX7_judgeEntries_3 : decode cX7_judgeEntries 3 = .ok (.istore_n 3, 1) := by decide +kernel
theorem dX7_judgeEntries_4 : decode cX7_judgeEntries 4 = .ok (.iload_n 3, 1) := by decide +kernel
theorem dX7_judgeEntries_5 : decode cX7_judgeEntries 5 = .ok (.aload_n 1, 1) := by decide +kernel
theorem dX7_judgeEntries_6 : decode cX7_judgeEntries 6 = .ok (.getfield 314, 3) := by decide +kernel
theorem dX7_judgeEntries_9 : decode cX7_judgeEntries 9 = .ok (.invokevirtual 48, 3) := by decide +kernel
theorem dX7_judgeEntries_12 : decode cX7_judgeEntries 12 = .ok (.if_icmp .ge 79, 3) := by decide +kernel
theorem dX7_judgeEntries_15 : decode cX7_judgeEntries 15 = .ok (.aload_n 1, 1) := by decide +kernel
theorem dX7_judgeEntries_16 : decode cX7_judgeEntries 16 = .ok (.getfield 314, 3) := by decide +kernel
theorem dX7_judgeEntries_19 : decode cX7_judgeEntries 19 = .ok (.iload_n 3, 1) := by decide +kernel
theorem dX7_judgeEntries_20 : decode cX7_judgeEntries 20 = .ok (.invokevirtual 147, 3) := by decide +kernel
theorem dX7_judgeEntries_23 : decode cX7_judgeEntries 23 = .ok (.checkcast 151, 3) := by decide +kernel
theorem dX7_judgeEntries_26 : decode cX7_judgeEntries 26 = .ok (.astore 4, 2) := by decide +kernel
theorem dX7_judgeEntries_28 : decode cX7_judgeEntries 28 = .ok (.aload 4, 2) := by decide +kernel
theorem dX7_judgeEntries_30 : decode cX7_judgeEntries 30 = .ok (.aload_n 1, 1) := by decide +kernel
theorem dX7_judgeEntries_31 : decode cX7_judgeEntries 31 = .ok (.getfield 308, 3) := by decide +kernel
theorem dX7_judgeEntries_34 : decode cX7_judgeEntries 34 = .ok (.putfield 315, 3) := by decide +kernel
theorem dX7_judgeEntries_37 : decode cX7_judgeEntries 37 = .ok (.aload 4, 2) := by decide +kernel
theorem dX7_judgeEntries_39 : decode cX7_judgeEntries 39 = .ok (.aload_n 0, 1) := by decide +kernel
theorem dX7_judgeEntries_40 : decode cX7_judgeEntries 40 = .ok (.aload_n 1, 1) := by decide +kernel
theorem dX7_judgeEntries_41 : decode cX7_judgeEntries 41 = .ok (.getfield 306, 3) := by decide +kernel
theorem dX7_judgeEntries_44 : decode cX7_judgeEntries 44 = .ok (.invokevirtual 44, 3) := by decide +kernel
theorem dX7_judgeEntries_47 : decode cX7_judgeEntries 47 = .ok (.putfield 167, 3) := by decide +kernel
theorem dX7_judgeEntries_50 : decode cX7_judgeEntries 50 = .ok (.aload 4, 2) := by decide +kernel
theorem dX7_judgeEntries_52 : decode cX7_judgeEntries 52 = .ok (.aload_n 0, 1) := by decide +kernel
theorem dX7_judgeEntries_53 : decode cX7_judgeEntries 53 = .ok (.aload 4, 2) := by decide +kernel
theorem dX7_judgeEntries_55 : decode cX7_judgeEntries 55 = .ok (.getfield 254, 3) := by decide +kernel
theorem dX7_judgeEntries_58 : decode cX7_judgeEntries 58 = .ok (.invokevirtual 44, 3) := by decide +kernel
theorem dX7_judgeEntries_61 : decode cX7_judgeEntries 61 = .ok (.putfield 160, 3) := by decide +kernel
theorem dX7_judgeEntries_64 : decode cX7_judgeEntries 64 = .ok (.aload 4, 2) := by decide +kernel
theorem dX7_judgeEntries_66 : decode cX7_judgeEntries 66 = .ok (.aload 4, 2) := by decide +kernel
theorem dX7_judgeEntries_68 : decode cX7_judgeEntries 68 = .ok (.invokestatic 316, 3) := by decide +kernel
theorem dX7_judgeEntries_71 : decode cX7_judgeEntries 71 = .ok (.putfield 179, 3) := by decide +kernel
theorem dX7_judgeEntries_74 : decode cX7_judgeEntries 74 = .ok (.aload 4, 2) := by decide +kernel
theorem dX7_judgeEntries_76 : decode cX7_judgeEntries 76 = .ok (.getfield 179, 3) := by decide +kernel
theorem dX7_judgeEntries_79 : decode cX7_judgeEntries 79 = .ok (.ifCond .ne 6, 3) := by decide +kernel
theorem dX7_judgeEntries_82 : decode cX7_judgeEntries 82 = .ok (.iinc 2 1, 3) := by decide +kernel
theorem dX7_judgeEntries_85 : decode cX7_judgeEntries 85 = .ok (.iinc 3 1, 3) := by decide +kernel
theorem dX7_judgeEntries_88 : decode cX7_judgeEntries 88 = .ok (.goto (-84), 3) := by decide +kernel
theorem dX7_judgeEntries_91 : decode cX7_judgeEntries 91 = .ok (.iload_n 2, 1) := by decide +kernel
theorem dX7_judgeEntries_92 : decode cX7_judgeEntries 92 = .ok (.ireturn, 1) := by decide +kernel
set_option maxRecDepth 20000 in
theorem ggX7_reasonAgainstEntry_X7_isRight : GoodIn wsX7_reasonAgainstEntry wsX7_isRight := goodIn_r _ [8, 9] (by decide +kernel) (by decide +kernel)
set_option maxRecDepth 20000 in
theorem gX7_reasonAgainstEntry_X7_isRight : GoodIn wsX7_reasonAgainstEntry (va_wsS RX7 40 yX7_isRight wsX7_isRight) := goodIn_app (goodIn_of _ (by decide +kernel)) ggX7_reasonAgainstEntry_X7_isRight
theorem dX7_reasonAgainstEntry_0 : decode cX7_reasonAgainstEntry 0 = .ok (.aload_n 0, 1) := by decide +kernel
theorem dX7_reasonAgainstEntry_1 : decode cX7_reasonAgainstEntry 1 = .ok (.getfield 254, 3) := by decide +kernel
theorem dX7_reasonAgainstEntry_4 : decode cX7_reasonAgainstEntry 4 = .ok (.iconst 4, 1) := by decide +kernel
theorem dX7_reasonAgainstEntry_5 : decode cX7_reasonAgainstEntry 5 = .ok (.invokestatic 40, 3) := by decide +kernel
theorem dX7_reasonAgainstEntry_8 : decode cX7_reasonAgainstEntry 8 = .ok (.ifCond .ne 6, 3) := by decide +kernel
theorem dX7_reasonAgainstEntry_11 : decode cX7_reasonAgainstEntry 11 = .ok (.bipush 30, 2) := by decide +kernel
theorem dX7_reasonAgainstEntry_13 : decode cX7_reasonAgainstEntry 13 = .ok (.ireturn, 1) := by decide +kernel
theorem dX7_reasonAgainstEntry_14 : decode cX7_reasonAgainstEntry 14 = .ok (.aload_n 0, 1) := by decide +kernel
theorem dX7_reasonAgainstEntry_15 : decode cX7_reasonAgainstEntry 15 = .ok (.getfield 160, 3) := by decide +kernel
theorem dX7_reasonAgainstEntry_18 : decode cX7_reasonAgainstEntry 18 = .ok (.ifnonnull 6, 3) := by decide +kernel
theorem dX7_reasonAgainstEntry_21 : decode cX7_reasonAgainstEntry 21 = .ok (.bipush 31, 2) := by decide +kernel
theorem dX7_reasonAgainstEntry_23 : decode cX7_reasonAgainstEntry 23 = .ok (.ireturn, 1) := by decide +kernel
theorem dX7_reasonAgainstEntry_24 : decode cX7_reasonAgainstEntry 24 = .ok (.aload_n 0, 1) := by decide +kernel
theorem dX7_reasonAgainstEntry_25 : decode cX7_reasonAgainstEntry 25 = .ok (.getfield 157, 3) := by decide +kernel
theorem dX7_reasonAgainstEntry_28 : decode cX7_reasonAgainstEntry 28 = .ok (.iconst 2, 1) := by decide +kernel
theorem dX7_reasonAgainstEntry_29 : decode cX7_reasonAgainstEntry 29 = .ok (.if_icmp .eq 15, 3) := by decide +kernel
theorem dX7_reasonAgainstEntry_32 : decode cX7_reasonAgainstEntry 32 = .ok (.aload_n 0, 1) := by decide +kernel
theorem dX7_reasonAgainstEntry_33 : decode cX7_reasonAgainstEntry 33 = .ok (.getfield 157, 3) := by decide +kernel
theorem dX7_reasonAgainstEntry_36 : decode cX7_reasonAgainstEntry 36 = .ok (.bipush 7, 2) := by decide +kernel
theorem dX7_reasonAgainstEntry_38 : decode cX7_reasonAgainstEntry 38 = .ok (.if_icmp .eq 6, 3) := by decide +kernel
theorem dX7_reasonAgainstEntry_41 : decode cX7_reasonAgainstEntry 41 = .ok (.bipush 32, 2) := by decide +kernel
theorem dX7_reasonAgainstEntry_43 : decode cX7_reasonAgainstEntry 43 = .ok (.ireturn, 1) := by decide +kernel
theorem dX7_reasonAgainstEntry_44 : decode cX7_reasonAgainstEntry 44 = .ok (.aload_n 0, 1) := by decide +kernel
theorem dX7_reasonAgainstEntry_45 : decode cX7_reasonAgainstEntry 45 = .ok (.getfield 173, 3) := by decide +kernel
theorem dX7_reasonAgainstEntry_48 : decode cX7_reasonAgainstEntry 48 = .ok (.ifCond .ne 8, 3) := by decide +kernel
theorem dX7_reasonAgainstEntry_51 : decode cX7_reasonAgainstEntry 51 = .ok (.bipush 33, 2) := by decide +kernel
theorem dX7_reasonAgainstEntry_53 : decode cX7_reasonAgainstEntry 53 = .ok (.goto 4, 3) := by decide +kernel
theorem dX7_reasonAgainstEntry_56 : decode cX7_reasonAgainstEntry 56 = .ok (.iconst 0, 1) := by decide +kernel
theorem dX7_reasonAgainstEntry_57 : decode cX7_reasonAgainstEntry 57 = .ok (.ireturn, 1) := by decide +kernel
set_option maxRecDepth 20000 in
theorem ggX7_acceptBatches_X7_countRefusal : GoodIn wsX7_acceptBatches wsX7_countRefusal := goodIn_r _ [9, 10, 96, 97, 98, 99, 100, 101, 102] (by decide +kernel) (by decide +kernel)
set_option maxRecDepth 20000 in
theorem gX7_acceptBatches_X7_countRefusal : GoodIn wsX7_acceptBatches (wsV RX7 270 RX7 yX7_countRefusal wsX7_countRefusal) := goodIn_app (goodIn_of _ (by decide +kernel)) ggX7_acceptBatches_X7_countRefusal
set_option maxRecDepth 20000 in
theorem ggX7_acceptBatches_X7_acceptEntries : GoodIn wsX7_acceptBatches wsX7_acceptEntries := goodIn_r _ [14, 15, 16, 17, 18, 19, 20, 21, 22, 23, 24, 25, 26, 27, 28, 29, 30, 31, 32, 33, 34, 35, 36, 37, 38, 39, 40, 41, 42, 5, 6, 7, 8, 9, 10, 43, 44, 45, 46, 47, 48, 49, 50, 51, 52, 53, 54, 55, 56, 57, 58, 59, 60, 61, 62, 63, 64, 65, 66, 67, 68, 69, 70, 71, 72, 73, 74, 75, 76, 77, 78, 79, 80, 81, 82, 83, 84, 85, 86, 87, 88, 89, 90, 91, 92, 93, 94, 95, 111, 112, 113, 114, 115, 116, 117, 118, 119, 120, 121, 122, 123, 124, 125, 126, 127, 128, 129, 130, 131, 132, 133, 134, 135, 136, 137, 96, 97, 98, 99, 100, 101, 102] (by decide +kernel) (by decide +kernel)
set_option maxRecDepth 20000 in
theorem gX7_acceptBatches_X7_acceptEntries : GoodIn wsX7_acceptBatches (wsV RX7 320 RX7 yX7_acceptEntries wsX7_acceptEntries) := goodIn_app (goodIn_of _ (by decide +kernel)) ggX7_acceptBatches_X7_acceptEntries
theorem dX7_acceptBatches_0 : decode cX7_acceptBatches 0 = .ok (.iconst 0, 1) := by decide +kernel
theorem dX7_acceptBatches_1 : decode cX7_acceptBatches 1 = .ok (.istore_n 1, 1) := by decide +kernel
theorem dX7_acceptBatches_2 : decode cX7_acceptBatches 2 = .ok (.iconst 0, 1) := by decide +kernel
theorem dX7_acceptBatches_3 : decode cX7_acceptBatches 3 = .ok (.istore_n 2, 1) := by decide +kernel
theorem dX7_acceptBatches_4 : decode cX7_acceptBatches 4 = .ok (.iload_n 2, 1) := by decide +kernel
theorem dX7_acceptBatches_5 : decode cX7_acceptBatches 5 = .ok (.aload_n 0, 1) := by decide +kernel
theorem dX7_acceptBatches_6 : decode cX7_acceptBatches 6 = .ok (.getfield 22, 3) := by decide +kernel
theorem dX7_acceptBatches_9 : decode cX7_acceptBatches 9 = .ok (.getfield 231, 3) := by decide +kernel
theorem dX7_acceptBatches_12 : decode cX7_acceptBatches 12 = .ok (.if_icmp .ge 45, 3) := by decide +kernel
theorem dX7_acceptBatches_15 : decode cX7_acceptBatches 15 = .ok (.aload_n 0, 1) := by decide +kernel
theorem dX7_acceptBatches_16 : decode cX7_acceptBatches 16 = .ok (.getfield 22, 3) := by decide +kernel
theorem dX7_acceptBatches_19 : decode cX7_acceptBatches 19 = .ok (.getfield 234, 3) := by decide +kernel
theorem dX7_acceptBatches_22 : decode cX7_acceptBatches 22 = .ok (.iload_n 2, 1) := by decide +kernel
theorem dX7_acceptBatches_23 : decode cX7_acceptBatches 23 = .ok (.aaload, 1) := by decide +kernel
theorem dX7_acceptBatches_24 : decode cX7_acceptBatches 24 = .ok (.astore_n 3, 1) := by decide +kernel
theorem dX7_acceptBatches_25 : decode cX7_acceptBatches 25 = .ok (.aload_n 3, 1) := by decide +kernel
theorem dX7_acceptBatches_26 : decode cX7_acceptBatches 26 = .ok (.getfield 300, 3) := by decide +kernel
theorem dX7_acceptBatches_29 : decode cX7_acceptBatches 29 = .ok (.ifCond .eq 14, 3) := by decide +kernel
theorem dX7_acceptBatches_32 : decode cX7_acceptBatches 32 = .ok (.aload_n 0, 1) := by decide +kernel
theorem dX7_acceptBatches_33 : decode cX7_acceptBatches 33 = .ok (.aload_n 3, 1) := by decide +kernel
theorem dX7_acceptBatches_34 : decode cX7_acceptBatches 34 = .ok (.getfield 300, 3) := by decide +kernel
theorem dX7_acceptBatches_37 : decode cX7_acceptBatches 37 = .ok (.invokevirtual 270, 3) := by decide +kernel
theorem dX7_acceptBatches_40 : decode cX7_acceptBatches 40 = .ok (.goto 11, 3) := by decide +kernel
theorem dX7_acceptBatches_43 : decode cX7_acceptBatches 43 = .ok (.iload_n 1, 1) := by decide +kernel
theorem dX7_acceptBatches_44 : decode cX7_acceptBatches 44 = .ok (.aload_n 0, 1) := by decide +kernel
theorem dX7_acceptBatches_45 : decode cX7_acceptBatches 45 = .ok (.aload_n 3, 1) := by decide +kernel
theorem dX7_acceptBatches_46 : decode cX7_acceptBatches 46 = .ok (.invokevirtual 320, 3) := by decide +kernel
theorem dX7_acceptBatches_49 : decode cX7_acceptBatches 49 = .ok (.iadd, 1) := by decide +kernel
theorem dX7_acceptBatches_50 : decode cX7_acceptBatches 50 = .ok (.istore_n 1, 1) := by decide +kernel
theorem dX7_acceptBatches_51 : decode cX7_acceptBatches 51 = .ok (.iinc 2 1, 3) := by decide +kernel
theorem dX7_acceptBatches_54 : decode cX7_acceptBatches 54 = .ok (.goto (-50), 3) := by decide +kernel
theorem dX7_acceptBatches_57 : decode cX7_acceptBatches 57 = .ok (.iload_n 1, 1) := by decide +kernel
theorem dX7_acceptBatches_58 : decode cX7_acceptBatches 58 = .ok (.ireturn, 1) := by decide +kernel
set_option maxRecDepth 20000 in
theorem ggX7_acceptEntries_Jx4a65c_size_8abf5 : GoodIn wsX7_acceptEntries wsJx4a65c_size_8abf5 := goodIn_r _ [10, 11, 112, 113, 114] (by decide +kernel) (by decide +kernel)
set_option maxRecDepth 20000 in
theorem gX7_acceptEntries_Jx4a65c_size_8abf5 : GoodIn wsX7_acceptEntries (wsV RX7 48 RJx4a65c yJx4a65c_size_8abf5 wsJx4a65c_size_8abf5) := goodIn_app (goodIn_of _ (by decide +kernel)) ggX7_acceptEntries_Jx4a65c_size_8abf5
set_option maxRecDepth 20000 in
theorem ggX7_acceptEntries_Jx4a65c_get_915e3 : GoodIn wsX7_acceptEntries wsJx4a65c_get_915e3 := goodIn_r _ [15, 11, 16, 17, 18, 19, 20, 21, 22, 23, 24, 25, 26, 9, 27, 28, 112, 113, 114] (by decide +kernel) (by decide +kernel)
set_option maxRecDepth 20000 in
theorem gX7_acceptEntries_Jx4a65c_get_915e3 : GoodIn wsX7_acceptEntries (wsV RX7 147 RJx4a65c yJx4a65c_get_915e3 wsJx4a65c_get_915e3) := goodIn_app (goodIn_of _ (by decide +kernel)) ggX7_acceptEntries_Jx4a65c_get_915e3
set_option maxRecDepth 20000 in
theorem ggX7_acceptEntries_X7_countRefusal : GoodIn wsX7_acceptEntries wsX7_countRefusal := goodIn_r _ [33, 34, 115, 116, 117, 118, 119, 120, 121] (by decide +kernel) (by decide +kernel)
set_option maxRecDepth 20000 in
theorem gX7_acceptEntries_X7_countRefusal : GoodIn wsX7_acceptEntries (wsV RX7 270 RX7 yX7_countRefusal wsX7_countRefusal) := goodIn_app (goodIn_of _ (by decide +kernel)) ggX7_acceptEntries_X7_countRefusal
set_option maxRecDepth 20000 in
theorem ggX7_acceptEntries_Jx4a65c_add_9ea2d : GoodIn wsX7_acceptEntries wsJx4a65c_add_9ea2d := goodIn_r _ [38, 39, 40, 28, 11, 41, 42, 43, 9, 44, 45, 46, 47, 48, 49, 50, 51, 52, 53, 54, 55, 56, 57, 58, 59, 60, 61, 62, 63, 64, 65, 66, 67, 68, 69, 70, 71, 72, 73, 74, 75, 76, 77, 78, 79, 80, 81, 82, 83, 84, 85, 86, 87, 112, 113, 114] (by decide +kernel) (by decide +kernel)
set_option maxRecDepth 20000 in
theorem gX7_acceptEntries_Jx4a65c_add_9ea2d : GoodIn wsX7_acceptEntries (wsV RX7 57 RJx4a65c yJx4a65c_add_9ea2d wsJx4a65c_add_9ea2d) := goodIn_app (goodIn_of _ (by decide +kernel)) ggX7_acceptEntries_Jx4a65c_add_9ea2d
theorem dX7_acceptEntries_0 : decode cX7_acceptEntries 0 = .ok (.iconst 0, 1) := by decide +kernel
theorem dX7_acceptEntries_1 : decode cX7_acceptEntries 1 = .ok (.istore_n 2, 1) := by decide +kernel
theorem dX7_acceptEntries_2 : decode cX7_acceptEntries 2 = .ok (.iconst 0, 1) := by decide +kernel
end
section
theorem dX7_acceptEntries_3 : decode cX7_acceptEntries 3 = .ok (.istore_n 3, 1) := by decide +kernel
theorem dX7_acceptEntries_4 : decode cX7_acceptEntries 4 = .ok (.iload_n 3, 1) := by decide +kernel
theorem dX7_acceptEntries_5 : decode cX7_acceptEntries 5 = .ok (.aload_n 1, 1) := by decide +kernel
theorem dX7_acceptEntries_6 : decode cX7_acceptEntries 6 = .ok (.getfield 314, 3) := by decide +kernel
theorem dX7_acceptEntries_9 : decode cX7_acceptEntries 9 = .ok (.invokevirtual 48, 3) := by decide +kernel
theorem dX7_acceptEntries_12 : decode cX7_acceptEntries 12 = .ok (.if_icmp .ge 67, 3) := by decide +kernel
theorem dX7_acceptEntries_15 : decode cX7_acceptEntries 15 = .ok (.aload_n 1, 1) := by decide +kernel
theorem dX7_acceptEntries_16 : decode cX7_acceptEntries 16 = .ok (.getfield 314, 3) := by decide +kernel
theorem dX7_acceptEntries_19 : decode cX7_acceptEntries 19 = .ok (.iload_n 3, 1) := by decide +kernel
theorem dX7_acceptEntries_20 : decode cX7_acceptEntries 20 = .ok (.invokevirtual 147, 3) := by decide +kernel
theorem dX7_acceptEntries_23 : decode cX7_acceptEntries 23 = .ok (.checkcast 151, 3) := by decide +kernel
theorem dX7_acceptEntries_26 : decode cX7_acceptEntries 26 = .ok (.astore 4, 2) := by decide +kernel
theorem dX7_acceptEntries_28 : decode cX7_acceptEntries 28 = .ok (.aload 4, 2) := by decide +kernel
theorem dX7_acceptEntries_30 : decode cX7_acceptEntries 30 = .ok (.getfield 179, 3) := by decide +kernel
theorem dX7_acceptEntries_33 : decode cX7_acceptEntries 33 = .ok (.ifCond .eq 15, 3) := by decide +kernel
theorem dX7_acceptEntries_36 : decode cX7_acceptEntries 36 = .ok (.aload_n 0, 1) := by decide +kernel
theorem dX7_acceptEntries_37 : decode cX7_acceptEntries 37 = .ok (.aload 4, 2) := by decide +kernel
theorem dX7_acceptEntries_39 : decode cX7_acceptEntries 39 = .ok (.getfield 179, 3) := by decide +kernel
theorem dX7_acceptEntries_42 : decode cX7_acceptEntries 42 = .ok (.invokevirtual 270, 3) := by decide +kernel
theorem dX7_acceptEntries_45 : decode cX7_acceptEntries 45 = .ok (.goto 28, 3) := by decide +kernel
theorem dX7_acceptEntries_48 : decode cX7_acceptEntries 48 = .ok (.aload 4, 2) := by decide +kernel
theorem dX7_acceptEntries_50 : decode cX7_acceptEntries 50 = .ok (.getfield 160, 3) := by decide +kernel
theorem dX7_acceptEntries_53 : decode cX7_acceptEntries 53 = .ok (.ifnull 20, 3) := by decide +kernel
theorem dX7_acceptEntries_56 : decode cX7_acceptEntries 56 = .ok (.aload 4, 2) := by decide +kernel
theorem dX7_acceptEntries_58 : decode cX7_acceptEntries 58 = .ok (.getfield 160, 3) := by decide +kernel
theorem dX7_acceptEntries_61 : decode cX7_acceptEntries 61 = .ok (.getfield 213, 3) := by decide +kernel
theorem dX7_acceptEntries_64 : decode cX7_acceptEntries 64 = .ok (.aload 4, 2) := by decide +kernel
theorem dX7_acceptEntries_66 : decode cX7_acceptEntries 66 = .ok (.invokevirtual 57, 3) := by decide +kernel
theorem dX7_acceptEntries_69 : decode cX7_acceptEntries 69 = .ok (.pop, 1) := by decide +kernel
theorem dX7_acceptEntries_70 : decode cX7_acceptEntries 70 = .ok (.iinc 2 1, 3) := by decide +kernel
theorem dX7_acceptEntries_73 : decode cX7_acceptEntries 73 = .ok (.iinc 3 1, 3) := by decide +kernel
theorem dX7_acceptEntries_76 : decode cX7_acceptEntries 76 = .ok (.goto (-72), 3) := by decide +kernel
theorem dX7_acceptEntries_79 : decode cX7_acceptEntries 79 = .ok (.iload_n 2, 1) := by decide +kernel
theorem dX7_acceptEntries_80 : decode cX7_acceptEntries 80 = .ok (.ireturn, 1) := by decide +kernel
theorem dX7_countRefusal_0 : decode cX7_countRefusal 0 = .ok (.iload_n 1, 1) := by decide +kernel
theorem dX7_countRefusal_1 : decode cX7_countRefusal 1 = .ok (.ifCond .lt 22, 3) := by decide +kernel
theorem dX7_countRefusal_4 : decode cX7_countRefusal 4 = .ok (.iload_n 1, 1) := by decide +kernel
theorem dX7_countRefusal_5 : decode cX7_countRefusal 5 = .ok (.aload_n 0, 1) := by decide +kernel
theorem dX7_countRefusal_6 : decode cX7_countRefusal 6 = .ok (.getfield 34, 3) := by decide +kernel
theorem dX7_countRefusal_9 : decode cX7_countRefusal 9 = .ok (.arraylength, 1) := by decide +kernel
theorem dX7_countRefusal_10 : decode cX7_countRefusal 10 = .ok (.if_icmp .ge 13, 3) := by decide +kernel
theorem dX7_countRefusal_13 : decode cX7_countRefusal 13 = .ok (.aload_n 0, 1) := by decide +kernel
theorem dX7_countRefusal_14 : decode cX7_countRefusal 14 = .ok (.getfield 34, 3) := by decide +kernel
theorem dX7_countRefusal_17 : decode cX7_countRefusal 17 = .ok (.iload_n 1, 1) := by decide +kernel
theorem dX7_countRefusal_18 : decode cX7_countRefusal 18 = .ok (.dup2, 1) := by decide +kernel
theorem dX7_countRefusal_19 : decode cX7_countRefusal 19 = .ok (.iaload, 1) := by decide +kernel
theorem dX7_countRefusal_20 : decode cX7_countRefusal 20 = .ok (.iconst 1, 1) := by decide +kernel
theorem dX7_countRefusal_21 : decode cX7_countRefusal 21 = .ok (.iadd, 1) := by decide +kernel
theorem dX7_countRefusal_22 : decode cX7_countRefusal 22 = .ok (.iastore, 1) := by decide +kernel
theorem dX7_countRefusal_23 : decode cX7_countRefusal 23 = .ok (.return_, 1) := by decide +kernel
set_option maxRecDepth 20000 in
theorem ggX7_handOutReturns_Jx4a65c_size_8abf5 : GoodIn wsX7_handOutReturns wsJx4a65c_size_8abf5 := goodIn_r _ [8, 9, 119, 120, 121] (by decide +kernel) (by decide +kernel)
set_option maxRecDepth 20000 in
theorem gX7_handOutReturns_Jx4a65c_size_8abf5 : GoodIn wsX7_handOutReturns (wsV RX7 48 RJx4a65c yJx4a65c_size_8abf5 wsJx4a65c_size_8abf5) := goodIn_app (goodIn_of _ (by decide +kernel)) ggX7_handOutReturns_Jx4a65c_size_8abf5
set_option maxRecDepth 20000 in
theorem ggX7_handOutReturns_Jx4a65c_get_915e3 : GoodIn wsX7_handOutReturns wsJx4a65c_get_915e3 := goodIn_r _ [13, 9, 14, 15, 16, 17, 18, 19, 20, 21, 22, 23, 24, 7, 25, 26, 119, 120, 121] (by decide +kernel) (by decide +kernel)
set_option maxRecDepth 20000 in
theorem gX7_handOutReturns_Jx4a65c_get_915e3 : GoodIn wsX7_handOutReturns (wsV RX7 147 RJx4a65c yJx4a65c_get_915e3 wsJx4a65c_get_915e3) := goodIn_app (goodIn_of _ (by decide +kernel)) ggX7_handOutReturns_Jx4a65c_get_915e3
set_option maxRecDepth 20000 in
theorem ggX7_handOutReturns_X5_addReturn : GoodIn wsX7_handOutReturns wsX5_addReturn := goodIn_r _ [31, 32, 33, 34, 35, 36, 37, 7, 38, 39, 40, 26, 9, 41, 42, 43, 44, 45, 46, 47, 48, 49, 50, 51, 52, 53, 54, 55, 56, 57, 58, 59, 60, 61, 62, 63, 64, 65, 66, 67, 68, 69, 70, 71, 72, 73, 74, 75, 76, 77, 78, 79, 80, 81, 82, 83, 84, 85, 86, 87, 88, 89, 90, 91, 92, 93, 94, 95, 96, 97, 98, 99, 122, 123, 124, 125, 119, 120, 121, 126, 127, 128, 129, 130, 131, 132, 133, 134, 135, 136, 137, 138] (by decide +kernel) (by decide +kernel)
set_option maxRecDepth 20000 in
theorem gX7_handOutReturns_X5_addReturn : GoodIn wsX7_handOutReturns (wsV RX7 323 RX5 yX5_addReturn wsX5_addReturn) := goodIn_app (goodIn_of _ (by decide +kernel)) ggX7_handOutReturns_X5_addReturn
set_option maxRecDepth 20000 in
theorem ggX7_handOutReturns_X7_settle : GoodIn wsX7_handOutReturns wsX7_settle := goodIn_r _ [103, 104, 105, 106, 107, 108, 130, 131, 132, 133, 134, 135, 136, 137, 138, 113, 114, 115, 116, 117, 118] (by decide +kernel) (by decide +kernel)
set_option maxRecDepth 20000 in
theorem gX7_handOutReturns_X7_settle : GoodIn wsX7_handOutReturns (va_wsS RX7 326 yX7_settle wsX7_settle) := goodIn_app (goodIn_of _ (by decide +kernel)) ggX7_handOutReturns_X7_settle
set_option maxRecDepth 20000 in
theorem ggX7_handOutReturns_Jx4a65c_clear_da8c8 : GoodIn wsX7_handOutReturns wsJx4a65c_clear_da8c8 := goodIn_r _ [112, 39, 40, 26, 9, 119, 120, 121] (by decide +kernel) (by decide +kernel)
set_option maxRecDepth 20000 in
theorem gX7_handOutReturns_Jx4a65c_clear_da8c8 : GoodIn wsX7_handOutReturns (wsV RX7 330 RJx4a65c yJx4a65c_clear_da8c8 wsJx4a65c_clear_da8c8) := goodIn_app (goodIn_of _ (by decide +kernel)) ggX7_handOutReturns_Jx4a65c_clear_da8c8
theorem dX7_handOutReturns_0 : decode cX7_handOutReturns 0 = .ok (.iconst 0, 1) := by decide +kernel
theorem dX7_handOutReturns_1 : decode cX7_handOutReturns 1 = .ok (.istore_n 1, 1) := by decide +kernel
theorem dX7_handOutReturns_2 : decode cX7_handOutReturns 2 = .ok (.iload_n 1, 1) := by decide +kernel
theorem dX7_handOutReturns_3 : decode cX7_handOutReturns 3 = .ok (.aload_n 0, 1) := by decide +kernel
theorem dX7_handOutReturns_4 : decode cX7_handOutReturns 4 = .ok (.getfield 214, 3) := by decide +kernel
theorem dX7_handOutReturns_7 : decode cX7_handOutReturns 7 = .ok (.invokevirtual 48, 3) := by decide +kernel
theorem dX7_handOutReturns_10 : decode cX7_handOutReturns 10 = .ok (.if_icmp .ge 34, 3) := by decide +kernel
theorem dX7_handOutReturns_13 : decode cX7_handOutReturns 13 = .ok (.aload_n 0, 1) := by decide +kernel
theorem dX7_handOutReturns_14 : decode cX7_handOutReturns 14 = .ok (.getfield 214, 3) := by decide +kernel
theorem dX7_handOutReturns_17 : decode cX7_handOutReturns 17 = .ok (.iload_n 1, 1) := by decide +kernel
theorem dX7_handOutReturns_18 : decode cX7_handOutReturns 18 = .ok (.invokevirtual 147, 3) := by decide +kernel
theorem dX7_handOutReturns_21 : decode cX7_handOutReturns 21 = .ok (.checkcast 151, 3) := by decide +kernel
theorem dX7_handOutReturns_24 : decode cX7_handOutReturns 24 = .ok (.astore_n 2, 1) := by decide +kernel
theorem dX7_handOutReturns_25 : decode cX7_handOutReturns 25 = .ok (.aload_n 0, 1) := by decide +kernel
theorem dX7_handOutReturns_26 : decode cX7_handOutReturns 26 = .ok (.getfield 111, 3) := by decide +kernel
theorem dX7_handOutReturns_29 : decode cX7_handOutReturns 29 = .ok (.aload_n 2, 1) := by decide +kernel
theorem dX7_handOutReturns_30 : decode cX7_handOutReturns 30 = .ok (.invokevirtual 323, 3) := by decide +kernel
theorem dX7_handOutReturns_33 : decode cX7_handOutReturns 33 = .ok (.aload_n 2, 1) := by decide +kernel
theorem dX7_handOutReturns_34 : decode cX7_handOutReturns 34 = .ok (.iconst 1, 1) := by decide +kernel
theorem dX7_handOutReturns_35 : decode cX7_handOutReturns 35 = .ok (.invokestatic 326, 3) := by decide +kernel
theorem dX7_handOutReturns_38 : decode cX7_handOutReturns 38 = .ok (.iinc 1 1, 3) := by decide +kernel
theorem dX7_handOutReturns_41 : decode cX7_handOutReturns 41 = .ok (.goto (-39), 3) := by decide +kernel
theorem dX7_handOutReturns_44 : decode cX7_handOutReturns 44 = .ok (.aload_n 0, 1) := by decide +kernel
theorem dX7_handOutReturns_45 : decode cX7_handOutReturns 45 = .ok (.getfield 214, 3) := by decide +kernel
theorem dX7_handOutReturns_48 : decode cX7_handOutReturns 48 = .ok (.invokevirtual 330, 3) := by decide +kernel
theorem dX7_handOutReturns_51 : decode cX7_handOutReturns 51 = .ok (.return_, 1) := by decide +kernel
set_option maxRecDepth 20000 in
theorem ggX7_handOutEntries_Jx4a65c_size_8abf5 : GoodIn wsX7_handOutEntries wsJx4a65c_size_8abf5 := goodIn_r _ [10, 11, 153, 154, 155] (by decide +kernel) (by decide +kernel)
set_option maxRecDepth 20000 in
theorem gX7_handOutEntries_Jx4a65c_size_8abf5 : GoodIn wsX7_handOutEntries (wsV RX7 48 RJx4a65c yJx4a65c_size_8abf5 wsJx4a65c_size_8abf5) := goodIn_app (goodIn_of _ (by decide +kernel)) ggX7_handOutEntries_Jx4a65c_size_8abf5
set_option maxRecDepth 20000 in
theorem ggX7_handOutEntries_Jx4a65c_get_915e3 : GoodIn wsX7_handOutEntries wsJx4a65c_get_915e3 := goodIn_r _ [15, 11, 16, 17, 18, 19, 20, 21, 22, 23, 24, 25, 26, 9, 27, 28, 153, 154, 155] (by decide +kernel) (by decide +kernel)
set_option maxRecDepth 20000 in
theorem gX7_handOutEntries_Jx4a65c_get_915e3 : GoodIn wsX7_handOutEntries (wsV RX7 147 RJx4a65c yJx4a65c_get_915e3 wsJx4a65c_get_915e3) := goodIn_app (goodIn_of _ (by decide +kernel)) ggX7_handOutEntries_Jx4a65c_get_915e3
set_option maxRecDepth 20000 in
theorem ggX7_handOutEntries_X5_addEntry : GoodIn wsX7_handOutEntries wsX5_addEntry := goodIn_r _ [33, 34, 35, 36, 37, 38, 7, 8, 9, 10, 11, 39, 13, 14, 15, 16, 17, 18, 19, 20, 21, 22, 23, 24, 25, 26, 27, 28, 40, 41, 42, 43, 44, 45, 46, 47, 48, 49, 50, 51, 52, 53, 54, 55, 56, 57, 58, 59, 60, 61, 62, 63, 64, 65, 66, 67, 68, 69, 70, 71, 72, 73, 74, 75, 76, 77, 78, 79, 80, 81, 82, 83, 84, 85, 86, 87, 88, 89, 90, 91, 92, 93, 94, 95, 96, 97, 98, 99, 100, 101, 102, 103, 104, 105, 106, 107, 108, 109, 110, 111, 112, 113, 156, 157, 158, 159, 153, 154, 155, 137, 138, 139, 140, 141, 142, 143, 144, 145, 131, 132, 133, 134, 135, 136, 160, 161, 162, 163] (by decide +kernel) (by decide +kernel)
set_option maxRecDepth 20000 in
theorem gX7_handOutEntries_X5_addEntry : GoodIn wsX7_handOutEntries (wsV RX7 331 RX5 yX5_addEntry wsX5_addEntry) := goodIn_app (goodIn_of _ (by decide +kernel)) ggX7_handOutEntries_X5_addEntry
set_option maxRecDepth 20000 in
theorem ggX7_handOutEntries_X7_settle : GoodIn wsX7_handOutEntries wsX7_settle := goodIn_r _ [117, 118, 119, 120, 121, 122, 137, 138, 139, 140, 141, 142, 143, 144, 145, 131, 132, 133, 134, 135, 136] (by decide +kernel) (by decide +kernel)
set_option maxRecDepth 20000 in
theorem gX7_handOutEntries_X7_settle : GoodIn wsX7_handOutEntries (va_wsS RX7 326 yX7_settle wsX7_settle) := goodIn_app (goodIn_of _ (by decide +kernel)) ggX7_handOutEntries_X7_settle
set_option maxRecDepth 20000 in
theorem ggX7_handOutEntries_Jx4a65c_remove_915e3 : GoodIn wsX7_handOutEntries wsJx4a65c_remove_915e3 := goodIn_r _ [126, 11, 28, 16, 17, 18, 19, 20, 21, 22, 23, 127, 128, 129, 9, 130, 52, 53, 54, 55, 56, 57, 153, 154, 155] (by decide +kernel) (by decide +kernel)
set_option maxRecDepth 20000 in
theorem gX7_handOutEntries_Jx4a65c_remove_915e3 : GoodIn wsX7_handOutEntries (wsV RX7 333 RJx4a65c yJx4a65c_remove_915e3 wsJx4a65c_remove_915e3) := goodIn_app (goodIn_of _ (by decide +kernel)) ggX7_handOutEntries_Jx4a65c_remove_915e3
theorem dX7_handOutEntries_0 : decode cX7_handOutEntries 0 = .ok (.iconst 0, 1) := by decide +kernel
theorem dX7_handOutEntries_1 : decode cX7_handOutEntries 1 = .ok (.istore_n 2, 1) := by decide +kernel
theorem dX7_handOutEntries_2 : decode cX7_handOutEntries 2 = .ok (.iload_n 2, 1) := by decide +kernel
theorem dX7_handOutEntries_3 : decode cX7_handOutEntries 3 = .ok (.aload_n 1, 1) := by decide +kernel
theorem dX7_handOutEntries_4 : decode cX7_handOutEntries 4 = .ok (.getfield 213, 3) := by decide +kernel
theorem dX7_handOutEntries_7 : decode cX7_handOutEntries 7 = .ok (.invokevirtual 48, 3) := by decide +kernel
theorem dX7_handOutEntries_10 : decode cX7_handOutEntries 10 = .ok (.if_icmp .ge 45, 3) := by decide +kernel
theorem dX7_handOutEntries_13 : decode cX7_handOutEntries 13 = .ok (.aload_n 1, 1) := by decide +kernel
theorem dX7_handOutEntries_14 : decode cX7_handOutEntries 14 = .ok (.getfield 213, 3) := by decide +kernel
theorem dX7_handOutEntries_17 : decode cX7_handOutEntries 17 = .ok (.iload_n 2, 1) := by decide +kernel
theorem dX7_handOutEntries_18 : decode cX7_handOutEntries 18 = .ok (.invokevirtual 147, 3) := by decide +kernel
theorem dX7_handOutEntries_21 : decode cX7_handOutEntries 21 = .ok (.checkcast 151, 3) := by decide +kernel
theorem dX7_handOutEntries_24 : decode cX7_handOutEntries 24 = .ok (.astore_n 3, 1) := by decide +kernel
theorem dX7_handOutEntries_25 : decode cX7_handOutEntries 25 = .ok (.aload_n 3, 1) := by decide +kernel
theorem dX7_handOutEntries_26 : decode cX7_handOutEntries 26 = .ok (.getfield 315, 3) := by decide +kernel
theorem dX7_handOutEntries_29 : decode cX7_handOutEntries 29 = .ok (.aload_n 0, 1) := by decide +kernel
theorem dX7_handOutEntries_30 : decode cX7_handOutEntries 30 = .ok (.getfield 37, 3) := by decide +kernel
theorem dX7_handOutEntries_33 : decode cX7_handOutEntries 33 = .ok (.if_icmp .gt 16, 3) := by decide +kernel
theorem dX7_handOutEntries_36 : decode cX7_handOutEntries 36 = .ok (.aload_n 1, 1) := by decide +kernel
theorem dX7_handOutEntries_37 : decode cX7_handOutEntries 37 = .ok (.getfield 111, 3) := by decide +kernel
theorem dX7_handOutEntries_40 : decode cX7_handOutEntries 40 = .ok (.aload_n 3, 1) := by decide +kernel
theorem dX7_handOutEntries_41 : decode cX7_handOutEntries 41 = .ok (.invokevirtual 331, 3) := by decide +kernel
theorem dX7_handOutEntries_44 : decode cX7_handOutEntries 44 = .ok (.aload_n 3, 1) := by decide +kernel
theorem dX7_handOutEntries_45 : decode cX7_handOutEntries 45 = .ok (.iconst 0, 1) := by decide +kernel
theorem dX7_handOutEntries_46 : decode cX7_handOutEntries 46 = .ok (.invokestatic 326, 3) := by decide +kernel
theorem dX7_handOutEntries_49 : decode cX7_handOutEntries 49 = .ok (.iinc 2 1, 3) := by decide +kernel
theorem dX7_handOutEntries_52 : decode cX7_handOutEntries 52 = .ok (.goto (-50), 3) := by decide +kernel
theorem dX7_handOutEntries_55 : decode cX7_handOutEntries 55 = .ok (.aload_n 1, 1) := by decide +kernel
theorem dX7_handOutEntries_56 : decode cX7_handOutEntries 56 = .ok (.getfield 213, 3) := by decide +kernel
theorem dX7_handOutEntries_59 : decode cX7_handOutEntries 59 = .ok (.invokevirtual 48, 3) := by decide +kernel
theorem dX7_handOutEntries_62 : decode cX7_handOutEntries 62 = .ok (.iconst 1, 1) := by decide +kernel
theorem dX7_handOutEntries_63 : decode cX7_handOutEntries 63 = .ok (.isub, 1) := by decide +kernel
theorem dX7_handOutEntries_64 : decode cX7_handOutEntries 64 = .ok (.istore_n 2, 1) := by decide +kernel
theorem dX7_handOutEntries_65 : decode cX7_handOutEntries 65 = .ok (.iload_n 2, 1) := by decide +kernel
theorem dX7_handOutEntries_66 : decode cX7_handOutEntries 66 = .ok (.ifCond .lt 39, 3) := by decide +kernel
theorem dX7_handOutEntries_69 : decode cX7_handOutEntries 69 = .ok (.aload_n 1, 1) := by decide +kernel
theorem dX7_handOutEntries_70 : decode cX7_handOutEntries 70 = .ok (.getfield 213, 3) := by decide +kernel
theorem dX7_handOutEntries_73 : decode cX7_handOutEntries 73 = .ok (.iload_n 2, 1) := by decide +kernel
theorem dX7_handOutEntries_74 : decode cX7_handOutEntries 74 = .ok (.invokevirtual 147, 3) := by decide +kernel
theorem dX7_handOutEntries_77 : decode cX7_handOutEntries 77 = .ok (.checkcast 151, 3) := by decide +kernel
theorem dX7_handOutEntries_80 : decode cX7_handOutEntries 80 = .ok (.getfield 315, 3) := by decide +kernel
theorem dX7_handOutEntries_83 : decode cX7_handOutEntries 83 = .ok (.aload_n 0, 1) := by decide +kernel
theorem dX7_handOutEntries_84 : decode cX7_handOutEntries 84 = .ok (.getfield 37, 3) := by decide +kernel
theorem dX7_handOutEntries_87 : decode cX7_handOutEntries 87 = .ok (.if_icmp .gt 12, 3) := by decide +kernel
theorem dX7_handOutEntries_90 : decode cX7_handOutEntries 90 = .ok (.aload_n 1, 1) := by decide +kernel
theorem dX7_handOutEntries_91 : decode cX7_handOutEntries 91 = .ok (.getfield 213, 3) := by decide +kernel
theorem dX7_handOutEntries_94 : decode cX7_handOutEntries 94 = .ok (.iload_n 2, 1) := by decide +kernel
theorem dX7_handOutEntries_95 : decode cX7_handOutEntries 95 = .ok (.invokevirtual 333, 3) := by decide +kernel
theorem dX7_handOutEntries_98 : decode cX7_handOutEntries 98 = .ok (.pop, 1) := by decide +kernel
theorem dX7_handOutEntries_99 : decode cX7_handOutEntries 99 = .ok (.iinc 2 (-1), 3) := by decide +kernel
theorem dX7_handOutEntries_102 : decode cX7_handOutEntries 102 = .ok (.goto (-37), 3) := by decide +kernel
theorem dX7_handOutEntries_105 : decode cX7_handOutEntries 105 = .ok (.return_, 1) := by decide +kernel
theorem dX7_settle_0 : decode cX7_settle 0 = .ok (.aload_n 0, 1) := by decide +kernel
theorem dX7_settle_1 : decode cX7_settle 1 = .ok (.getfield 157, 3) := by decide +kernel
theorem dX7_settle_4 : decode cX7_settle 4 = .ok (.iconst 2, 1) := by decide +kernel
theorem dX7_settle_5 : decode cX7_settle 5 = .ok (.if_icmp .ne 7, 3) := by decide +kernel
theorem dX7_settle_8 : decode cX7_settle 8 = .ok (.iconst 1, 1) := by decide +kernel
theorem dX7_settle_9 : decode cX7_settle 9 = .ok (.goto 4, 3) := by decide +kernel
theorem dX7_settle_12 : decode cX7_settle 12 = .ok (.iconst 0, 1) := by decide +kernel
theorem dX7_settle_13 : decode cX7_settle 13 = .ok (.iload_n 1, 1) := by decide +kernel
theorem dX7_settle_14 : decode cX7_settle 14 = .ok (.if_icmp .eq 7, 3) := by decide +kernel
theorem dX7_settle_17 : decode cX7_settle 17 = .ok (.iconst 1, 1) := by decide +kernel
theorem dX7_settle_18 : decode cX7_settle 18 = .ok (.goto 4, 3) := by decide +kernel
theorem dX7_settle_21 : decode cX7_settle 21 = .ok (.iconst 0, 1) := by decide +kernel
theorem dX7_settle_22 : decode cX7_settle 22 = .ok (.istore_n 2, 1) := by decide +kernel
theorem dX7_settle_23 : decode cX7_settle 23 = .ok (.iload_n 2, 1) := by decide +kernel
theorem dX7_settle_24 : decode cX7_settle 24 = .ok (.ifCond .eq 11, 3) := by decide +kernel
theorem dX7_settle_27 : decode cX7_settle 27 = .ok (.aload_n 0, 1) := by decide +kernel
theorem dX7_settle_28 : decode cX7_settle 28 = .ok (.getfield 173, 3) := by decide +kernel
theorem dX7_settle_31 : decode cX7_settle 31 = .ok (.i2l, 1) := by decide +kernel
theorem dX7_settle_32 : decode cX7_settle 32 = .ok (.goto 9, 3) := by decide +kernel
theorem dX7_settle_35 : decode cX7_settle 35 = .ok (.aload_n 0, 1) := by decide +kernel
theorem dX7_settle_36 : decode cX7_settle 36 = .ok (.getfield 173, 3) := by decide +kernel
theorem dX7_settle_39 : decode cX7_settle 39 = .ok (.ineg, 1) := by decide +kernel
theorem dX7_settle_40 : decode cX7_settle 40 = .ok (.i2l, 1) := by decide +kernel
theorem dX7_settle_41 : decode cX7_settle 41 = .ok (.lstore_n 3, 1) := by decide +kernel
theorem dX7_settle_42 : decode cX7_settle 42 = .ok (.aload_n 0, 1) := by decide +kernel
theorem dX7_settle_43 : decode cX7_settle 43 = .ok (.getfield 160, 3) := by decide +kernel
theorem dX7_settle_46 : decode cX7_settle 46 = .ok (.dup, 1) := by decide +kernel
theorem dX7_settle_47 : decode cX7_settle 47 = .ok (.getfield 210, 3) := by decide +kernel
theorem dX7_settle_50 : decode cX7_settle 50 = .ok (.lload_n 3, 1) := by decide +kernel
theorem dX7_settle_51 : decode cX7_settle 51 = .ok (.ladd, 1) := by decide +kernel
theorem dX7_settle_52 : decode cX7_settle 52 = .ok (.putfield 210, 3) := by decide +kernel
theorem dX7_settle_55 : decode cX7_settle 55 = .ok (.aload_n 0, 1) := by decide +kernel
theorem dX7_settle_56 : decode cX7_settle 56 = .ok (.getfield 167, 3) := by decide +kernel
theorem dX7_settle_59 : decode cX7_settle 59 = .ok (.dup, 1) := by decide +kernel
theorem dX7_settle_60 : decode cX7_settle 60 = .ok (.getfield 210, 3) := by decide +kernel
theorem dX7_settle_63 : decode cX7_settle 63 = .ok (.lload_n 3, 1) := by decide +kernel
theorem dX7_settle_64 : decode cX7_settle 64 = .ok (.lsub, 1) := by decide +kernel
theorem dX7_settle_65 : decode cX7_settle 65 = .ok (.putfield 210, 3) := by decide +kernel
theorem dX7_settle_68 : decode cX7_settle 68 = .ok (.return_, 1) := by decide +kernel
set_option maxRecDepth 20000 in
theorem ggX7_postOrSendBack_X7_accountOf : GoodIn wsX7_postOrSendBack wsX7_accountOf := goodIn_r _ [11, 12, 13, 14, 15, 16, 17, 18, 19, 20, 21, 22, 23, 24, 25, 26, 27, 28, 29, 30, 31, 32, 33, 34, 35, 36, 37, 38, 124, 125, 126, 127, 128, 129, 130, 120, 121, 122, 123, 131, 132, 133] (by decide +kernel) (by decide +kernel)
set_option maxRecDepth 20000 in
theorem gX7_postOrSendBack_X7_accountOf : GoodIn wsX7_postOrSendBack (wsV RX7 66 RX7 yX7_accountOf wsX7_accountOf) := goodIn_app (goodIn_of _ (by decide +kernel)) ggX7_postOrSendBack_X7_accountOf
set_option maxRecDepth 20000 in
theorem ggX7_postOrSendBack_X7_reasonToSendBack : GoodIn wsX7_postOrSendBack wsX7_reasonToSendBack := goodIn_r _ [41, 2, 42, 5, 4, 6, 43, 44, 10, 45, 46, 111, 112, 113, 114, 115, 116, 117, 118, 119, 120, 121, 122, 123] (by decide +kernel) (by decide +kernel)
set_option maxRecDepth 20000 in
theorem gX7_postOrSendBack_X7_reasonToSendBack : GoodIn wsX7_postOrSendBack (va_wsS RX7 336 yX7_reasonToSendBack wsX7_reasonToSendBack) := goodIn_app (goodIn_of _ (by decide +kernel)) ggX7_postOrSendBack_X7_reasonToSendBack
set_option maxRecDepth 20000 in
theorem ggX7_postOrSendBack_X7_sendBack : GoodIn wsX7_postOrSendBack wsX7_sendBack := goodIn_r _ [50, 3, 51, 52, 53, 54, 55, 10, 56, 57, 16, 17, 18, 19, 20, 21, 58, 59, 60, 61, 62, 63, 38, 64, 65, 66, 67, 68, 69, 70, 71, 72, 73, 74, 75, 76, 77, 78, 79, 80, 81, 82, 83, 84, 85, 86, 87, 88, 89, 90, 91, 92, 93, 94, 95, 96, 97, 98, 99, 100, 101, 102, 103, 104, 105, 106, 107, 108, 109, 110, 111, 112, 113, 114, 115, 116, 117, 118, 119, 134, 135, 136, 137, 138, 139, 124, 125, 126, 127, 128, 129, 130, 131, 132, 133] (by decide +kernel) (by decide +kernel)
set_option maxRecDepth 20000 in
theorem gX7_postOrSendBack_X7_sendBack : GoodIn wsX7_postOrSendBack (wsV RX7 340 RX7 yX7_sendBack wsX7_sendBack) := goodIn_app (goodIn_of _ (by decide +kernel)) ggX7_postOrSendBack_X7_sendBack
theorem dX7_postOrSendBack_0 : decode cX7_postOrSendBack 0 = .ok (.aload_n 0, 1) := by decide +kernel
theorem dX7_postOrSendBack_1 : decode cX7_postOrSendBack 1 = .ok (.aload_n 1, 1) := by decide +kernel
theorem dX7_postOrSendBack_2 : decode cX7_postOrSendBack 2 = .ok (.getfield 160, 3) := by decide +kernel
theorem dX7_postOrSendBack_5 : decode cX7_postOrSendBack 5 = .ok (.aload_n 1, 1) := by decide +kernel
theorem dX7_postOrSendBack_6 : decode cX7_postOrSendBack 6 = .ok (.getfield 170, 3) := by decide +kernel
theorem dX7_postOrSendBack_9 : decode cX7_postOrSendBack 9 = .ok (.invokevirtual 66, 3) := by decide +kernel
theorem dX7_postOrSendBack_12 : decode cX7_postOrSendBack 12 = .ok (.astore_n 2, 1) := by decide +kernel
theorem dX7_postOrSendBack_13 : decode cX7_postOrSendBack 13 = .ok (.aload_n 1, 1) := by decide +kernel
theorem dX7_postOrSendBack_14 : decode cX7_postOrSendBack 14 = .ok (.aload_n 1, 1) := by decide +kernel
theorem dX7_postOrSendBack_15 : decode cX7_postOrSendBack 15 = .ok (.aload_n 2, 1) := by decide +kernel
theorem dX7_postOrSendBack_16 : decode cX7_postOrSendBack 16 = .ok (.invokestatic 336, 3) := by decide +kernel
theorem dX7_postOrSendBack_19 : decode cX7_postOrSendBack 19 = .ok (.putfield 179, 3) := by decide +kernel
theorem dX7_postOrSendBack_22 : decode cX7_postOrSendBack 22 = .ok (.aload_n 1, 1) := by decide +kernel
theorem dX7_postOrSendBack_23 : decode cX7_postOrSendBack 23 = .ok (.getfield 179, 3) := by decide +kernel
theorem dX7_postOrSendBack_26 : decode cX7_postOrSendBack 26 = .ok (.ifCond .ne 7, 3) := by decide +kernel
theorem dX7_postOrSendBack_29 : decode cX7_postOrSendBack 29 = .ok (.aload_n 2, 1) := by decide +kernel
theorem dX7_postOrSendBack_30 : decode cX7_postOrSendBack 30 = .ok (.ifnonnull 10, 3) := by decide +kernel
theorem dX7_postOrSendBack_33 : decode cX7_postOrSendBack 33 = .ok (.aload_n 0, 1) := by decide +kernel
theorem dX7_postOrSendBack_34 : decode cX7_postOrSendBack 34 = .ok (.aload_n 1, 1) := by decide +kernel
theorem dX7_postOrSendBack_35 : decode cX7_postOrSendBack 35 = .ok (.invokevirtual 340, 3) := by decide +kernel
theorem dX7_postOrSendBack_38 : decode cX7_postOrSendBack 38 = .ok (.iconst 0, 1) := by decide +kernel
theorem dX7_postOrSendBack_39 : decode cX7_postOrSendBack 39 = .ok (.ireturn, 1) := by decide +kernel
theorem dX7_postOrSendBack_40 : decode cX7_postOrSendBack 40 = .ok (.aload_n 2, 1) := by decide +kernel
theorem dX7_postOrSendBack_41 : decode cX7_postOrSendBack 41 = .ok (.dup, 1) := by decide +kernel
theorem dX7_postOrSendBack_42 : decode cX7_postOrSendBack 42 = .ok (.getfield 207, 3) := by decide +kernel
theorem dX7_postOrSendBack_45 : decode cX7_postOrSendBack 45 = .ok (.aload_n 1, 1) := by decide +kernel
theorem dX7_postOrSendBack_46 : decode cX7_postOrSendBack 46 = .ok (.getfield 157, 3) := by decide +kernel
theorem dX7_postOrSendBack_49 : decode cX7_postOrSendBack 49 = .ok (.iconst 2, 1) := by decide +kernel
theorem dX7_postOrSendBack_50 : decode cX7_postOrSendBack 50 = .ok (.if_icmp .ne 11, 3) := by decide +kernel
theorem dX7_postOrSendBack_53 : decode cX7_postOrSendBack 53 = .ok (.aload_n 1, 1) := by decide +kernel
theorem dX7_postOrSendBack_54 : decode cX7_postOrSendBack 54 = .ok (.getfield 173, 3) := by decide +kernel
theorem dX7_postOrSendBack_57 : decode cX7_postOrSendBack 57 = .ok (.i2l, 1) := by decide +kernel
theorem dX7_postOrSendBack_58 : decode cX7_postOrSendBack 58 = .ok (.goto 9, 3) := by decide +kernel
theorem dX7_postOrSendBack_61 : decode cX7_postOrSendBack 61 = .ok (.aload_n 1, 1) := by decide +kernel
theorem dX7_postOrSendBack_62 : decode cX7_postOrSendBack 62 = .ok (.getfield 173, 3) := by decide +kernel
theorem dX7_postOrSendBack_65 : decode cX7_postOrSendBack 65 = .ok (.ineg, 1) := by decide +kernel
theorem dX7_postOrSendBack_66 : decode cX7_postOrSendBack 66 = .ok (.i2l, 1) := by decide +kernel
theorem dX7_postOrSendBack_67 : decode cX7_postOrSendBack 67 = .ok (.ladd, 1) := by decide +kernel
theorem dX7_postOrSendBack_68 : decode cX7_postOrSendBack 68 = .ok (.putfield 207, 3) := by decide +kernel
theorem dX7_postOrSendBack_71 : decode cX7_postOrSendBack 71 = .ok (.iconst 1, 1) := by decide +kernel
theorem dX7_postOrSendBack_72 : decode cX7_postOrSendBack 72 = .ok (.ireturn, 1) := by decide +kernel
set_option maxRecDepth 20000 in
theorem ggX7_reasonToSendBack_X7_isRight : GoodIn wsX7_reasonToSendBack wsX7_isRight := goodIn_r _ [9, 10] (by decide +kernel) (by decide +kernel)
set_option maxRecDepth 20000 in
theorem gX7_reasonToSendBack_X7_isRight : GoodIn wsX7_reasonToSendBack (va_wsS RX7 40 yX7_isRight wsX7_isRight) := goodIn_app (goodIn_of _ (by decide +kernel)) ggX7_reasonToSendBack_X7_isRight
theorem dX7_reasonToSendBack_0 : decode cX7_reasonToSendBack 0 = .ok (.aload_n 0, 1) := by decide +kernel
theorem dX7_reasonToSendBack_1 : decode cX7_reasonToSendBack 1 = .ok (.getfield 170, 3) := by decide +kernel
theorem dX7_reasonToSendBack_4 : decode cX7_reasonToSendBack 4 = .ok (.bipush 6, 2) := by decide +kernel
theorem dX7_reasonToSendBack_6 : decode cX7_reasonToSendBack 6 = .ok (.invokestatic 40, 3) := by decide +kernel
theorem dX7_reasonToSendBack_9 : decode cX7_reasonToSendBack 9 = .ok (.ifCond .ne 5, 3) := by decide +kernel
theorem dX7_reasonToSendBack_12 : decode cX7_reasonToSendBack 12 = .ok (.iconst 4, 1) := by decide +kernel
theorem dX7_reasonToSendBack_13 : decode cX7_reasonToSendBack 13 = .ok (.ireturn, 1) := by decide +kernel
theorem dX7_reasonToSendBack_14 : decode cX7_reasonToSendBack 14 = .ok (.aload_n 1, 1) := by decide +kernel
theorem dX7_reasonToSendBack_15 : decode cX7_reasonToSendBack 15 = .ok (.ifnonnull 5, 3) := by decide +kernel
theorem dX7_reasonToSendBack_18 : decode cX7_reasonToSendBack 18 = .ok (.iconst 3, 1) := by decide +kernel
theorem dX7_reasonToSendBack_19 : decode cX7_reasonToSendBack 19 = .ok (.ireturn, 1) := by decide +kernel
theorem dX7_reasonToSendBack_20 : decode cX7_reasonToSendBack 20 = .ok (.aload_n 1, 1) := by decide +kernel
theorem dX7_reasonToSendBack_21 : decode cX7_reasonToSendBack 21 = .ok (.getfield 75, 3) := by decide +kernel
theorem dX7_reasonToSendBack_24 : decode cX7_reasonToSendBack 24 = .ok (.ifCond .eq 5, 3) := by decide +kernel
theorem dX7_reasonToSendBack_27 : decode cX7_reasonToSendBack 27 = .ok (.iconst 2, 1) := by decide +kernel
theorem dX7_reasonToSendBack_28 : decode cX7_reasonToSendBack 28 = .ok (.ireturn, 1) := by decide +kernel
theorem dX7_reasonToSendBack_29 : decode cX7_reasonToSendBack 29 = .ok (.aload_n 0, 1) := by decide +kernel
theorem dX7_reasonToSendBack_30 : decode cX7_reasonToSendBack 30 = .ok (.getfield 157, 3) := by decide +kernel
theorem dX7_reasonToSendBack_33 : decode cX7_reasonToSendBack 33 = .ok (.bipush 7, 2) := by decide +kernel
theorem dX7_reasonToSendBack_35 : decode cX7_reasonToSendBack 35 = .ok (.if_icmp .ne 20, 3) := by decide +kernel
theorem dX7_reasonToSendBack_38 : decode cX7_reasonToSendBack 38 = .ok (.aload_n 1, 1) := by decide +kernel
theorem dX7_reasonToSendBack_39 : decode cX7_reasonToSendBack 39 = .ok (.getfield 207, 3) := by decide +kernel
theorem dX7_reasonToSendBack_42 : decode cX7_reasonToSendBack 42 = .ok (.aload_n 0, 1) := by decide +kernel
theorem dX7_reasonToSendBack_43 : decode cX7_reasonToSendBack 43 = .ok (.getfield 173, 3) := by decide +kernel
theorem dX7_reasonToSendBack_46 : decode cX7_reasonToSendBack 46 = .ok (.i2l, 1) := by decide +kernel
theorem dX7_reasonToSendBack_47 : decode cX7_reasonToSendBack 47 = .ok (.lcmp, 1) := by decide +kernel
theorem dX7_reasonToSendBack_48 : decode cX7_reasonToSendBack 48 = .ok (.ifCond .ge 7, 3) := by decide +kernel
theorem dX7_reasonToSendBack_51 : decode cX7_reasonToSendBack 51 = .ok (.iconst 1, 1) := by decide +kernel
theorem dX7_reasonToSendBack_52 : decode cX7_reasonToSendBack 52 = .ok (.goto 4, 3) := by decide +kernel
theorem dX7_reasonToSendBack_55 : decode cX7_reasonToSendBack 55 = .ok (.iconst 0, 1) := by decide +kernel
theorem dX7_reasonToSendBack_56 : decode cX7_reasonToSendBack 56 = .ok (.ireturn, 1) := by decide +kernel
set_option maxRecDepth 20000 in
theorem ggX7_sendBack_X7_countRefusal : GoodIn wsX7_sendBack wsX7_countRefusal := goodIn_r _ [8, 9, 85, 86, 87, 88, 89, 90, 91] (by decide +kernel) (by decide +kernel)
set_option maxRecDepth 20000 in
theorem gX7_sendBack_X7_countRefusal : GoodIn wsX7_sendBack (wsV RX7 270 RX7 yX7_countRefusal wsX7_countRefusal) := goodIn_app (goodIn_of _ (by decide +kernel)) ggX7_sendBack_X7_countRefusal
set_option maxRecDepth 20000 in
theorem ggX7_sendBack_Jx4a65c_size_8abf5 : GoodIn wsX7_sendBack wsJx4a65c_size_8abf5 := goodIn_r _ [14, 15, 92, 93, 94] (by decide +kernel) (by decide +kernel)
set_option maxRecDepth 20000 in
theorem gX7_sendBack_Jx4a65c_size_8abf5 : GoodIn wsX7_sendBack (wsV RX7 48 RJx4a65c yJx4a65c_size_8abf5 wsJx4a65c_size_8abf5) := goodIn_app (goodIn_of _ (by decide +kernel)) ggX7_sendBack_Jx4a65c_size_8abf5
set_option maxRecDepth 20000 in
theorem ggX7_sendBack_Jx4a65c_add_9ea2d : GoodIn wsX7_sendBack wsJx4a65c_add_9ea2d := goodIn_r _ [19, 20, 21, 22, 15, 23, 24, 25, 13, 26, 27, 28, 29, 30, 31, 32, 33, 34, 35, 36, 37, 38, 39, 40, 41, 42, 43, 44, 45, 46, 47, 48, 49, 50, 51, 52, 53, 54, 55, 56, 57, 58, 59, 60, 61, 62, 63, 64, 65, 66, 67, 68, 69, 92, 93, 94] (by decide +kernel) (by decide +kernel)
set_option maxRecDepth 20000 in
theorem gX7_sendBack_Jx4a65c_add_9ea2d : GoodIn wsX7_sendBack (wsV RX7 57 RJx4a65c yJx4a65c_add_9ea2d wsJx4a65c_add_9ea2d) := goodIn_app (goodIn_of _ (by decide +kernel)) ggX7_sendBack_Jx4a65c_add_9ea2d
theorem dX7_sendBack_0 : decode cX7_sendBack 0 = .ok (.aload_n 0, 1) := by decide +kernel
theorem dX7_sendBack_1 : decode cX7_sendBack 1 = .ok (.aload_n 1, 1) := by decide +kernel
theorem dX7_sendBack_2 : decode cX7_sendBack 2 = .ok (.getfield 179, 3) := by decide +kernel
theorem dX7_sendBack_5 : decode cX7_sendBack 5 = .ok (.invokevirtual 270, 3) := by decide +kernel
theorem dX7_sendBack_8 : decode cX7_sendBack 8 = .ok (.aload_n 1, 1) := by decide +kernel
theorem dX7_sendBack_9 : decode cX7_sendBack 9 = .ok (.getfield 167, 3) := by decide +kernel
theorem dX7_sendBack_12 : decode cX7_sendBack 12 = .ok (.getfield 214, 3) := by decide +kernel
theorem dX7_sendBack_15 : decode cX7_sendBack 15 = .ok (.invokevirtual 48, 3) := by decide +kernel
theorem dX7_sendBack_18 : decode cX7_sendBack 18 = .ok (.sipush 512, 3) := by decide +kernel
theorem dX7_sendBack_21 : decode cX7_sendBack 21 = .ok (.if_icmp .ge 15, 3) := by decide +kernel
theorem dX7_sendBack_24 : decode cX7_sendBack 24 = .ok (.aload_n 1, 1) := by decide +kernel
theorem dX7_sendBack_25 : decode cX7_sendBack 25 = .ok (.getfield 167, 3) := by decide +kernel
theorem dX7_sendBack_28 : decode cX7_sendBack 28 = .ok (.getfield 214, 3) := by decide +kernel
theorem dX7_sendBack_31 : decode cX7_sendBack 31 = .ok (.aload_n 1, 1) := by decide +kernel
theorem dX7_sendBack_32 : decode cX7_sendBack 32 = .ok (.invokevirtual 57, 3) := by decide +kernel
theorem dX7_sendBack_35 : decode cX7_sendBack 35 = .ok (.pop, 1) := by decide +kernel
theorem dX7_sendBack_36 : decode cX7_sendBack 36 = .ok (.return_, 1) := by decide +kernel
theorem dX8_init_0 : decode cX8_init 0 = .ok (.aload_n 0, 1) := by decide +kernel
theorem dX8_init_1 : decode cX8_init 1 = .ok (.invokespecial 1, 3) := by decide +kernel
theorem dX8_init_4 : decode cX8_init 4 = .ok (.aload_n 0, 1) := by decide +kernel
theorem dX8_init_5 : decode cX8_init 5 = .ok (.iconst 5, 1) := by decide +kernel
theorem dX8_init_6 : decode cX8_init 6 = .ok (.newarray .int, 2) := by decide +kernel
theorem dX8_init_8 : decode cX8_init 8 = .ok (.putfield 7, 3) := by decide +kernel
theorem dX8_init_11 : decode cX8_init 11 = .ok (.aload_n 0, 1) := by decide +kernel
theorem dX8_init_12 : decode cX8_init 12 = .ok (.iconst 5, 1) := by decide +kernel
theorem dX8_init_13 : decode cX8_init 13 = .ok (.newarray .long, 2) := by decide +kernel
theorem dX8_init_15 : decode cX8_init 15 = .ok (.putfield 13, 3) := by decide +kernel
theorem dX8_init_18 : decode cX8_init 18 = .ok (.aload_n 0, 1) := by decide +kernel
theorem dX8_init_19 : decode cX8_init 19 = .ok (.bipush 12, 2) := by decide +kernel
theorem dX8_init_21 : decode cX8_init 21 = .ok (.newarray .int, 2) := by decide +kernel
theorem dX8_init_23 : decode cX8_init 23 = .ok (.putfield 17, 3) := by decide +kernel
theorem dX8_init_26 : decode cX8_init 26 = .ok (.aload_n 0, 1) := by decide +kernel
theorem dX8_init_27 : decode cX8_init 27 = .ok (.bipush 12, 2) := by decide +kernel
theorem dX8_init_29 : decode cX8_init 29 = .ok (.newarray .int, 2) := by decide +kernel
theorem dX8_init_31 : decode cX8_init 31 = .ok (.putfield 20, 3) := by decide +kernel
theorem dX8_init_34 : decode cX8_init 34 = .ok (.aload_n 0, 1) := by decide +kernel
theorem dX8_init_35 : decode cX8_init 35 = .ok (.bipush 12, 2) := by decide +kernel
theorem dX8_init_37 : decode cX8_init 37 = .ok (.newarray .long, 2) := by decide +kernel
theorem dX8_init_39 : decode cX8_init 39 = .ok (.putfield 23, 3) := by decide +kernel
theorem dX8_init_42 : decode cX8_init 42 = .ok (.aload_n 0, 1) := by decide +kernel
theorem dX8_init_43 : decode cX8_init 43 = .ok (.bipush 12, 2) := by decide +kernel
theorem dX8_init_45 : decode cX8_init 45 = .ok (.newarray .boolean, 2) := by decide +kernel
theorem dX8_init_47 : decode cX8_init 47 = .ok (.putfield 26, 3) := by decide +kernel
theorem dX8_init_50 : decode cX8_init 50 = .ok (.aload_n 0, 1) := by decide +kernel
theorem dX8_init_51 : decode cX8_init 51 = .ok (.iconst 4, 1) := by decide +kernel
theorem dX8_init_52 : decode cX8_init 52 = .ok (.newarray .int, 2) := by decide +kernel
theorem dX8_init_54 : decode cX8_init 54 = .ok (.putfield 30, 3) := by decide +kernel
theorem dX8_init_57 : decode cX8_init 57 = .ok (.aload_n 0, 1) := by decide +kernel
theorem dX8_init_58 : decode cX8_init 58 = .ok (.iconst 4, 1) := by decide +kernel
theorem dX8_init_59 : decode cX8_init 59 = .ok (.newarray .int, 2) := by decide +kernel
theorem dX8_init_61 : decode cX8_init 61 = .ok (.putfield 33, 3) := by decide +kernel
theorem dX8_init_64 : decode cX8_init 64 = .ok (.aload_n 0, 1) := by decide +kernel
theorem dX8_init_65 : decode cX8_init 65 = .ok (.iconst 4, 1) := by decide +kernel
theorem dX8_init_66 : decode cX8_init 66 = .ok (.newarray .int, 2) := by decide +kernel
theorem dX8_init_68 : decode cX8_init 68 = .ok (.putfield 36, 3) := by decide +kernel
theorem dX8_init_71 : decode cX8_init 71 = .ok (.aload_n 0, 1) := by decide +kernel
theorem dX8_init_72 : decode cX8_init 72 = .ok (.iconst 4, 1) := by decide +kernel
theorem dX8_init_73 : decode cX8_init 73 = .ok (.newarray .int, 2) := by decide +kernel
theorem dX8_init_75 : decode cX8_init 75 = .ok (.putfield 39, 3) := by decide +kernel
theorem dX8_init_78 : decode cX8_init 78 = .ok (.aload_n 0, 1) := by decide +kernel
theorem dX8_init_79 : decode cX8_init 79 = .ok (.iconst 4, 1) := by decide +kernel
theorem dX8_init_80 : decode cX8_init 80 = .ok (.newarray .int, 2) := by decide +kernel
theorem dX8_init_82 : decode cX8_init 82 = .ok (.putfield 42, 3) := by decide +kernel
theorem dX8_init_85 : decode cX8_init 85 = .ok (.aload_n 0, 1) := by decide +kernel
theorem dX8_init_86 : decode cX8_init 86 = .ok (.iconst 4, 1) := by decide +kernel
theorem dX8_init_87 : decode cX8_init 87 = .ok (.newarray .int, 2) := by decide +kernel
theorem dX8_init_89 : decode cX8_init 89 = .ok (.putfield 45, 3) := by decide +kernel
theorem dX8_init_92 : decode cX8_init 92 = .ok (.aload_n 0, 1) := by decide +kernel
theorem dX8_init_93 : decode cX8_init 93 = .ok (.iconst 4, 1) := by decide +kernel
theorem dX8_init_94 : decode cX8_init 94 = .ok (.newarray .int, 2) := by decide +kernel
theorem dX8_init_96 : decode cX8_init 96 = .ok (.putfield 48, 3) := by decide +kernel
theorem dX8_init_99 : decode cX8_init 99 = .ok (.aload_n 0, 1) := by decide +kernel
theorem dX8_init_100 : decode cX8_init 100 = .ok (.bipush 20, 2) := by decide +kernel
theorem dX8_init_102 : decode cX8_init 102 = .ok (.newarray .int, 2) := by decide +kernel
theorem dX8_init_104 : decode cX8_init 104 = .ok (.putfield 51, 3) := by decide +kernel
theorem dX8_init_107 : decode cX8_init 107 = .ok (.aload_n 0, 1) := by decide +kernel
theorem dX8_init_108 : decode cX8_init 108 = .ok (.bipush 20, 2) := by decide +kernel
theorem dX8_init_110 : decode cX8_init 110 = .ok (.newarray .int, 2) := by decide +kernel
theorem dX8_init_112 : decode cX8_init 112 = .ok (.putfield 54, 3) := by decide +kernel
theorem dX8_init_115 : decode cX8_init 115 = .ok (.aload_n 0, 1) := by decide +kernel
theorem dX8_init_116 : decode cX8_init 116 = .ok (.bipush 20, 2) := by decide +kernel
theorem dX8_init_118 : decode cX8_init 118 = .ok (.newarray .int, 2) := by decide +kernel
theorem dX8_init_120 : decode cX8_init 120 = .ok (.putfield 57, 3) := by decide +kernel
theorem dX8_init_123 : decode cX8_init 123 = .ok (.aload_n 0, 1) := by decide +kernel
theorem dX8_init_124 : decode cX8_init 124 = .ok (.bipush 20, 2) := by decide +kernel
theorem dX8_init_126 : decode cX8_init 126 = .ok (.newarray .int, 2) := by decide +kernel
theorem dX8_init_128 : decode cX8_init 128 = .ok (.putfield 60, 3) := by decide +kernel
theorem dX8_init_131 : decode cX8_init 131 = .ok (.aload_n 0, 1) := by decide +kernel
theorem dX8_init_132 : decode cX8_init 132 = .ok (.bipush 20, 2) := by decide +kernel
theorem dX8_init_134 : decode cX8_init 134 = .ok (.newarray .int, 2) := by decide +kernel
theorem dX8_init_136 : decode cX8_init 136 = .ok (.putfield 63, 3) := by decide +kernel
theorem dX8_init_139 : decode cX8_init 139 = .ok (.aload_n 0, 1) := by decide +kernel
theorem dX8_init_140 : decode cX8_init 140 = .ok (.bipush 20, 2) := by decide +kernel
theorem dX8_init_142 : decode cX8_init 142 = .ok (.newarray .int, 2) := by decide +kernel
theorem dX8_init_144 : decode cX8_init 144 = .ok (.putfield 66, 3) := by decide +kernel
theorem dX8_init_147 : decode cX8_init 147 = .ok (.aload_n 0, 1) := by decide +kernel
theorem dX8_init_148 : decode cX8_init 148 = .ok (.sipush 256, 3) := by decide +kernel
theorem dX8_init_151 : decode cX8_init 151 = .ok (.newarray .int, 2) := by decide +kernel
theorem dX8_init_153 : decode cX8_init 153 = .ok (.putfield 69, 3) := by decide +kernel
theorem dX8_init_156 : decode cX8_init 156 = .ok (.aload_n 0, 1) := by decide +kernel
theorem dX8_init_157 : decode cX8_init 157 = .ok (.sipush 512, 3) := by decide +kernel
theorem dX8_init_160 : decode cX8_init 160 = .ok (.newarray .int, 2) := by decide +kernel
theorem dX8_init_162 : decode cX8_init 162 = .ok (.putfield 72, 3) := by decide +kernel
theorem dX8_init_165 : decode cX8_init 165 = .ok (.aload_n 0, 1) := by decide +kernel
theorem dX8_init_166 : decode cX8_init 166 = .ok (.sipush 512, 3) := by decide +kernel
theorem dX8_init_169 : decode cX8_init 169 = .ok (.newarray .int, 2) := by decide +kernel
theorem dX8_init_171 : decode cX8_init 171 = .ok (.putfield 75, 3) := by decide +kernel
theorem dX8_init_174 : decode cX8_init 174 = .ok (.aload_n 0, 1) := by decide +kernel
theorem dX8_init_175 : decode cX8_init 175 = .ok (.sipush 512, 3) := by decide +kernel
theorem dX8_init_178 : decode cX8_init 178 = .ok (.newarray .int, 2) := by decide +kernel
theorem dX8_init_180 : decode cX8_init 180 = .ok (.putfield 78, 3) := by decide +kernel
theorem dX8_init_183 : decode cX8_init 183 = .ok (.aload_n 0, 1) := by decide +kernel
theorem dX8_init_184 : decode cX8_init 184 = .ok (.sipush 512, 3) := by decide +kernel
theorem dX8_init_187 : decode cX8_init 187 = .ok (.newarray .int, 2) := by decide +kernel
theorem dX8_init_189 : decode cX8_init 189 = .ok (.putfield 81, 3) := by decide +kernel
theorem dX8_init_192 : decode cX8_init 192 = .ok (.aload_n 0, 1) := by decide +kernel
theorem dX8_init_193 : decode cX8_init 193 = .ok (.sipush 512, 3) := by decide +kernel
theorem dX8_init_196 : decode cX8_init 196 = .ok (.newarray .int, 2) := by decide +kernel
theorem dX8_init_198 : decode cX8_init 198 = .ok (.putfield 84, 3) := by decide +kernel
theorem dX8_init_201 : decode cX8_init 201 = .ok (.aload_n 0, 1) := by decide +kernel
theorem dX8_init_202 : decode cX8_init 202 = .ok (.sipush 512, 3) := by decide +kernel
theorem dX8_init_205 : decode cX8_init 205 = .ok (.newarray .int, 2) := by decide +kernel
theorem dX8_init_207 : decode cX8_init 207 = .ok (.putfield 87, 3) := by decide +kernel
theorem dX8_init_210 : decode cX8_init 210 = .ok (.aload_n 0, 1) := by decide +kernel
theorem dX8_init_211 : decode cX8_init 211 = .ok (.sipush 512, 3) := by decide +kernel
theorem dX8_init_214 : decode cX8_init 214 = .ok (.newarray .int, 2) := by decide +kernel
theorem dX8_init_216 : decode cX8_init 216 = .ok (.putfield 90, 3) := by decide +kernel
theorem dX8_init_219 : decode cX8_init 219 = .ok (.aload_n 0, 1) := by decide +kernel
theorem dX8_init_220 : decode cX8_init 220 = .ok (.sipush 512, 3) := by decide +kernel
theorem dX8_init_223 : decode cX8_init 223 = .ok (.newarray .int, 2) := by decide +kernel
theorem dX8_init_225 : decode cX8_init 225 = .ok (.putfield 93, 3) := by decide +kernel
theorem dX8_init_228 : decode cX8_init 228 = .ok (.aload_n 0, 1) := by decide +kernel
theorem dX8_init_229 : decode cX8_init 229 = .ok (.sipush 512, 3) := by decide +kernel
theorem dX8_init_232 : decode cX8_init 232 = .ok (.newarray .int, 2) := by decide +kernel
theorem dX8_init_234 : decode cX8_init 234 = .ok (.putfield 96, 3) := by decide +kernel
theorem dX8_init_237 : decode cX8_init 237 = .ok (.aload_n 0, 1) := by decide +kernel
theorem dX8_init_238 : decode cX8_init 238 = .ok (.sipush 512, 3) := by decide +kernel
theorem dX8_init_241 : decode cX8_init 241 = .ok (.newarray .int, 2) := by decide +kernel
theorem dX8_init_243 : decode cX8_init 243 = .ok (.putfield 99, 3) := by decide +kernel
theorem dX8_init_246 : decode cX8_init 246 = .ok (.aload_n 0, 1) := by decide +kernel
theorem dX8_init_247 : decode cX8_init 247 = .ok (.iconst 5, 1) := by decide +kernel
theorem dX8_init_248 : decode cX8_init 248 = .ok (.newarray .int, 2) := by decide +kernel
theorem dX8_init_250 : decode cX8_init 250 = .ok (.putfield 102, 3) := by decide +kernel
theorem dX8_init_253 : decode cX8_init 253 = .ok (.aload_n 0, 1) := by decide +kernel
theorem dX8_init_254 : decode cX8_init 254 = .ok (.sipush 2560, 3) := by decide +kernel
theorem dX8_init_257 : decode cX8_init 257 = .ok (.newarray .int, 2) := by decide +kernel
theorem dX8_init_259 : decode cX8_init 259 = .ok (.putfield 105, 3) := by decide +kernel
theorem dX8_init_262 : decode cX8_init 262 = .ok (.aload_n 0, 1) := by decide +kernel
theorem dX8_init_263 : decode cX8_init 263 = .ok (.sipush 2560, 3) := by decide +kernel
theorem dX8_init_266 : decode cX8_init 266 = .ok (.newarray .boolean, 2) := by decide +kernel
theorem dX8_init_268 : decode cX8_init 268 = .ok (.putfield 108, 3) := by decide +kernel
theorem dX8_init_271 : decode cX8_init 271 = .ok (.aload_n 0, 1) := by decide +kernel
theorem dX8_init_272 : decode cX8_init 272 = .ok (.sipush 2560, 3) := by decide +kernel
theorem dX8_init_275 : decode cX8_init 275 = .ok (.newarray .int, 2) := by decide +kernel
theorem dX8_init_277 : decode cX8_init 277 = .ok (.putfield 111, 3) := by decide +kernel
theorem dX8_init_280 : decode cX8_init 280 = .ok (.aload_n 0, 1) := by decide +kernel
theorem dX8_init_281 : decode cX8_init 281 = .ok (.bipush 40, 2) := by decide +kernel
theorem dX8_init_283 : decode cX8_init 283 = .ok (.newarray .int, 2) := by decide +kernel
theorem dX8_init_285 : decode cX8_init 285 = .ok (.putfield 114, 3) := by decide +kernel
theorem dX8_init_288 : decode cX8_init 288 = .ok (.return_, 1) := by decide +kernel
theorem dX8_within_0 : decode cX8_within 0 = .ok (.iload_n 0, 1) := by decide +kernel
theorem dX8_within_1 : decode cX8_within 1 = .ok (.ifCond .lt 12, 3) := by decide +kernel
theorem dX8_within_4 : decode cX8_within 4 = .ok (.iload_n 0, 1) := by decide +kernel
theorem dX8_within_5 : decode cX8_within 5 = .ok (.iload_n 1, 1) := by decide +kernel
theorem dX8_within_6 : decode cX8_within 6 = .ok (.if_icmp .ge 7, 3) := by decide +kernel
theorem dX8_within_9 : decode cX8_within 9 = .ok (.iconst 1, 1) := by decide +kernel
theorem dX8_within_10 : decode cX8_within 10 = .ok (.goto 4, 3) := by decide +kernel
theorem dX8_within_13 : decode cX8_within 13 = .ok (.iconst 0, 1) := by decide +kernel
theorem dX8_within_14 : decode cX8_within 14 = .ok (.ireturn, 1) := by decide +kernel
theorem dX8_right_0 : decode cX8_right 0 = .ok (.iconst 0, 1) := by decide +kernel
theorem dX8_right_1 : decode cX8_right 1 = .ok (.istore_n 2, 1) := by decide +kernel
theorem dX8_right_2 : decode cX8_right 2 = .ok (.iload_n 0, 1) := by decide +kernel
theorem dX8_right_3 : decode cX8_right 3 = .ok (.istore_n 3, 1) := by decide +kernel
theorem dX8_right_4 : decode cX8_right 4 = .ok (.iload_n 1, 1) := by decide +kernel
theorem dX8_right_5 : decode cX8_right 5 = .ok (.iconst 1, 1) := by decide +kernel
theorem dX8_right_6 : decode cX8_right 6 = .ok (.isub, 1) := by decide +kernel
theorem dX8_right_7 : decode cX8_right 7 = .ok (.istore 4, 2) := by decide +kernel
theorem dX8_right_9 : decode cX8_right 9 = .ok (.iload 4, 2) := by decide +kernel
theorem dX8_right_11 : decode cX8_right 11 = .ok (.ifCond .lt 51, 3) := by decide +kernel
theorem dX8_right_14 : decode cX8_right 14 = .ok (.iload 4, 2) := by decide +kernel
theorem dX8_right_16 : decode cX8_right 16 = .ok (.iconst 3, 1) := by decide +kernel
theorem dX8_right_17 : decode cX8_right 17 = .ok (.irem, 1) := by decide +kernel
theorem dX8_right_18 : decode cX8_right 18 = .ok (.ifCond .ne 7, 3) := by decide +kernel
theorem dX8_right_21 : decode cX8_right 21 = .ok (.iconst 3, 1) := by decide +kernel
theorem dX8_right_22 : decode cX8_right 22 = .ok (.goto 17, 3) := by decide +kernel
theorem dX8_right_25 : decode cX8_right 25 = .ok (.iload 4, 2) := by decide +kernel
theorem dX8_right_27 : decode cX8_right 27 = .ok (.iconst 3, 1) := by decide +kernel
theorem dX8_right_28 : decode cX8_right 28 = .ok (.irem, 1) := by decide +kernel
theorem dX8_right_29 : decode cX8_right 29 = .ok (.iconst 1, 1) := by decide +kernel
theorem dX8_right_30 : decode cX8_right 30 = .ok (.if_icmp .ne 8, 3) := by decide +kernel
theorem dX8_right_33 : decode cX8_right 33 = .ok (.bipush 7, 2) := by decide +kernel
theorem dX8_right_35 : decode cX8_right 35 = .ok (.goto 4, 3) := by decide +kernel
theorem dX8_right_38 : decode cX8_right 38 = .ok (.iconst 1, 1) := by decide +kernel
theorem dX8_right_39 : decode cX8_right 39 = .ok (.istore 5, 2) := by decide +kernel
theorem dX8_right_41 : decode cX8_right 41 = .ok (.iload_n 2, 1) := by decide +kernel
theorem dX8_right_42 : decode cX8_right 42 = .ok (.iload 5, 2) := by decide +kernel
theorem dX8_right_44 : decode cX8_right 44 = .ok (.iload_n 3, 1) := by decide +kernel
theorem dX8_right_45 : decode cX8_right 45 = .ok (.bipush 10, 2) := by decide +kernel
theorem dX8_right_47 : decode cX8_right 47 = .ok (.irem, 1) := by decide +kernel
theorem dX8_right_48 : decode cX8_right 48 = .ok (.imul, 1) := by decide +kernel
theorem dX8_right_49 : decode cX8_right 49 = .ok (.iadd, 1) := by decide +kernel
theorem dX8_right_50 : decode cX8_right 50 = .ok (.istore_n 2, 1) := by decide +kernel
theorem dX8_right_51 : decode cX8_right 51 = .ok (.iload_n 3, 1) := by decide +kernel
theorem dX8_right_52 : decode cX8_right 52 = .ok (.bipush 10, 2) := by decide +kernel
theorem dX8_right_54 : decode cX8_right 54 = .ok (.idiv, 1) := by decide +kernel
theorem dX8_right_55 : decode cX8_right 55 = .ok (.istore_n 3, 1) := by decide +kernel
theorem dX8_right_56 : decode cX8_right 56 = .ok (.iinc 4 (-1), 3) := by decide +kernel
theorem dX8_right_59 : decode cX8_right 59 = .ok (.goto (-50), 3) := by decide +kernel
theorem dX8_right_62 : decode cX8_right 62 = .ok (.iload_n 2, 1) := by decide +kernel
theorem dX8_right_63 : decode cX8_right 63 = .ok (.bipush 10, 2) := by decide +kernel
theorem dX8_right_65 : decode cX8_right 65 = .ok (.irem, 1) := by decide +kernel
theorem dX8_right_66 : decode cX8_right 66 = .ok (.ifCond .ne 7, 3) := by decide +kernel
theorem dX8_right_69 : decode cX8_right 69 = .ok (.iconst 1, 1) := by decide +kernel
theorem dX8_right_70 : decode cX8_right 70 = .ok (.goto 4, 3) := by decide +kernel
theorem dX8_right_73 : decode cX8_right 73 = .ok (.iconst 0, 1) := by decide +kernel
theorem dX8_right_74 : decode cX8_right 74 = .ok (.ireturn, 1) := by decide +kernel
theorem dX8_digits_0 : decode cX8_digits 0 = .ok (.lload_n 0, 1) := by decide +kernel
theorem dX8_digits_1 : decode cX8_digits 1 = .ok (.lstore 4, 2) := by decide +kernel
theorem dX8_digits_3 : decode cX8_digits 3 = .ok (.iload_n 2, 1) := by decide +kernel
theorem dX8_digits_4 : decode cX8_digits 4 = .ok (.iload_n 3, 1) := by decide +kernel
theorem dX8_digits_5 : decode cX8_digits 5 = .ok (.iadd, 1) := by decide +kernel
theorem dX8_digits_6 : decode cX8_digits 6 = .ok (.istore 6, 2) := by decide +kernel
theorem dX8_digits_8 : decode cX8_digits 8 = .ok (.iload 6, 2) := by decide +kernel
theorem dX8_digits_10 : decode cX8_digits 10 = .ok (.bipush 18, 2) := by decide +kernel
theorem dX8_digits_12 : decode cX8_digits 12 = .ok (.if_icmp .ge 17, 3) := by decide +kernel
theorem dX8_digits_15 : decode cX8_digits 15 = .ok (.lload 4, 2) := by decide +kernel
theorem dX8_digits_17 : decode cX8_digits 17 = .ok (.ldc2_w 117, 3) := by decide +kernel
theorem dX8_digits_20 : decode cX8_digits 20 = .ok (.ldiv, 1) := by decide +kernel
theorem dX8_digits_21 : decode cX8_digits 21 = .ok (.lstore 4, 2) := by decide +kernel
theorem dX8_digits_23 : decode cX8_digits 23 = .ok (.iinc 6 1, 3) := by decide +kernel
theorem dX8_digits_26 : decode cX8_digits 26 = .ok (.goto (-18), 3) := by decide +kernel
theorem dX8_digits_29 : decode cX8_digits 29 = .ok (.lconst 1, 1) := by decide +kernel
theorem dX8_digits_30 : decode cX8_digits 30 = .ok (.lstore 6, 2) := by decide +kernel
theorem dX8_digits_32 : decode cX8_digits 32 = .ok (.iconst 0, 1) := by decide +kernel
theorem dX8_digits_33 : decode cX8_digits 33 = .ok (.istore 8, 2) := by decide +kernel
theorem dX8_digits_35 : decode cX8_digits 35 = .ok (.iload 8, 2) := by decide +kernel
theorem dX8_digits_37 : decode cX8_digits 37 = .ok (.iload_n 3, 1) := by decide +kernel
theorem dX8_digits_38 : decode cX8_digits 38 = .ok (.if_icmp .ge 17, 3) := by decide +kernel
theorem dX8_digits_41 : decode cX8_digits 41 = .ok (.lload 6, 2) := by decide +kernel
theorem dX8_digits_43 : decode cX8_digits 43 = .ok (.ldc2_w 117, 3) := by decide +kernel
theorem dX8_digits_46 : decode cX8_digits 46 = .ok (.lmul, 1) := by decide +kernel
theorem dX8_digits_47 : decode cX8_digits 47 = .ok (.lstore 6, 2) := by decide +kernel
theorem dX8_digits_49 : decode cX8_digits 49 = .ok (.iinc 8 1, 3) := by decide +kernel
theorem dX8_digits_52 : decode cX8_digits 52 = .ok (.goto (-17), 3) := by decide +kernel
theorem dX8_digits_55 : decode cX8_digits 55 = .ok (.lload 4, 2) := by decide +kernel
theorem dX8_digits_57 : decode cX8_digits 57 = .ok (.lload 6, 2) := by decide +kernel
theorem dX8_digits_59 : decode cX8_digits 59 = .ok (.lrem, 1) := by decide +kernel
theorem dX8_digits_60 : decode cX8_digits 60 = .ok (.l2i, 1) := by decide +kernel
theorem dX8_digits_61 : decode cX8_digits 61 = .ok (.ireturn, 1) := by decide +kernel
theorem dX8_bankOf_0 : decode cX8_bankOf 0 = .ok (.iconst 0, 1) := by decide +kernel
theorem dX8_bankOf_1 : decode cX8_bankOf 1 = .ok (.istore_n 2, 1) := by decide +kernel
theorem dX8_bankOf_2 : decode cX8_bankOf 2 = .ok (.iload_n 2, 1) := by decide +kernel
theorem dX8_bankOf_3 : decode cX8_bankOf 3 = .ok (.aload_n 0, 1) := by decide +kernel
theorem dX8_bankOf_4 : decode cX8_bankOf 4 = .ok (.getfield 119, 3) := by decide +kernel
theorem dX8_bankOf_7 : decode cX8_bankOf 7 = .ok (.if_icmp .ge 21, 3) := by decide +kernel
theorem dX8_bankOf_10 : decode cX8_bankOf 10 = .ok (.aload_n 0, 1) := by decide +kernel
theorem dX8_bankOf_11 : decode cX8_bankOf 11 = .ok (.getfield 7, 3) := by decide +kernel
theorem dX8_bankOf_14 : decode cX8_bankOf 14 = .ok (.iload_n 2, 1) := by decide +kernel
theorem dX8_bankOf_15 : decode cX8_bankOf 15 = .ok (.iaload, 1) := by decide +kernel
theorem dX8_bankOf_16 : decode cX8_bankOf 16 = .ok (.iload_n 1, 1) := by decide +kernel
theorem dX8_bankOf_17 : decode cX8_bankOf 17 = .ok (.if_icmp .ne 5, 3) := by decide +kernel
theorem dX8_bankOf_20 : decode cX8_bankOf 20 = .ok (.iload_n 2, 1) := by decide +kernel
theorem dX8_bankOf_21 : decode cX8_bankOf 21 = .ok (.ireturn, 1) := by decide +kernel
theorem dX8_bankOf_22 : decode cX8_bankOf 22 = .ok (.iinc 2 1, 3) := by decide +kernel
theorem dX8_bankOf_25 : decode cX8_bankOf 25 = .ok (.goto (-23), 3) := by decide +kernel
theorem dX8_bankOf_28 : decode cX8_bankOf 28 = .ok (.iconst (-1), 1) := by decide +kernel
theorem dX8_bankOf_29 : decode cX8_bankOf 29 = .ok (.ireturn, 1) := by decide +kernel
set_option maxRecDepth 20000 in
theorem ggX8_join_X8_within : GoodIn wsX8_join wsX8_within := goodIn_r _ [6] (by decide +kernel) (by decide +kernel)
set_option maxRecDepth 20000 in
theorem gX8_join_X8_within : GoodIn wsX8_join (va_wsS RX8 123 yX8_within wsX8_within) := goodIn_app (goodIn_of _ (by decide +kernel)) ggX8_join_X8_within
set_option maxRecDepth 20000 in
theorem ggX8_join_X8_right : GoodIn wsX8_join wsX8_right := goodIn_r _ [9] (by decide +kernel) (by decide +kernel)
set_option maxRecDepth 20000 in
theorem gX8_join_X8_right : GoodIn wsX8_join (va_wsS RX8 127 yX8_right wsX8_right) := goodIn_app (goodIn_of _ (by decide +kernel)) ggX8_join_X8_right
set_option maxRecDepth 20000 in
theorem ggX8_join_X8_bankOf : GoodIn wsX8_join wsX8_bankOf := goodIn_r _ [13, 1, 2, 14, 15, 16, 17, 18, 19, 20, 21, 22, 23, 24, 25, 26, 27, 28, 29, 30, 31, 32, 33, 34, 35, 36, 37, 38, 39, 40, 41, 42, 43, 44, 45, 46, 47, 48, 49, 50, 51, 52, 53, 54, 55, 56, 57, 58, 59] (by decide +kernel) (by decide +kernel)
set_option maxRecDepth 20000 in
theorem gX8_join_X8_bankOf : GoodIn wsX8_join (wsV RX8 130 RX8 yX8_bankOf wsX8_bankOf) := goodIn_app (goodIn_of _ (by decide +kernel)) ggX8_join_X8_bankOf
theorem dX8_join_0 : decode cX8_join 0 = .ok (.iload_n 1, 1) := by decide +kernel
theorem dX8_join_1 : decode cX8_join 1 = .ok (.sipush 10000, 3) := by decide +kernel
theorem dX8_join_4 : decode cX8_join 4 = .ok (.invokestatic 123, 3) := by decide +kernel
theorem dX8_join_7 : decode cX8_join 7 = .ok (.ifCond .eq 19, 3) := by decide +kernel
theorem dX8_join_10 : decode cX8_join 10 = .ok (.iload_n 1, 1) := by decide +kernel
theorem dX8_join_11 : decode cX8_join 11 = .ok (.iconst 4, 1) := by decide +kernel
theorem dX8_join_12 : decode cX8_join 12 = .ok (.invokestatic 127, 3) := by decide +kernel
theorem dX8_join_15 : decode cX8_join 15 = .ok (.ifCond .eq 11, 3) := by decide +kernel
theorem dX8_join_18 : decode cX8_join 18 = .ok (.aload_n 0, 1) := by decide +kernel
theorem dX8_join_19 : decode cX8_join 19 = .ok (.iload_n 1, 1) := by decide +kernel
theorem dX8_join_20 : decode cX8_join 20 = .ok (.invokevirtual 130, 3) := by decide +kernel
theorem dX8_join_23 : decode cX8_join 23 = .ok (.ifCond .lt 5, 3) := by decide +kernel
theorem dX8_join_26 : decode cX8_join 26 = .ok (.iconst (-1), 1) := by decide +kernel
theorem dX8_join_27 : decode cX8_join 27 = .ok (.ireturn, 1) := by decide +kernel
theorem dX8_join_28 : decode cX8_join 28 = .ok (.aload_n 0, 1) := by decide +kernel
theorem dX8_join_29 : decode cX8_join 29 = .ok (.getfield 119, 3) := by decide +kernel
theorem dX8_join_32 : decode cX8_join 32 = .ok (.iconst 5, 1) := by decide +kernel
theorem dX8_join_33 : decode cX8_join 33 = .ok (.if_icmp .ne 6, 3) := by decide +kernel
theorem dX8_join_36 : decode cX8_join 36 = .ok (.bipush (-3), 2) := by decide +kernel
theorem dX8_join_38 : decode cX8_join 38 = .ok (.ireturn, 1) := by decide +kernel
theorem dX8_join_39 : decode cX8_join 39 = .ok (.aload_n 0, 1) := by decide +kernel
theorem dX8_join_40 : decode cX8_join 40 = .ok (.getfield 7, 3) := by decide +kernel
theorem dX8_join_43 : decode cX8_join 43 = .ok (.aload_n 0, 1) := by decide +kernel
theorem dX8_join_44 : decode cX8_join 44 = .ok (.getfield 119, 3) := by decide +kernel
theorem dX8_join_47 : decode cX8_join 47 = .ok (.iload_n 1, 1) := by decide +kernel
theorem dX8_join_48 : decode cX8_join 48 = .ok (.iastore, 1) := by decide +kernel
theorem dX8_join_49 : decode cX8_join 49 = .ok (.aload_n 0, 1) := by decide +kernel
theorem dX8_join_50 : decode cX8_join 50 = .ok (.dup, 1) := by decide +kernel
theorem dX8_join_51 : decode cX8_join 51 = .ok (.getfield 119, 3) := by decide +kernel
theorem dX8_join_54 : decode cX8_join 54 = .ok (.iconst 1, 1) := by decide +kernel
theorem dX8_join_55 : decode cX8_join 55 = .ok (.iadd, 1) := by decide +kernel
theorem dX8_join_56 : decode cX8_join 56 = .ok (.putfield 119, 3) := by decide +kernel
theorem dX8_join_59 : decode cX8_join 59 = .ok (.aload_n 0, 1) := by decide +kernel
theorem dX8_join_60 : decode cX8_join 60 = .ok (.getfield 119, 3) := by decide +kernel
theorem dX8_join_63 : decode cX8_join 63 = .ok (.iconst 1, 1) := by decide +kernel
theorem dX8_join_64 : decode cX8_join 64 = .ok (.isub, 1) := by decide +kernel
theorem dX8_join_65 : decode cX8_join 65 = .ok (.ireturn, 1) := by decide +kernel
theorem dX8_accountOf_0 : decode cX8_accountOf 0 = .ok (.iconst 0, 1) := by decide +kernel
theorem dX8_accountOf_1 : decode cX8_accountOf 1 = .ok (.istore_n 3, 1) := by decide +kernel
theorem dX8_accountOf_2 : decode cX8_accountOf 2 = .ok (.iload_n 3, 1) := by decide +kernel
theorem dX8_accountOf_3 : decode cX8_accountOf 3 = .ok (.aload_n 0, 1) := by decide +kernel
theorem dX8_accountOf_4 : decode cX8_accountOf 4 = .ok (.getfield 134, 3) := by decide +kernel
theorem dX8_accountOf_7 : decode cX8_accountOf 7 = .ok (.if_icmp .ge 31, 3) := by decide +kernel
theorem dX8_accountOf_10 : decode cX8_accountOf 10 = .ok (.aload_n 0, 1) := by decide +kernel
theorem dX8_accountOf_11 : decode cX8_accountOf 11 = .ok (.getfield 17, 3) := by decide +kernel
theorem dX8_accountOf_14 : decode cX8_accountOf 14 = .ok (.iload_n 3, 1) := by decide +kernel
theorem dX8_accountOf_15 : decode cX8_accountOf 15 = .ok (.iaload, 1) := by decide +kernel
theorem dX8_accountOf_16 : decode cX8_accountOf 16 = .ok (.iload_n 1, 1) := by decide +kernel
theorem dX8_accountOf_17 : decode cX8_accountOf 17 = .ok (.if_icmp .ne 15, 3) := by decide +kernel
theorem dX8_accountOf_20 : decode cX8_accountOf 20 = .ok (.aload_n 0, 1) := by decide +kernel
theorem dX8_accountOf_21 : decode cX8_accountOf 21 = .ok (.getfield 20, 3) := by decide +kernel
theorem dX8_accountOf_24 : decode cX8_accountOf 24 = .ok (.iload_n 3, 1) := by decide +kernel
theorem dX8_accountOf_25 : decode cX8_accountOf 25 = .ok (.iaload, 1) := by decide +kernel
theorem dX8_accountOf_26 : decode cX8_accountOf 26 = .ok (.iload_n 2, 1) := by decide +kernel
theorem dX8_accountOf_27 : decode cX8_accountOf 27 = .ok (.if_icmp .ne 5, 3) := by decide +kernel
theorem dX8_accountOf_30 : decode cX8_accountOf 30 = .ok (.iload_n 3, 1) := by decide +kernel
theorem dX8_accountOf_31 : decode cX8_accountOf 31 = .ok (.ireturn, 1) := by decide +kernel
theorem dX8_accountOf_32 : decode cX8_accountOf 32 = .ok (.iinc 3 1, 3) := by decide +kernel
theorem dX8_accountOf_35 : decode cX8_accountOf 35 = .ok (.goto (-33), 3) := by decide +kernel
theorem dX8_accountOf_38 : decode cX8_accountOf 38 = .ok (.iconst (-1), 1) := by decide +kernel
theorem dX8_accountOf_39 : decode cX8_accountOf 39 = .ok (.ireturn, 1) := by decide +kernel
set_option maxRecDepth 20000 in
theorem ggX8_open_X8_within : GoodIn wsX8_open wsX8_within := goodIn_r _ [11] (by decide +kernel) (by decide +kernel)
set_option maxRecDepth 20000 in
theorem gX8_open_X8_within : GoodIn wsX8_open (va_wsS RX8 123 yX8_within wsX8_within) := goodIn_app (goodIn_of _ (by decide +kernel)) ggX8_open_X8_within
set_option maxRecDepth 20000 in
theorem ggX8_open_X8_right : GoodIn wsX8_open wsX8_right := goodIn_r _ [14] (by decide +kernel) (by decide +kernel)
set_option maxRecDepth 20000 in
theorem gX8_open_X8_right : GoodIn wsX8_open (va_wsS RX8 127 yX8_right wsX8_right) := goodIn_app (goodIn_of _ (by decide +kernel)) ggX8_open_X8_right
set_option maxRecDepth 20000 in
theorem ggX8_open_X8_accountOf : GoodIn wsX8_open wsX8_accountOf := goodIn_r _ [18, 4, 5, 6, 19, 20, 21, 22, 23, 24, 25, 26, 27, 28, 29, 30, 31, 32, 33, 34, 35, 36, 37, 38, 39, 40, 41, 42, 43, 44, 45, 46, 47, 48, 49, 50, 51, 52, 53, 54, 55, 56, 57, 58, 59, 60, 61, 62, 63, 64] (by decide +kernel) (by decide +kernel)
set_option maxRecDepth 20000 in
theorem gX8_open_X8_accountOf : GoodIn wsX8_open (wsV RX8 139 RX8 yX8_accountOf wsX8_accountOf) := goodIn_app (goodIn_of _ (by decide +kernel)) ggX8_open_X8_accountOf
theorem dX8_open_0 : decode cX8_open 0 = .ok (.iload_n 1, 1) := by decide +kernel
theorem dX8_open_1 : decode cX8_open 1 = .ok (.aload_n 0, 1) := by decide +kernel
theorem dX8_open_2 : decode cX8_open 2 = .ok (.getfield 119, 3) := by decide +kernel
theorem dX8_open_5 : decode cX8_open 5 = .ok (.invokestatic 123, 3) := by decide +kernel
theorem dX8_open_8 : decode cX8_open 8 = .ok (.ifCond .eq 34, 3) := by decide +kernel
theorem dX8_open_11 : decode cX8_open 11 = .ok (.iload_n 2, 1) := by decide +kernel
theorem dX8_open_12 : decode cX8_open 12 = .ok (.ldc 137, 2) := by decide +kernel
theorem dX8_open_14 : decode cX8_open 14 = .ok (.invokestatic 123, 3) := by decide +kernel
theorem dX8_open_17 : decode cX8_open 17 = .ok (.ifCond .eq 25, 3) := by decide +kernel
theorem dX8_open_20 : decode cX8_open 20 = .ok (.iload_n 2, 1) := by decide +kernel
theorem dX8_open_21 : decode cX8_open 21 = .ok (.bipush 6, 2) := by decide +kernel
theorem dX8_open_23 : decode cX8_open 23 = .ok (.invokestatic 127, 3) := by decide +kernel
theorem dX8_open_26 : decode cX8_open 26 = .ok (.ifCond .eq 16, 3) := by decide +kernel
theorem dX8_open_29 : decode cX8_open 29 = .ok (.iload_n 3, 1) := by decide +kernel
theorem dX8_open_30 : decode cX8_open 30 = .ok (.ldc 138, 2) := by decide +kernel
theorem dX8_open_32 : decode cX8_open 32 = .ok (.invokestatic 123, 3) := by decide +kernel
theorem dX8_open_35 : decode cX8_open 35 = .ok (.ifCond .eq 7, 3) := by decide +kernel
theorem dX8_open_38 : decode cX8_open 38 = .ok (.iconst 1, 1) := by decide +kernel
theorem dX8_open_39 : decode cX8_open 39 = .ok (.goto 4, 3) := by decide +kernel
theorem dX8_open_42 : decode cX8_open 42 = .ok (.iconst 0, 1) := by decide +kernel
theorem dX8_open_43 : decode cX8_open 43 = .ok (.istore 4, 2) := by decide +kernel
theorem dX8_open_45 : decode cX8_open 45 = .ok (.iload 4, 2) := by decide +kernel
theorem dX8_open_47 : decode cX8_open 47 = .ok (.ifCond .eq 21, 3) := by decide +kernel
theorem dX8_open_50 : decode cX8_open 50 = .ok (.aload_n 0, 1) := by decide +kernel
theorem dX8_open_51 : decode cX8_open 51 = .ok (.iload_n 1, 1) := by decide +kernel
theorem dX8_open_52 : decode cX8_open 52 = .ok (.iload_n 2, 1) := by decide +kernel
theorem dX8_open_53 : decode cX8_open 53 = .ok (.invokevirtual 139, 3) := by decide +kernel
theorem dX8_open_56 : decode cX8_open 56 = .ok (.ifCond .ge 12, 3) := by decide +kernel
theorem dX8_open_59 : decode cX8_open 59 = .ok (.aload_n 0, 1) := by decide +kernel
theorem dX8_open_60 : decode cX8_open 60 = .ok (.getfield 134, 3) := by decide +kernel
theorem dX8_open_63 : decode cX8_open 63 = .ok (.bipush 12, 2) := by decide +kernel
theorem dX8_open_65 : decode cX8_open 65 = .ok (.if_icmp .ne 5, 3) := by decide +kernel
theorem dX8_open_68 : decode cX8_open 68 = .ok (.iconst 0, 1) := by decide +kernel
theorem dX8_open_69 : decode cX8_open 69 = .ok (.ireturn, 1) := by decide +kernel
theorem dX8_open_70 : decode cX8_open 70 = .ok (.aload_n 0, 1) := by decide +kernel
theorem dX8_open_71 : decode cX8_open 71 = .ok (.getfield 17, 3) := by decide +kernel
theorem dX8_open_74 : decode cX8_open 74 = .ok (.aload_n 0, 1) := by decide +kernel
theorem dX8_open_75 : decode cX8_open 75 = .ok (.getfield 134, 3) := by decide +kernel
theorem dX8_open_78 : decode cX8_open 78 = .ok (.iload_n 1, 1) := by decide +kernel
theorem dX8_open_79 : decode cX8_open 79 = .ok (.iastore, 1) := by decide +kernel
theorem dX8_open_80 : decode cX8_open 80 = .ok (.aload_n 0, 1) := by decide +kernel
theorem dX8_open_81 : decode cX8_open 81 = .ok (.getfield 20, 3) := by decide +kernel
theorem dX8_open_84 : decode cX8_open 84 = .ok (.aload_n 0, 1) := by decide +kernel
theorem dX8_open_85 : decode cX8_open 85 = .ok (.getfield 134, 3) := by decide +kernel
theorem dX8_open_88 : decode cX8_open 88 = .ok (.iload_n 2, 1) := by decide +kernel
theorem dX8_open_89 : decode cX8_open 89 = .ok (.iastore, 1) := by decide +kernel
theorem dX8_open_90 : decode cX8_open 90 = .ok (.aload_n 0, 1) := by decide +kernel
theorem dX8_open_91 : decode cX8_open 91 = .ok (.getfield 23, 3) := by decide +kernel
theorem dX8_open_94 : decode cX8_open 94 = .ok (.aload_n 0, 1) := by decide +kernel
theorem dX8_open_95 : decode cX8_open 95 = .ok (.getfield 134, 3) := by decide +kernel
theorem dX8_open_98 : decode cX8_open 98 = .ok (.iload_n 3, 1) := by decide +kernel
theorem dX8_open_99 : decode cX8_open 99 = .ok (.i2l, 1) := by decide +kernel
theorem dX8_open_100 : decode cX8_open 100 = .ok (.lastore, 1) := by decide +kernel
theorem dX8_open_101 : decode cX8_open 101 = .ok (.aload_n 0, 1) := by decide +kernel
theorem dX8_open_102 : decode cX8_open 102 = .ok (.dup, 1) := by decide +kernel
theorem dX8_open_103 : decode cX8_open 103 = .ok (.getfield 134, 3) := by decide +kernel
theorem dX8_open_106 : decode cX8_open 106 = .ok (.iconst 1, 1) := by decide +kernel
theorem dX8_open_107 : decode cX8_open 107 = .ok (.iadd, 1) := by decide +kernel
theorem dX8_open_108 : decode cX8_open 108 = .ok (.putfield 134, 3) := by decide +kernel
theorem dX8_open_111 : decode cX8_open 111 = .ok (.iconst 1, 1) := by decide +kernel
theorem dX8_open_112 : decode cX8_open 112 = .ok (.ireturn, 1) := by decide +kernel
set_option maxRecDepth 20000 in
theorem ggX8_shut_X8_accountOf : GoodIn wsX8_shut wsX8_accountOf := goodIn_r _ [6, 7, 8, 9, 10, 11, 12, 13, 14, 15, 16, 17, 18, 19, 20, 21, 22, 23, 24, 25, 26, 27, 28, 29, 30, 31, 32, 33, 34, 35, 36, 37, 38, 39, 40, 41, 42, 43, 44, 45, 46, 47, 48, 49, 50, 51, 52, 53, 54, 55] (by decide +kernel) (by decide +kernel)
set_option maxRecDepth 20000 in
theorem gX8_shut_X8_accountOf : GoodIn wsX8_shut (wsV RX8 139 RX8 yX8_accountOf wsX8_accountOf) := goodIn_app (goodIn_of _ (by decide +kernel)) ggX8_shut_X8_accountOf
theorem dX8_shut_0 : decode cX8_shut 0 = .ok (.aload_n 0, 1) := by decide +kernel
theorem dX8_shut_1 : decode cX8_shut 1 = .ok (.iload_n 1, 1) := by decide +kernel
theorem dX8_shut_2 : decode cX8_shut 2 = .ok (.iload_n 2, 1) := by decide +kernel
theorem dX8_shut_3 : decode cX8_shut 3 = .ok (.invokevirtual 139, 3) := by decide +kernel
theorem dX8_shut_6 : decode cX8_shut 6 = .ok (.istore_n 3, 1) := by decide +kernel
theorem dX8_shut_7 : decode cX8_shut 7 = .ok (.iload_n 3, 1) := by decide +kernel
theorem dX8_shut_8 : decode cX8_shut 8 = .ok (.ifCond .lt 12, 3) := by decide +kernel
theorem dX8_shut_11 : decode cX8_shut 11 = .ok (.aload_n 0, 1) := by decide +kernel
theorem dX8_shut_12 : decode cX8_shut 12 = .ok (.getfield 26, 3) := by decide +kernel
theorem dX8_shut_15 : decode cX8_shut 15 = .ok (.iload_n 3, 1) := by decide +kernel
theorem dX8_shut_16 : decode cX8_shut 16 = .ok (.baload, 1) := by decide +kernel
theorem dX8_shut_17 : decode cX8_shut 17 = .ok (.ifCond .eq 5, 3) := by decide +kernel
theorem dX8_shut_20 : decode cX8_shut 20 = .ok (.iconst 0, 1) := by decide +kernel
theorem dX8_shut_21 : decode cX8_shut 21 = .ok (.ireturn, 1) := by decide +kernel
theorem dX8_shut_22 : decode cX8_shut 22 = .ok (.aload_n 0, 1) := by decide +kernel
theorem dX8_shut_23 : decode cX8_shut 23 = .ok (.getfield 26, 3) := by decide +kernel
theorem dX8_shut_26 : decode cX8_shut 26 = .ok (.iload_n 3, 1) := by decide +kernel
theorem dX8_shut_27 : decode cX8_shut 27 = .ok (.iconst 1, 1) := by decide +kernel
theorem dX8_shut_28 : decode cX8_shut 28 = .ok (.bastore, 1) := by decide +kernel
theorem dX8_shut_29 : decode cX8_shut 29 = .ok (.iconst 1, 1) := by decide +kernel
theorem dX8_shut_30 : decode cX8_shut 30 = .ok (.ireturn, 1) := by decide +kernel
theorem dX8_day_0 : decode cX8_day 0 = .ok (.aload_n 0, 1) := by decide +kernel
theorem dX8_day_1 : decode cX8_day 1 = .ok (.dup, 1) := by decide +kernel
theorem dX8_day_2 : decode cX8_day 2 = .ok (.getfield 143, 3) := by decide +kernel
theorem dX8_day_5 : decode cX8_day 5 = .ok (.iconst 1, 1) := by decide +kernel
theorem dX8_day_6 : decode cX8_day 6 = .ok (.iadd, 1) := by decide +kernel
theorem dX8_day_7 : decode cX8_day 7 = .ok (.putfield 143, 3) := by decide +kernel
theorem dX8_day_10 : decode cX8_day 10 = .ok (.aload_n 0, 1) := by decide +kernel
theorem dX8_day_11 : decode cX8_day 11 = .ok (.getfield 143, 3) := by decide +kernel
theorem dX8_day_14 : decode cX8_day 14 = .ok (.ireturn, 1) := by decide +kernel
set_option maxRecDepth 20000 in
theorem ggX8_put_X8_digits : GoodIn wsX8_put wsX8_digits := goodIn_r _ [14, 15] (by decide +kernel) (by decide +kernel)
set_option maxRecDepth 20000 in
theorem gX8_put_X8_digits : GoodIn wsX8_put (va_wsS RX8 148 yX8_digits wsX8_digits) := goodIn_app (goodIn_of _ (by decide +kernel)) ggX8_put_X8_digits
set_option maxRecDepth 20000 in
theorem ggX8_put_X8_batch : GoodIn wsX8_put wsX8_batch := goodIn_r _ [19, 5, 20, 21, 22, 2, 11, 12, 13, 14, 15, 87, 88, 89, 90, 91, 92, 93, 94, 95, 96, 97, 98, 99, 100, 101, 102, 103, 104, 105, 106, 107, 108, 109, 110, 111, 112, 113, 114, 115, 116, 117, 118, 119, 120, 121, 122, 123, 124, 125, 126, 127, 128, 129, 130, 131, 132] (by decide +kernel) (by decide +kernel)
set_option maxRecDepth 20000 in
theorem gX8_put_X8_batch : GoodIn wsX8_put (wsV RX8 167 RX8 yX8_batch wsX8_batch) := goodIn_app (goodIn_of _ (by decide +kernel)) ggX8_put_X8_batch
set_option maxRecDepth 20000 in
theorem ggX8_put_X8_entry : GoodIn wsX8_put wsX8_entry := goodIn_r _ [26, 6, 27, 5, 28, 29, 30, 31, 32, 2, 11, 12, 13, 14, 15, 87, 88, 89, 90, 91, 92, 93, 94, 95, 96, 97, 98, 99, 100, 101, 102, 103, 104, 105, 106, 107, 108, 109, 110, 111, 112, 113, 114, 115, 116, 117, 118, 119, 120, 121, 122, 123, 124, 125, 126, 127, 128, 129, 130, 131, 132] (by decide +kernel) (by decide +kernel)
set_option maxRecDepth 20000 in
theorem gX8_put_X8_entry : GoodIn wsX8_put (wsV RX8 171 RX8 yX8_entry wsX8_entry) := goodIn_app (goodIn_of _ (by decide +kernel)) ggX8_put_X8_entry
set_option maxRecDepth 20000 in
theorem ggX8_put_X8_ended : GoodIn wsX8_put wsX8_ended := goodIn_r _ [36, 37, 38, 39, 3, 4, 5, 6, 27, 40, 41, 42, 13, 43, 44, 45, 46, 47, 48, 49, 11, 12, 14, 15, 50, 51, 52, 53, 29, 28, 31, 54, 55, 56, 57, 58, 59, 60, 61, 62, 63, 64, 65, 66, 67, 20, 21, 22, 68, 7, 8, 9, 10, 32, 69, 70, 71, 72, 73, 74, 75, 76, 77, 78, 79, 80, 81, 82, 83, 30, 84, 85, 86, 87, 88, 89, 90, 91, 92, 93, 94, 95, 96, 97, 98, 99, 100, 101, 102, 103, 104, 105, 106, 107, 108, 109, 110, 111, 112, 113, 114, 115, 116, 117, 118, 119, 120, 121, 122, 123, 124, 125, 126, 127, 128, 129, 130, 131, 132] (by decide +kernel) (by decide +kernel)
set_option maxRecDepth 20000 in
theorem gX8_put_X8_ended : GoodIn wsX8_put (wsV RX8 175 RX8 yX8_ended wsX8_ended) := goodIn_app (goodIn_of _ (by decide +kernel)) ggX8_put_X8_ended
theorem dX8_put_0 : decode cX8_put 0 = .ok (.ldc2_w 146, 3) := by decide +kernel
theorem dX8_put_3 : decode cX8_put 3 = .ok (.lstore 5, 2) := by decide +kernel
theorem dX8_put_5 : decode cX8_put 5 = .ok (.lload_n 1, 1) := by decide +kernel
theorem dX8_put_6 : decode cX8_put 6 = .ok (.lconst 0, 1) := by decide +kernel
theorem dX8_put_7 : decode cX8_put 7 = .ok (.lcmp, 1) := by decide +kernel
theorem dX8_put_8 : decode cX8_put 8 = .ok (.ifCond .lt 23, 3) := by decide +kernel
theorem dX8_put_11 : decode cX8_put 11 = .ok (.lload_n 1, 1) := by decide +kernel
theorem dX8_put_12 : decode cX8_put 12 = .ok (.lload 5, 2) := by decide +kernel
theorem dX8_put_14 : decode cX8_put 14 = .ok (.lcmp, 1) := by decide +kernel
theorem dX8_put_15 : decode cX8_put 15 = .ok (.ifCond .gt 16, 3) := by decide +kernel
theorem dX8_put_18 : decode cX8_put 18 = .ok (.lload_n 3, 1) := by decide +kernel
theorem dX8_put_19 : decode cX8_put 19 = .ok (.lconst 0, 1) := by decide +kernel
theorem dX8_put_20 : decode cX8_put 20 = .ok (.lcmp, 1) := by decide +kernel
theorem dX8_put_21 : decode cX8_put 21 = .ok (.ifCond .lt 10, 3) := by decide +kernel
theorem dX8_put_24 : decode cX8_put 24 = .ok (.lload_n 3, 1) := by decide +kernel
theorem dX8_put_25 : decode cX8_put 25 = .ok (.lload 5, 2) := by decide +kernel
theorem dX8_put_27 : decode cX8_put 27 = .ok (.lcmp, 1) := by decide +kernel
theorem dX8_put_28 : decode cX8_put 28 = .ok (.ifCond .le 5, 3) := by decide +kernel
theorem dX8_put_31 : decode cX8_put 31 = .ok (.iconst (-1), 1) := by decide +kernel
theorem dX8_put_32 : decode cX8_put 32 = .ok (.ireturn, 1) := by decide +kernel
theorem dX8_put_33 : decode cX8_put 33 = .ok (.lload_n 1, 1) := by decide +kernel
theorem dX8_put_34 : decode cX8_put 34 = .ok (.iconst 0, 1) := by decide +kernel
theorem dX8_put_35 : decode cX8_put 35 = .ok (.iconst 1, 1) := by decide +kernel
theorem dX8_put_36 : decode cX8_put 36 = .ok (.invokestatic 148, 3) := by decide +kernel
theorem dX8_put_39 : decode cX8_put 39 = .ok (.istore 7, 2) := by decide +kernel
theorem dX8_put_41 : decode cX8_put 41 = .ok (.aload_n 0, 1) := by decide +kernel
theorem dX8_put_42 : decode cX8_put 42 = .ok (.getfield 152, 3) := by decide +kernel
theorem dX8_put_45 : decode cX8_put 45 = .ok (.istore 8, 2) := by decide +kernel
theorem dX8_put_47 : decode cX8_put 47 = .ok (.aload_n 0, 1) := by decide +kernel
theorem dX8_put_48 : decode cX8_put 48 = .ok (.iconst 0, 1) := by decide +kernel
theorem dX8_put_49 : decode cX8_put 49 = .ok (.putfield 152, 3) := by decide +kernel
theorem dX8_put_52 : decode cX8_put 52 = .ok (.iload 7, 2) := by decide +kernel
theorem dX8_put_54 : decode cX8_put 54 = .ok (.iconst 1, 1) := by decide +kernel
theorem dX8_put_55 : decode cX8_put 55 = .ok (.if_icmp .ne 45, 3) := by decide +kernel
theorem dX8_put_58 : decode cX8_put 58 = .ok (.iload 8, 2) := by decide +kernel
theorem dX8_put_60 : decode cX8_put 60 = .ok (.ifCond .ne 40, 3) := by decide +kernel
theorem dX8_put_63 : decode cX8_put 63 = .ok (.aload_n 0, 1) := by decide +kernel
theorem dX8_put_64 : decode cX8_put 64 = .ok (.lload_n 1, 1) := by decide +kernel
theorem dX8_put_65 : decode cX8_put 65 = .ok (.iconst 1, 1) := by decide +kernel
theorem dX8_put_66 : decode cX8_put 66 = .ok (.iconst 4, 1) := by decide +kernel
theorem dX8_put_67 : decode cX8_put 67 = .ok (.invokestatic 148, 3) := by decide +kernel
theorem dX8_put_70 : decode cX8_put 70 = .ok (.putfield 155, 3) := by decide +kernel
theorem dX8_put_73 : decode cX8_put 73 = .ok (.aload_n 0, 1) := by decide +kernel
theorem dX8_put_74 : decode cX8_put 74 = .ok (.lload_n 1, 1) := by decide +kernel
theorem dX8_put_75 : decode cX8_put 75 = .ok (.iconst 5, 1) := by decide +kernel
theorem dX8_put_76 : decode cX8_put 76 = .ok (.iconst 4, 1) := by decide +kernel
theorem dX8_put_77 : decode cX8_put 77 = .ok (.invokestatic 148, 3) := by decide +kernel
theorem dX8_put_80 : decode cX8_put 80 = .ok (.putfield 158, 3) := by decide +kernel
theorem dX8_put_83 : decode cX8_put 83 = .ok (.aload_n 0, 1) := by decide +kernel
theorem dX8_put_84 : decode cX8_put 84 = .ok (.iconst 0, 1) := by decide +kernel
theorem dX8_put_85 : decode cX8_put 85 = .ok (.putfield 161, 3) := by decide +kernel
theorem dX8_put_88 : decode cX8_put 88 = .ok (.aload_n 0, 1) := by decide +kernel
theorem dX8_put_89 : decode cX8_put 89 = .ok (.iconst 0, 1) := by decide +kernel
theorem dX8_put_90 : decode cX8_put 90 = .ok (.putfield 164, 3) := by decide +kernel
theorem dX8_put_93 : decode cX8_put 93 = .ok (.aload_n 0, 1) := by decide +kernel
theorem dX8_put_94 : decode cX8_put 94 = .ok (.iconst 1, 1) := by decide +kernel
theorem dX8_put_95 : decode cX8_put 95 = .ok (.putfield 152, 3) := by decide +kernel
theorem dX8_put_98 : decode cX8_put 98 = .ok (.iconst 0, 1) := by decide +kernel
theorem dX8_put_99 : decode cX8_put 99 = .ok (.ireturn, 1) := by decide +kernel
theorem dX8_put_100 : decode cX8_put 100 = .ok (.iload 7, 2) := by decide +kernel
theorem dX8_put_102 : decode cX8_put 102 = .ok (.iconst 5, 1) := by decide +kernel
theorem dX8_put_103 : decode cX8_put 103 = .ok (.if_icmp .ne 15, 3) := by decide +kernel
theorem dX8_put_106 : decode cX8_put 106 = .ok (.iload 8, 2) := by decide +kernel
theorem dX8_put_108 : decode cX8_put 108 = .ok (.iconst 1, 1) := by decide +kernel
theorem dX8_put_109 : decode cX8_put 109 = .ok (.if_icmp .ne 9, 3) := by decide +kernel
theorem dX8_put_112 : decode cX8_put 112 = .ok (.aload_n 0, 1) := by decide +kernel
theorem dX8_put_113 : decode cX8_put 113 = .ok (.lload_n 1, 1) := by decide +kernel
theorem dX8_put_114 : decode cX8_put 114 = .ok (.invokevirtual 167, 3) := by decide +kernel
theorem dX8_put_117 : decode cX8_put 117 = .ok (.ireturn, 1) := by decide +kernel
theorem dX8_put_118 : decode cX8_put 118 = .ok (.iload 7, 2) := by decide +kernel
theorem dX8_put_120 : decode cX8_put 120 = .ok (.bipush 6, 2) := by decide +kernel
theorem dX8_put_122 : decode cX8_put 122 = .ok (.if_icmp .ne 16, 3) := by decide +kernel
theorem dX8_put_125 : decode cX8_put 125 = .ok (.iload 8, 2) := by decide +kernel
theorem dX8_put_127 : decode cX8_put 127 = .ok (.iconst 2, 1) := by decide +kernel
theorem dX8_put_128 : decode cX8_put 128 = .ok (.if_icmp .ne 10, 3) := by decide +kernel
theorem dX8_put_131 : decode cX8_put 131 = .ok (.aload_n 0, 1) := by decide +kernel
theorem dX8_put_132 : decode cX8_put 132 = .ok (.lload_n 1, 1) := by decide +kernel
theorem dX8_put_133 : decode cX8_put 133 = .ok (.lload_n 3, 1) := by decide +kernel
theorem dX8_put_134 : decode cX8_put 134 = .ok (.invokevirtual 171, 3) := by decide +kernel
theorem dX8_put_137 : decode cX8_put 137 = .ok (.ireturn, 1) := by decide +kernel
theorem dX8_put_138 : decode cX8_put 138 = .ok (.iload 7, 2) := by decide +kernel
theorem dX8_put_140 : decode cX8_put 140 = .ok (.bipush 8, 2) := by decide +kernel
theorem dX8_put_142 : decode cX8_put 142 = .ok (.if_icmp .ne 80, 3) := by decide +kernel
theorem dX8_put_145 : decode cX8_put 145 = .ok (.iload 8, 2) := by decide +kernel
theorem dX8_put_147 : decode cX8_put 147 = .ok (.iconst 2, 1) := by decide +kernel
theorem dX8_put_148 : decode cX8_put 148 = .ok (.if_icmp .ne 74, 3) := by decide +kernel
theorem dX8_put_151 : decode cX8_put 151 = .ok (.aload_n 0, 1) := by decide +kernel
theorem dX8_put_152 : decode cX8_put 152 = .ok (.getfield 161, 3) := by decide +kernel
theorem dX8_put_155 : decode cX8_put 155 = .ok (.iconst 1, 1) := by decide +kernel
theorem dX8_put_156 : decode cX8_put 156 = .ok (.isub, 1) := by decide +kernel
theorem dX8_put_157 : decode cX8_put 157 = .ok (.istore 9, 2) := by decide +kernel
theorem dX8_put_159 : decode cX8_put 159 = .ok (.aload_n 0, 1) := by decide +kernel
theorem dX8_put_160 : decode cX8_put 160 = .ok (.getfield 39, 3) := by decide +kernel
theorem dX8_put_163 : decode cX8_put 163 = .ok (.iload 9, 2) := by decide +kernel
theorem dX8_put_165 : decode cX8_put 165 = .ok (.lload_n 1, 1) := by decide +kernel
theorem dX8_put_166 : decode cX8_put 166 = .ok (.iconst 1, 1) := by decide +kernel
theorem dX8_put_167 : decode cX8_put 167 = .ok (.iconst 4, 1) := by decide +kernel
theorem dX8_put_168 : decode cX8_put 168 = .ok (.invokestatic 148, 3) := by decide +kernel
theorem dX8_put_171 : decode cX8_put 171 = .ok (.iastore, 1) := by decide +kernel
theorem dX8_put_172 : decode cX8_put 172 = .ok (.aload_n 0, 1) := by decide +kernel
theorem dX8_put_173 : decode cX8_put 173 = .ok (.getfield 42, 3) := by decide +kernel
theorem dX8_put_176 : decode cX8_put 176 = .ok (.iload 9, 2) := by decide +kernel
theorem dX8_put_178 : decode cX8_put 178 = .ok (.lload_n 1, 1) := by decide +kernel
theorem dX8_put_179 : decode cX8_put 179 = .ok (.iconst 5, 1) := by decide +kernel
theorem dX8_put_180 : decode cX8_put 180 = .ok (.bipush 6, 2) := by decide +kernel
theorem dX8_put_182 : decode cX8_put 182 = .ok (.invokestatic 148, 3) := by decide +kernel
theorem dX8_put_185 : decode cX8_put 185 = .ok (.iastore, 1) := by decide +kernel
theorem dX8_put_186 : decode cX8_put 186 = .ok (.aload_n 0, 1) := by decide +kernel
theorem dX8_put_187 : decode cX8_put 187 = .ok (.getfield 45, 3) := by decide +kernel
theorem dX8_put_190 : decode cX8_put 190 = .ok (.iload 9, 2) := by decide +kernel
theorem dX8_put_192 : decode cX8_put 192 = .ok (.lload_n 3, 1) := by decide +kernel
theorem dX8_put_193 : decode cX8_put 193 = .ok (.iconst 0, 1) := by decide +kernel
theorem dX8_put_194 : decode cX8_put 194 = .ok (.bipush 9, 2) := by decide +kernel
theorem dX8_put_196 : decode cX8_put 196 = .ok (.invokestatic 148, 3) := by decide +kernel
theorem dX8_put_199 : decode cX8_put 199 = .ok (.iastore, 1) := by decide +kernel
theorem dX8_put_200 : decode cX8_put 200 = .ok (.aload_n 0, 1) := by decide +kernel
theorem dX8_put_201 : decode cX8_put 201 = .ok (.getfield 48, 3) := by decide +kernel
theorem dX8_put_204 : decode cX8_put 204 = .ok (.iload 9, 2) := by decide +kernel
theorem dX8_put_206 : decode cX8_put 206 = .ok (.lload_n 3, 1) := by decide +kernel
theorem dX8_put_207 : decode cX8_put 207 = .ok (.bipush 9, 2) := by decide +kernel
theorem dX8_put_209 : decode cX8_put 209 = .ok (.bipush 9, 2) := by decide +kernel
theorem dX8_put_211 : decode cX8_put 211 = .ok (.invokestatic 148, 3) := by decide +kernel
theorem dX8_put_214 : decode cX8_put 214 = .ok (.iastore, 1) := by decide +kernel
theorem dX8_put_215 : decode cX8_put 215 = .ok (.aload_n 0, 1) := by decide +kernel
theorem dX8_put_216 : decode cX8_put 216 = .ok (.iconst 1, 1) := by decide +kernel
theorem dX8_put_217 : decode cX8_put 217 = .ok (.putfield 152, 3) := by decide +kernel
theorem dX8_put_220 : decode cX8_put 220 = .ok (.iconst 0, 1) := by decide +kernel
theorem dX8_put_221 : decode cX8_put 221 = .ok (.ireturn, 1) := by decide +kernel
theorem dX8_put_222 : decode cX8_put 222 = .ok (.iload 7, 2) := by decide +kernel
theorem dX8_put_224 : decode cX8_put 224 = .ok (.bipush 9, 2) := by decide +kernel
theorem dX8_put_226 : decode cX8_put 226 = .ok (.if_icmp .ne 18, 3) := by decide +kernel
theorem dX8_put_229 : decode cX8_put 229 = .ok (.iload 8, 2) := by decide +kernel
theorem dX8_put_231 : decode cX8_put 231 = .ok (.iconst 1, 1) := by decide +kernel
theorem dX8_put_232 : decode cX8_put 232 = .ok (.if_icmp .ne 12, 3) := by decide +kernel
theorem dX8_put_235 : decode cX8_put 235 = .ok (.aload_n 0, 1) := by decide +kernel
theorem dX8_put_236 : decode cX8_put 236 = .ok (.lload_n 1, 1) := by decide +kernel
theorem dX8_put_237 : decode cX8_put 237 = .ok (.lload_n 3, 1) := by decide +kernel
theorem dX8_put_238 : decode cX8_put 238 = .ok (.invokevirtual 175, 3) := by decide +kernel
theorem dX8_put_241 : decode cX8_put 241 = .ok (.goto 5, 3) := by decide +kernel
theorem dX8_put_244 : decode cX8_put 244 = .ok (.bipush (-2), 2) := by decide +kernel
theorem dX8_put_246 : decode cX8_put 246 = .ok (.ireturn, 1) := by decide +kernel
set_option maxRecDepth 20000 in
theorem ggX8_batch_X8_digits : GoodIn wsX8_batch wsX8_digits := goodIn_r _ [9, 10] (by decide +kernel) (by decide +kernel)
set_option maxRecDepth 20000 in
theorem gX8_batch_X8_digits : GoodIn wsX8_batch (va_wsS RX8 148 yX8_digits wsX8_digits) := goodIn_app (goodIn_of _ (by decide +kernel)) ggX8_batch_X8_digits
theorem dX8_batch_0 : decode cX8_batch 0 = .ok (.aload_n 0, 1) := by decide +kernel
theorem dX8_batch_1 : decode cX8_batch 1 = .ok (.getfield 161, 3) := by decide +kernel
theorem dX8_batch_4 : decode cX8_batch 4 = .ok (.iconst 4, 1) := by decide +kernel
theorem dX8_batch_5 : decode cX8_batch 5 = .ok (.if_icmp .ne 6, 3) := by decide +kernel
theorem dX8_batch_8 : decode cX8_batch 8 = .ok (.bipush (-3), 2) := by decide +kernel
theorem dX8_batch_10 : decode cX8_batch 10 = .ok (.ireturn, 1) := by decide +kernel
theorem dX8_batch_11 : decode cX8_batch 11 = .ok (.aload_n 0, 1) := by decide +kernel
theorem dX8_batch_12 : decode cX8_batch 12 = .ok (.getfield 30, 3) := by decide +kernel
theorem dX8_batch_15 : decode cX8_batch 15 = .ok (.aload_n 0, 1) := by decide +kernel
theorem dX8_batch_16 : decode cX8_batch 16 = .ok (.getfield 161, 3) := by decide +kernel
theorem dX8_batch_19 : decode cX8_batch 19 = .ok (.lload_n 1, 1) := by decide +kernel
theorem dX8_batch_20 : decode cX8_batch 20 = .ok (.iconst 1, 1) := by decide +kernel
theorem dX8_batch_21 : decode cX8_batch 21 = .ok (.iconst 4, 1) := by decide +kernel
theorem dX8_batch_22 : decode cX8_batch 22 = .ok (.invokestatic 148, 3) := by decide +kernel
theorem dX8_batch_25 : decode cX8_batch 25 = .ok (.iastore, 1) := by decide +kernel
theorem dX8_batch_26 : decode cX8_batch 26 = .ok (.aload_n 0, 1) := by decide +kernel
theorem dX8_batch_27 : decode cX8_batch 27 = .ok (.getfield 33, 3) := by decide +kernel
theorem dX8_batch_30 : decode cX8_batch 30 = .ok (.aload_n 0, 1) := by decide +kernel
theorem dX8_batch_31 : decode cX8_batch 31 = .ok (.getfield 161, 3) := by decide +kernel
theorem dX8_batch_34 : decode cX8_batch 34 = .ok (.lload_n 1, 1) := by decide +kernel
theorem dX8_batch_35 : decode cX8_batch 35 = .ok (.iconst 5, 1) := by decide +kernel
theorem dX8_batch_36 : decode cX8_batch 36 = .ok (.iconst 4, 1) := by decide +kernel
theorem dX8_batch_37 : decode cX8_batch 37 = .ok (.invokestatic 148, 3) := by decide +kernel
theorem dX8_batch_40 : decode cX8_batch 40 = .ok (.iastore, 1) := by decide +kernel
theorem dX8_batch_41 : decode cX8_batch 41 = .ok (.aload_n 0, 1) := by decide +kernel
theorem dX8_batch_42 : decode cX8_batch 42 = .ok (.getfield 36, 3) := by decide +kernel
theorem dX8_batch_45 : decode cX8_batch 45 = .ok (.aload_n 0, 1) := by decide +kernel
theorem dX8_batch_46 : decode cX8_batch 46 = .ok (.getfield 161, 3) := by decide +kernel
theorem dX8_batch_49 : decode cX8_batch 49 = .ok (.lload_n 1, 1) := by decide +kernel
theorem dX8_batch_50 : decode cX8_batch 50 = .ok (.bipush 9, 2) := by decide +kernel
theorem dX8_batch_52 : decode cX8_batch 52 = .ok (.iconst 4, 1) := by decide +kernel
theorem dX8_batch_53 : decode cX8_batch 53 = .ok (.invokestatic 148, 3) := by decide +kernel
theorem dX8_batch_56 : decode cX8_batch 56 = .ok (.iastore, 1) := by decide +kernel
theorem dX8_batch_57 : decode cX8_batch 57 = .ok (.aload_n 0, 1) := by decide +kernel
theorem dX8_batch_58 : decode cX8_batch 58 = .ok (.dup, 1) := by decide +kernel
theorem dX8_batch_59 : decode cX8_batch 59 = .ok (.getfield 161, 3) := by decide +kernel
theorem dX8_batch_62 : decode cX8_batch 62 = .ok (.iconst 1, 1) := by decide +kernel
theorem dX8_batch_63 : decode cX8_batch 63 = .ok (.iadd, 1) := by decide +kernel
theorem dX8_batch_64 : decode cX8_batch 64 = .ok (.putfield 161, 3) := by decide +kernel
theorem dX8_batch_67 : decode cX8_batch 67 = .ok (.aload_n 0, 1) := by decide +kernel
theorem dX8_batch_68 : decode cX8_batch 68 = .ok (.iconst 2, 1) := by decide +kernel
theorem dX8_batch_69 : decode cX8_batch 69 = .ok (.putfield 152, 3) := by decide +kernel
theorem dX8_batch_72 : decode cX8_batch 72 = .ok (.iconst 0, 1) := by decide +kernel
theorem dX8_batch_73 : decode cX8_batch 73 = .ok (.ireturn, 1) := by decide +kernel
set_option maxRecDepth 20000 in
theorem ggX8_entry_X8_digits : GoodIn wsX8_entry wsX8_digits := goodIn_r _ [13, 14] (by decide +kernel) (by decide +kernel)
set_option maxRecDepth 20000 in
theorem gX8_entry_X8_digits : GoodIn wsX8_entry (va_wsS RX8 148 yX8_digits wsX8_digits) := goodIn_app (goodIn_of _ (by decide +kernel)) ggX8_entry_X8_digits
theorem dX8_entry_0 : decode cX8_entry 0 = .ok (.aload_n 0, 1) := by decide +kernel
theorem dX8_entry_1 : decode cX8_entry 1 = .ok (.getfield 164, 3) := by decide +kernel
theorem dX8_entry_4 : decode cX8_entry 4 = .ok (.bipush 20, 2) := by decide +kernel
theorem dX8_entry_6 : decode cX8_entry 6 = .ok (.if_icmp .ne 6, 3) := by decide +kernel
theorem dX8_entry_9 : decode cX8_entry 9 = .ok (.bipush (-3), 2) := by decide +kernel
theorem dX8_entry_11 : decode cX8_entry 11 = .ok (.ireturn, 1) := by decide +kernel
theorem dX8_entry_12 : decode cX8_entry 12 = .ok (.aload_n 0, 1) := by decide +kernel
theorem dX8_entry_13 : decode cX8_entry 13 = .ok (.getfield 51, 3) := by decide +kernel
theorem dX8_entry_16 : decode cX8_entry 16 = .ok (.aload_n 0, 1) := by decide +kernel
theorem dX8_entry_17 : decode cX8_entry 17 = .ok (.getfield 164, 3) := by decide +kernel
theorem dX8_entry_20 : decode cX8_entry 20 = .ok (.aload_n 0, 1) := by decide +kernel
theorem dX8_entry_21 : decode cX8_entry 21 = .ok (.getfield 161, 3) := by decide +kernel
theorem dX8_entry_24 : decode cX8_entry 24 = .ok (.iconst 1, 1) := by decide +kernel
theorem dX8_entry_25 : decode cX8_entry 25 = .ok (.isub, 1) := by decide +kernel
theorem dX8_entry_26 : decode cX8_entry 26 = .ok (.iastore, 1) := by decide +kernel
theorem dX8_entry_27 : decode cX8_entry 27 = .ok (.aload_n 0, 1) := by decide +kernel
theorem dX8_entry_28 : decode cX8_entry 28 = .ok (.getfield 54, 3) := by decide +kernel
theorem dX8_entry_31 : decode cX8_entry 31 = .ok (.aload_n 0, 1) := by decide +kernel
theorem dX8_entry_32 : decode cX8_entry 32 = .ok (.getfield 164, 3) := by decide +kernel
theorem dX8_entry_35 : decode cX8_entry 35 = .ok (.lload_n 1, 1) := by decide +kernel
theorem dX8_entry_36 : decode cX8_entry 36 = .ok (.iconst 1, 1) := by decide +kernel
theorem dX8_entry_37 : decode cX8_entry 37 = .ok (.iconst 1, 1) := by decide +kernel
theorem dX8_entry_38 : decode cX8_entry 38 = .ok (.invokestatic 148, 3) := by decide +kernel
theorem dX8_entry_41 : decode cX8_entry 41 = .ok (.iastore, 1) := by decide +kernel
theorem dX8_entry_42 : decode cX8_entry 42 = .ok (.aload_n 0, 1) := by decide +kernel
theorem dX8_entry_43 : decode cX8_entry 43 = .ok (.getfield 57, 3) := by decide +kernel
theorem dX8_entry_46 : decode cX8_entry 46 = .ok (.aload_n 0, 1) := by decide +kernel
theorem dX8_entry_47 : decode cX8_entry 47 = .ok (.getfield 164, 3) := by decide +kernel
theorem dX8_entry_50 : decode cX8_entry 50 = .ok (.lload_n 1, 1) := by decide +kernel
theorem dX8_entry_51 : decode cX8_entry 51 = .ok (.iconst 2, 1) := by decide +kernel
theorem dX8_entry_52 : decode cX8_entry 52 = .ok (.iconst 4, 1) := by decide +kernel
theorem dX8_entry_53 : decode cX8_entry 53 = .ok (.invokestatic 148, 3) := by decide +kernel
theorem dX8_entry_56 : decode cX8_entry 56 = .ok (.iastore, 1) := by decide +kernel
theorem dX8_entry_57 : decode cX8_entry 57 = .ok (.aload_n 0, 1) := by decide +kernel
theorem dX8_entry_58 : decode cX8_entry 58 = .ok (.getfield 60, 3) := by decide +kernel
theorem dX8_entry_61 : decode cX8_entry 61 = .ok (.aload_n 0, 1) := by decide +kernel
theorem dX8_entry_62 : decode cX8_entry 62 = .ok (.getfield 164, 3) := by decide +kernel
end
section
theorem dX8_entry_65 : decode cX8_entry 65 = .ok (.lload_n 1, 1) := by decide +kernel
theorem dX8_entry_66 : decode cX8_entry 66 = .ok (.bipush 6, 2) := by decide +kernel
theorem dX8_entry_68 : decode cX8_entry 68 = .ok (.bipush 6, 2) := by decide +kernel
theorem dX8_entry_70 : decode cX8_entry 70 = .ok (.invokestatic 148, 3) := by decide +kernel
theorem dX8_entry_73 : decode cX8_entry 73 = .ok (.iastore, 1) := by decide +kernel
theorem dX8_entry_74 : decode cX8_entry 74 = .ok (.aload_n 0, 1) := by decide +kernel
theorem dX8_entry_75 : decode cX8_entry 75 = .ok (.getfield 63, 3) := by decide +kernel
theorem dX8_entry_78 : decode cX8_entry 78 = .ok (.aload_n 0, 1) := by decide +kernel
theorem dX8_entry_79 : decode cX8_entry 79 = .ok (.getfield 164, 3) := by decide +kernel
theorem dX8_entry_82 : decode cX8_entry 82 = .ok (.lload_n 3, 1) := by decide +kernel
theorem dX8_entry_83 : decode cX8_entry 83 = .ok (.iconst 0, 1) := by decide +kernel
theorem dX8_entry_84 : decode cX8_entry 84 = .ok (.bipush 7, 2) := by decide +kernel
theorem dX8_entry_86 : decode cX8_entry 86 = .ok (.invokestatic 148, 3) := by decide +kernel
theorem dX8_entry_89 : decode cX8_entry 89 = .ok (.iastore, 1) := by decide +kernel
theorem dX8_entry_90 : decode cX8_entry 90 = .ok (.aload_n 0, 1) := by decide +kernel
theorem dX8_entry_91 : decode cX8_entry 91 = .ok (.getfield 66, 3) := by decide +kernel
theorem dX8_entry_94 : decode cX8_entry 94 = .ok (.aload_n 0, 1) := by decide +kernel
theorem dX8_entry_95 : decode cX8_entry 95 = .ok (.getfield 164, 3) := by decide +kernel
theorem dX8_entry_98 : decode cX8_entry 98 = .ok (.lload_n 3, 1) := by decide +kernel
theorem dX8_entry_99 : decode cX8_entry 99 = .ok (.bipush 7, 2) := by decide +kernel
theorem dX8_entry_101 : decode cX8_entry 101 = .ok (.bipush 7, 2) := by decide +kernel
theorem dX8_entry_103 : decode cX8_entry 103 = .ok (.invokestatic 148, 3) := by decide +kernel
theorem dX8_entry_106 : decode cX8_entry 106 = .ok (.iastore, 1) := by decide +kernel
theorem dX8_entry_107 : decode cX8_entry 107 = .ok (.aload_n 0, 1) := by decide +kernel
theorem dX8_entry_108 : decode cX8_entry 108 = .ok (.dup, 1) := by decide +kernel
theorem dX8_entry_109 : decode cX8_entry 109 = .ok (.getfield 164, 3) := by decide +kernel
theorem dX8_entry_112 : decode cX8_entry 112 = .ok (.iconst 1, 1) := by decide +kernel
theorem dX8_entry_113 : decode cX8_entry 113 = .ok (.iadd, 1) := by decide +kernel
theorem dX8_entry_114 : decode cX8_entry 114 = .ok (.putfield 164, 3) := by decide +kernel
theorem dX8_entry_117 : decode cX8_entry 117 = .ok (.aload_n 0, 1) := by decide +kernel
theorem dX8_entry_118 : decode cX8_entry 118 = .ok (.iconst 2, 1) := by decide +kernel
theorem dX8_entry_119 : decode cX8_entry 119 = .ok (.putfield 152, 3) := by decide +kernel
theorem dX8_entry_122 : decode cX8_entry 122 = .ok (.iconst 0, 1) := by decide +kernel
theorem dX8_entry_123 : decode cX8_entry 123 = .ok (.ireturn, 1) := by decide +kernel
theorem dX8_total_0 : decode cX8_total 0 = .ok (.lconst 0, 1) := by decide +kernel
theorem dX8_total_1 : decode cX8_total 1 = .ok (.lstore_n 3, 1) := by decide +kernel
theorem dX8_total_2 : decode cX8_total 2 = .ok (.iconst 0, 1) := by decide +kernel
theorem dX8_total_3 : decode cX8_total 3 = .ok (.istore 5, 2) := by decide +kernel
theorem dX8_total_5 : decode cX8_total 5 = .ok (.iload 5, 2) := by decide +kernel
theorem dX8_total_7 : decode cX8_total 7 = .ok (.aload_n 0, 1) := by decide +kernel
theorem dX8_total_8 : decode cX8_total 8 = .ok (.getfield 164, 3) := by decide +kernel
theorem dX8_total_11 : decode cX8_total 11 = .ok (.if_icmp .ge 100, 3) := by decide +kernel
theorem dX8_total_14 : decode cX8_total 14 = .ok (.iload_n 1, 1) := by decide +kernel
theorem dX8_total_15 : decode cX8_total 15 = .ok (.ifCond .lt 14, 3) := by decide +kernel
theorem dX8_total_18 : decode cX8_total 18 = .ok (.aload_n 0, 1) := by decide +kernel
theorem dX8_total_19 : decode cX8_total 19 = .ok (.getfield 51, 3) := by decide +kernel
theorem dX8_total_22 : decode cX8_total 22 = .ok (.iload 5, 2) := by decide +kernel
theorem dX8_total_24 : decode cX8_total 24 = .ok (.iaload, 1) := by decide +kernel
theorem dX8_total_25 : decode cX8_total 25 = .ok (.iload_n 1, 1) := by decide +kernel
theorem dX8_total_26 : decode cX8_total 26 = .ok (.if_icmp .ne 79, 3) := by decide +kernel
theorem dX8_total_29 : decode cX8_total 29 = .ok (.iload_n 2, 1) := by decide +kernel
theorem dX8_total_30 : decode cX8_total 30 = .ok (.ifCond .ne 7, 3) := by decide +kernel
theorem dX8_total_33 : decode cX8_total 33 = .ok (.lconst 1, 1) := by decide +kernel
theorem dX8_total_34 : decode cX8_total 34 = .ok (.goto 64, 3) := by decide +kernel
theorem dX8_total_37 : decode cX8_total 37 = .ok (.iload_n 2, 1) := by decide +kernel
theorem dX8_total_38 : decode cX8_total 38 = .ok (.iconst 1, 1) := by decide +kernel
theorem dX8_total_39 : decode cX8_total 39 = .ok (.if_icmp .ne 14, 3) := by decide +kernel
theorem dX8_total_42 : decode cX8_total 42 = .ok (.aload_n 0, 1) := by decide +kernel
theorem dX8_total_43 : decode cX8_total 43 = .ok (.getfield 57, 3) := by decide +kernel
theorem dX8_total_46 : decode cX8_total 46 = .ok (.iload 5, 2) := by decide +kernel
theorem dX8_total_48 : decode cX8_total 48 = .ok (.iaload, 1) := by decide +kernel
theorem dX8_total_49 : decode cX8_total 49 = .ok (.i2l, 1) := by decide +kernel
theorem dX8_total_50 : decode cX8_total 50 = .ok (.goto 48, 3) := by decide +kernel
theorem dX8_total_53 : decode cX8_total 53 = .ok (.iload_n 2, 1) := by decide +kernel
theorem dX8_total_54 : decode cX8_total 54 = .ok (.iconst 2, 1) := by decide +kernel
theorem dX8_total_55 : decode cX8_total 55 = .ok (.if_icmp .ne 15, 3) := by decide +kernel
theorem dX8_total_58 : decode cX8_total 58 = .ok (.aload_n 0, 1) := by decide +kernel
theorem dX8_total_59 : decode cX8_total 59 = .ok (.getfield 54, 3) := by decide +kernel
theorem dX8_total_62 : decode cX8_total 62 = .ok (.iload 5, 2) := by decide +kernel
theorem dX8_total_64 : decode cX8_total 64 = .ok (.iaload, 1) := by decide +kernel
theorem dX8_total_65 : decode cX8_total 65 = .ok (.bipush 7, 2) := by decide +kernel
theorem dX8_total_67 : decode cX8_total 67 = .ok (.if_icmp .eq 19, 3) := by decide +kernel
theorem dX8_total_70 : decode cX8_total 70 = .ok (.iload_n 2, 1) := by decide +kernel
theorem dX8_total_71 : decode cX8_total 71 = .ok (.iconst 3, 1) := by decide +kernel
theorem dX8_total_72 : decode cX8_total 72 = .ok (.if_icmp .ne 25, 3) := by decide +kernel
theorem dX8_total_75 : decode cX8_total 75 = .ok (.aload_n 0, 1) := by decide +kernel
theorem dX8_total_76 : decode cX8_total 76 = .ok (.getfield 54, 3) := by decide +kernel
theorem dX8_total_79 : decode cX8_total 79 = .ok (.iload 5, 2) := by decide +kernel
theorem dX8_total_81 : decode cX8_total 81 = .ok (.iaload, 1) := by decide +kernel
theorem dX8_total_82 : decode cX8_total 82 = .ok (.iconst 2, 1) := by decide +kernel
theorem dX8_total_83 : decode cX8_total 83 = .ok (.if_icmp .ne 14, 3) := by decide +kernel
theorem dX8_total_86 : decode cX8_total 86 = .ok (.aload_n 0, 1) := by decide +kernel
theorem dX8_total_87 : decode cX8_total 87 = .ok (.getfield 63, 3) := by decide +kernel
theorem dX8_total_90 : decode cX8_total 90 = .ok (.iload 5, 2) := by decide +kernel
theorem dX8_total_92 : decode cX8_total 92 = .ok (.iaload, 1) := by decide +kernel
theorem dX8_total_93 : decode cX8_total 93 = .ok (.i2l, 1) := by decide +kernel
theorem dX8_total_94 : decode cX8_total 94 = .ok (.goto 4, 3) := by decide +kernel
theorem dX8_total_97 : decode cX8_total 97 = .ok (.lconst 0, 1) := by decide +kernel
theorem dX8_total_98 : decode cX8_total 98 = .ok (.lstore 6, 2) := by decide +kernel
theorem dX8_total_100 : decode cX8_total 100 = .ok (.lload_n 3, 1) := by decide +kernel
theorem dX8_total_101 : decode cX8_total 101 = .ok (.lload 6, 2) := by decide +kernel
theorem dX8_total_103 : decode cX8_total 103 = .ok (.ladd, 1) := by decide +kernel
theorem dX8_total_104 : decode cX8_total 104 = .ok (.lstore_n 3, 1) := by decide +kernel
theorem dX8_total_105 : decode cX8_total 105 = .ok (.iinc 5 1, 3) := by decide +kernel
theorem dX8_total_108 : decode cX8_total 108 = .ok (.goto (-103), 3) := by decide +kernel
theorem dX8_total_111 : decode cX8_total 111 = .ok (.lload_n 3, 1) := by decide +kernel
theorem dX8_total_112 : decode cX8_total 112 = .ok (.lreturn, 1) := by decide +kernel
set_option maxRecDepth 20000 in
theorem ggX8_batchFault_X8_bankOf : GoodIn wsX8_batchFault wsX8_bankOf := goodIn_r _ [16, 17, 18, 26, 27, 28, 29, 30, 31, 32, 33, 34, 35, 36, 37, 38, 39, 40, 41, 42, 43, 44, 45, 46, 47, 48, 49, 50, 51, 52, 53, 54, 55, 56, 57, 58, 59, 60, 61, 62, 63, 64, 65, 66, 67, 68, 69, 70, 71] (by decide +kernel) (by decide +kernel)
set_option maxRecDepth 20000 in
theorem gX8_batchFault_X8_bankOf : GoodIn wsX8_batchFault (wsV RX8 130 RX8 yX8_bankOf wsX8_bankOf) := goodIn_app (goodIn_of _ (by decide +kernel)) ggX8_batchFault_X8_bankOf
set_option maxRecDepth 20000 in
theorem ggX8_batchFault_X8_total : GoodIn wsX8_batchFault wsX8_total := goodIn_r _ [22, 9, 10, 23, 24, 25, 26, 27, 28, 29, 30, 31, 32, 33, 34, 35, 36, 37, 38, 39, 40, 41, 42, 43, 44, 45, 46, 47, 48, 49, 50, 51, 52, 53, 54, 55, 56, 57, 58, 59, 60, 61, 62, 63, 64, 65, 66, 67, 68, 69, 70, 71] (by decide +kernel) (by decide +kernel)
set_option maxRecDepth 20000 in
theorem gX8_batchFault_X8_total : GoodIn wsX8_batchFault (wsV RX8 178 RX8 yX8_total wsX8_total) := goodIn_app (goodIn_of _ (by decide +kernel)) ggX8_batchFault_X8_total
theorem dX8_batchFault_0 : decode cX8_batchFault 0 = .ok (.aload_n 0, 1) := by decide +kernel
theorem dX8_batchFault_1 : decode cX8_batchFault 1 = .ok (.aload_n 0, 1) := by decide +kernel
theorem dX8_batchFault_2 : decode cX8_batchFault 2 = .ok (.getfield 30, 3) := by decide +kernel
theorem dX8_batchFault_5 : decode cX8_batchFault 5 = .ok (.iload_n 1, 1) := by decide +kernel
theorem dX8_batchFault_6 : decode cX8_batchFault 6 = .ok (.iaload, 1) := by decide +kernel
theorem dX8_batchFault_7 : decode cX8_batchFault 7 = .ok (.invokevirtual 130, 3) := by decide +kernel
theorem dX8_batchFault_10 : decode cX8_batchFault 10 = .ok (.ifCond .ge 6, 3) := by decide +kernel
theorem dX8_batchFault_13 : decode cX8_batchFault 13 = .ok (.bipush 20, 2) := by decide +kernel
theorem dX8_batchFault_15 : decode cX8_batchFault 15 = .ok (.ireturn, 1) := by decide +kernel
theorem dX8_batchFault_16 : decode cX8_batchFault 16 = .ok (.iload_n 1, 1) := by decide +kernel
theorem dX8_batchFault_17 : decode cX8_batchFault 17 = .ok (.ifCond .le 23, 3) := by decide +kernel
theorem dX8_batchFault_20 : decode cX8_batchFault 20 = .ok (.aload_n 0, 1) := by decide +kernel
theorem dX8_batchFault_21 : decode cX8_batchFault 21 = .ok (.getfield 33, 3) := by decide +kernel
theorem dX8_batchFault_24 : decode cX8_batchFault 24 = .ok (.iload_n 1, 1) := by decide +kernel
theorem dX8_batchFault_25 : decode cX8_batchFault 25 = .ok (.iaload, 1) := by decide +kernel
theorem dX8_batchFault_26 : decode cX8_batchFault 26 = .ok (.aload_n 0, 1) := by decide +kernel
theorem dX8_batchFault_27 : decode cX8_batchFault 27 = .ok (.getfield 33, 3) := by decide +kernel
theorem dX8_batchFault_30 : decode cX8_batchFault 30 = .ok (.iload_n 1, 1) := by decide +kernel
theorem dX8_batchFault_31 : decode cX8_batchFault 31 = .ok (.iconst 1, 1) := by decide +kernel
theorem dX8_batchFault_32 : decode cX8_batchFault 32 = .ok (.isub, 1) := by decide +kernel
theorem dX8_batchFault_33 : decode cX8_batchFault 33 = .ok (.iaload, 1) := by decide +kernel
theorem dX8_batchFault_34 : decode cX8_batchFault 34 = .ok (.if_icmp .gt 6, 3) := by decide +kernel
theorem dX8_batchFault_37 : decode cX8_batchFault 37 = .ok (.bipush 21, 2) := by decide +kernel
theorem dX8_batchFault_39 : decode cX8_batchFault 39 = .ok (.ireturn, 1) := by decide +kernel
theorem dX8_batchFault_40 : decode cX8_batchFault 40 = .ok (.aload_n 0, 1) := by decide +kernel
theorem dX8_batchFault_41 : decode cX8_batchFault 41 = .ok (.getfield 36, 3) := by decide +kernel
theorem dX8_batchFault_44 : decode cX8_batchFault 44 = .ok (.iload_n 1, 1) := by decide +kernel
theorem dX8_batchFault_45 : decode cX8_batchFault 45 = .ok (.iaload, 1) := by decide +kernel
theorem dX8_batchFault_46 : decode cX8_batchFault 46 = .ok (.aload_n 0, 1) := by decide +kernel
theorem dX8_batchFault_47 : decode cX8_batchFault 47 = .ok (.getfield 143, 3) := by decide +kernel
theorem dX8_batchFault_50 : decode cX8_batchFault 50 = .ok (.if_icmp .ge 6, 3) := by decide +kernel
theorem dX8_batchFault_53 : decode cX8_batchFault 53 = .ok (.bipush 22, 2) := by decide +kernel
theorem dX8_batchFault_55 : decode cX8_batchFault 55 = .ok (.ireturn, 1) := by decide +kernel
theorem dX8_batchFault_56 : decode cX8_batchFault 56 = .ok (.aload_n 0, 1) := by decide +kernel
theorem dX8_batchFault_57 : decode cX8_batchFault 57 = .ok (.getfield 39, 3) := by decide +kernel
theorem dX8_batchFault_60 : decode cX8_batchFault 60 = .ok (.iload_n 1, 1) := by decide +kernel
theorem dX8_batchFault_61 : decode cX8_batchFault 61 = .ok (.iaload, 1) := by decide +kernel
theorem dX8_batchFault_62 : decode cX8_batchFault 62 = .ok (.i2l, 1) := by decide +kernel
theorem dX8_batchFault_63 : decode cX8_batchFault 63 = .ok (.aload_n 0, 1) := by decide +kernel
theorem dX8_batchFault_64 : decode cX8_batchFault 64 = .ok (.iload_n 1, 1) := by decide +kernel
theorem dX8_batchFault_65 : decode cX8_batchFault 65 = .ok (.iconst 0, 1) := by decide +kernel
theorem dX8_batchFault_66 : decode cX8_batchFault 66 = .ok (.invokevirtual 178, 3) := by decide +kernel
theorem dX8_batchFault_69 : decode cX8_batchFault 69 = .ok (.lcmp, 1) := by decide +kernel
theorem dX8_batchFault_70 : decode cX8_batchFault 70 = .ok (.ifCond .ne 54, 3) := by decide +kernel
theorem dX8_batchFault_73 : decode cX8_batchFault 73 = .ok (.aload_n 0, 1) := by decide +kernel
theorem dX8_batchFault_74 : decode cX8_batchFault 74 = .ok (.getfield 42, 3) := by decide +kernel
theorem dX8_batchFault_77 : decode cX8_batchFault 77 = .ok (.iload_n 1, 1) := by decide +kernel
theorem dX8_batchFault_78 : decode cX8_batchFault 78 = .ok (.iaload, 1) := by decide +kernel
theorem dX8_batchFault_79 : decode cX8_batchFault 79 = .ok (.i2l, 1) := by decide +kernel
theorem dX8_batchFault_80 : decode cX8_batchFault 80 = .ok (.aload_n 0, 1) := by decide +kernel
theorem dX8_batchFault_81 : decode cX8_batchFault 81 = .ok (.iload_n 1, 1) := by decide +kernel
theorem dX8_batchFault_82 : decode cX8_batchFault 82 = .ok (.iconst 1, 1) := by decide +kernel
theorem dX8_batchFault_83 : decode cX8_batchFault 83 = .ok (.invokevirtual 178, 3) := by decide +kernel
theorem dX8_batchFault_86 : decode cX8_batchFault 86 = .ok (.lcmp, 1) := by decide +kernel
theorem dX8_batchFault_87 : decode cX8_batchFault 87 = .ok (.ifCond .ne 37, 3) := by decide +kernel
theorem dX8_batchFault_90 : decode cX8_batchFault 90 = .ok (.aload_n 0, 1) := by decide +kernel
theorem dX8_batchFault_91 : decode cX8_batchFault 91 = .ok (.getfield 45, 3) := by decide +kernel
theorem dX8_batchFault_94 : decode cX8_batchFault 94 = .ok (.iload_n 1, 1) := by decide +kernel
theorem dX8_batchFault_95 : decode cX8_batchFault 95 = .ok (.iaload, 1) := by decide +kernel
theorem dX8_batchFault_96 : decode cX8_batchFault 96 = .ok (.i2l, 1) := by decide +kernel
theorem dX8_batchFault_97 : decode cX8_batchFault 97 = .ok (.aload_n 0, 1) := by decide +kernel
theorem dX8_batchFault_98 : decode cX8_batchFault 98 = .ok (.iload_n 1, 1) := by decide +kernel
theorem dX8_batchFault_99 : decode cX8_batchFault 99 = .ok (.iconst 2, 1) := by decide +kernel
theorem dX8_batchFault_100 : decode cX8_batchFault 100 = .ok (.invokevirtual 178, 3) := by decide +kernel
theorem dX8_batchFault_103 : decode cX8_batchFault 103 = .ok (.lcmp, 1) := by decide +kernel
theorem dX8_batchFault_104 : decode cX8_batchFault 104 = .ok (.ifCond .ne 20, 3) := by decide +kernel
theorem dX8_batchFault_107 : decode cX8_batchFault 107 = .ok (.aload_n 0, 1) := by decide +kernel
theorem dX8_batchFault_108 : decode cX8_batchFault 108 = .ok (.getfield 48, 3) := by decide +kernel
theorem dX8_batchFault_111 : decode cX8_batchFault 111 = .ok (.iload_n 1, 1) := by decide +kernel
theorem dX8_batchFault_112 : decode cX8_batchFault 112 = .ok (.iaload, 1) := by decide +kernel
theorem dX8_batchFault_113 : decode cX8_batchFault 113 = .ok (.i2l, 1) := by decide +kernel
theorem dX8_batchFault_114 : decode cX8_batchFault 114 = .ok (.aload_n 0, 1) := by decide +kernel
theorem dX8_batchFault_115 : decode cX8_batchFault 115 = .ok (.iload_n 1, 1) := by decide +kernel
theorem dX8_batchFault_116 : decode cX8_batchFault 116 = .ok (.iconst 3, 1) := by decide +kernel
theorem dX8_batchFault_117 : decode cX8_batchFault 117 = .ok (.invokevirtual 178, 3) := by decide +kernel
theorem dX8_batchFault_120 : decode cX8_batchFault 120 = .ok (.lcmp, 1) := by decide +kernel
theorem dX8_batchFault_121 : decode cX8_batchFault 121 = .ok (.ifCond .eq 6, 3) := by decide +kernel
theorem dX8_batchFault_124 : decode cX8_batchFault 124 = .ok (.bipush 23, 2) := by decide +kernel
theorem dX8_batchFault_126 : decode cX8_batchFault 126 = .ok (.ireturn, 1) := by decide +kernel
theorem dX8_batchFault_127 : decode cX8_batchFault 127 = .ok (.iconst 1, 1) := by decide +kernel
theorem dX8_batchFault_128 : decode cX8_batchFault 128 = .ok (.istore_n 2, 1) := by decide +kernel
theorem dX8_batchFault_129 : decode cX8_batchFault 129 = .ok (.iload_n 2, 1) := by decide +kernel
theorem dX8_batchFault_130 : decode cX8_batchFault 130 = .ok (.aload_n 0, 1) := by decide +kernel
theorem dX8_batchFault_131 : decode cX8_batchFault 131 = .ok (.getfield 164, 3) := by decide +kernel
theorem dX8_batchFault_134 : decode cX8_batchFault 134 = .ok (.if_icmp .ge 51, 3) := by decide +kernel
theorem dX8_batchFault_137 : decode cX8_batchFault 137 = .ok (.aload_n 0, 1) := by decide +kernel
theorem dX8_batchFault_138 : decode cX8_batchFault 138 = .ok (.getfield 51, 3) := by decide +kernel
theorem dX8_batchFault_141 : decode cX8_batchFault 141 = .ok (.iload_n 2, 1) := by decide +kernel
theorem dX8_batchFault_142 : decode cX8_batchFault 142 = .ok (.iaload, 1) := by decide +kernel
theorem dX8_batchFault_143 : decode cX8_batchFault 143 = .ok (.iload_n 1, 1) := by decide +kernel
theorem dX8_batchFault_144 : decode cX8_batchFault 144 = .ok (.if_icmp .ne 35, 3) := by decide +kernel
theorem dX8_batchFault_147 : decode cX8_batchFault 147 = .ok (.aload_n 0, 1) := by decide +kernel
theorem dX8_batchFault_148 : decode cX8_batchFault 148 = .ok (.getfield 51, 3) := by decide +kernel
theorem dX8_batchFault_151 : decode cX8_batchFault 151 = .ok (.iload_n 2, 1) := by decide +kernel
theorem dX8_batchFault_152 : decode cX8_batchFault 152 = .ok (.iconst 1, 1) := by decide +kernel
theorem dX8_batchFault_153 : decode cX8_batchFault 153 = .ok (.isub, 1) := by decide +kernel
theorem dX8_batchFault_154 : decode cX8_batchFault 154 = .ok (.iaload, 1) := by decide +kernel
theorem dX8_batchFault_155 : decode cX8_batchFault 155 = .ok (.iload_n 1, 1) := by decide +kernel
theorem dX8_batchFault_156 : decode cX8_batchFault 156 = .ok (.if_icmp .ne 23, 3) := by decide +kernel
theorem dX8_batchFault_159 : decode cX8_batchFault 159 = .ok (.aload_n 0, 1) := by decide +kernel
theorem dX8_batchFault_160 : decode cX8_batchFault 160 = .ok (.getfield 66, 3) := by decide +kernel
theorem dX8_batchFault_163 : decode cX8_batchFault 163 = .ok (.iload_n 2, 1) := by decide +kernel
theorem dX8_batchFault_164 : decode cX8_batchFault 164 = .ok (.iaload, 1) := by decide +kernel
theorem dX8_batchFault_165 : decode cX8_batchFault 165 = .ok (.aload_n 0, 1) := by decide +kernel
theorem dX8_batchFault_166 : decode cX8_batchFault 166 = .ok (.getfield 66, 3) := by decide +kernel
theorem dX8_batchFault_169 : decode cX8_batchFault 169 = .ok (.iload_n 2, 1) := by decide +kernel
theorem dX8_batchFault_170 : decode cX8_batchFault 170 = .ok (.iconst 1, 1) := by decide +kernel
theorem dX8_batchFault_171 : decode cX8_batchFault 171 = .ok (.isub, 1) := by decide +kernel
theorem dX8_batchFault_172 : decode cX8_batchFault 172 = .ok (.iaload, 1) := by decide +kernel
theorem dX8_batchFault_173 : decode cX8_batchFault 173 = .ok (.if_icmp .gt 6, 3) := by decide +kernel
theorem dX8_batchFault_176 : decode cX8_batchFault 176 = .ok (.bipush 24, 2) := by decide +kernel
theorem dX8_batchFault_178 : decode cX8_batchFault 178 = .ok (.ireturn, 1) := by decide +kernel
theorem dX8_batchFault_179 : decode cX8_batchFault 179 = .ok (.iinc 2 1, 3) := by decide +kernel
theorem dX8_batchFault_182 : decode cX8_batchFault 182 = .ok (.goto (-53), 3) := by decide +kernel
theorem dX8_batchFault_185 : decode cX8_batchFault 185 = .ok (.iconst 0, 1) := by decide +kernel
theorem dX8_batchFault_186 : decode cX8_batchFault 186 = .ok (.ireturn, 1) := by decide +kernel
set_option maxRecDepth 20000 in
theorem ggX8_entryFault_X8_right : GoodIn wsX8_entryFault wsX8_right := goodIn_r _ [7] (by decide +kernel) (by decide +kernel)
set_option maxRecDepth 20000 in
theorem gX8_entryFault_X8_right : GoodIn wsX8_entryFault (va_wsS RX8 127 yX8_right wsX8_right) := goodIn_app (goodIn_of _ (by decide +kernel)) ggX8_entryFault_X8_right
set_option maxRecDepth 20000 in
theorem ggX8_entryFault_X8_bankOf : GoodIn wsX8_entryFault wsX8_bankOf := goodIn_r _ [11, 12, 13, 14, 15, 16, 17, 18, 19, 20, 21, 22, 23, 24, 25, 26, 27, 28, 29, 30, 31, 32, 33, 34, 35, 36, 37, 38, 39, 40, 41, 42, 43, 44, 45, 46, 47, 48, 49, 50, 51, 52, 53, 54, 55, 56, 57, 58, 59] (by decide +kernel) (by decide +kernel)
set_option maxRecDepth 20000 in
theorem gX8_entryFault_X8_bankOf : GoodIn wsX8_entryFault (wsV RX8 130 RX8 yX8_bankOf wsX8_bankOf) := goodIn_app (goodIn_of _ (by decide +kernel)) ggX8_entryFault_X8_bankOf
theorem dX8_entryFault_0 : decode cX8_entryFault 0 = .ok (.aload_n 0, 1) := by decide +kernel
theorem dX8_entryFault_1 : decode cX8_entryFault 1 = .ok (.getfield 57, 3) := by decide +kernel
theorem dX8_entryFault_4 : decode cX8_entryFault 4 = .ok (.iload_n 1, 1) := by decide +kernel
theorem dX8_entryFault_5 : decode cX8_entryFault 5 = .ok (.iaload, 1) := by decide +kernel
theorem dX8_entryFault_6 : decode cX8_entryFault 6 = .ok (.iconst 4, 1) := by decide +kernel
theorem dX8_entryFault_7 : decode cX8_entryFault 7 = .ok (.invokestatic 127, 3) := by decide +kernel
theorem dX8_entryFault_10 : decode cX8_entryFault 10 = .ok (.ifCond .ne 6, 3) := by decide +kernel
theorem dX8_entryFault_13 : decode cX8_entryFault 13 = .ok (.bipush 30, 2) := by decide +kernel
theorem dX8_entryFault_15 : decode cX8_entryFault 15 = .ok (.ireturn, 1) := by decide +kernel
theorem dX8_entryFault_16 : decode cX8_entryFault 16 = .ok (.aload_n 0, 1) := by decide +kernel
theorem dX8_entryFault_17 : decode cX8_entryFault 17 = .ok (.aload_n 0, 1) := by decide +kernel
theorem dX8_entryFault_18 : decode cX8_entryFault 18 = .ok (.getfield 57, 3) := by decide +kernel
theorem dX8_entryFault_21 : decode cX8_entryFault 21 = .ok (.iload_n 1, 1) := by decide +kernel
theorem dX8_entryFault_22 : decode cX8_entryFault 22 = .ok (.iaload, 1) := by decide +kernel
theorem dX8_entryFault_23 : decode cX8_entryFault 23 = .ok (.invokevirtual 130, 3) := by decide +kernel
theorem dX8_entryFault_26 : decode cX8_entryFault 26 = .ok (.ifCond .ge 6, 3) := by decide +kernel
theorem dX8_entryFault_29 : decode cX8_entryFault 29 = .ok (.bipush 31, 2) := by decide +kernel
theorem dX8_entryFault_31 : decode cX8_entryFault 31 = .ok (.ireturn, 1) := by decide +kernel
theorem dX8_entryFault_32 : decode cX8_entryFault 32 = .ok (.aload_n 0, 1) := by decide +kernel
theorem dX8_entryFault_33 : decode cX8_entryFault 33 = .ok (.getfield 54, 3) := by decide +kernel
theorem dX8_entryFault_36 : decode cX8_entryFault 36 = .ok (.iload_n 1, 1) := by decide +kernel
theorem dX8_entryFault_37 : decode cX8_entryFault 37 = .ok (.iaload, 1) := by decide +kernel
theorem dX8_entryFault_38 : decode cX8_entryFault 38 = .ok (.iconst 2, 1) := by decide +kernel
theorem dX8_entryFault_39 : decode cX8_entryFault 39 = .ok (.if_icmp .eq 19, 3) := by decide +kernel
theorem dX8_entryFault_42 : decode cX8_entryFault 42 = .ok (.aload_n 0, 1) := by decide +kernel
theorem dX8_entryFault_43 : decode cX8_entryFault 43 = .ok (.getfield 54, 3) := by decide +kernel
theorem dX8_entryFault_46 : decode cX8_entryFault 46 = .ok (.iload_n 1, 1) := by decide +kernel
theorem dX8_entryFault_47 : decode cX8_entryFault 47 = .ok (.iaload, 1) := by decide +kernel
theorem dX8_entryFault_48 : decode cX8_entryFault 48 = .ok (.bipush 7, 2) := by decide +kernel
theorem dX8_entryFault_50 : decode cX8_entryFault 50 = .ok (.if_icmp .eq 8, 3) := by decide +kernel
theorem dX8_entryFault_53 : decode cX8_entryFault 53 = .ok (.bipush 32, 2) := by decide +kernel
theorem dX8_entryFault_55 : decode cX8_entryFault 55 = .ok (.goto 18, 3) := by decide +kernel
theorem dX8_entryFault_58 : decode cX8_entryFault 58 = .ok (.aload_n 0, 1) := by decide +kernel
theorem dX8_entryFault_59 : decode cX8_entryFault 59 = .ok (.getfield 63, 3) := by decide +kernel
theorem dX8_entryFault_62 : decode cX8_entryFault 62 = .ok (.iload_n 1, 1) := by decide +kernel
theorem dX8_entryFault_63 : decode cX8_entryFault 63 = .ok (.iaload, 1) := by decide +kernel
theorem dX8_entryFault_64 : decode cX8_entryFault 64 = .ok (.ifCond .ne 8, 3) := by decide +kernel
theorem dX8_entryFault_67 : decode cX8_entryFault 67 = .ok (.bipush 33, 2) := by decide +kernel
theorem dX8_entryFault_69 : decode cX8_entryFault 69 = .ok (.goto 4, 3) := by decide +kernel
theorem dX8_entryFault_72 : decode cX8_entryFault 72 = .ok (.iconst 0, 1) := by decide +kernel
theorem dX8_entryFault_73 : decode cX8_entryFault 73 = .ok (.ireturn, 1) := by decide +kernel
theorem dX8_waitingInAll_0 : decode cX8_waitingInAll 0 = .ok (.iconst 0, 1) := by decide +kernel
theorem dX8_waitingInAll_1 : decode cX8_waitingInAll 1 = .ok (.istore_n 1, 1) := by decide +kernel
theorem dX8_waitingInAll_2 : decode cX8_waitingInAll 2 = .ok (.iconst 0, 1) := by decide +kernel
theorem dX8_waitingInAll_3 : decode cX8_waitingInAll 3 = .ok (.istore_n 2, 1) := by decide +kernel
theorem dX8_waitingInAll_4 : decode cX8_waitingInAll 4 = .ok (.iload_n 2, 1) := by decide +kernel
theorem dX8_waitingInAll_5 : decode cX8_waitingInAll 5 = .ok (.aload_n 0, 1) := by decide +kernel
theorem dX8_waitingInAll_6 : decode cX8_waitingInAll 6 = .ok (.getfield 182, 3) := by decide +kernel
theorem dX8_waitingInAll_9 : decode cX8_waitingInAll 9 = .ok (.if_icmp .ge 26, 3) := by decide +kernel
theorem dX8_waitingInAll_12 : decode cX8_waitingInAll 12 = .ok (.aload_n 0, 1) := by decide +kernel
theorem dX8_waitingInAll_13 : decode cX8_waitingInAll 13 = .ok (.getfield 93, 3) := by decide +kernel
theorem dX8_waitingInAll_16 : decode cX8_waitingInAll 16 = .ok (.iload_n 2, 1) := by decide +kernel
theorem dX8_waitingInAll_17 : decode cX8_waitingInAll 17 = .ok (.iaload, 1) := by decide +kernel
theorem dX8_waitingInAll_18 : decode cX8_waitingInAll 18 = .ok (.ifCond .ne 9, 3) := by decide +kernel
theorem dX8_waitingInAll_21 : decode cX8_waitingInAll 21 = .ok (.iload_n 1, 1) := by decide +kernel
theorem dX8_waitingInAll_22 : decode cX8_waitingInAll 22 = .ok (.iconst 1, 1) := by decide +kernel
theorem dX8_waitingInAll_23 : decode cX8_waitingInAll 23 = .ok (.iadd, 1) := by decide +kernel
theorem dX8_waitingInAll_24 : decode cX8_waitingInAll 24 = .ok (.goto 4, 3) := by decide +kernel
theorem dX8_waitingInAll_27 : decode cX8_waitingInAll 27 = .ok (.iload_n 1, 1) := by decide +kernel
theorem dX8_waitingInAll_28 : decode cX8_waitingInAll 28 = .ok (.istore_n 1, 1) := by decide +kernel
theorem dX8_waitingInAll_29 : decode cX8_waitingInAll 29 = .ok (.iinc 2 1, 3) := by decide +kernel
theorem dX8_waitingInAll_32 : decode cX8_waitingInAll 32 = .ok (.goto (-28), 3) := by decide +kernel
theorem dX8_waitingInAll_35 : decode cX8_waitingInAll 35 = .ok (.iload_n 1, 1) := by decide +kernel
theorem dX8_waitingInAll_36 : decode cX8_waitingInAll 36 = .ok (.ireturn, 1) := by decide +kernel
set_option maxRecDepth 20000 in
theorem ggX8_goodEntries_X8_batchFault : GoodIn wsX8_goodEntries wsX8_batchFault := goodIn_r _ [7, 8, 9, 10, 11, 12, 13, 14, 15, 1, 2, 16, 17, 18, 19, 6, 20, 21, 22, 23, 24, 25, 26, 27, 28, 29, 37, 38, 39, 40, 41, 42, 43, 44, 45, 46, 47, 48, 49, 50, 51, 52, 53, 54, 55, 56, 57, 58, 59, 60, 61, 62, 63, 64, 65, 66, 67, 68, 69, 70, 71, 72, 73, 74, 75, 76, 77, 78, 79, 80, 81, 82] (by decide +kernel) (by decide +kernel)
set_option maxRecDepth 20000 in
theorem gX8_goodEntries_X8_batchFault : GoodIn wsX8_goodEntries (wsV RX8 185 RX8 yX8_batchFault wsX8_batchFault) := goodIn_app (goodIn_of _ (by decide +kernel)) ggX8_goodEntries_X8_batchFault
set_option maxRecDepth 20000 in
theorem ggX8_goodEntries_X8_entryFault : GoodIn wsX8_goodEntries wsX8_entryFault := goodIn_r _ [33, 27, 28, 29, 34, 35, 6, 36, 17, 18, 19, 20, 21, 22, 37, 38, 39, 40, 41, 42, 43, 44, 45, 46, 47, 48, 49, 50, 51, 52, 53, 54, 55, 56, 57, 58, 59, 60, 61, 62, 63, 64, 65, 66, 67, 68, 69, 70, 71, 72, 73, 74, 75, 76, 77, 78, 79, 80, 81, 82] (by decide +kernel) (by decide +kernel)
set_option maxRecDepth 20000 in
theorem gX8_goodEntries_X8_entryFault : GoodIn wsX8_goodEntries (wsV RX8 188 RX8 yX8_entryFault wsX8_entryFault) := goodIn_app (goodIn_of _ (by decide +kernel)) ggX8_goodEntries_X8_entryFault
theorem dX8_goodEntries_0 : decode cX8_goodEntries 0 = .ok (.iconst 0, 1) := by decide +kernel
theorem dX8_goodEntries_1 : decode cX8_goodEntries 1 = .ok (.istore_n 1, 1) := by decide +kernel
theorem dX8_goodEntries_2 : decode cX8_goodEntries 2 = .ok (.iconst 0, 1) := by decide +kernel
theorem dX8_goodEntries_3 : decode cX8_goodEntries 3 = .ok (.istore_n 2, 1) := by decide +kernel
theorem dX8_goodEntries_4 : decode cX8_goodEntries 4 = .ok (.iload_n 2, 1) := by decide +kernel
theorem dX8_goodEntries_5 : decode cX8_goodEntries 5 = .ok (.aload_n 0, 1) := by decide +kernel
theorem dX8_goodEntries_6 : decode cX8_goodEntries 6 = .ok (.getfield 164, 3) := by decide +kernel
theorem dX8_goodEntries_9 : decode cX8_goodEntries 9 = .ok (.if_icmp .ge 38, 3) := by decide +kernel
theorem dX8_goodEntries_12 : decode cX8_goodEntries 12 = .ok (.aload_n 0, 1) := by decide +kernel
theorem dX8_goodEntries_13 : decode cX8_goodEntries 13 = .ok (.aload_n 0, 1) := by decide +kernel
theorem dX8_goodEntries_14 : decode cX8_goodEntries 14 = .ok (.getfield 51, 3) := by decide +kernel
theorem dX8_goodEntries_17 : decode cX8_goodEntries 17 = .ok (.iload_n 2, 1) := by decide +kernel
theorem dX8_goodEntries_18 : decode cX8_goodEntries 18 = .ok (.iaload, 1) := by decide +kernel
theorem dX8_goodEntries_19 : decode cX8_goodEntries 19 = .ok (.invokevirtual 185, 3) := by decide +kernel
theorem dX8_goodEntries_22 : decode cX8_goodEntries 22 = .ok (.ifCond .ne 17, 3) := by decide +kernel
theorem dX8_goodEntries_25 : decode cX8_goodEntries 25 = .ok (.aload_n 0, 1) := by decide +kernel
theorem dX8_goodEntries_26 : decode cX8_goodEntries 26 = .ok (.iload_n 2, 1) := by decide +kernel
theorem dX8_goodEntries_27 : decode cX8_goodEntries 27 = .ok (.invokevirtual 188, 3) := by decide +kernel
theorem dX8_goodEntries_30 : decode cX8_goodEntries 30 = .ok (.ifCond .ne 9, 3) := by decide +kernel
theorem dX8_goodEntries_33 : decode cX8_goodEntries 33 = .ok (.iload_n 1, 1) := by decide +kernel
theorem dX8_goodEntries_34 : decode cX8_goodEntries 34 = .ok (.iconst 1, 1) := by decide +kernel
theorem dX8_goodEntries_35 : decode cX8_goodEntries 35 = .ok (.iadd, 1) := by decide +kernel
theorem dX8_goodEntries_36 : decode cX8_goodEntries 36 = .ok (.goto 4, 3) := by decide +kernel
theorem dX8_goodEntries_39 : decode cX8_goodEntries 39 = .ok (.iload_n 1, 1) := by decide +kernel
theorem dX8_goodEntries_40 : decode cX8_goodEntries 40 = .ok (.istore_n 1, 1) := by decide +kernel
theorem dX8_goodEntries_41 : decode cX8_goodEntries 41 = .ok (.iinc 2 1, 3) := by decide +kernel
theorem dX8_goodEntries_44 : decode cX8_goodEntries 44 = .ok (.goto (-40), 3) := by decide +kernel
theorem dX8_goodEntries_47 : decode cX8_goodEntries 47 = .ok (.iload_n 1, 1) := by decide +kernel
theorem dX8_goodEntries_48 : decode cX8_goodEntries 48 = .ok (.ireturn, 1) := by decide +kernel
set_option maxRecDepth 20000 in
theorem ggX8_fileFault_X8_bankOf : GoodIn wsX8_fileFault wsX8_bankOf := goodIn_r _ [11, 12, 13, 56, 57, 58, 59, 60, 61, 62, 63, 64, 65, 66, 67, 68, 69, 70, 71, 72, 73, 74, 75, 76, 77, 78, 79, 80, 81, 82, 83, 84, 85, 86, 87, 88, 89, 90, 91, 92, 93, 94, 95, 96, 97, 98, 99, 100, 101] (by decide +kernel) (by decide +kernel)
set_option maxRecDepth 20000 in
theorem gX8_fileFault_X8_bankOf : GoodIn wsX8_fileFault (wsV RX8 130 RX8 yX8_bankOf wsX8_bankOf) := goodIn_app (goodIn_of _ (by decide +kernel)) ggX8_fileFault_X8_bankOf
set_option maxRecDepth 20000 in
theorem ggX8_fileFault_X8_digits : GoodIn wsX8_fileFault wsX8_digits := goodIn_r _ [16, 17] (by decide +kernel) (by decide +kernel)
set_option maxRecDepth 20000 in
theorem gX8_fileFault_X8_digits : GoodIn wsX8_fileFault (va_wsS RX8 148 yX8_digits wsX8_digits) := goodIn_app (goodIn_of _ (by decide +kernel)) ggX8_fileFault_X8_digits
set_option maxRecDepth 20000 in
theorem ggX8_fileFault_X8_total : GoodIn wsX8_fileFault wsX8_total := goodIn_r _ [21, 6, 22, 23, 24, 25, 56, 57, 58, 59, 60, 61, 62, 63, 64, 65, 66, 67, 68, 69, 70, 71, 72, 73, 74, 75, 76, 77, 78, 79, 80, 81, 82, 83, 84, 85, 86, 87, 88, 89, 90, 91, 92, 93, 94, 95, 96, 97, 98, 99, 100, 101] (by decide +kernel) (by decide +kernel)
set_option maxRecDepth 20000 in
theorem gX8_fileFault_X8_total : GoodIn wsX8_fileFault (wsV RX8 178 RX8 yX8_total wsX8_total) := goodIn_app (goodIn_of _ (by decide +kernel)) ggX8_fileFault_X8_total
set_option maxRecDepth 20000 in
theorem ggX8_fileFault_X8_waitingInAll : GoodIn wsX8_fileFault wsX8_waitingInAll := goodIn_r _ [29, 30, 31, 56, 57, 58, 59, 60, 61, 62, 63, 64, 65, 66, 67, 68, 69, 70, 71, 72, 73, 74, 75, 76, 77, 78, 79, 80, 81, 82, 83, 84, 85, 86, 87, 88, 89, 90, 91, 92, 93, 94, 95, 96, 97, 98, 99, 100, 101] (by decide +kernel) (by decide +kernel)
set_option maxRecDepth 20000 in
theorem gX8_fileFault_X8_waitingInAll : GoodIn wsX8_fileFault (wsV RX8 194 RX8 yX8_waitingInAll wsX8_waitingInAll) := goodIn_app (goodIn_of _ (by decide +kernel)) ggX8_fileFault_X8_waitingInAll
set_option maxRecDepth 20000 in
theorem ggX8_fileFault_X8_goodEntries : GoodIn wsX8_fileFault wsX8_goodEntries := goodIn_r _ [35, 6, 22, 36, 37, 38, 10, 39, 40, 41, 42, 43, 44, 45, 46, 47, 48, 7, 8, 9, 11, 12, 13, 18, 19, 20, 21, 23, 24, 25, 49, 50, 51, 52, 53, 54, 55, 56, 57, 58, 59, 60, 61, 62, 63, 64, 65, 66, 67, 68, 69, 70, 71, 72, 73, 74, 75, 76, 77, 78, 79, 80, 81, 82, 83, 84, 85, 86, 87, 88, 89, 90, 91, 92, 93, 94, 95, 96, 97, 98, 99, 100, 101] (by decide +kernel) (by decide +kernel)
set_option maxRecDepth 20000 in
theorem gX8_fileFault_X8_goodEntries : GoodIn wsX8_fileFault (wsV RX8 198 RX8 yX8_goodEntries wsX8_goodEntries) := goodIn_app (goodIn_of _ (by decide +kernel)) ggX8_fileFault_X8_goodEntries
theorem dX8_fileFault_0 : decode cX8_fileFault 0 = .ok (.aload_n 0, 1) := by decide +kernel
theorem dX8_fileFault_1 : decode cX8_fileFault 1 = .ok (.aload_n 0, 1) := by decide +kernel
theorem dX8_fileFault_2 : decode cX8_fileFault 2 = .ok (.getfield 155, 3) := by decide +kernel
theorem dX8_fileFault_5 : decode cX8_fileFault 5 = .ok (.invokevirtual 130, 3) := by decide +kernel
theorem dX8_fileFault_8 : decode cX8_fileFault 8 = .ok (.istore 5, 2) := by decide +kernel
theorem dX8_fileFault_10 : decode cX8_fileFault 10 = .ok (.iload 5, 2) := by decide +kernel
theorem dX8_fileFault_12 : decode cX8_fileFault 12 = .ok (.ifCond .ge 6, 3) := by decide +kernel
theorem dX8_fileFault_15 : decode cX8_fileFault 15 = .ok (.bipush 10, 2) := by decide +kernel
theorem dX8_fileFault_17 : decode cX8_fileFault 17 = .ok (.ireturn, 1) := by decide +kernel
theorem dX8_fileFault_18 : decode cX8_fileFault 18 = .ok (.iconst 0, 1) := by decide +kernel
theorem dX8_fileFault_19 : decode cX8_fileFault 19 = .ok (.istore 6, 2) := by decide +kernel
theorem dX8_fileFault_21 : decode cX8_fileFault 21 = .ok (.iload 6, 2) := by decide +kernel
theorem dX8_fileFault_23 : decode cX8_fileFault 23 = .ok (.aload_n 0, 1) := by decide +kernel
theorem dX8_fileFault_24 : decode cX8_fileFault 24 = .ok (.getfield 191, 3) := by decide +kernel
theorem dX8_fileFault_27 : decode cX8_fileFault 27 = .ok (.if_icmp .ge 33, 3) := by decide +kernel
theorem dX8_fileFault_30 : decode cX8_fileFault 30 = .ok (.aload_n 0, 1) := by decide +kernel
theorem dX8_fileFault_31 : decode cX8_fileFault 31 = .ok (.getfield 69, 3) := by decide +kernel
theorem dX8_fileFault_34 : decode cX8_fileFault 34 = .ok (.iload 6, 2) := by decide +kernel
theorem dX8_fileFault_36 : decode cX8_fileFault 36 = .ok (.iaload, 1) := by decide +kernel
theorem dX8_fileFault_37 : decode cX8_fileFault 37 = .ok (.sipush 10000, 3) := by decide +kernel
theorem dX8_fileFault_40 : decode cX8_fileFault 40 = .ok (.iload 5, 2) := by decide +kernel
theorem dX8_fileFault_42 : decode cX8_fileFault 42 = .ok (.imul, 1) := by decide +kernel
theorem dX8_fileFault_43 : decode cX8_fileFault 43 = .ok (.aload_n 0, 1) := by decide +kernel
theorem dX8_fileFault_44 : decode cX8_fileFault 44 = .ok (.getfield 158, 3) := by decide +kernel
theorem dX8_fileFault_47 : decode cX8_fileFault 47 = .ok (.iadd, 1) := by decide +kernel
theorem dX8_fileFault_48 : decode cX8_fileFault 48 = .ok (.if_icmp .ne 6, 3) := by decide +kernel
theorem dX8_fileFault_51 : decode cX8_fileFault 51 = .ok (.bipush 11, 2) := by decide +kernel
theorem dX8_fileFault_53 : decode cX8_fileFault 53 = .ok (.ireturn, 1) := by decide +kernel
theorem dX8_fileFault_54 : decode cX8_fileFault 54 = .ok (.iinc 6 1, 3) := by decide +kernel
theorem dX8_fileFault_57 : decode cX8_fileFault 57 = .ok (.goto (-36), 3) := by decide +kernel
theorem dX8_fileFault_60 : decode cX8_fileFault 60 = .ok (.lload_n 1, 1) := by decide +kernel
theorem dX8_fileFault_61 : decode cX8_fileFault 61 = .ok (.iconst 1, 1) := by decide +kernel
theorem dX8_fileFault_62 : decode cX8_fileFault 62 = .ok (.iconst 4, 1) := by decide +kernel
theorem dX8_fileFault_63 : decode cX8_fileFault 63 = .ok (.invokestatic 148, 3) := by decide +kernel
theorem dX8_fileFault_66 : decode cX8_fileFault 66 = .ok (.aload_n 0, 1) := by decide +kernel
theorem dX8_fileFault_67 : decode cX8_fileFault 67 = .ok (.getfield 161, 3) := by decide +kernel
theorem dX8_fileFault_70 : decode cX8_fileFault 70 = .ok (.if_icmp .ne 39, 3) := by decide +kernel
theorem dX8_fileFault_73 : decode cX8_fileFault 73 = .ok (.lload_n 1, 1) := by decide +kernel
theorem dX8_fileFault_74 : decode cX8_fileFault 74 = .ok (.iconst 5, 1) := by decide +kernel
theorem dX8_fileFault_75 : decode cX8_fileFault 75 = .ok (.iconst 4, 1) := by decide +kernel
theorem dX8_fileFault_76 : decode cX8_fileFault 76 = .ok (.invokestatic 148, 3) := by decide +kernel
theorem dX8_fileFault_79 : decode cX8_fileFault 79 = .ok (.aload_n 0, 1) := by decide +kernel
theorem dX8_fileFault_80 : decode cX8_fileFault 80 = .ok (.getfield 164, 3) := by decide +kernel
theorem dX8_fileFault_83 : decode cX8_fileFault 83 = .ok (.if_icmp .ne 26, 3) := by decide +kernel
theorem dX8_fileFault_86 : decode cX8_fileFault 86 = .ok (.lload_n 1, 1) := by decide +kernel
theorem dX8_fileFault_87 : decode cX8_fileFault 87 = .ok (.bipush 9, 2) := by decide +kernel
theorem dX8_fileFault_89 : decode cX8_fileFault 89 = .ok (.bipush 6, 2) := by decide +kernel
theorem dX8_fileFault_91 : decode cX8_fileFault 91 = .ok (.invokestatic 148, 3) := by decide +kernel
theorem dX8_fileFault_94 : decode cX8_fileFault 94 = .ok (.i2l, 1) := by decide +kernel
theorem dX8_fileFault_95 : decode cX8_fileFault 95 = .ok (.aload_n 0, 1) := by decide +kernel
theorem dX8_fileFault_96 : decode cX8_fileFault 96 = .ok (.iconst (-1), 1) := by decide +kernel
theorem dX8_fileFault_97 : decode cX8_fileFault 97 = .ok (.iconst 1, 1) := by decide +kernel
theorem dX8_fileFault_98 : decode cX8_fileFault 98 = .ok (.invokevirtual 178, 3) := by decide +kernel
theorem dX8_fileFault_101 : decode cX8_fileFault 101 = .ok (.lcmp, 1) := by decide +kernel
theorem dX8_fileFault_102 : decode cX8_fileFault 102 = .ok (.ifCond .ne 7, 3) := by decide +kernel
theorem dX8_fileFault_105 : decode cX8_fileFault 105 = .ok (.iconst 1, 1) := by decide +kernel
theorem dX8_fileFault_106 : decode cX8_fileFault 106 = .ok (.goto 4, 3) := by decide +kernel
theorem dX8_fileFault_109 : decode cX8_fileFault 109 = .ok (.iconst 0, 1) := by decide +kernel
theorem dX8_fileFault_110 : decode cX8_fileFault 110 = .ok (.istore 6, 2) := by decide +kernel
theorem dX8_fileFault_112 : decode cX8_fileFault 112 = .ok (.iload 6, 2) := by decide +kernel
theorem dX8_fileFault_114 : decode cX8_fileFault 114 = .ok (.ifCond .eq 40, 3) := by decide +kernel
theorem dX8_fileFault_117 : decode cX8_fileFault 117 = .ok (.lload_n 3, 1) := by decide +kernel
theorem dX8_fileFault_118 : decode cX8_fileFault 118 = .ok (.iconst 0, 1) := by decide +kernel
theorem dX8_fileFault_119 : decode cX8_fileFault 119 = .ok (.bipush 9, 2) := by decide +kernel
theorem dX8_fileFault_121 : decode cX8_fileFault 121 = .ok (.invokestatic 148, 3) := by decide +kernel
theorem dX8_fileFault_124 : decode cX8_fileFault 124 = .ok (.i2l, 1) := by decide +kernel
theorem dX8_fileFault_125 : decode cX8_fileFault 125 = .ok (.aload_n 0, 1) := by decide +kernel
theorem dX8_fileFault_126 : decode cX8_fileFault 126 = .ok (.iconst (-1), 1) := by decide +kernel
theorem dX8_fileFault_127 : decode cX8_fileFault 127 = .ok (.iconst 2, 1) := by decide +kernel
theorem dX8_fileFault_128 : decode cX8_fileFault 128 = .ok (.invokevirtual 178, 3) := by decide +kernel
theorem dX8_fileFault_131 : decode cX8_fileFault 131 = .ok (.lcmp, 1) := by decide +kernel
theorem dX8_fileFault_132 : decode cX8_fileFault 132 = .ok (.ifCond .ne 22, 3) := by decide +kernel
theorem dX8_fileFault_135 : decode cX8_fileFault 135 = .ok (.lload_n 3, 1) := by decide +kernel
theorem dX8_fileFault_136 : decode cX8_fileFault 136 = .ok (.bipush 9, 2) := by decide +kernel
theorem dX8_fileFault_138 : decode cX8_fileFault 138 = .ok (.bipush 9, 2) := by decide +kernel
theorem dX8_fileFault_140 : decode cX8_fileFault 140 = .ok (.invokestatic 148, 3) := by decide +kernel
theorem dX8_fileFault_143 : decode cX8_fileFault 143 = .ok (.i2l, 1) := by decide +kernel
theorem dX8_fileFault_144 : decode cX8_fileFault 144 = .ok (.aload_n 0, 1) := by decide +kernel
theorem dX8_fileFault_145 : decode cX8_fileFault 145 = .ok (.iconst (-1), 1) := by decide +kernel
theorem dX8_fileFault_146 : decode cX8_fileFault 146 = .ok (.iconst 3, 1) := by decide +kernel
theorem dX8_fileFault_147 : decode cX8_fileFault 147 = .ok (.invokevirtual 178, 3) := by decide +kernel
theorem dX8_fileFault_150 : decode cX8_fileFault 150 = .ok (.lcmp, 1) := by decide +kernel
theorem dX8_fileFault_151 : decode cX8_fileFault 151 = .ok (.ifCond .eq 6, 3) := by decide +kernel
theorem dX8_fileFault_154 : decode cX8_fileFault 154 = .ok (.bipush 12, 2) := by decide +kernel
theorem dX8_fileFault_156 : decode cX8_fileFault 156 = .ok (.ireturn, 1) := by decide +kernel
theorem dX8_fileFault_157 : decode cX8_fileFault 157 = .ok (.aload_n 0, 1) := by decide +kernel
theorem dX8_fileFault_158 : decode cX8_fileFault 158 = .ok (.invokevirtual 194, 3) := by decide +kernel
theorem dX8_fileFault_161 : decode cX8_fileFault 161 = .ok (.aload_n 0, 1) := by decide +kernel
theorem dX8_fileFault_162 : decode cX8_fileFault 162 = .ok (.invokevirtual 198, 3) := by decide +kernel
theorem dX8_fileFault_165 : decode cX8_fileFault 165 = .ok (.iadd, 1) := by decide +kernel
theorem dX8_fileFault_166 : decode cX8_fileFault 166 = .ok (.bipush 40, 2) := by decide +kernel
theorem dX8_fileFault_168 : decode cX8_fileFault 168 = .ok (.if_icmp .le 8, 3) := by decide +kernel
theorem dX8_fileFault_171 : decode cX8_fileFault 171 = .ok (.bipush 13, 2) := by decide +kernel
theorem dX8_fileFault_173 : decode cX8_fileFault 173 = .ok (.goto 4, 3) := by decide +kernel
theorem dX8_fileFault_176 : decode cX8_fileFault 176 = .ok (.iconst 0, 1) := by decide +kernel
theorem dX8_fileFault_177 : decode cX8_fileFault 177 = .ok (.ireturn, 1) := by decide +kernel
set_option maxRecDepth 20000 in
theorem ggX8_ended_X8_fileFault : GoodIn wsX8_ended wsX8_fileFault := goodIn_r _ [13, 4, 3, 2, 5, 6, 7, 14, 15, 16, 12, 17, 18, 19, 20, 21, 22, 23, 24, 25, 26, 27, 8, 28, 29, 30, 31, 32, 33, 34, 35, 36, 37, 38, 39, 40, 41, 42, 43, 44, 45, 46, 47, 48, 49, 50, 51, 52, 53, 54, 55, 56, 57, 58, 59, 60, 73, 74, 75, 76, 77, 78, 79, 80, 81, 82, 83, 84, 85, 86, 87, 88, 89, 90, 91, 92, 93, 94, 95, 96, 97, 98, 99, 100, 101, 102, 103, 104, 105, 106, 107, 108, 109, 110, 111, 112, 113, 114, 115, 116, 117, 118] (by decide +kernel) (by decide +kernel)
set_option maxRecDepth 20000 in
theorem gX8_ended_X8_fileFault : GoodIn wsX8_ended (wsV RX8 201 RX8 yX8_fileFault wsX8_fileFault) := goodIn_app (goodIn_of _ (by decide +kernel)) ggX8_ended_X8_fileFault
set_option maxRecDepth 20000 in
theorem ggX8_ended_X8_bankOf : GoodIn wsX8_ended wsX8_bankOf := goodIn_r _ [17, 18, 19, 73, 74, 75, 76, 77, 78, 79, 80, 81, 82, 83, 84, 85, 86, 87, 88, 89, 90, 91, 92, 93, 94, 95, 96, 97, 98, 99, 100, 101, 102, 103, 104, 105, 106, 107, 108, 109, 110, 111, 112, 113, 114, 115, 116, 117, 118] (by decide +kernel) (by decide +kernel)
set_option maxRecDepth 20000 in
theorem gX8_ended_X8_bankOf : GoodIn wsX8_ended (wsV RX8 130 RX8 yX8_bankOf wsX8_bankOf) := goodIn_app (goodIn_of _ (by decide +kernel)) ggX8_ended_X8_bankOf
set_option maxRecDepth 20000 in
theorem ggX8_ended_X8_batchFault : GoodIn wsX8_ended wsX8_batchFault := goodIn_r _ [44, 45, 46, 47, 48, 49, 50, 51, 52, 7, 8, 53, 14, 15, 16, 12, 17, 18, 19, 24, 25, 26, 27, 28, 29, 30, 73, 74, 75, 76, 77, 78, 79, 80, 81, 82, 83, 84, 85, 86, 87, 88, 89, 90, 91, 92, 93, 94, 95, 96, 97, 98, 99, 100, 101, 102, 103, 104, 105, 106, 107, 108, 109, 110, 111, 112, 113, 114, 115, 116, 117, 118] (by decide +kernel) (by decide +kernel)
set_option maxRecDepth 20000 in
theorem gX8_ended_X8_batchFault : GoodIn wsX8_ended (wsV RX8 185 RX8 yX8_batchFault wsX8_batchFault) := goodIn_app (goodIn_of _ (by decide +kernel)) ggX8_ended_X8_batchFault
set_option maxRecDepth 20000 in
theorem ggX8_ended_X8_entryFault : GoodIn wsX8_ended wsX8_entryFault := goodIn_r _ [57, 28, 29, 30, 58, 59, 12, 60, 14, 15, 16, 17, 18, 19, 73, 74, 75, 76, 77, 78, 79, 80, 81, 82, 83, 84, 85, 86, 87, 88, 89, 90, 91, 92, 93, 94, 95, 96, 97, 98, 99, 100, 101, 102, 103, 104, 105, 106, 107, 108, 109, 110, 111, 112, 113, 114, 115, 116, 117, 118] (by decide +kernel) (by decide +kernel)
set_option maxRecDepth 20000 in
theorem gX8_ended_X8_entryFault : GoodIn wsX8_ended (wsV RX8 188 RX8 yX8_entryFault wsX8_entryFault) := goodIn_app (goodIn_of _ (by decide +kernel)) ggX8_ended_X8_entryFault
set_option maxRecDepth 20000 in
theorem ggX8_ended_X8_accept : GoodIn wsX8_ended wsX8_accept := goodIn_r _ [64, 8, 65, 35, 29, 66, 45, 67, 28, 68, 69, 70, 30, 71, 53, 72, 47, 36, 14, 15, 16, 12, 17, 18, 19, 73, 74, 75, 76, 77, 78, 79, 80, 81, 82, 83, 84, 85, 86, 87, 88, 89, 90, 91, 92, 93, 94, 95, 96, 97, 98, 99, 100, 101, 102, 103, 104, 105, 106, 107, 108, 109, 110, 111, 112, 113, 114, 115, 116, 117, 118] (by decide +kernel) (by decide +kernel)
set_option maxRecDepth 20000 in
theorem gX8_ended_X8_accept : GoodIn wsX8_ended (wsV RX8 204 RX8 yX8_accept wsX8_accept) := goodIn_app (goodIn_of _ (by decide +kernel)) ggX8_ended_X8_accept
theorem dX8_ended_0 : decode cX8_ended 0 = .ok (.aload_n 0, 1) := by decide +kernel
theorem dX8_ended_1 : decode cX8_ended 1 = .ok (.lload_n 1, 1) := by decide +kernel
theorem dX8_ended_2 : decode cX8_ended 2 = .ok (.lload_n 3, 1) := by decide +kernel
theorem dX8_ended_3 : decode cX8_ended 3 = .ok (.invokevirtual 201, 3) := by decide +kernel
theorem dX8_ended_6 : decode cX8_ended 6 = .ok (.istore 5, 2) := by decide +kernel
theorem dX8_ended_8 : decode cX8_ended 8 = .ok (.iload 5, 2) := by decide +kernel
theorem dX8_ended_10 : decode cX8_ended 10 = .ok (.ifCond .le 18, 3) := by decide +kernel
theorem dX8_ended_13 : decode cX8_ended 13 = .ok (.aload_n 0, 1) := by decide +kernel
theorem dX8_ended_14 : decode cX8_ended 14 = .ok (.getfield 114, 3) := by decide +kernel
theorem dX8_ended_17 : decode cX8_ended 17 = .ok (.iload 5, 2) := by decide +kernel
theorem dX8_ended_19 : decode cX8_ended 19 = .ok (.dup2, 1) := by decide +kernel
theorem dX8_ended_20 : decode cX8_ended 20 = .ok (.iaload, 1) := by decide +kernel
theorem dX8_ended_21 : decode cX8_ended 21 = .ok (.iconst 1, 1) := by decide +kernel
theorem dX8_ended_22 : decode cX8_ended 22 = .ok (.iadd, 1) := by decide +kernel
theorem dX8_ended_23 : decode cX8_ended 23 = .ok (.iastore, 1) := by decide +kernel
theorem dX8_ended_24 : decode cX8_ended 24 = .ok (.iload 5, 2) := by decide +kernel
theorem dX8_ended_26 : decode cX8_ended 26 = .ok (.ineg, 1) := by decide +kernel
theorem dX8_ended_27 : decode cX8_ended 27 = .ok (.ireturn, 1) := by decide +kernel
theorem dX8_ended_28 : decode cX8_ended 28 = .ok (.aload_n 0, 1) := by decide +kernel
theorem dX8_ended_29 : decode cX8_ended 29 = .ok (.getfield 69, 3) := by decide +kernel
theorem dX8_ended_32 : decode cX8_ended 32 = .ok (.aload_n 0, 1) := by decide +kernel
theorem dX8_ended_33 : decode cX8_ended 33 = .ok (.getfield 191, 3) := by decide +kernel
theorem dX8_ended_36 : decode cX8_ended 36 = .ok (.sipush 10000, 3) := by decide +kernel
theorem dX8_ended_39 : decode cX8_ended 39 = .ok (.aload_n 0, 1) := by decide +kernel
theorem dX8_ended_40 : decode cX8_ended 40 = .ok (.aload_n 0, 1) := by decide +kernel
theorem dX8_ended_41 : decode cX8_ended 41 = .ok (.getfield 155, 3) := by decide +kernel
theorem dX8_ended_44 : decode cX8_ended 44 = .ok (.invokevirtual 130, 3) := by decide +kernel
theorem dX8_ended_47 : decode cX8_ended 47 = .ok (.imul, 1) := by decide +kernel
theorem dX8_ended_48 : decode cX8_ended 48 = .ok (.aload_n 0, 1) := by decide +kernel
theorem dX8_ended_49 : decode cX8_ended 49 = .ok (.getfield 158, 3) := by decide +kernel
theorem dX8_ended_52 : decode cX8_ended 52 = .ok (.iadd, 1) := by decide +kernel
theorem dX8_ended_53 : decode cX8_ended 53 = .ok (.iastore, 1) := by decide +kernel
theorem dX8_ended_54 : decode cX8_ended 54 = .ok (.aload_n 0, 1) := by decide +kernel
theorem dX8_ended_55 : decode cX8_ended 55 = .ok (.dup, 1) := by decide +kernel
theorem dX8_ended_56 : decode cX8_ended 56 = .ok (.getfield 191, 3) := by decide +kernel
theorem dX8_ended_59 : decode cX8_ended 59 = .ok (.iconst 1, 1) := by decide +kernel
theorem dX8_ended_60 : decode cX8_ended 60 = .ok (.iadd, 1) := by decide +kernel
theorem dX8_ended_61 : decode cX8_ended 61 = .ok (.putfield 191, 3) := by decide +kernel
theorem dX8_ended_64 : decode cX8_ended 64 = .ok (.iconst 0, 1) := by decide +kernel
theorem dX8_ended_65 : decode cX8_ended 65 = .ok (.istore 6, 2) := by decide +kernel
theorem dX8_ended_67 : decode cX8_ended 67 = .ok (.iload 6, 2) := by decide +kernel
theorem dX8_ended_69 : decode cX8_ended 69 = .ok (.aload_n 0, 1) := by decide +kernel
theorem dX8_ended_70 : decode cX8_ended 70 = .ok (.getfield 161, 3) := by decide +kernel
theorem dX8_ended_73 : decode cX8_ended 73 = .ok (.if_icmp .ge 24, 3) := by decide +kernel
theorem dX8_ended_76 : decode cX8_ended 76 = .ok (.aload_n 0, 1) := by decide +kernel
theorem dX8_ended_77 : decode cX8_ended 77 = .ok (.getfield 114, 3) := by decide +kernel
theorem dX8_ended_80 : decode cX8_ended 80 = .ok (.aload_n 0, 1) := by decide +kernel
theorem dX8_ended_81 : decode cX8_ended 81 = .ok (.iload 6, 2) := by decide +kernel
theorem dX8_ended_83 : decode cX8_ended 83 = .ok (.invokevirtual 185, 3) := by decide +kernel
theorem dX8_ended_86 : decode cX8_ended 86 = .ok (.dup2, 1) := by decide +kernel
theorem dX8_ended_87 : decode cX8_ended 87 = .ok (.iaload, 1) := by decide +kernel
theorem dX8_ended_88 : decode cX8_ended 88 = .ok (.iconst 1, 1) := by decide +kernel
theorem dX8_ended_89 : decode cX8_ended 89 = .ok (.iadd, 1) := by decide +kernel
theorem dX8_ended_90 : decode cX8_ended 90 = .ok (.iastore, 1) := by decide +kernel
theorem dX8_ended_91 : decode cX8_ended 91 = .ok (.iinc 6 1, 3) := by decide +kernel
theorem dX8_ended_94 : decode cX8_ended 94 = .ok (.goto (-27), 3) := by decide +kernel
theorem dX8_ended_97 : decode cX8_ended 97 = .ok (.iconst 0, 1) := by decide +kernel
theorem dX8_ended_98 : decode cX8_ended 98 = .ok (.istore 6, 2) := by decide +kernel
theorem dX8_ended_100 : decode cX8_ended 100 = .ok (.iconst 0, 1) := by decide +kernel
theorem dX8_ended_101 : decode cX8_ended 101 = .ok (.istore 7, 2) := by decide +kernel
theorem dX8_ended_103 : decode cX8_ended 103 = .ok (.iload 7, 2) := by decide +kernel
theorem dX8_ended_105 : decode cX8_ended 105 = .ok (.aload_n 0, 1) := by decide +kernel
theorem dX8_ended_106 : decode cX8_ended 106 = .ok (.getfield 164, 3) := by decide +kernel
theorem dX8_ended_109 : decode cX8_ended 109 = .ok (.if_icmp .ge 56, 3) := by decide +kernel
theorem dX8_ended_112 : decode cX8_ended 112 = .ok (.aload_n 0, 1) := by decide +kernel
theorem dX8_ended_113 : decode cX8_ended 113 = .ok (.aload_n 0, 1) := by decide +kernel
theorem dX8_ended_114 : decode cX8_ended 114 = .ok (.getfield 51, 3) := by decide +kernel
theorem dX8_ended_117 : decode cX8_ended 117 = .ok (.iload 7, 2) := by decide +kernel
theorem dX8_ended_119 : decode cX8_ended 119 = .ok (.iaload, 1) := by decide +kernel
theorem dX8_ended_120 : decode cX8_ended 120 = .ok (.invokevirtual 185, 3) := by decide +kernel
theorem dX8_ended_123 : decode cX8_ended 123 = .ok (.ifCond .ne 36, 3) := by decide +kernel
theorem dX8_ended_126 : decode cX8_ended 126 = .ok (.aload_n 0, 1) := by decide +kernel
theorem dX8_ended_127 : decode cX8_ended 127 = .ok (.iload 7, 2) := by decide +kernel
theorem dX8_ended_129 : decode cX8_ended 129 = .ok (.invokevirtual 188, 3) := by decide +kernel
theorem dX8_ended_132 : decode cX8_ended 132 = .ok (.istore 8, 2) := by decide +kernel
theorem dX8_ended_134 : decode cX8_ended 134 = .ok (.aload_n 0, 1) := by decide +kernel
theorem dX8_ended_135 : decode cX8_ended 135 = .ok (.getfield 114, 3) := by decide +kernel
theorem dX8_ended_138 : decode cX8_ended 138 = .ok (.iload 8, 2) := by decide +kernel
theorem dX8_ended_140 : decode cX8_ended 140 = .ok (.dup2, 1) := by decide +kernel
theorem dX8_ended_141 : decode cX8_ended 141 = .ok (.iaload, 1) := by decide +kernel
theorem dX8_ended_142 : decode cX8_ended 142 = .ok (.iconst 1, 1) := by decide +kernel
theorem dX8_ended_143 : decode cX8_ended 143 = .ok (.iadd, 1) := by decide +kernel
theorem dX8_ended_144 : decode cX8_ended 144 = .ok (.iastore, 1) := by decide +kernel
theorem dX8_ended_145 : decode cX8_ended 145 = .ok (.iload 8, 2) := by decide +kernel
theorem dX8_ended_147 : decode cX8_ended 147 = .ok (.ifCond .ne 12, 3) := by decide +kernel
theorem dX8_ended_150 : decode cX8_ended 150 = .ok (.aload_n 0, 1) := by decide +kernel
theorem dX8_ended_151 : decode cX8_ended 151 = .ok (.iload 7, 2) := by decide +kernel
theorem dX8_ended_153 : decode cX8_ended 153 = .ok (.invokevirtual 204, 3) := by decide +kernel
theorem dX8_ended_156 : decode cX8_ended 156 = .ok (.iinc 6 1, 3) := by decide +kernel
theorem dX8_ended_159 : decode cX8_ended 159 = .ok (.iinc 7 1, 3) := by decide +kernel
theorem dX8_ended_162 : decode cX8_ended 162 = .ok (.goto (-59), 3) := by decide +kernel
theorem dX8_ended_165 : decode cX8_ended 165 = .ok (.iload 6, 2) := by decide +kernel
theorem dX8_ended_167 : decode cX8_ended 167 = .ok (.ireturn, 1) := by decide +kernel
set_option maxRecDepth 20000 in
theorem ggX8_accept_X8_bankOf : GoodIn wsX8_accept wsX8_bankOf := goodIn_r _ [22, 23, 24, 25, 26, 27, 28, 29, 30, 31, 32, 33, 34, 35, 36, 37, 38, 39, 40, 41, 42, 43, 44, 45, 46, 47, 48, 49, 50, 51, 52, 53, 54, 55, 56, 57, 58, 59, 60, 61, 62, 63, 64, 65, 66, 67, 68, 69, 70] (by decide +kernel) (by decide +kernel)
set_option maxRecDepth 20000 in
theorem gX8_accept_X8_bankOf : GoodIn wsX8_accept (wsV RX8 130 RX8 yX8_bankOf wsX8_bankOf) := goodIn_app (goodIn_of _ (by decide +kernel)) ggX8_accept_X8_bankOf
theorem dX8_accept_0 : decode cX8_accept 0 = .ok (.aload_n 0, 1) := by decide +kernel
theorem dX8_accept_1 : decode cX8_accept 1 = .ok (.getfield 51, 3) := by decide +kernel
theorem dX8_accept_4 : decode cX8_accept 4 = .ok (.iload_n 1, 1) := by decide +kernel
theorem dX8_accept_5 : decode cX8_accept 5 = .ok (.iaload, 1) := by decide +kernel
theorem dX8_accept_6 : decode cX8_accept 6 = .ok (.istore_n 2, 1) := by decide +kernel
theorem dX8_accept_7 : decode cX8_accept 7 = .ok (.aload_n 0, 1) := by decide +kernel
theorem dX8_accept_8 : decode cX8_accept 8 = .ok (.getfield 72, 3) := by decide +kernel
theorem dX8_accept_11 : decode cX8_accept 11 = .ok (.aload_n 0, 1) := by decide +kernel
theorem dX8_accept_12 : decode cX8_accept 12 = .ok (.getfield 182, 3) := by decide +kernel
theorem dX8_accept_15 : decode cX8_accept 15 = .ok (.aload_n 0, 1) := by decide +kernel
theorem dX8_accept_16 : decode cX8_accept 16 = .ok (.getfield 54, 3) := by decide +kernel
theorem dX8_accept_19 : decode cX8_accept 19 = .ok (.iload_n 1, 1) := by decide +kernel
theorem dX8_accept_20 : decode cX8_accept 20 = .ok (.iaload, 1) := by decide +kernel
theorem dX8_accept_21 : decode cX8_accept 21 = .ok (.iastore, 1) := by decide +kernel
theorem dX8_accept_22 : decode cX8_accept 22 = .ok (.aload_n 0, 1) := by decide +kernel
theorem dX8_accept_23 : decode cX8_accept 23 = .ok (.getfield 75, 3) := by decide +kernel
theorem dX8_accept_26 : decode cX8_accept 26 = .ok (.aload_n 0, 1) := by decide +kernel
theorem dX8_accept_27 : decode cX8_accept 27 = .ok (.getfield 182, 3) := by decide +kernel
theorem dX8_accept_30 : decode cX8_accept 30 = .ok (.aload_n 0, 1) := by decide +kernel
theorem dX8_accept_31 : decode cX8_accept 31 = .ok (.aload_n 0, 1) := by decide +kernel
theorem dX8_accept_32 : decode cX8_accept 32 = .ok (.getfield 30, 3) := by decide +kernel
theorem dX8_accept_35 : decode cX8_accept 35 = .ok (.iload_n 2, 1) := by decide +kernel
theorem dX8_accept_36 : decode cX8_accept 36 = .ok (.iaload, 1) := by decide +kernel
theorem dX8_accept_37 : decode cX8_accept 37 = .ok (.invokevirtual 130, 3) := by decide +kernel
theorem dX8_accept_40 : decode cX8_accept 40 = .ok (.iastore, 1) := by decide +kernel
theorem dX8_accept_41 : decode cX8_accept 41 = .ok (.aload_n 0, 1) := by decide +kernel
theorem dX8_accept_42 : decode cX8_accept 42 = .ok (.getfield 78, 3) := by decide +kernel
theorem dX8_accept_45 : decode cX8_accept 45 = .ok (.aload_n 0, 1) := by decide +kernel
theorem dX8_accept_46 : decode cX8_accept 46 = .ok (.getfield 182, 3) := by decide +kernel
theorem dX8_accept_49 : decode cX8_accept 49 = .ok (.aload_n 0, 1) := by decide +kernel
theorem dX8_accept_50 : decode cX8_accept 50 = .ok (.aload_n 0, 1) := by decide +kernel
theorem dX8_accept_51 : decode cX8_accept 51 = .ok (.getfield 57, 3) := by decide +kernel
theorem dX8_accept_54 : decode cX8_accept 54 = .ok (.iload_n 1, 1) := by decide +kernel
theorem dX8_accept_55 : decode cX8_accept 55 = .ok (.iaload, 1) := by decide +kernel
theorem dX8_accept_56 : decode cX8_accept 56 = .ok (.invokevirtual 130, 3) := by decide +kernel
theorem dX8_accept_59 : decode cX8_accept 59 = .ok (.iastore, 1) := by decide +kernel
theorem dX8_accept_60 : decode cX8_accept 60 = .ok (.aload_n 0, 1) := by decide +kernel
theorem dX8_accept_61 : decode cX8_accept 61 = .ok (.getfield 81, 3) := by decide +kernel
theorem dX8_accept_64 : decode cX8_accept 64 = .ok (.aload_n 0, 1) := by decide +kernel
theorem dX8_accept_65 : decode cX8_accept 65 = .ok (.getfield 182, 3) := by decide +kernel
theorem dX8_accept_68 : decode cX8_accept 68 = .ok (.aload_n 0, 1) := by decide +kernel
theorem dX8_accept_69 : decode cX8_accept 69 = .ok (.getfield 60, 3) := by decide +kernel
theorem dX8_accept_72 : decode cX8_accept 72 = .ok (.iload_n 1, 1) := by decide +kernel
theorem dX8_accept_73 : decode cX8_accept 73 = .ok (.iaload, 1) := by decide +kernel
theorem dX8_accept_74 : decode cX8_accept 74 = .ok (.iastore, 1) := by decide +kernel
theorem dX8_accept_75 : decode cX8_accept 75 = .ok (.aload_n 0, 1) := by decide +kernel
theorem dX8_accept_76 : decode cX8_accept 76 = .ok (.getfield 84, 3) := by decide +kernel
theorem dX8_accept_79 : decode cX8_accept 79 = .ok (.aload_n 0, 1) := by decide +kernel
theorem dX8_accept_80 : decode cX8_accept 80 = .ok (.getfield 182, 3) := by decide +kernel
theorem dX8_accept_83 : decode cX8_accept 83 = .ok (.aload_n 0, 1) := by decide +kernel
theorem dX8_accept_84 : decode cX8_accept 84 = .ok (.getfield 63, 3) := by decide +kernel
theorem dX8_accept_87 : decode cX8_accept 87 = .ok (.iload_n 1, 1) := by decide +kernel
theorem dX8_accept_88 : decode cX8_accept 88 = .ok (.iaload, 1) := by decide +kernel
theorem dX8_accept_89 : decode cX8_accept 89 = .ok (.iastore, 1) := by decide +kernel
theorem dX8_accept_90 : decode cX8_accept 90 = .ok (.aload_n 0, 1) := by decide +kernel
theorem dX8_accept_91 : decode cX8_accept 91 = .ok (.getfield 87, 3) := by decide +kernel
theorem dX8_accept_94 : decode cX8_accept 94 = .ok (.aload_n 0, 1) := by decide +kernel
theorem dX8_accept_95 : decode cX8_accept 95 = .ok (.getfield 182, 3) := by decide +kernel
theorem dX8_accept_98 : decode cX8_accept 98 = .ok (.aload_n 0, 1) := by decide +kernel
theorem dX8_accept_99 : decode cX8_accept 99 = .ok (.getfield 66, 3) := by decide +kernel
theorem dX8_accept_102 : decode cX8_accept 102 = .ok (.iload_n 1, 1) := by decide +kernel
theorem dX8_accept_103 : decode cX8_accept 103 = .ok (.iaload, 1) := by decide +kernel
theorem dX8_accept_104 : decode cX8_accept 104 = .ok (.iastore, 1) := by decide +kernel
theorem dX8_accept_105 : decode cX8_accept 105 = .ok (.aload_n 0, 1) := by decide +kernel
theorem dX8_accept_106 : decode cX8_accept 106 = .ok (.getfield 90, 3) := by decide +kernel
theorem dX8_accept_109 : decode cX8_accept 109 = .ok (.aload_n 0, 1) := by decide +kernel
theorem dX8_accept_110 : decode cX8_accept 110 = .ok (.getfield 182, 3) := by decide +kernel
theorem dX8_accept_113 : decode cX8_accept 113 = .ok (.aload_n 0, 1) := by decide +kernel
theorem dX8_accept_114 : decode cX8_accept 114 = .ok (.getfield 36, 3) := by decide +kernel
theorem dX8_accept_117 : decode cX8_accept 117 = .ok (.iload_n 2, 1) := by decide +kernel
theorem dX8_accept_118 : decode cX8_accept 118 = .ok (.iaload, 1) := by decide +kernel
theorem dX8_accept_119 : decode cX8_accept 119 = .ok (.iastore, 1) := by decide +kernel
theorem dX8_accept_120 : decode cX8_accept 120 = .ok (.aload_n 0, 1) := by decide +kernel
theorem dX8_accept_121 : decode cX8_accept 121 = .ok (.getfield 93, 3) := by decide +kernel
theorem dX8_accept_124 : decode cX8_accept 124 = .ok (.aload_n 0, 1) := by decide +kernel
theorem dX8_accept_125 : decode cX8_accept 125 = .ok (.getfield 182, 3) := by decide +kernel
theorem dX8_accept_128 : decode cX8_accept 128 = .ok (.iconst 0, 1) := by decide +kernel
theorem dX8_accept_129 : decode cX8_accept 129 = .ok (.iastore, 1) := by decide +kernel
theorem dX8_accept_130 : decode cX8_accept 130 = .ok (.aload_n 0, 1) := by decide +kernel
theorem dX8_accept_131 : decode cX8_accept 131 = .ok (.dup, 1) := by decide +kernel
theorem dX8_accept_132 : decode cX8_accept 132 = .ok (.getfield 182, 3) := by decide +kernel
theorem dX8_accept_135 : decode cX8_accept 135 = .ok (.iconst 1, 1) := by decide +kernel
theorem dX8_accept_136 : decode cX8_accept 136 = .ok (.iadd, 1) := by decide +kernel
theorem dX8_accept_137 : decode cX8_accept 137 = .ok (.putfield 182, 3) := by decide +kernel
theorem dX8_accept_140 : decode cX8_accept 140 = .ok (.return_, 1) := by decide +kernel
theorem dX8_allDone_0 : decode cX8_allDone 0 = .ok (.iconst 1, 1) := by decide +kernel
theorem dX8_allDone_1 : decode cX8_allDone 1 = .ok (.istore_n 2, 1) := by decide +kernel
theorem dX8_allDone_2 : decode cX8_allDone 2 = .ok (.iconst 0, 1) := by decide +kernel
theorem dX8_allDone_3 : decode cX8_allDone 3 = .ok (.istore_n 3, 1) := by decide +kernel
theorem dX8_allDone_4 : decode cX8_allDone 4 = .ok (.iload_n 3, 1) := by decide +kernel
theorem dX8_allDone_5 : decode cX8_allDone 5 = .ok (.aload_n 0, 1) := by decide +kernel
theorem dX8_allDone_6 : decode cX8_allDone 6 = .ok (.getfield 102, 3) := by decide +kernel
theorem dX8_allDone_9 : decode cX8_allDone 9 = .ok (.iload_n 1, 1) := by decide +kernel
theorem dX8_allDone_10 : decode cX8_allDone 10 = .ok (.iaload, 1) := by decide +kernel
theorem dX8_allDone_11 : decode cX8_allDone 11 = .ok (.if_icmp .ge 34, 3) := by decide +kernel
theorem dX8_allDone_14 : decode cX8_allDone 14 = .ok (.iload_n 2, 1) := by decide +kernel
theorem dX8_allDone_15 : decode cX8_allDone 15 = .ok (.ifCond .eq 22, 3) := by decide +kernel
theorem dX8_allDone_18 : decode cX8_allDone 18 = .ok (.aload_n 0, 1) := by decide +kernel
theorem dX8_allDone_19 : decode cX8_allDone 19 = .ok (.getfield 111, 3) := by decide +kernel
theorem dX8_allDone_22 : decode cX8_allDone 22 = .ok (.sipush 512, 3) := by decide +kernel
theorem dX8_allDone_25 : decode cX8_allDone 25 = .ok (.iload_n 1, 1) := by decide +kernel
theorem dX8_allDone_26 : decode cX8_allDone 26 = .ok (.imul, 1) := by decide +kernel
theorem dX8_allDone_27 : decode cX8_allDone 27 = .ok (.iload_n 3, 1) := by decide +kernel
theorem dX8_allDone_28 : decode cX8_allDone 28 = .ok (.iadd, 1) := by decide +kernel
theorem dX8_allDone_29 : decode cX8_allDone 29 = .ok (.iaload, 1) := by decide +kernel
theorem dX8_allDone_30 : decode cX8_allDone 30 = .ok (.ifCond .le 7, 3) := by decide +kernel
theorem dX8_allDone_33 : decode cX8_allDone 33 = .ok (.iconst 1, 1) := by decide +kernel
theorem dX8_allDone_34 : decode cX8_allDone 34 = .ok (.goto 4, 3) := by decide +kernel
theorem dX8_allDone_37 : decode cX8_allDone 37 = .ok (.iconst 0, 1) := by decide +kernel
theorem dX8_allDone_38 : decode cX8_allDone 38 = .ok (.istore_n 2, 1) := by decide +kernel
theorem dX8_allDone_39 : decode cX8_allDone 39 = .ok (.iinc 3 1, 3) := by decide +kernel
theorem dX8_allDone_42 : decode cX8_allDone 42 = .ok (.goto (-38), 3) := by decide +kernel
theorem dX8_allDone_45 : decode cX8_allDone 45 = .ok (.iload_n 2, 1) := by decide +kernel
theorem dX8_allDone_46 : decode cX8_allDone 46 = .ok (.ireturn, 1) := by decide +kernel
theorem dX8_take_0 : decode cX8_take 0 = .ok (.sipush 512, 3) := by decide +kernel
theorem dX8_take_3 : decode cX8_take 3 = .ok (.iload_n 1, 1) := by decide +kernel
theorem dX8_take_4 : decode cX8_take 4 = .ok (.imul, 1) := by decide +kernel
theorem dX8_take_5 : decode cX8_take 5 = .ok (.aload_n 0, 1) := by decide +kernel
theorem dX8_take_6 : decode cX8_take 6 = .ok (.getfield 102, 3) := by decide +kernel
theorem dX8_take_9 : decode cX8_take 9 = .ok (.iload_n 1, 1) := by decide +kernel
theorem dX8_take_10 : decode cX8_take 10 = .ok (.iaload, 1) := by decide +kernel
theorem dX8_take_11 : decode cX8_take 11 = .ok (.iadd, 1) := by decide +kernel
theorem dX8_take_12 : decode cX8_take 12 = .ok (.istore 4, 2) := by decide +kernel
theorem dX8_take_14 : decode cX8_take 14 = .ok (.aload_n 0, 1) := by decide +kernel
theorem dX8_take_15 : decode cX8_take 15 = .ok (.getfield 105, 3) := by decide +kernel
theorem dX8_take_18 : decode cX8_take 18 = .ok (.iload 4, 2) := by decide +kernel
theorem dX8_take_20 : decode cX8_take 20 = .ok (.iload_n 2, 1) := by decide +kernel
theorem dX8_take_21 : decode cX8_take 21 = .ok (.iastore, 1) := by decide +kernel
theorem dX8_take_22 : decode cX8_take 22 = .ok (.aload_n 0, 1) := by decide +kernel
theorem dX8_take_23 : decode cX8_take 23 = .ok (.getfield 108, 3) := by decide +kernel
theorem dX8_take_26 : decode cX8_take 26 = .ok (.iload 4, 2) := by decide +kernel
theorem dX8_take_28 : decode cX8_take 28 = .ok (.iload_n 3, 1) := by decide +kernel
theorem dX8_take_29 : decode cX8_take 29 = .ok (.bastore, 1) := by decide +kernel
theorem dX8_take_30 : decode cX8_take 30 = .ok (.aload_n 0, 1) := by decide +kernel
theorem dX8_take_31 : decode cX8_take 31 = .ok (.getfield 111, 3) := by decide +kernel
theorem dX8_take_34 : decode cX8_take 34 = .ok (.iload 4, 2) := by decide +kernel
theorem dX8_take_36 : decode cX8_take 36 = .ok (.iconst 0, 1) := by decide +kernel
theorem dX8_take_37 : decode cX8_take 37 = .ok (.iastore, 1) := by decide +kernel
theorem dX8_take_38 : decode cX8_take 38 = .ok (.aload_n 0, 1) := by decide +kernel
theorem dX8_take_39 : decode cX8_take 39 = .ok (.getfield 102, 3) := by decide +kernel
theorem dX8_take_42 : decode cX8_take 42 = .ok (.iload_n 1, 1) := by decide +kernel
theorem dX8_take_43 : decode cX8_take 43 = .ok (.dup2, 1) := by decide +kernel
theorem dX8_take_44 : decode cX8_take 44 = .ok (.iaload, 1) := by decide +kernel
theorem dX8_take_45 : decode cX8_take 45 = .ok (.iconst 1, 1) := by decide +kernel
theorem dX8_take_46 : decode cX8_take 46 = .ok (.iadd, 1) := by decide +kernel
theorem dX8_take_47 : decode cX8_take 47 = .ok (.iastore, 1) := by decide +kernel
theorem dX8_take_48 : decode cX8_take 48 = .ok (.aload_n 0, 1) := by decide +kernel
theorem dX8_take_49 : decode cX8_take 49 = .ok (.getfield 93, 3) := by decide +kernel
theorem dX8_take_52 : decode cX8_take 52 = .ok (.iload_n 2, 1) := by decide +kernel
theorem dX8_take_53 : decode cX8_take 53 = .ok (.iload_n 3, 1) := by decide +kernel
theorem dX8_take_54 : decode cX8_take 54 = .ok (.ifCond .eq 7, 3) := by decide +kernel
theorem dX8_take_57 : decode cX8_take 57 = .ok (.iconst 3, 1) := by decide +kernel
theorem dX8_take_58 : decode cX8_take 58 = .ok (.goto 4, 3) := by decide +kernel
theorem dX8_take_61 : decode cX8_take 61 = .ok (.iconst 1, 1) := by decide +kernel
theorem dX8_take_62 : decode cX8_take 62 = .ok (.iastore, 1) := by decide +kernel
theorem dX8_take_63 : decode cX8_take 63 = .ok (.aload_n 0, 1) := by decide +kernel
theorem dX8_take_64 : decode cX8_take 64 = .ok (.getfield 72, 3) := by decide +kernel
theorem dX8_take_67 : decode cX8_take 67 = .ok (.iload_n 2, 1) := by decide +kernel
theorem dX8_take_68 : decode cX8_take 68 = .ok (.iaload, 1) := by decide +kernel
theorem dX8_take_69 : decode cX8_take 69 = .ok (.iconst 2, 1) := by decide +kernel
theorem dX8_take_70 : decode cX8_take 70 = .ok (.if_icmp .ne 7, 3) := by decide +kernel
theorem dX8_take_73 : decode cX8_take 73 = .ok (.iconst 1, 1) := by decide +kernel
theorem dX8_take_74 : decode cX8_take 74 = .ok (.goto 4, 3) := by decide +kernel
theorem dX8_take_77 : decode cX8_take 77 = .ok (.iconst 0, 1) := by decide +kernel
theorem dX8_take_78 : decode cX8_take 78 = .ok (.iload_n 3, 1) := by decide +kernel
theorem dX8_take_79 : decode cX8_take 79 = .ok (.if_icmp .eq 13, 3) := by decide +kernel
theorem dX8_take_82 : decode cX8_take 82 = .ok (.aload_n 0, 1) := by decide +kernel
theorem dX8_take_83 : decode cX8_take 83 = .ok (.getfield 84, 3) := by decide +kernel
theorem dX8_take_86 : decode cX8_take 86 = .ok (.iload_n 2, 1) := by decide +kernel
theorem dX8_take_87 : decode cX8_take 87 = .ok (.iaload, 1) := by decide +kernel
theorem dX8_take_88 : decode cX8_take 88 = .ok (.i2l, 1) := by decide +kernel
theorem dX8_take_89 : decode cX8_take 89 = .ok (.goto 11, 3) := by decide +kernel
theorem dX8_take_92 : decode cX8_take 92 = .ok (.aload_n 0, 1) := by decide +kernel
theorem dX8_take_93 : decode cX8_take 93 = .ok (.getfield 84, 3) := by decide +kernel
theorem dX8_take_96 : decode cX8_take 96 = .ok (.iload_n 2, 1) := by decide +kernel
theorem dX8_take_97 : decode cX8_take 97 = .ok (.iaload, 1) := by decide +kernel
theorem dX8_take_98 : decode cX8_take 98 = .ok (.ineg, 1) := by decide +kernel
theorem dX8_take_99 : decode cX8_take 99 = .ok (.i2l, 1) := by decide +kernel
theorem dX8_take_100 : decode cX8_take 100 = .ok (.lstore 5, 2) := by decide +kernel
theorem dX8_take_102 : decode cX8_take 102 = .ok (.aload_n 0, 1) := by decide +kernel
theorem dX8_take_103 : decode cX8_take 103 = .ok (.getfield 13, 3) := by decide +kernel
theorem dX8_take_106 : decode cX8_take 106 = .ok (.aload_n 0, 1) := by decide +kernel
theorem dX8_take_107 : decode cX8_take 107 = .ok (.getfield 75, 3) := by decide +kernel
theorem dX8_take_110 : decode cX8_take 110 = .ok (.iload_n 2, 1) := by decide +kernel
theorem dX8_take_111 : decode cX8_take 111 = .ok (.iaload, 1) := by decide +kernel
theorem dX8_take_112 : decode cX8_take 112 = .ok (.dup2, 1) := by decide +kernel
theorem dX8_take_113 : decode cX8_take 113 = .ok (.laload, 1) := by decide +kernel
theorem dX8_take_114 : decode cX8_take 114 = .ok (.lload 5, 2) := by decide +kernel
theorem dX8_take_116 : decode cX8_take 116 = .ok (.lsub, 1) := by decide +kernel
theorem dX8_take_117 : decode cX8_take 117 = .ok (.lastore, 1) := by decide +kernel
theorem dX8_take_118 : decode cX8_take 118 = .ok (.aload_n 0, 1) := by decide +kernel
theorem dX8_take_119 : decode cX8_take 119 = .ok (.getfield 13, 3) := by decide +kernel
theorem dX8_take_122 : decode cX8_take 122 = .ok (.aload_n 0, 1) := by decide +kernel
theorem dX8_take_123 : decode cX8_take 123 = .ok (.getfield 78, 3) := by decide +kernel
theorem dX8_take_126 : decode cX8_take 126 = .ok (.iload_n 2, 1) := by decide +kernel
theorem dX8_take_127 : decode cX8_take 127 = .ok (.iaload, 1) := by decide +kernel
theorem dX8_take_128 : decode cX8_take 128 = .ok (.dup2, 1) := by decide +kernel
theorem dX8_take_129 : decode cX8_take 129 = .ok (.laload, 1) := by decide +kernel
theorem dX8_take_130 : decode cX8_take 130 = .ok (.lload 5, 2) := by decide +kernel
theorem dX8_take_132 : decode cX8_take 132 = .ok (.ladd, 1) := by decide +kernel
theorem dX8_take_133 : decode cX8_take 133 = .ok (.lastore, 1) := by decide +kernel
theorem dX8_take_134 : decode cX8_take 134 = .ok (.return_, 1) := by decide +kernel
set_option maxRecDepth 20000 in
theorem ggX8_first_X8_before : GoodIn wsX8_first wsX8_before := goodIn_r _ [11, 12, 5, 3, 13, 14, 15, 16, 17, 18, 19, 20, 21, 22, 23, 24, 25, 26, 27, 28, 29, 30, 31, 32, 33, 34, 35, 36, 37, 38, 39, 40, 41, 42, 43, 44, 45, 46, 47, 48, 49, 50, 51, 52, 53, 54, 55, 56, 57, 58] (by decide +kernel) (by decide +kernel)
set_option maxRecDepth 20000 in
theorem gX8_first_X8_before : GoodIn wsX8_first (wsV RX8 208 RX8 yX8_before wsX8_before) := goodIn_app (goodIn_of _ (by decide +kernel)) ggX8_first_X8_before
theorem dX8_first_0 : decode cX8_first 0 = .ok (.iconst (-1), 1) := by decide +kernel
theorem dX8_first_1 : decode cX8_first 1 = .ok (.istore_n 3, 1) := by decide +kernel
theorem dX8_first_2 : decode cX8_first 2 = .ok (.aload_n 0, 1) := by decide +kernel
theorem dX8_first_3 : decode cX8_first 3 = .ok (.getfield 182, 3) := by decide +kernel
theorem dX8_first_6 : decode cX8_first 6 = .ok (.iconst 1, 1) := by decide +kernel
theorem dX8_first_7 : decode cX8_first 7 = .ok (.isub, 1) := by decide +kernel
theorem dX8_first_8 : decode cX8_first 8 = .ok (.istore 4, 2) := by decide +kernel
theorem dX8_first_10 : decode cX8_first 10 = .ok (.iload 4, 2) := by decide +kernel
theorem dX8_first_12 : decode cX8_first 12 = .ok (.ifCond .lt 108, 3) := by decide +kernel
theorem dX8_first_15 : decode cX8_first 15 = .ok (.iload_n 2, 1) := by decide +kernel
theorem dX8_first_16 : decode cX8_first 16 = .ok (.ifCond .eq 33, 3) := by decide +kernel
theorem dX8_first_19 : decode cX8_first 19 = .ok (.aload_n 0, 1) := by decide +kernel
theorem dX8_first_20 : decode cX8_first 20 = .ok (.getfield 93, 3) := by decide +kernel
theorem dX8_first_23 : decode cX8_first 23 = .ok (.iload 4, 2) := by decide +kernel
theorem dX8_first_25 : decode cX8_first 25 = .ok (.iaload, 1) := by decide +kernel
theorem dX8_first_26 : decode cX8_first 26 = .ok (.iconst 2, 1) := by decide +kernel
theorem dX8_first_27 : decode cX8_first 27 = .ok (.if_icmp .ne 18, 3) := by decide +kernel
theorem dX8_first_30 : decode cX8_first 30 = .ok (.aload_n 0, 1) := by decide +kernel
theorem dX8_first_31 : decode cX8_first 31 = .ok (.getfield 75, 3) := by decide +kernel
theorem dX8_first_34 : decode cX8_first 34 = .ok (.iload 4, 2) := by decide +kernel
theorem dX8_first_36 : decode cX8_first 36 = .ok (.iaload, 1) := by decide +kernel
theorem dX8_first_37 : decode cX8_first 37 = .ok (.iload_n 1, 1) := by decide +kernel
theorem dX8_first_38 : decode cX8_first 38 = .ok (.if_icmp .ne 7, 3) := by decide +kernel
theorem dX8_first_41 : decode cX8_first 41 = .ok (.iconst 1, 1) := by decide +kernel
theorem dX8_first_42 : decode cX8_first 42 = .ok (.goto 47, 3) := by decide +kernel
theorem dX8_first_45 : decode cX8_first 45 = .ok (.iconst 0, 1) := by decide +kernel
theorem dX8_first_46 : decode cX8_first 46 = .ok (.goto 43, 3) := by decide +kernel
theorem dX8_first_49 : decode cX8_first 49 = .ok (.aload_n 0, 1) := by decide +kernel
theorem dX8_first_50 : decode cX8_first 50 = .ok (.getfield 93, 3) := by decide +kernel
theorem dX8_first_53 : decode cX8_first 53 = .ok (.iload 4, 2) := by decide +kernel
theorem dX8_first_55 : decode cX8_first 55 = .ok (.iaload, 1) := by decide +kernel
theorem dX8_first_56 : decode cX8_first 56 = .ok (.ifCond .ne 32, 3) := by decide +kernel
theorem dX8_first_59 : decode cX8_first 59 = .ok (.aload_n 0, 1) := by decide +kernel
theorem dX8_first_60 : decode cX8_first 60 = .ok (.getfield 78, 3) := by decide +kernel
theorem dX8_first_63 : decode cX8_first 63 = .ok (.iload 4, 2) := by decide +kernel
theorem dX8_first_65 : decode cX8_first 65 = .ok (.iaload, 1) := by decide +kernel
theorem dX8_first_66 : decode cX8_first 66 = .ok (.iload_n 1, 1) := by decide +kernel
theorem dX8_first_67 : decode cX8_first 67 = .ok (.if_icmp .ne 21, 3) := by decide +kernel
theorem dX8_first_70 : decode cX8_first 70 = .ok (.aload_n 0, 1) := by decide +kernel
theorem dX8_first_71 : decode cX8_first 71 = .ok (.getfield 90, 3) := by decide +kernel
theorem dX8_first_74 : decode cX8_first 74 = .ok (.iload 4, 2) := by decide +kernel
theorem dX8_first_76 : decode cX8_first 76 = .ok (.iaload, 1) := by decide +kernel
theorem dX8_first_77 : decode cX8_first 77 = .ok (.aload_n 0, 1) := by decide +kernel
theorem dX8_first_78 : decode cX8_first 78 = .ok (.getfield 143, 3) := by decide +kernel
theorem dX8_first_81 : decode cX8_first 81 = .ok (.if_icmp .gt 7, 3) := by decide +kernel
theorem dX8_first_84 : decode cX8_first 84 = .ok (.iconst 1, 1) := by decide +kernel
theorem dX8_first_85 : decode cX8_first 85 = .ok (.goto 4, 3) := by decide +kernel
theorem dX8_first_88 : decode cX8_first 88 = .ok (.iconst 0, 1) := by decide +kernel
theorem dX8_first_89 : decode cX8_first 89 = .ok (.istore 5, 2) := by decide +kernel
theorem dX8_first_91 : decode cX8_first 91 = .ok (.iload 5, 2) := by decide +kernel
theorem dX8_first_93 : decode cX8_first 93 = .ok (.ifCond .eq 21, 3) := by decide +kernel
theorem dX8_first_96 : decode cX8_first 96 = .ok (.iload_n 3, 1) := by decide +kernel
theorem dX8_first_97 : decode cX8_first 97 = .ok (.ifCond .lt 14, 3) := by decide +kernel
theorem dX8_first_100 : decode cX8_first 100 = .ok (.aload_n 0, 1) := by decide +kernel
theorem dX8_first_101 : decode cX8_first 101 = .ok (.iload 4, 2) := by decide +kernel
theorem dX8_first_103 : decode cX8_first 103 = .ok (.iload_n 3, 1) := by decide +kernel
theorem dX8_first_104 : decode cX8_first 104 = .ok (.iload_n 2, 1) := by decide +kernel
theorem dX8_first_105 : decode cX8_first 105 = .ok (.invokevirtual 208, 3) := by decide +kernel
theorem dX8_first_108 : decode cX8_first 108 = .ok (.ifCond .eq 6, 3) := by decide +kernel
theorem dX8_first_111 : decode cX8_first 111 = .ok (.iload 4, 2) := by decide +kernel
theorem dX8_first_113 : decode cX8_first 113 = .ok (.istore_n 3, 1) := by decide +kernel
theorem dX8_first_114 : decode cX8_first 114 = .ok (.iinc 4 (-1), 3) := by decide +kernel
theorem dX8_first_117 : decode cX8_first 117 = .ok (.goto (-107), 3) := by decide +kernel
theorem dX8_first_120 : decode cX8_first 120 = .ok (.iload_n 3, 1) := by decide +kernel
theorem dX8_first_121 : decode cX8_first 121 = .ok (.ireturn, 1) := by decide +kernel
theorem dX8_before_0 : decode cX8_before 0 = .ok (.iload_n 3, 1) := by decide +kernel
theorem dX8_before_1 : decode cX8_before 1 = .ok (.ifCond .eq 24, 3) := by decide +kernel
theorem dX8_before_4 : decode cX8_before 4 = .ok (.aload_n 0, 1) := by decide +kernel
theorem dX8_before_5 : decode cX8_before 5 = .ok (.getfield 99, 3) := by decide +kernel
theorem dX8_before_8 : decode cX8_before 8 = .ok (.iload_n 1, 1) := by decide +kernel
theorem dX8_before_9 : decode cX8_before 9 = .ok (.iaload, 1) := by decide +kernel
theorem dX8_before_10 : decode cX8_before 10 = .ok (.aload_n 0, 1) := by decide +kernel
theorem dX8_before_11 : decode cX8_before 11 = .ok (.getfield 99, 3) := by decide +kernel
theorem dX8_before_14 : decode cX8_before 14 = .ok (.iload_n 2, 1) := by decide +kernel
theorem dX8_before_15 : decode cX8_before 15 = .ok (.iaload, 1) := by decide +kernel
theorem dX8_before_16 : decode cX8_before 16 = .ok (.if_icmp .ge 7, 3) := by decide +kernel
theorem dX8_before_19 : decode cX8_before 19 = .ok (.iconst 1, 1) := by decide +kernel
theorem dX8_before_20 : decode cX8_before 20 = .ok (.goto 4, 3) := by decide +kernel
theorem dX8_before_23 : decode cX8_before 23 = .ok (.iconst 0, 1) := by decide +kernel
theorem dX8_before_24 : decode cX8_before 24 = .ok (.ireturn, 1) := by decide +kernel
theorem dX8_before_25 : decode cX8_before 25 = .ok (.aload_n 0, 1) := by decide +kernel
theorem dX8_before_26 : decode cX8_before 26 = .ok (.getfield 90, 3) := by decide +kernel
theorem dX8_before_29 : decode cX8_before 29 = .ok (.iload_n 1, 1) := by decide +kernel
theorem dX8_before_30 : decode cX8_before 30 = .ok (.iaload, 1) := by decide +kernel
theorem dX8_before_31 : decode cX8_before 31 = .ok (.aload_n 0, 1) := by decide +kernel
theorem dX8_before_32 : decode cX8_before 32 = .ok (.getfield 90, 3) := by decide +kernel
theorem dX8_before_35 : decode cX8_before 35 = .ok (.iload_n 2, 1) := by decide +kernel
theorem dX8_before_36 : decode cX8_before 36 = .ok (.iaload, 1) := by decide +kernel
theorem dX8_before_37 : decode cX8_before 37 = .ok (.if_icmp .eq 26, 3) := by decide +kernel
theorem dX8_before_40 : decode cX8_before 40 = .ok (.aload_n 0, 1) := by decide +kernel
theorem dX8_before_41 : decode cX8_before 41 = .ok (.getfield 90, 3) := by decide +kernel
theorem dX8_before_44 : decode cX8_before 44 = .ok (.iload_n 1, 1) := by decide +kernel
theorem dX8_before_45 : decode cX8_before 45 = .ok (.iaload, 1) := by decide +kernel
theorem dX8_before_46 : decode cX8_before 46 = .ok (.aload_n 0, 1) := by decide +kernel
theorem dX8_before_47 : decode cX8_before 47 = .ok (.getfield 90, 3) := by decide +kernel
theorem dX8_before_50 : decode cX8_before 50 = .ok (.iload_n 2, 1) := by decide +kernel
theorem dX8_before_51 : decode cX8_before 51 = .ok (.iaload, 1) := by decide +kernel
theorem dX8_before_52 : decode cX8_before 52 = .ok (.if_icmp .ge 7, 3) := by decide +kernel
theorem dX8_before_55 : decode cX8_before 55 = .ok (.iconst 1, 1) := by decide +kernel
theorem dX8_before_56 : decode cX8_before 56 = .ok (.goto 27, 3) := by decide +kernel
theorem dX8_before_59 : decode cX8_before 59 = .ok (.iconst 0, 1) := by decide +kernel
theorem dX8_before_60 : decode cX8_before 60 = .ok (.goto 23, 3) := by decide +kernel
theorem dX8_before_63 : decode cX8_before 63 = .ok (.aload_n 0, 1) := by decide +kernel
theorem dX8_before_64 : decode cX8_before 64 = .ok (.getfield 75, 3) := by decide +kernel
theorem dX8_before_67 : decode cX8_before 67 = .ok (.iload_n 1, 1) := by decide +kernel
theorem dX8_before_68 : decode cX8_before 68 = .ok (.iaload, 1) := by decide +kernel
theorem dX8_before_69 : decode cX8_before 69 = .ok (.aload_n 0, 1) := by decide +kernel
theorem dX8_before_70 : decode cX8_before 70 = .ok (.getfield 75, 3) := by decide +kernel
theorem dX8_before_73 : decode cX8_before 73 = .ok (.iload_n 2, 1) := by decide +kernel
theorem dX8_before_74 : decode cX8_before 74 = .ok (.iaload, 1) := by decide +kernel
theorem dX8_before_75 : decode cX8_before 75 = .ok (.if_icmp .gt 7, 3) := by decide +kernel
theorem dX8_before_78 : decode cX8_before 78 = .ok (.iconst 1, 1) := by decide +kernel
theorem dX8_before_79 : decode cX8_before 79 = .ok (.goto 4, 3) := by decide +kernel
theorem dX8_before_82 : decode cX8_before 82 = .ok (.iconst 0, 1) := by decide +kernel
theorem dX8_before_83 : decode cX8_before 83 = .ok (.ireturn, 1) := by decide +kernel
set_option maxRecDepth 20000 in
theorem ggX8_window_X8_within : GoodIn wsX8_window wsX8_within := goodIn_r _ [6] (by decide +kernel) (by decide +kernel)
set_option maxRecDepth 20000 in
theorem gX8_window_X8_within : GoodIn wsX8_window (va_wsS RX8 123 yX8_within wsX8_within) := goodIn_app (goodIn_of _ (by decide +kernel)) ggX8_window_X8_within
set_option maxRecDepth 20000 in
theorem ggX8_window_X8_allDone : GoodIn wsX8_window wsX8_allDone := goodIn_r _ [10, 2, 11, 36, 37, 38, 39, 40, 41, 42, 43, 44, 45, 46, 47, 48, 49, 50, 51, 52, 53, 54, 55, 56, 57, 58, 59, 60, 61, 62, 63, 64, 65, 66, 67, 68, 69, 70, 71, 72, 73, 74, 75, 76, 77, 78, 79, 80, 81] (by decide +kernel) (by decide +kernel)
set_option maxRecDepth 20000 in
theorem gX8_window_X8_allDone : GoodIn wsX8_window (wsV RX8 212 RX8 yX8_allDone wsX8_allDone) := goodIn_app (goodIn_of _ (by decide +kernel)) ggX8_window_X8_allDone
set_option maxRecDepth 20000 in
theorem ggX8_window_X8_first : GoodIn wsX8_window wsX8_first := goodIn_r _ [15, 16, 17, 18, 19, 20, 21, 22, 23, 24, 5, 25, 26, 36, 37, 38, 39, 40, 41, 42, 43, 44, 45, 46, 47, 48, 49, 50, 51, 52, 53, 54, 55, 56, 57, 58, 59, 60, 61, 62, 63, 64, 65, 66, 67, 68, 69, 70, 71, 72, 73, 74, 75, 76, 77, 78, 79, 80, 81] (by decide +kernel) (by decide +kernel)
set_option maxRecDepth 20000 in
theorem gX8_window_X8_first : GoodIn wsX8_window (wsV RX8 216 RX8 yX8_first wsX8_first) := goodIn_app (goodIn_of _ (by decide +kernel)) ggX8_window_X8_first
set_option maxRecDepth 20000 in
theorem ggX8_window_X8_take : GoodIn wsX8_window wsX8_take := goodIn_r _ [30, 2, 31, 32, 11, 17, 33, 34, 35, 18, 19, 36, 37, 38, 39, 40, 41, 42, 43, 44, 45, 46, 47, 48, 49, 50, 51, 52, 53, 54, 55, 56, 57, 58, 59, 60, 61, 62, 63, 64, 65, 66, 67, 68, 69, 70, 71, 72, 73, 74, 75, 76, 77, 78, 79, 80, 81] (by decide +kernel) (by decide +kernel)
set_option maxRecDepth 20000 in
theorem gX8_window_X8_take : GoodIn wsX8_window (wsV RX8 220 RX8 yX8_take wsX8_take) := goodIn_app (goodIn_of _ (by decide +kernel)) ggX8_window_X8_take
theorem dX8_window_0 : decode cX8_window 0 = .ok (.iload_n 1, 1) := by decide +kernel
theorem dX8_window_1 : decode cX8_window 1 = .ok (.aload_n 0, 1) := by decide +kernel
theorem dX8_window_2 : decode cX8_window 2 = .ok (.getfield 119, 3) := by decide +kernel
theorem dX8_window_5 : decode cX8_window 5 = .ok (.invokestatic 123, 3) := by decide +kernel
theorem dX8_window_8 : decode cX8_window 8 = .ok (.ifCond .ne 5, 3) := by decide +kernel
theorem dX8_window_11 : decode cX8_window 11 = .ok (.iconst (-1), 1) := by decide +kernel
theorem dX8_window_12 : decode cX8_window 12 = .ok (.ireturn, 1) := by decide +kernel
theorem dX8_window_13 : decode cX8_window 13 = .ok (.aload_n 0, 1) := by decide +kernel
theorem dX8_window_14 : decode cX8_window 14 = .ok (.iload_n 1, 1) := by decide +kernel
theorem dX8_window_15 : decode cX8_window 15 = .ok (.invokevirtual 212, 3) := by decide +kernel
theorem dX8_window_18 : decode cX8_window 18 = .ok (.ifCond .ne 6, 3) := by decide +kernel
theorem dX8_window_21 : decode cX8_window 21 = .ok (.bipush (-4), 2) := by decide +kernel
theorem dX8_window_23 : decode cX8_window 23 = .ok (.ireturn, 1) := by decide +kernel
theorem dX8_window_24 : decode cX8_window 24 = .ok (.aload_n 0, 1) := by decide +kernel
theorem dX8_window_25 : decode cX8_window 25 = .ok (.getfield 102, 3) := by decide +kernel
theorem dX8_window_28 : decode cX8_window 28 = .ok (.iload_n 1, 1) := by decide +kernel
theorem dX8_window_29 : decode cX8_window 29 = .ok (.iconst 0, 1) := by decide +kernel
theorem dX8_window_30 : decode cX8_window 30 = .ok (.iastore, 1) := by decide +kernel
theorem dX8_window_31 : decode cX8_window 31 = .ok (.iconst 0, 1) := by decide +kernel
theorem dX8_window_32 : decode cX8_window 32 = .ok (.istore_n 2, 1) := by decide +kernel
theorem dX8_window_33 : decode cX8_window 33 = .ok (.iload_n 2, 1) := by decide +kernel
theorem dX8_window_34 : decode cX8_window 34 = .ok (.iconst 2, 1) := by decide +kernel
theorem dX8_window_35 : decode cX8_window 35 = .ok (.if_icmp .ge 51, 3) := by decide +kernel
theorem dX8_window_38 : decode cX8_window 38 = .ok (.iload_n 2, 1) := by decide +kernel
theorem dX8_window_39 : decode cX8_window 39 = .ok (.ifCond .ne 7, 3) := by decide +kernel
theorem dX8_window_42 : decode cX8_window 42 = .ok (.iconst 1, 1) := by decide +kernel
theorem dX8_window_43 : decode cX8_window 43 = .ok (.goto 4, 3) := by decide +kernel
theorem dX8_window_46 : decode cX8_window 46 = .ok (.iconst 0, 1) := by decide +kernel
theorem dX8_window_47 : decode cX8_window 47 = .ok (.istore_n 3, 1) := by decide +kernel
theorem dX8_window_48 : decode cX8_window 48 = .ok (.aload_n 0, 1) := by decide +kernel
theorem dX8_window_49 : decode cX8_window 49 = .ok (.iload_n 1, 1) := by decide +kernel
theorem dX8_window_50 : decode cX8_window 50 = .ok (.iload_n 3, 1) := by decide +kernel
theorem dX8_window_51 : decode cX8_window 51 = .ok (.invokevirtual 216, 3) := by decide +kernel
theorem dX8_window_54 : decode cX8_window 54 = .ok (.istore 4, 2) := by decide +kernel
theorem dX8_window_56 : decode cX8_window 56 = .ok (.iload 4, 2) := by decide +kernel
theorem dX8_window_58 : decode cX8_window 58 = .ok (.ifCond .lt 22, 3) := by decide +kernel
theorem dX8_window_61 : decode cX8_window 61 = .ok (.aload_n 0, 1) := by decide +kernel
theorem dX8_window_62 : decode cX8_window 62 = .ok (.iload_n 1, 1) := by decide +kernel
theorem dX8_window_63 : decode cX8_window 63 = .ok (.iload 4, 2) := by decide +kernel
theorem dX8_window_65 : decode cX8_window 65 = .ok (.iload_n 3, 1) := by decide +kernel
theorem dX8_window_66 : decode cX8_window 66 = .ok (.invokevirtual 220, 3) := by decide +kernel
theorem dX8_window_69 : decode cX8_window 69 = .ok (.aload_n 0, 1) := by decide +kernel
theorem dX8_window_70 : decode cX8_window 70 = .ok (.iload_n 1, 1) := by decide +kernel
theorem dX8_window_71 : decode cX8_window 71 = .ok (.iload_n 3, 1) := by decide +kernel
theorem dX8_window_72 : decode cX8_window 72 = .ok (.invokevirtual 216, 3) := by decide +kernel
theorem dX8_window_75 : decode cX8_window 75 = .ok (.istore 4, 2) := by decide +kernel
theorem dX8_window_77 : decode cX8_window 77 = .ok (.goto (-21), 3) := by decide +kernel
theorem dX8_window_80 : decode cX8_window 80 = .ok (.iinc 2 1, 3) := by decide +kernel
theorem dX8_window_83 : decode cX8_window 83 = .ok (.goto (-50), 3) := by decide +kernel
theorem dX8_window_86 : decode cX8_window 86 = .ok (.aload_n 0, 1) := by decide +kernel
theorem dX8_window_87 : decode cX8_window 87 = .ok (.getfield 102, 3) := by decide +kernel
theorem dX8_window_90 : decode cX8_window 90 = .ok (.iload_n 1, 1) := by decide +kernel
theorem dX8_window_91 : decode cX8_window 91 = .ok (.iaload, 1) := by decide +kernel
theorem dX8_window_92 : decode cX8_window 92 = .ok (.ireturn, 1) := by decide +kernel
set_option maxRecDepth 20000 in
theorem ggX8_backFault_X8_right : GoodIn wsX8_backFault wsX8_right := goodIn_r _ [10] (by decide +kernel) (by decide +kernel)
set_option maxRecDepth 20000 in
theorem gX8_backFault_X8_right : GoodIn wsX8_backFault (va_wsS RX8 127 yX8_right wsX8_right) := goodIn_app (goodIn_of _ (by decide +kernel)) ggX8_backFault_X8_right
set_option maxRecDepth 20000 in
theorem ggX8_backFault_X8_accountOf : GoodIn wsX8_backFault wsX8_accountOf := goodIn_r _ [14, 15, 16, 17, 18, 19, 20, 21, 22, 23, 24, 25, 26, 27, 28, 29, 30, 31, 32, 33, 34, 35, 36, 37, 38, 39, 40, 41, 42, 43, 44, 45, 46, 47, 48, 49, 50, 51, 52, 53, 54, 55, 56, 57, 58, 59, 60, 61, 62, 63] (by decide +kernel) (by decide +kernel)
set_option maxRecDepth 20000 in
theorem gX8_backFault_X8_accountOf : GoodIn wsX8_backFault (wsV RX8 139 RX8 yX8_accountOf wsX8_accountOf) := goodIn_app (goodIn_of _ (by decide +kernel)) ggX8_backFault_X8_accountOf
theorem dX8_backFault_0 : decode cX8_backFault 0 = .ok (.aload_n 0, 1) := by decide +kernel
theorem dX8_backFault_1 : decode cX8_backFault 1 = .ok (.getfield 81, 3) := by decide +kernel
theorem dX8_backFault_4 : decode cX8_backFault 4 = .ok (.iload_n 1, 1) := by decide +kernel
theorem dX8_backFault_5 : decode cX8_backFault 5 = .ok (.iaload, 1) := by decide +kernel
theorem dX8_backFault_6 : decode cX8_backFault 6 = .ok (.bipush 6, 2) := by decide +kernel
theorem dX8_backFault_8 : decode cX8_backFault 8 = .ok (.invokestatic 127, 3) := by decide +kernel
theorem dX8_backFault_11 : decode cX8_backFault 11 = .ok (.ifCond .ne 5, 3) := by decide +kernel
theorem dX8_backFault_14 : decode cX8_backFault 14 = .ok (.iconst 4, 1) := by decide +kernel
theorem dX8_backFault_15 : decode cX8_backFault 15 = .ok (.ireturn, 1) := by decide +kernel
theorem dX8_backFault_16 : decode cX8_backFault 16 = .ok (.aload_n 0, 1) := by decide +kernel
theorem dX8_backFault_17 : decode cX8_backFault 17 = .ok (.aload_n 0, 1) := by decide +kernel
theorem dX8_backFault_18 : decode cX8_backFault 18 = .ok (.getfield 78, 3) := by decide +kernel
theorem dX8_backFault_21 : decode cX8_backFault 21 = .ok (.iload_n 1, 1) := by decide +kernel
theorem dX8_backFault_22 : decode cX8_backFault 22 = .ok (.iaload, 1) := by decide +kernel
theorem dX8_backFault_23 : decode cX8_backFault 23 = .ok (.aload_n 0, 1) := by decide +kernel
theorem dX8_backFault_24 : decode cX8_backFault 24 = .ok (.getfield 81, 3) := by decide +kernel
theorem dX8_backFault_27 : decode cX8_backFault 27 = .ok (.iload_n 1, 1) := by decide +kernel
theorem dX8_backFault_28 : decode cX8_backFault 28 = .ok (.iaload, 1) := by decide +kernel
theorem dX8_backFault_29 : decode cX8_backFault 29 = .ok (.invokevirtual 139, 3) := by decide +kernel
theorem dX8_backFault_32 : decode cX8_backFault 32 = .ok (.istore_n 2, 1) := by decide +kernel
theorem dX8_backFault_33 : decode cX8_backFault 33 = .ok (.iload_n 2, 1) := by decide +kernel
theorem dX8_backFault_34 : decode cX8_backFault 34 = .ok (.ifCond .ge 5, 3) := by decide +kernel
theorem dX8_backFault_37 : decode cX8_backFault 37 = .ok (.iconst 3, 1) := by decide +kernel
theorem dX8_backFault_38 : decode cX8_backFault 38 = .ok (.ireturn, 1) := by decide +kernel
theorem dX8_backFault_39 : decode cX8_backFault 39 = .ok (.aload_n 0, 1) := by decide +kernel
theorem dX8_backFault_40 : decode cX8_backFault 40 = .ok (.getfield 26, 3) := by decide +kernel
theorem dX8_backFault_43 : decode cX8_backFault 43 = .ok (.iload_n 2, 1) := by decide +kernel
theorem dX8_backFault_44 : decode cX8_backFault 44 = .ok (.baload, 1) := by decide +kernel
theorem dX8_backFault_45 : decode cX8_backFault 45 = .ok (.ifCond .eq 7, 3) := by decide +kernel
theorem dX8_backFault_48 : decode cX8_backFault 48 = .ok (.iconst 2, 1) := by decide +kernel
theorem dX8_backFault_49 : decode cX8_backFault 49 = .ok (.goto 36, 3) := by decide +kernel
theorem dX8_backFault_52 : decode cX8_backFault 52 = .ok (.aload_n 0, 1) := by decide +kernel
theorem dX8_backFault_53 : decode cX8_backFault 53 = .ok (.getfield 72, 3) := by decide +kernel
theorem dX8_backFault_56 : decode cX8_backFault 56 = .ok (.iload_n 1, 1) := by decide +kernel
theorem dX8_backFault_57 : decode cX8_backFault 57 = .ok (.iaload, 1) := by decide +kernel
theorem dX8_backFault_58 : decode cX8_backFault 58 = .ok (.bipush 7, 2) := by decide +kernel
theorem dX8_backFault_60 : decode cX8_backFault 60 = .ok (.if_icmp .ne 24, 3) := by decide +kernel
theorem dX8_backFault_63 : decode cX8_backFault 63 = .ok (.aload_n 0, 1) := by decide +kernel
end
section
theorem dX8_backFault_64 : decode cX8_backFault 64 = .ok (.getfield 23, 3) := by decide +kernel
theorem dX8_backFault_67 : decode cX8_backFault 67 = .ok (.iload_n 2, 1) := by decide +kernel
theorem dX8_backFault_68 : decode cX8_backFault 68 = .ok (.laload, 1) := by decide +kernel
theorem dX8_backFault_69 : decode cX8_backFault 69 = .ok (.aload_n 0, 1) := by decide +kernel
theorem dX8_backFault_70 : decode cX8_backFault 70 = .ok (.getfield 84, 3) := by decide +kernel
theorem dX8_backFault_73 : decode cX8_backFault 73 = .ok (.iload_n 1, 1) := by decide +kernel
theorem dX8_backFault_74 : decode cX8_backFault 74 = .ok (.iaload, 1) := by decide +kernel
theorem dX8_backFault_75 : decode cX8_backFault 75 = .ok (.i2l, 1) := by decide +kernel
theorem dX8_backFault_76 : decode cX8_backFault 76 = .ok (.lcmp, 1) := by decide +kernel
theorem dX8_backFault_77 : decode cX8_backFault 77 = .ok (.ifCond .ge 7, 3) := by decide +kernel
theorem dX8_backFault_80 : decode cX8_backFault 80 = .ok (.iconst 1, 1) := by decide +kernel
theorem dX8_backFault_81 : decode cX8_backFault 81 = .ok (.goto 4, 3) := by decide +kernel
theorem dX8_backFault_84 : decode cX8_backFault 84 = .ok (.iconst 0, 1) := by decide +kernel
theorem dX8_backFault_85 : decode cX8_backFault 85 = .ok (.ireturn, 1) := by decide +kernel
set_option maxRecDepth 20000 in
theorem ggX8_does_X8_backFault : GoodIn wsX8_does wsX8_backFault := goodIn_r _ [18, 10, 9, 19, 12, 11, 13, 20, 21, 17, 22, 23, 24, 25, 26, 27, 28, 29, 30, 31, 32, 33, 34, 35, 36, 37, 38, 39, 40, 41, 42, 43, 44, 45, 46, 47, 48, 49, 50, 51, 52, 53, 54, 55, 56, 57, 58, 59, 60, 61, 62, 63, 64, 65, 66, 67, 68, 69, 70, 71, 72, 73, 74, 75] (by decide +kernel) (by decide +kernel)
set_option maxRecDepth 20000 in
theorem gX8_does_X8_backFault : GoodIn wsX8_does (wsV RX8 224 RX8 yX8_backFault wsX8_backFault) := goodIn_app (goodIn_of _ (by decide +kernel)) ggX8_does_X8_backFault
set_option maxRecDepth 20000 in
theorem ggX8_does_X8_accountOf : GoodIn wsX8_does wsX8_accountOf := goodIn_r _ [26, 27, 28, 29, 30, 31, 32, 33, 34, 35, 36, 37, 38, 39, 40, 41, 42, 43, 44, 45, 46, 47, 48, 49, 50, 51, 52, 53, 54, 55, 56, 57, 58, 59, 60, 61, 62, 63, 64, 65, 66, 67, 68, 69, 70, 71, 72, 73, 74, 75] (by decide +kernel) (by decide +kernel)
set_option maxRecDepth 20000 in
theorem gX8_does_X8_accountOf : GoodIn wsX8_does (wsV RX8 139 RX8 yX8_accountOf wsX8_accountOf) := goodIn_app (goodIn_of _ (by decide +kernel)) ggX8_does_X8_accountOf
theorem dX8_does_0 : decode cX8_does 0 = .ok (.aload_n 0, 1) := by decide +kernel
theorem dX8_does_1 : decode cX8_does 1 = .ok (.getfield 105, 3) := by decide +kernel
theorem dX8_does_4 : decode cX8_does 4 = .ok (.iload_n 1, 1) := by decide +kernel
theorem dX8_does_5 : decode cX8_does 5 = .ok (.iaload, 1) := by decide +kernel
theorem dX8_does_6 : decode cX8_does 6 = .ok (.istore_n 2, 1) := by decide +kernel
theorem dX8_does_7 : decode cX8_does 7 = .ok (.aload_n 0, 1) := by decide +kernel
theorem dX8_does_8 : decode cX8_does 8 = .ok (.getfield 111, 3) := by decide +kernel
theorem dX8_does_11 : decode cX8_does 11 = .ok (.iload_n 1, 1) := by decide +kernel
theorem dX8_does_12 : decode cX8_does 12 = .ok (.iconst 1, 1) := by decide +kernel
theorem dX8_does_13 : decode cX8_does 13 = .ok (.iastore, 1) := by decide +kernel
theorem dX8_does_14 : decode cX8_does 14 = .ok (.aload_n 0, 1) := by decide +kernel
theorem dX8_does_15 : decode cX8_does 15 = .ok (.getfield 108, 3) := by decide +kernel
theorem dX8_does_18 : decode cX8_does 18 = .ok (.iload_n 1, 1) := by decide +kernel
theorem dX8_does_19 : decode cX8_does 19 = .ok (.baload, 1) := by decide +kernel
theorem dX8_does_20 : decode cX8_does 20 = .ok (.ifCond .eq 5, 3) := by decide +kernel
theorem dX8_does_23 : decode cX8_does 23 = .ok (.iconst 0, 1) := by decide +kernel
theorem dX8_does_24 : decode cX8_does 24 = .ok (.ireturn, 1) := by decide +kernel
theorem dX8_does_25 : decode cX8_does 25 = .ok (.aload_n 0, 1) := by decide +kernel
theorem dX8_does_26 : decode cX8_does 26 = .ok (.iload_n 2, 1) := by decide +kernel
theorem dX8_does_27 : decode cX8_does 27 = .ok (.invokevirtual 224, 3) := by decide +kernel
theorem dX8_does_30 : decode cX8_does 30 = .ok (.istore_n 3, 1) := by decide +kernel
theorem dX8_does_31 : decode cX8_does 31 = .ok (.iload_n 3, 1) := by decide +kernel
theorem dX8_does_32 : decode cX8_does 32 = .ok (.ifCond .le 56, 3) := by decide +kernel
theorem dX8_does_35 : decode cX8_does 35 = .ok (.aload_n 0, 1) := by decide +kernel
theorem dX8_does_36 : decode cX8_does 36 = .ok (.getfield 111, 3) := by decide +kernel
theorem dX8_does_39 : decode cX8_does 39 = .ok (.iload_n 1, 1) := by decide +kernel
theorem dX8_does_40 : decode cX8_does 40 = .ok (.iconst 2, 1) := by decide +kernel
theorem dX8_does_41 : decode cX8_does 41 = .ok (.iastore, 1) := by decide +kernel
theorem dX8_does_42 : decode cX8_does 42 = .ok (.aload_n 0, 1) := by decide +kernel
theorem dX8_does_43 : decode cX8_does 43 = .ok (.getfield 114, 3) := by decide +kernel
theorem dX8_does_46 : decode cX8_does 46 = .ok (.iload_n 3, 1) := by decide +kernel
theorem dX8_does_47 : decode cX8_does 47 = .ok (.dup2, 1) := by decide +kernel
theorem dX8_does_48 : decode cX8_does 48 = .ok (.iaload, 1) := by decide +kernel
theorem dX8_does_49 : decode cX8_does 49 = .ok (.iconst 1, 1) := by decide +kernel
theorem dX8_does_50 : decode cX8_does 50 = .ok (.iadd, 1) := by decide +kernel
theorem dX8_does_51 : decode cX8_does 51 = .ok (.iastore, 1) := by decide +kernel
theorem dX8_does_52 : decode cX8_does 52 = .ok (.aload_n 0, 1) := by decide +kernel
theorem dX8_does_53 : decode cX8_does 53 = .ok (.getfield 96, 3) := by decide +kernel
theorem dX8_does_56 : decode cX8_does 56 = .ok (.iload_n 2, 1) := by decide +kernel
theorem dX8_does_57 : decode cX8_does 57 = .ok (.iload_n 3, 1) := by decide +kernel
theorem dX8_does_58 : decode cX8_does 58 = .ok (.iastore, 1) := by decide +kernel
theorem dX8_does_59 : decode cX8_does 59 = .ok (.aload_n 0, 1) := by decide +kernel
theorem dX8_does_60 : decode cX8_does 60 = .ok (.getfield 93, 3) := by decide +kernel
theorem dX8_does_63 : decode cX8_does 63 = .ok (.iload_n 2, 1) := by decide +kernel
theorem dX8_does_64 : decode cX8_does 64 = .ok (.iconst 2, 1) := by decide +kernel
theorem dX8_does_65 : decode cX8_does 65 = .ok (.iastore, 1) := by decide +kernel
theorem dX8_does_66 : decode cX8_does 66 = .ok (.aload_n 0, 1) := by decide +kernel
theorem dX8_does_67 : decode cX8_does 67 = .ok (.getfield 99, 3) := by decide +kernel
theorem dX8_does_70 : decode cX8_does 70 = .ok (.iload_n 2, 1) := by decide +kernel
theorem dX8_does_71 : decode cX8_does 71 = .ok (.aload_n 0, 1) := by decide +kernel
theorem dX8_does_72 : decode cX8_does 72 = .ok (.getfield 227, 3) := by decide +kernel
theorem dX8_does_75 : decode cX8_does 75 = .ok (.iastore, 1) := by decide +kernel
theorem dX8_does_76 : decode cX8_does 76 = .ok (.aload_n 0, 1) := by decide +kernel
theorem dX8_does_77 : decode cX8_does 77 = .ok (.dup, 1) := by decide +kernel
theorem dX8_does_78 : decode cX8_does 78 = .ok (.getfield 227, 3) := by decide +kernel
theorem dX8_does_81 : decode cX8_does 81 = .ok (.iconst 1, 1) := by decide +kernel
theorem dX8_does_82 : decode cX8_does 82 = .ok (.iadd, 1) := by decide +kernel
theorem dX8_does_83 : decode cX8_does 83 = .ok (.putfield 227, 3) := by decide +kernel
theorem dX8_does_86 : decode cX8_does 86 = .ok (.iconst 0, 1) := by decide +kernel
theorem dX8_does_87 : decode cX8_does 87 = .ok (.ireturn, 1) := by decide +kernel
theorem dX8_does_88 : decode cX8_does 88 = .ok (.aload_n 0, 1) := by decide +kernel
theorem dX8_does_89 : decode cX8_does 89 = .ok (.aload_n 0, 1) := by decide +kernel
theorem dX8_does_90 : decode cX8_does 90 = .ok (.getfield 78, 3) := by decide +kernel
theorem dX8_does_93 : decode cX8_does 93 = .ok (.iload_n 2, 1) := by decide +kernel
theorem dX8_does_94 : decode cX8_does 94 = .ok (.iaload, 1) := by decide +kernel
theorem dX8_does_95 : decode cX8_does 95 = .ok (.aload_n 0, 1) := by decide +kernel
theorem dX8_does_96 : decode cX8_does 96 = .ok (.getfield 81, 3) := by decide +kernel
theorem dX8_does_99 : decode cX8_does 99 = .ok (.iload_n 2, 1) := by decide +kernel
theorem dX8_does_100 : decode cX8_does 100 = .ok (.iaload, 1) := by decide +kernel
theorem dX8_does_101 : decode cX8_does 101 = .ok (.invokevirtual 139, 3) := by decide +kernel
theorem dX8_does_104 : decode cX8_does 104 = .ok (.istore 4, 2) := by decide +kernel
theorem dX8_does_106 : decode cX8_does 106 = .ok (.aload_n 0, 1) := by decide +kernel
theorem dX8_does_107 : decode cX8_does 107 = .ok (.getfield 23, 3) := by decide +kernel
theorem dX8_does_110 : decode cX8_does 110 = .ok (.iload 4, 2) := by decide +kernel
theorem dX8_does_112 : decode cX8_does 112 = .ok (.aload_n 0, 1) := by decide +kernel
theorem dX8_does_113 : decode cX8_does 113 = .ok (.getfield 72, 3) := by decide +kernel
theorem dX8_does_116 : decode cX8_does 116 = .ok (.iload_n 2, 1) := by decide +kernel
theorem dX8_does_117 : decode cX8_does 117 = .ok (.iaload, 1) := by decide +kernel
theorem dX8_does_118 : decode cX8_does 118 = .ok (.iconst 2, 1) := by decide +kernel
theorem dX8_does_119 : decode cX8_does 119 = .ok (.if_icmp .ne 21, 3) := by decide +kernel
theorem dX8_does_122 : decode cX8_does 122 = .ok (.aload_n 0, 1) := by decide +kernel
theorem dX8_does_123 : decode cX8_does 123 = .ok (.getfield 23, 3) := by decide +kernel
theorem dX8_does_126 : decode cX8_does 126 = .ok (.iload 4, 2) := by decide +kernel
theorem dX8_does_128 : decode cX8_does 128 = .ok (.laload, 1) := by decide +kernel
theorem dX8_does_129 : decode cX8_does 129 = .ok (.aload_n 0, 1) := by decide +kernel
theorem dX8_does_130 : decode cX8_does 130 = .ok (.getfield 84, 3) := by decide +kernel
theorem dX8_does_133 : decode cX8_does 133 = .ok (.iload_n 2, 1) := by decide +kernel
theorem dX8_does_134 : decode cX8_does 134 = .ok (.iaload, 1) := by decide +kernel
theorem dX8_does_135 : decode cX8_does 135 = .ok (.i2l, 1) := by decide +kernel
theorem dX8_does_136 : decode cX8_does 136 = .ok (.ladd, 1) := by decide +kernel
theorem dX8_does_137 : decode cX8_does 137 = .ok (.goto 18, 3) := by decide +kernel
theorem dX8_does_140 : decode cX8_does 140 = .ok (.aload_n 0, 1) := by decide +kernel
theorem dX8_does_141 : decode cX8_does 141 = .ok (.getfield 23, 3) := by decide +kernel
theorem dX8_does_144 : decode cX8_does 144 = .ok (.iload 4, 2) := by decide +kernel
theorem dX8_does_146 : decode cX8_does 146 = .ok (.laload, 1) := by decide +kernel
theorem dX8_does_147 : decode cX8_does 147 = .ok (.aload_n 0, 1) := by decide +kernel
theorem dX8_does_148 : decode cX8_does 148 = .ok (.getfield 84, 3) := by decide +kernel
theorem dX8_does_151 : decode cX8_does 151 = .ok (.iload_n 2, 1) := by decide +kernel
theorem dX8_does_152 : decode cX8_does 152 = .ok (.iaload, 1) := by decide +kernel
theorem dX8_does_153 : decode cX8_does 153 = .ok (.i2l, 1) := by decide +kernel
theorem dX8_does_154 : decode cX8_does 154 = .ok (.lsub, 1) := by decide +kernel
theorem dX8_does_155 : decode cX8_does 155 = .ok (.lastore, 1) := by decide +kernel
theorem dX8_does_156 : decode cX8_does 156 = .ok (.iconst 1, 1) := by decide +kernel
theorem dX8_does_157 : decode cX8_does 157 = .ok (.ireturn, 1) := by decide +kernel
set_option maxRecDepth 20000 in
theorem ggX8_post_X8_within : GoodIn wsX8_post wsX8_within := goodIn_r _ [7] (by decide +kernel) (by decide +kernel)
set_option maxRecDepth 20000 in
theorem gX8_post_X8_within : GoodIn wsX8_post (va_wsS RX8 123 yX8_within wsX8_within) := goodIn_app (goodIn_of _ (by decide +kernel)) ggX8_post_X8_within
set_option maxRecDepth 20000 in
theorem ggX8_post_X8_does : GoodIn wsX8_post wsX8_does := goodIn_r _ [11, 12, 3, 13, 14, 15, 16, 17, 18, 19, 20, 21, 22, 23, 24, 25, 26, 6, 27, 28, 29, 30, 31, 32, 33, 34, 35, 36, 37, 38, 39, 40, 41, 42, 43, 44, 45, 46, 47, 48, 49, 50, 51, 52, 53, 54, 55, 56, 57, 58, 59, 60, 61, 62, 63, 64, 65, 66, 67, 68, 69, 70, 71, 72, 73, 74, 75, 76, 77, 78, 79, 80, 81, 82, 83, 84] (by decide +kernel) (by decide +kernel)
set_option maxRecDepth 20000 in
theorem gX8_post_X8_does : GoodIn wsX8_post (wsV RX8 230 RX8 yX8_does wsX8_does) := goodIn_app (goodIn_of _ (by decide +kernel)) ggX8_post_X8_does
theorem dX8_post_0 : decode cX8_post 0 = .ok (.iload_n 1, 1) := by decide +kernel
theorem dX8_post_1 : decode cX8_post 1 = .ok (.aload_n 0, 1) := by decide +kernel
theorem dX8_post_2 : decode cX8_post 2 = .ok (.getfield 119, 3) := by decide +kernel
theorem dX8_post_5 : decode cX8_post 5 = .ok (.invokestatic 123, 3) := by decide +kernel
theorem dX8_post_8 : decode cX8_post 8 = .ok (.ifCond .eq 14, 3) := by decide +kernel
theorem dX8_post_11 : decode cX8_post 11 = .ok (.iload_n 2, 1) := by decide +kernel
theorem dX8_post_12 : decode cX8_post 12 = .ok (.iconst 1, 1) := by decide +kernel
theorem dX8_post_13 : decode cX8_post 13 = .ok (.if_icmp .lt 9, 3) := by decide +kernel
theorem dX8_post_16 : decode cX8_post 16 = .ok (.iload_n 2, 1) := by decide +kernel
theorem dX8_post_17 : decode cX8_post 17 = .ok (.bipush 40, 2) := by decide +kernel
theorem dX8_post_19 : decode cX8_post 19 = .ok (.if_icmp .le 5, 3) := by decide +kernel
theorem dX8_post_22 : decode cX8_post 22 = .ok (.iconst (-1), 1) := by decide +kernel
theorem dX8_post_23 : decode cX8_post 23 = .ok (.ireturn, 1) := by decide +kernel
theorem dX8_post_24 : decode cX8_post 24 = .ok (.iconst 0, 1) := by decide +kernel
theorem dX8_post_25 : decode cX8_post 25 = .ok (.istore_n 3, 1) := by decide +kernel
theorem dX8_post_26 : decode cX8_post 26 = .ok (.iload_n 2, 1) := by decide +kernel
theorem dX8_post_27 : decode cX8_post 27 = .ok (.istore 4, 2) := by decide +kernel
theorem dX8_post_29 : decode cX8_post 29 = .ok (.iconst 0, 1) := by decide +kernel
theorem dX8_post_30 : decode cX8_post 30 = .ok (.istore 5, 2) := by decide +kernel
theorem dX8_post_32 : decode cX8_post 32 = .ok (.iload 5, 2) := by decide +kernel
theorem dX8_post_34 : decode cX8_post 34 = .ok (.aload_n 0, 1) := by decide +kernel
theorem dX8_post_35 : decode cX8_post 35 = .ok (.getfield 102, 3) := by decide +kernel
theorem dX8_post_38 : decode cX8_post 38 = .ok (.iload_n 1, 1) := by decide +kernel
theorem dX8_post_39 : decode cX8_post 39 = .ok (.iaload, 1) := by decide +kernel
theorem dX8_post_40 : decode cX8_post 40 = .ok (.if_icmp .ge 48, 3) := by decide +kernel
theorem dX8_post_43 : decode cX8_post 43 = .ok (.iload 4, 2) := by decide +kernel
theorem dX8_post_45 : decode cX8_post 45 = .ok (.ifCond .le 43, 3) := by decide +kernel
theorem dX8_post_48 : decode cX8_post 48 = .ok (.aload_n 0, 1) := by decide +kernel
theorem dX8_post_49 : decode cX8_post 49 = .ok (.getfield 111, 3) := by decide +kernel
theorem dX8_post_52 : decode cX8_post 52 = .ok (.sipush 512, 3) := by decide +kernel
theorem dX8_post_55 : decode cX8_post 55 = .ok (.iload_n 1, 1) := by decide +kernel
theorem dX8_post_56 : decode cX8_post 56 = .ok (.imul, 1) := by decide +kernel
theorem dX8_post_57 : decode cX8_post 57 = .ok (.iload 5, 2) := by decide +kernel
theorem dX8_post_59 : decode cX8_post 59 = .ok (.iadd, 1) := by decide +kernel
theorem dX8_post_60 : decode cX8_post 60 = .ok (.iaload, 1) := by decide +kernel
theorem dX8_post_61 : decode cX8_post 61 = .ok (.ifCond .ne 21, 3) := by decide +kernel
theorem dX8_post_64 : decode cX8_post 64 = .ok (.iload_n 3, 1) := by decide +kernel
theorem dX8_post_65 : decode cX8_post 65 = .ok (.aload_n 0, 1) := by decide +kernel
theorem dX8_post_66 : decode cX8_post 66 = .ok (.sipush 512, 3) := by decide +kernel
theorem dX8_post_69 : decode cX8_post 69 = .ok (.iload_n 1, 1) := by decide +kernel
theorem dX8_post_70 : decode cX8_post 70 = .ok (.imul, 1) := by decide +kernel
theorem dX8_post_71 : decode cX8_post 71 = .ok (.iload 5, 2) := by decide +kernel
theorem dX8_post_73 : decode cX8_post 73 = .ok (.iadd, 1) := by decide +kernel
theorem dX8_post_74 : decode cX8_post 74 = .ok (.invokevirtual 230, 3) := by decide +kernel
theorem dX8_post_77 : decode cX8_post 77 = .ok (.iadd, 1) := by decide +kernel
theorem dX8_post_78 : decode cX8_post 78 = .ok (.istore_n 3, 1) := by decide +kernel
theorem dX8_post_79 : decode cX8_post 79 = .ok (.iinc 4 (-1), 3) := by decide +kernel
theorem dX8_post_82 : decode cX8_post 82 = .ok (.iinc 5 1, 3) := by decide +kernel
theorem dX8_post_85 : decode cX8_post 85 = .ok (.goto (-53), 3) := by decide +kernel
theorem dX8_post_88 : decode cX8_post 88 = .ok (.iload_n 3, 1) := by decide +kernel
theorem dX8_post_89 : decode cX8_post 89 = .ok (.ireturn, 1) := by decide +kernel
set_option maxRecDepth 20000 in
theorem ggX8_items_X8_within : GoodIn wsX8_items wsX8_within := goodIn_r _ [6] (by decide +kernel) (by decide +kernel)
set_option maxRecDepth 20000 in
theorem gX8_items_X8_within : GoodIn wsX8_items (va_wsS RX8 123 yX8_within wsX8_within) := goodIn_app (goodIn_of _ (by decide +kernel)) ggX8_items_X8_within
theorem dX8_items_0 : decode cX8_items 0 = .ok (.iload_n 1, 1) := by decide +kernel
theorem dX8_items_1 : decode cX8_items 1 = .ok (.aload_n 0, 1) := by decide +kernel
theorem dX8_items_2 : decode cX8_items 2 = .ok (.getfield 119, 3) := by decide +kernel
theorem dX8_items_5 : decode cX8_items 5 = .ok (.invokestatic 123, 3) := by decide +kernel
theorem dX8_items_8 : decode cX8_items 8 = .ok (.ifCond .eq 12, 3) := by decide +kernel
theorem dX8_items_11 : decode cX8_items 11 = .ok (.aload_n 0, 1) := by decide +kernel
theorem dX8_items_12 : decode cX8_items 12 = .ok (.getfield 102, 3) := by decide +kernel
theorem dX8_items_15 : decode cX8_items 15 = .ok (.iload_n 1, 1) := by decide +kernel
theorem dX8_items_16 : decode cX8_items 16 = .ok (.iaload, 1) := by decide +kernel
theorem dX8_items_17 : decode cX8_items 17 = .ok (.goto 4, 3) := by decide +kernel
theorem dX8_items_20 : decode cX8_items 20 = .ok (.iconst (-1), 1) := by decide +kernel
theorem dX8_items_21 : decode cX8_items 21 = .ok (.ireturn, 1) := by decide +kernel
set_option maxRecDepth 20000 in
theorem ggX8_item_X8_within : GoodIn wsX8_item wsX8_within := goodIn_r _ [16] (by decide +kernel) (by decide +kernel)
set_option maxRecDepth 20000 in
theorem gX8_item_X8_within : GoodIn wsX8_item (va_wsS RX8 123 yX8_within wsX8_within) := goodIn_app (goodIn_of _ (by decide +kernel)) ggX8_item_X8_within
theorem dX8_item_0 : decode cX8_item 0 = .ok (.iload_n 1, 1) := by decide +kernel
theorem dX8_item_1 : decode cX8_item 1 = .ok (.aload_n 0, 1) := by decide +kernel
theorem dX8_item_2 : decode cX8_item 2 = .ok (.getfield 119, 3) := by decide +kernel
theorem dX8_item_5 : decode cX8_item 5 = .ok (.invokestatic 123, 3) := by decide +kernel
theorem dX8_item_8 : decode cX8_item 8 = .ok (.ifCond .eq 25, 3) := by decide +kernel
theorem dX8_item_11 : decode cX8_item 11 = .ok (.iload_n 2, 1) := by decide +kernel
theorem dX8_item_12 : decode cX8_item 12 = .ok (.aload_n 0, 1) := by decide +kernel
theorem dX8_item_13 : decode cX8_item 13 = .ok (.getfield 102, 3) := by decide +kernel
theorem dX8_item_16 : decode cX8_item 16 = .ok (.iload_n 1, 1) := by decide +kernel
theorem dX8_item_17 : decode cX8_item 17 = .ok (.iaload, 1) := by decide +kernel
theorem dX8_item_18 : decode cX8_item 18 = .ok (.invokestatic 123, 3) := by decide +kernel
theorem dX8_item_21 : decode cX8_item 21 = .ok (.ifCond .eq 12, 3) := by decide +kernel
theorem dX8_item_24 : decode cX8_item 24 = .ok (.iload_n 3, 1) := by decide +kernel
theorem dX8_item_25 : decode cX8_item 25 = .ok (.bipush 7, 2) := by decide +kernel
theorem dX8_item_27 : decode cX8_item 27 = .ok (.invokestatic 123, 3) := by decide +kernel
theorem dX8_item_30 : decode cX8_item 30 = .ok (.ifCond .ne 5, 3) := by decide +kernel
theorem dX8_item_33 : decode cX8_item 33 = .ok (.iconst (-1), 1) := by decide +kernel
theorem dX8_item_34 : decode cX8_item 34 = .ok (.ireturn, 1) := by decide +kernel
theorem dX8_item_35 : decode cX8_item 35 = .ok (.sipush 512, 3) := by decide +kernel
theorem dX8_item_38 : decode cX8_item 38 = .ok (.iload_n 1, 1) := by decide +kernel
theorem dX8_item_39 : decode cX8_item 39 = .ok (.imul, 1) := by decide +kernel
theorem dX8_item_40 : decode cX8_item 40 = .ok (.iload_n 2, 1) := by decide +kernel
theorem dX8_item_41 : decode cX8_item 41 = .ok (.iadd, 1) := by decide +kernel
theorem dX8_item_42 : decode cX8_item 42 = .ok (.istore 4, 2) := by decide +kernel
theorem dX8_item_44 : decode cX8_item 44 = .ok (.aload_n 0, 1) := by decide +kernel
theorem dX8_item_45 : decode cX8_item 45 = .ok (.getfield 105, 3) := by decide +kernel
theorem dX8_item_48 : decode cX8_item 48 = .ok (.iload 4, 2) := by decide +kernel
theorem dX8_item_50 : decode cX8_item 50 = .ok (.iaload, 1) := by decide +kernel
theorem dX8_item_51 : decode cX8_item 51 = .ok (.istore 5, 2) := by decide +kernel
theorem dX8_item_53 : decode cX8_item 53 = .ok (.iload_n 3, 1) := by decide +kernel
theorem dX8_item_54 : decode cX8_item 54 = .ok (.tableswitch 120 0 5 #[38, 46, 74, 82, 90, 98], 38) := by decide +kernel
theorem dX8_item_92 : decode cX8_item 92 = .ok (.aload_n 0, 1) := by decide +kernel
theorem dX8_item_93 : decode cX8_item 93 = .ok (.getfield 72, 3) := by decide +kernel
theorem dX8_item_96 : decode cX8_item 96 = .ok (.iload 5, 2) := by decide +kernel
theorem dX8_item_98 : decode cX8_item 98 = .ok (.iaload, 1) := by decide +kernel
theorem dX8_item_99 : decode cX8_item 99 = .ok (.ireturn, 1) := by decide +kernel
theorem dX8_item_100 : decode cX8_item 100 = .ok (.aload_n 0, 1) := by decide +kernel
theorem dX8_item_101 : decode cX8_item 101 = .ok (.getfield 108, 3) := by decide +kernel
theorem dX8_item_104 : decode cX8_item 104 = .ok (.iload 4, 2) := by decide +kernel
theorem dX8_item_106 : decode cX8_item 106 = .ok (.baload, 1) := by decide +kernel
theorem dX8_item_107 : decode cX8_item 107 = .ok (.ifCond .eq 13, 3) := by decide +kernel
theorem dX8_item_110 : decode cX8_item 110 = .ok (.aload_n 0, 1) := by decide +kernel
theorem dX8_item_111 : decode cX8_item 111 = .ok (.getfield 78, 3) := by decide +kernel
theorem dX8_item_114 : decode cX8_item 114 = .ok (.iload 5, 2) := by decide +kernel
theorem dX8_item_116 : decode cX8_item 116 = .ok (.iaload, 1) := by decide +kernel
theorem dX8_item_117 : decode cX8_item 117 = .ok (.goto 10, 3) := by decide +kernel
theorem dX8_item_120 : decode cX8_item 120 = .ok (.aload_n 0, 1) := by decide +kernel
theorem dX8_item_121 : decode cX8_item 121 = .ok (.getfield 75, 3) := by decide +kernel
theorem dX8_item_124 : decode cX8_item 124 = .ok (.iload 5, 2) := by decide +kernel
theorem dX8_item_126 : decode cX8_item 126 = .ok (.iaload, 1) := by decide +kernel
theorem dX8_item_127 : decode cX8_item 127 = .ok (.ireturn, 1) := by decide +kernel
theorem dX8_item_128 : decode cX8_item 128 = .ok (.aload_n 0, 1) := by decide +kernel
theorem dX8_item_129 : decode cX8_item 129 = .ok (.getfield 81, 3) := by decide +kernel
theorem dX8_item_132 : decode cX8_item 132 = .ok (.iload 5, 2) := by decide +kernel
theorem dX8_item_134 : decode cX8_item 134 = .ok (.iaload, 1) := by decide +kernel
theorem dX8_item_135 : decode cX8_item 135 = .ok (.ireturn, 1) := by decide +kernel
theorem dX8_item_136 : decode cX8_item 136 = .ok (.aload_n 0, 1) := by decide +kernel
theorem dX8_item_137 : decode cX8_item 137 = .ok (.getfield 84, 3) := by decide +kernel
theorem dX8_item_140 : decode cX8_item 140 = .ok (.iload 5, 2) := by decide +kernel
theorem dX8_item_142 : decode cX8_item 142 = .ok (.iaload, 1) := by decide +kernel
theorem dX8_item_143 : decode cX8_item 143 = .ok (.ireturn, 1) := by decide +kernel
theorem dX8_item_144 : decode cX8_item 144 = .ok (.aload_n 0, 1) := by decide +kernel
theorem dX8_item_145 : decode cX8_item 145 = .ok (.getfield 87, 3) := by decide +kernel
theorem dX8_item_148 : decode cX8_item 148 = .ok (.iload 5, 2) := by decide +kernel
theorem dX8_item_150 : decode cX8_item 150 = .ok (.iaload, 1) := by decide +kernel
theorem dX8_item_151 : decode cX8_item 151 = .ok (.ireturn, 1) := by decide +kernel
theorem dX8_item_152 : decode cX8_item 152 = .ok (.aload_n 0, 1) := by decide +kernel
theorem dX8_item_153 : decode cX8_item 153 = .ok (.getfield 108, 3) := by decide +kernel
theorem dX8_item_156 : decode cX8_item 156 = .ok (.iload 4, 2) := by decide +kernel
theorem dX8_item_158 : decode cX8_item 158 = .ok (.baload, 1) := by decide +kernel
theorem dX8_item_159 : decode cX8_item 159 = .ok (.ifCond .eq 13, 3) := by decide +kernel
theorem dX8_item_162 : decode cX8_item 162 = .ok (.aload_n 0, 1) := by decide +kernel
theorem dX8_item_163 : decode cX8_item 163 = .ok (.getfield 96, 3) := by decide +kernel
theorem dX8_item_166 : decode cX8_item 166 = .ok (.iload 5, 2) := by decide +kernel
theorem dX8_item_168 : decode cX8_item 168 = .ok (.iaload, 1) := by decide +kernel
theorem dX8_item_169 : decode cX8_item 169 = .ok (.goto 4, 3) := by decide +kernel
theorem dX8_item_172 : decode cX8_item 172 = .ok (.iconst 0, 1) := by decide +kernel
theorem dX8_item_173 : decode cX8_item 173 = .ok (.ireturn, 1) := by decide +kernel
theorem dX8_item_174 : decode cX8_item 174 = .ok (.aload_n 0, 1) := by decide +kernel
theorem dX8_item_175 : decode cX8_item 175 = .ok (.getfield 111, 3) := by decide +kernel
theorem dX8_item_178 : decode cX8_item 178 = .ok (.iload 4, 2) := by decide +kernel
theorem dX8_item_180 : decode cX8_item 180 = .ok (.iaload, 1) := by decide +kernel
theorem dX8_item_181 : decode cX8_item 181 = .ok (.ireturn, 1) := by decide +kernel
set_option maxRecDepth 20000 in
theorem ggX8_control_X8_within : GoodIn wsX8_control wsX8_within := goodIn_r _ [12] (by decide +kernel) (by decide +kernel)
set_option maxRecDepth 20000 in
theorem gX8_control_X8_within : GoodIn wsX8_control (va_wsS RX8 123 yX8_within wsX8_within) := goodIn_app (goodIn_of _ (by decide +kernel)) ggX8_control_X8_within
theorem dX8_control_0 : decode cX8_control 0 = .ok (.iload_n 1, 1) := by decide +kernel
theorem dX8_control_1 : decode cX8_control 1 = .ok (.aload_n 0, 1) := by decide +kernel
theorem dX8_control_2 : decode cX8_control 2 = .ok (.getfield 119, 3) := by decide +kernel
theorem dX8_control_5 : decode cX8_control 5 = .ok (.invokestatic 123, 3) := by decide +kernel
theorem dX8_control_8 : decode cX8_control 8 = .ok (.ifCond .eq 11, 3) := by decide +kernel
theorem dX8_control_11 : decode cX8_control 11 = .ok (.iload_n 2, 1) := by decide +kernel
theorem dX8_control_12 : decode cX8_control 12 = .ok (.iconst 4, 1) := by decide +kernel
theorem dX8_control_13 : decode cX8_control 13 = .ok (.invokestatic 123, 3) := by decide +kernel
theorem dX8_control_16 : decode cX8_control 16 = .ok (.ifCond .ne 7, 3) := by decide +kernel
theorem dX8_control_19 : decode cX8_control 19 = .ok (.ldc2_w 233, 3) := by decide +kernel
theorem dX8_control_22 : decode cX8_control 22 = .ok (.lreturn, 1) := by decide +kernel
theorem dX8_control_23 : decode cX8_control 23 = .ok (.lconst 0, 1) := by decide +kernel
theorem dX8_control_24 : decode cX8_control 24 = .ok (.lstore_n 3, 1) := by decide +kernel
theorem dX8_control_25 : decode cX8_control 25 = .ok (.iconst 0, 1) := by decide +kernel
theorem dX8_control_26 : decode cX8_control 26 = .ok (.istore 5, 2) := by decide +kernel
theorem dX8_control_28 : decode cX8_control 28 = .ok (.iload 5, 2) := by decide +kernel
theorem dX8_control_30 : decode cX8_control 30 = .ok (.aload_n 0, 1) := by decide +kernel
theorem dX8_control_31 : decode cX8_control 31 = .ok (.getfield 102, 3) := by decide +kernel
theorem dX8_control_34 : decode cX8_control 34 = .ok (.iload_n 1, 1) := by decide +kernel
theorem dX8_control_35 : decode cX8_control 35 = .ok (.iaload, 1) := by decide +kernel
theorem dX8_control_36 : decode cX8_control 36 = .ok (.if_icmp .ge 101, 3) := by decide +kernel
theorem dX8_control_39 : decode cX8_control 39 = .ok (.aload_n 0, 1) := by decide +kernel
theorem dX8_control_40 : decode cX8_control 40 = .ok (.getfield 105, 3) := by decide +kernel
theorem dX8_control_43 : decode cX8_control 43 = .ok (.sipush 512, 3) := by decide +kernel
theorem dX8_control_46 : decode cX8_control 46 = .ok (.iload_n 1, 1) := by decide +kernel
theorem dX8_control_47 : decode cX8_control 47 = .ok (.imul, 1) := by decide +kernel
theorem dX8_control_48 : decode cX8_control 48 = .ok (.iload 5, 2) := by decide +kernel
theorem dX8_control_50 : decode cX8_control 50 = .ok (.iadd, 1) := by decide +kernel
theorem dX8_control_51 : decode cX8_control 51 = .ok (.iaload, 1) := by decide +kernel
theorem dX8_control_52 : decode cX8_control 52 = .ok (.istore 6, 2) := by decide +kernel
theorem dX8_control_54 : decode cX8_control 54 = .ok (.lload_n 3, 1) := by decide +kernel
theorem dX8_control_55 : decode cX8_control 55 = .ok (.iload_n 2, 1) := by decide +kernel
theorem dX8_control_56 : decode cX8_control 56 = .ok (.ifCond .ne 7, 3) := by decide +kernel
theorem dX8_control_59 : decode cX8_control 59 = .ok (.lconst 1, 1) := by decide +kernel
theorem dX8_control_60 : decode cX8_control 60 = .ok (.goto 69, 3) := by decide +kernel
theorem dX8_control_63 : decode cX8_control 63 = .ok (.iload_n 2, 1) := by decide +kernel
theorem dX8_control_64 : decode cX8_control 64 = .ok (.iconst 1, 1) := by decide +kernel
theorem dX8_control_65 : decode cX8_control 65 = .ok (.if_icmp .ne 19, 3) := by decide +kernel
theorem dX8_control_68 : decode cX8_control 68 = .ok (.aload_n 0, 1) := by decide +kernel
theorem dX8_control_69 : decode cX8_control 69 = .ok (.getfield 7, 3) := by decide +kernel
theorem dX8_control_72 : decode cX8_control 72 = .ok (.aload_n 0, 1) := by decide +kernel
theorem dX8_control_73 : decode cX8_control 73 = .ok (.getfield 78, 3) := by decide +kernel
theorem dX8_control_76 : decode cX8_control 76 = .ok (.iload 6, 2) := by decide +kernel
theorem dX8_control_78 : decode cX8_control 78 = .ok (.iaload, 1) := by decide +kernel
theorem dX8_control_79 : decode cX8_control 79 = .ok (.iaload, 1) := by decide +kernel
theorem dX8_control_80 : decode cX8_control 80 = .ok (.i2l, 1) := by decide +kernel
theorem dX8_control_81 : decode cX8_control 81 = .ok (.goto 48, 3) := by decide +kernel
theorem dX8_control_84 : decode cX8_control 84 = .ok (.iload_n 2, 1) := by decide +kernel
theorem dX8_control_85 : decode cX8_control 85 = .ok (.iconst 2, 1) := by decide +kernel
theorem dX8_control_86 : decode cX8_control 86 = .ok (.if_icmp .ne 15, 3) := by decide +kernel
theorem dX8_control_89 : decode cX8_control 89 = .ok (.aload_n 0, 1) := by decide +kernel
theorem dX8_control_90 : decode cX8_control 90 = .ok (.getfield 72, 3) := by decide +kernel
theorem dX8_control_93 : decode cX8_control 93 = .ok (.iload 6, 2) := by decide +kernel
theorem dX8_control_95 : decode cX8_control 95 = .ok (.iaload, 1) := by decide +kernel
theorem dX8_control_96 : decode cX8_control 96 = .ok (.bipush 7, 2) := by decide +kernel
theorem dX8_control_98 : decode cX8_control 98 = .ok (.if_icmp .eq 19, 3) := by decide +kernel
theorem dX8_control_101 : decode cX8_control 101 = .ok (.iload_n 2, 1) := by decide +kernel
theorem dX8_control_102 : decode cX8_control 102 = .ok (.iconst 3, 1) := by decide +kernel
theorem dX8_control_103 : decode cX8_control 103 = .ok (.if_icmp .ne 25, 3) := by decide +kernel
theorem dX8_control_106 : decode cX8_control 106 = .ok (.aload_n 0, 1) := by decide +kernel
theorem dX8_control_107 : decode cX8_control 107 = .ok (.getfield 72, 3) := by decide +kernel
theorem dX8_control_110 : decode cX8_control 110 = .ok (.iload 6, 2) := by decide +kernel
theorem dX8_control_112 : decode cX8_control 112 = .ok (.iaload, 1) := by decide +kernel
theorem dX8_control_113 : decode cX8_control 113 = .ok (.iconst 2, 1) := by decide +kernel
theorem dX8_control_114 : decode cX8_control 114 = .ok (.if_icmp .ne 14, 3) := by decide +kernel
theorem dX8_control_117 : decode cX8_control 117 = .ok (.aload_n 0, 1) := by decide +kernel
theorem dX8_control_118 : decode cX8_control 118 = .ok (.getfield 84, 3) := by decide +kernel
theorem dX8_control_121 : decode cX8_control 121 = .ok (.iload 6, 2) := by decide +kernel
theorem dX8_control_123 : decode cX8_control 123 = .ok (.iaload, 1) := by decide +kernel
theorem dX8_control_124 : decode cX8_control 124 = .ok (.i2l, 1) := by decide +kernel
theorem dX8_control_125 : decode cX8_control 125 = .ok (.goto 4, 3) := by decide +kernel
theorem dX8_control_128 : decode cX8_control 128 = .ok (.lconst 0, 1) := by decide +kernel
theorem dX8_control_129 : decode cX8_control 129 = .ok (.ladd, 1) := by decide +kernel
theorem dX8_control_130 : decode cX8_control 130 = .ok (.lstore_n 3, 1) := by decide +kernel
theorem dX8_control_131 : decode cX8_control 131 = .ok (.iinc 5 1, 3) := by decide +kernel
theorem dX8_control_134 : decode cX8_control 134 = .ok (.goto (-106), 3) := by decide +kernel
theorem dX8_control_137 : decode cX8_control 137 = .ok (.lload_n 3, 1) := by decide +kernel
theorem dX8_control_138 : decode cX8_control 138 = .ok (.lreturn, 1) := by decide +kernel
set_option maxRecDepth 20000 in
theorem ggX8_balance_X8_accountOf : GoodIn wsX8_balance wsX8_accountOf := goodIn_r _ [7, 8, 9, 10, 11, 12, 13, 14, 15, 16, 17, 18, 19, 20, 21, 22, 23, 24, 25, 26, 27, 28, 29, 30, 31, 32, 33, 34, 35, 36, 37, 38, 39, 40, 41, 42, 43, 44, 45, 46, 47, 48, 49, 50, 51, 52, 53, 54, 55, 56] (by decide +kernel) (by decide +kernel)
set_option maxRecDepth 20000 in
theorem gX8_balance_X8_accountOf : GoodIn wsX8_balance (wsV RX8 139 RX8 yX8_accountOf wsX8_accountOf) := goodIn_app (goodIn_of _ (by decide +kernel)) ggX8_balance_X8_accountOf
theorem dX8_balance_0 : decode cX8_balance 0 = .ok (.aload_n 0, 1) := by decide +kernel
theorem dX8_balance_1 : decode cX8_balance 1 = .ok (.iload_n 1, 1) := by decide +kernel
theorem dX8_balance_2 : decode cX8_balance 2 = .ok (.iload_n 2, 1) := by decide +kernel
theorem dX8_balance_3 : decode cX8_balance 3 = .ok (.invokevirtual 139, 3) := by decide +kernel
theorem dX8_balance_6 : decode cX8_balance 6 = .ok (.istore_n 3, 1) := by decide +kernel
theorem dX8_balance_7 : decode cX8_balance 7 = .ok (.iload_n 3, 1) := by decide +kernel
theorem dX8_balance_8 : decode cX8_balance 8 = .ok (.ifCond .ge 9, 3) := by decide +kernel
theorem dX8_balance_11 : decode cX8_balance 11 = .ok (.ldc2_w 233, 3) := by decide +kernel
theorem dX8_balance_14 : decode cX8_balance 14 = .ok (.goto 9, 3) := by decide +kernel
theorem dX8_balance_17 : decode cX8_balance 17 = .ok (.aload_n 0, 1) := by decide +kernel
theorem dX8_balance_18 : decode cX8_balance 18 = .ok (.getfield 23, 3) := by decide +kernel
theorem dX8_balance_21 : decode cX8_balance 21 = .ok (.iload_n 3, 1) := by decide +kernel
theorem dX8_balance_22 : decode cX8_balance 22 = .ok (.laload, 1) := by decide +kernel
theorem dX8_balance_23 : decode cX8_balance 23 = .ok (.lreturn, 1) := by decide +kernel
set_option maxRecDepth 20000 in
theorem ggX8_ledger_X8_within : GoodIn wsX8_ledger wsX8_within := goodIn_r _ [6] (by decide +kernel) (by decide +kernel)
set_option maxRecDepth 20000 in
theorem gX8_ledger_X8_within : GoodIn wsX8_ledger (va_wsS RX8 123 yX8_within wsX8_within) := goodIn_app (goodIn_of _ (by decide +kernel)) ggX8_ledger_X8_within
theorem dX8_ledger_0 : decode cX8_ledger 0 = .ok (.iload_n 1, 1) := by decide +kernel
theorem dX8_ledger_1 : decode cX8_ledger 1 = .ok (.aload_n 0, 1) := by decide +kernel
theorem dX8_ledger_2 : decode cX8_ledger 2 = .ok (.getfield 119, 3) := by decide +kernel
theorem dX8_ledger_5 : decode cX8_ledger 5 = .ok (.invokestatic 123, 3) := by decide +kernel
theorem dX8_ledger_8 : decode cX8_ledger 8 = .ok (.ifCond .eq 12, 3) := by decide +kernel
theorem dX8_ledger_11 : decode cX8_ledger 11 = .ok (.aload_n 0, 1) := by decide +kernel
theorem dX8_ledger_12 : decode cX8_ledger 12 = .ok (.getfield 13, 3) := by decide +kernel
theorem dX8_ledger_15 : decode cX8_ledger 15 = .ok (.iload_n 1, 1) := by decide +kernel
theorem dX8_ledger_16 : decode cX8_ledger 16 = .ok (.laload, 1) := by decide +kernel
theorem dX8_ledger_17 : decode cX8_ledger 17 = .ok (.goto 4, 3) := by decide +kernel
theorem dX8_ledger_20 : decode cX8_ledger 20 = .ok (.lconst 0, 1) := by decide +kernel
theorem dX8_ledger_21 : decode cX8_ledger 21 = .ok (.lreturn, 1) := by decide +kernel
theorem dX8_rejected_0 : decode cX8_rejected 0 = .ok (.iload_n 1, 1) := by decide +kernel
theorem dX8_rejected_1 : decode cX8_rejected 1 = .ok (.iconst 1, 1) := by decide +kernel
theorem dX8_rejected_2 : decode cX8_rejected 2 = .ok (.if_icmp .lt 8, 3) := by decide +kernel
theorem dX8_rejected_5 : decode cX8_rejected 5 = .ok (.iload_n 1, 1) := by decide +kernel
theorem dX8_rejected_6 : decode cX8_rejected 6 = .ok (.iconst 4, 1) := by decide +kernel
theorem dX8_rejected_7 : decode cX8_rejected 7 = .ok (.if_icmp .le 39, 3) := by decide +kernel
theorem dX8_rejected_10 : decode cX8_rejected 10 = .ok (.iload_n 1, 1) := by decide +kernel
theorem dX8_rejected_11 : decode cX8_rejected 11 = .ok (.bipush 10, 2) := by decide +kernel
theorem dX8_rejected_13 : decode cX8_rejected 13 = .ok (.if_icmp .lt 9, 3) := by decide +kernel
theorem dX8_rejected_16 : decode cX8_rejected 16 = .ok (.iload_n 1, 1) := by decide +kernel
theorem dX8_rejected_17 : decode cX8_rejected 17 = .ok (.bipush 13, 2) := by decide +kernel
theorem dX8_rejected_19 : decode cX8_rejected 19 = .ok (.if_icmp .le 27, 3) := by decide +kernel
theorem dX8_rejected_22 : decode cX8_rejected 22 = .ok (.iload_n 1, 1) := by decide +kernel
theorem dX8_rejected_23 : decode cX8_rejected 23 = .ok (.bipush 20, 2) := by decide +kernel
theorem dX8_rejected_25 : decode cX8_rejected 25 = .ok (.if_icmp .lt 9, 3) := by decide +kernel
theorem dX8_rejected_28 : decode cX8_rejected 28 = .ok (.iload_n 1, 1) := by decide +kernel
theorem dX8_rejected_29 : decode cX8_rejected 29 = .ok (.bipush 24, 2) := by decide +kernel
theorem dX8_rejected_31 : decode cX8_rejected 31 = .ok (.if_icmp .le 15, 3) := by decide +kernel
theorem dX8_rejected_34 : decode cX8_rejected 34 = .ok (.iload_n 1, 1) := by decide +kernel
theorem dX8_rejected_35 : decode cX8_rejected 35 = .ok (.bipush 30, 2) := by decide +kernel
theorem dX8_rejected_37 : decode cX8_rejected 37 = .ok (.if_icmp .lt 13, 3) := by decide +kernel
theorem dX8_rejected_40 : decode cX8_rejected 40 = .ok (.iload_n 1, 1) := by decide +kernel
theorem dX8_rejected_41 : decode cX8_rejected 41 = .ok (.bipush 33, 2) := by decide +kernel
theorem dX8_rejected_43 : decode cX8_rejected 43 = .ok (.if_icmp .gt 7, 3) := by decide +kernel
theorem dX8_rejected_46 : decode cX8_rejected 46 = .ok (.iconst 1, 1) := by decide +kernel
theorem dX8_rejected_47 : decode cX8_rejected 47 = .ok (.goto 4, 3) := by decide +kernel
theorem dX8_rejected_50 : decode cX8_rejected 50 = .ok (.iconst 0, 1) := by decide +kernel
theorem dX8_rejected_51 : decode cX8_rejected 51 = .ok (.istore_n 2, 1) := by decide +kernel
theorem dX8_rejected_52 : decode cX8_rejected 52 = .ok (.iload_n 2, 1) := by decide +kernel
theorem dX8_rejected_53 : decode cX8_rejected 53 = .ok (.ifCond .eq 12, 3) := by decide +kernel
theorem dX8_rejected_56 : decode cX8_rejected 56 = .ok (.aload_n 0, 1) := by decide +kernel
theorem dX8_rejected_57 : decode cX8_rejected 57 = .ok (.getfield 114, 3) := by decide +kernel
theorem dX8_rejected_60 : decode cX8_rejected 60 = .ok (.iload_n 1, 1) := by decide +kernel
theorem dX8_rejected_61 : decode cX8_rejected 61 = .ok (.iaload, 1) := by decide +kernel
theorem dX8_rejected_62 : decode cX8_rejected 62 = .ok (.goto 4, 3) := by decide +kernel
theorem dX8_rejected_65 : decode cX8_rejected 65 = .ok (.iconst 0, 1) := by decide +kernel
theorem dX8_rejected_66 : decode cX8_rejected 66 = .ok (.ireturn, 1) := by decide +kernel
set_option maxRecDepth 20000 in
theorem ggX8_waiting_X8_within : GoodIn wsX8_waiting wsX8_within := goodIn_r _ [9] (by decide +kernel) (by decide +kernel)
set_option maxRecDepth 20000 in
theorem gX8_waiting_X8_within : GoodIn wsX8_waiting (va_wsS RX8 123 yX8_within wsX8_within) := goodIn_app (goodIn_of _ (by decide +kernel)) ggX8_waiting_X8_within
theorem dX8_waiting_0 : decode cX8_waiting 0 = .ok (.iload_n 1, 1) := by decide +kernel
theorem dX8_waiting_1 : decode cX8_waiting 1 = .ok (.aload_n 0, 1) := by decide +kernel
theorem dX8_waiting_2 : decode cX8_waiting 2 = .ok (.getfield 119, 3) := by decide +kernel
theorem dX8_waiting_5 : decode cX8_waiting 5 = .ok (.invokestatic 123, 3) := by decide +kernel
theorem dX8_waiting_8 : decode cX8_waiting 8 = .ok (.ifCond .eq 11, 3) := by decide +kernel
theorem dX8_waiting_11 : decode cX8_waiting 11 = .ok (.iload_n 2, 1) := by decide +kernel
theorem dX8_waiting_12 : decode cX8_waiting 12 = .ok (.iconst 2, 1) := by decide +kernel
theorem dX8_waiting_13 : decode cX8_waiting 13 = .ok (.invokestatic 123, 3) := by decide +kernel
theorem dX8_waiting_16 : decode cX8_waiting 16 = .ok (.ifCond .ne 5, 3) := by decide +kernel
theorem dX8_waiting_19 : decode cX8_waiting 19 = .ok (.iconst (-1), 1) := by decide +kernel
theorem dX8_waiting_20 : decode cX8_waiting 20 = .ok (.ireturn, 1) := by decide +kernel
theorem dX8_waiting_21 : decode cX8_waiting 21 = .ok (.iconst 0, 1) := by decide +kernel
theorem dX8_waiting_22 : decode cX8_waiting 22 = .ok (.istore_n 3, 1) := by decide +kernel
theorem dX8_waiting_23 : decode cX8_waiting 23 = .ok (.iconst 0, 1) := by decide +kernel
theorem dX8_waiting_24 : decode cX8_waiting 24 = .ok (.istore 4, 2) := by decide +kernel
theorem dX8_waiting_26 : decode cX8_waiting 26 = .ok (.iload 4, 2) := by decide +kernel
theorem dX8_waiting_28 : decode cX8_waiting 28 = .ok (.aload_n 0, 1) := by decide +kernel
theorem dX8_waiting_29 : decode cX8_waiting 29 = .ok (.getfield 182, 3) := by decide +kernel
theorem dX8_waiting_32 : decode cX8_waiting 32 = .ok (.if_icmp .ge 84, 3) := by decide +kernel
theorem dX8_waiting_35 : decode cX8_waiting 35 = .ok (.iload_n 2, 1) := by decide +kernel
theorem dX8_waiting_36 : decode cX8_waiting 36 = .ok (.ifCond .ne 32, 3) := by decide +kernel
theorem dX8_waiting_39 : decode cX8_waiting 39 = .ok (.aload_n 0, 1) := by decide +kernel
theorem dX8_waiting_40 : decode cX8_waiting 40 = .ok (.getfield 93, 3) := by decide +kernel
theorem dX8_waiting_43 : decode cX8_waiting 43 = .ok (.iload 4, 2) := by decide +kernel
theorem dX8_waiting_45 : decode cX8_waiting 45 = .ok (.iaload, 1) := by decide +kernel
theorem dX8_waiting_46 : decode cX8_waiting 46 = .ok (.ifCond .ne 18, 3) := by decide +kernel
theorem dX8_waiting_49 : decode cX8_waiting 49 = .ok (.aload_n 0, 1) := by decide +kernel
theorem dX8_waiting_50 : decode cX8_waiting 50 = .ok (.getfield 78, 3) := by decide +kernel
theorem dX8_waiting_53 : decode cX8_waiting 53 = .ok (.iload 4, 2) := by decide +kernel
theorem dX8_waiting_55 : decode cX8_waiting 55 = .ok (.iaload, 1) := by decide +kernel
theorem dX8_waiting_56 : decode cX8_waiting 56 = .ok (.iload_n 1, 1) := by decide +kernel
theorem dX8_waiting_57 : decode cX8_waiting 57 = .ok (.if_icmp .ne 7, 3) := by decide +kernel
theorem dX8_waiting_60 : decode cX8_waiting 60 = .ok (.iconst 1, 1) := by decide +kernel
theorem dX8_waiting_61 : decode cX8_waiting 61 = .ok (.goto 34, 3) := by decide +kernel
theorem dX8_waiting_64 : decode cX8_waiting 64 = .ok (.iconst 0, 1) := by decide +kernel
theorem dX8_waiting_65 : decode cX8_waiting 65 = .ok (.goto 30, 3) := by decide +kernel
theorem dX8_waiting_68 : decode cX8_waiting 68 = .ok (.aload_n 0, 1) := by decide +kernel
theorem dX8_waiting_69 : decode cX8_waiting 69 = .ok (.getfield 93, 3) := by decide +kernel
theorem dX8_waiting_72 : decode cX8_waiting 72 = .ok (.iload 4, 2) := by decide +kernel
theorem dX8_waiting_74 : decode cX8_waiting 74 = .ok (.iaload, 1) := by decide +kernel
theorem dX8_waiting_75 : decode cX8_waiting 75 = .ok (.iconst 2, 1) := by decide +kernel
theorem dX8_waiting_76 : decode cX8_waiting 76 = .ok (.if_icmp .ne 18, 3) := by decide +kernel
theorem dX8_waiting_79 : decode cX8_waiting 79 = .ok (.aload_n 0, 1) := by decide +kernel
theorem dX8_waiting_80 : decode cX8_waiting 80 = .ok (.getfield 75, 3) := by decide +kernel
theorem dX8_waiting_83 : decode cX8_waiting 83 = .ok (.iload 4, 2) := by decide +kernel
theorem dX8_waiting_85 : decode cX8_waiting 85 = .ok (.iaload, 1) := by decide +kernel
theorem dX8_waiting_86 : decode cX8_waiting 86 = .ok (.iload_n 1, 1) := by decide +kernel
theorem dX8_waiting_87 : decode cX8_waiting 87 = .ok (.if_icmp .ne 7, 3) := by decide +kernel
theorem dX8_waiting_90 : decode cX8_waiting 90 = .ok (.iconst 1, 1) := by decide +kernel
theorem dX8_waiting_91 : decode cX8_waiting 91 = .ok (.goto 4, 3) := by decide +kernel
theorem dX8_waiting_94 : decode cX8_waiting 94 = .ok (.iconst 0, 1) := by decide +kernel
theorem dX8_waiting_95 : decode cX8_waiting 95 = .ok (.istore 5, 2) := by decide +kernel
theorem dX8_waiting_97 : decode cX8_waiting 97 = .ok (.iload 5, 2) := by decide +kernel
theorem dX8_waiting_99 : decode cX8_waiting 99 = .ok (.ifCond .eq 9, 3) := by decide +kernel
theorem dX8_waiting_102 : decode cX8_waiting 102 = .ok (.iload_n 3, 1) := by decide +kernel
theorem dX8_waiting_103 : decode cX8_waiting 103 = .ok (.iconst 1, 1) := by decide +kernel
theorem dX8_waiting_104 : decode cX8_waiting 104 = .ok (.iadd, 1) := by decide +kernel
theorem dX8_waiting_105 : decode cX8_waiting 105 = .ok (.goto 4, 3) := by decide +kernel
theorem dX8_waiting_108 : decode cX8_waiting 108 = .ok (.iload_n 3, 1) := by decide +kernel
theorem dX8_waiting_109 : decode cX8_waiting 109 = .ok (.istore_n 3, 1) := by decide +kernel
theorem dX8_waiting_110 : decode cX8_waiting 110 = .ok (.iinc 4 1, 3) := by decide +kernel
theorem dX8_waiting_113 : decode cX8_waiting 113 = .ok (.goto (-87), 3) := by decide +kernel
theorem dX8_waiting_116 : decode cX8_waiting 116 = .ok (.iload_n 3, 1) := by decide +kernel
theorem dX8_waiting_117 : decode cX8_waiting 117 = .ok (.ireturn, 1) := by decide +kernel
theorem dJ9_max_7cf53_0 : decode cJ9_max_7cf53 0 = .ok (.iload_n 0, 1) := by decide +kernel
theorem dJ9_max_7cf53_1 : decode cJ9_max_7cf53 1 = .ok (.iload_n 1, 1) := by decide +kernel
theorem dJ9_max_7cf53_2 : decode cJ9_max_7cf53 2 = .ok (.if_icmp .lt 7, 3) := by decide +kernel
theorem dJ9_max_7cf53_5 : decode cJ9_max_7cf53 5 = .ok (.iload_n 0, 1) := by decide +kernel
theorem dJ9_max_7cf53_6 : decode cJ9_max_7cf53 6 = .ok (.goto 4, 3) := by decide +kernel
theorem dJ9_max_7cf53_9 : decode cJ9_max_7cf53 9 = .ok (.iload_n 1, 1) := by decide +kernel
theorem dJ9_max_7cf53_10 : decode cJ9_max_7cf53 10 = .ok (.ireturn, 1) := by decide +kernel
theorem dJ9_min_7cf53_0 : decode cJ9_min_7cf53 0 = .ok (.iload_n 0, 1) := by decide +kernel
theorem dJ9_min_7cf53_1 : decode cJ9_min_7cf53 1 = .ok (.iload_n 1, 1) := by decide +kernel
theorem dJ9_min_7cf53_2 : decode cJ9_min_7cf53 2 = .ok (.if_icmp .gt 7, 3) := by decide +kernel
theorem dJ9_min_7cf53_5 : decode cJ9_min_7cf53 5 = .ok (.iload_n 0, 1) := by decide +kernel
theorem dJ9_min_7cf53_6 : decode cJ9_min_7cf53 6 = .ok (.goto 4, 3) := by decide +kernel
theorem dJ9_min_7cf53_9 : decode cJ9_min_7cf53 9 = .ok (.iload_n 1, 1) := by decide +kernel
theorem dJ9_min_7cf53_10 : decode cJ9_min_7cf53 10 = .ok (.ireturn, 1) := by decide +kernel
theorem dJxa1e45_init_da8c8_0 : decode cJxa1e45_init_da8c8 0 = .ok (.aload_n 0, 1) := by decide +kernel
theorem dJxa1e45_init_da8c8_1 : decode cJxa1e45_init_da8c8 1 = .ok (.invokespecial 1, 3) := by decide +kernel
theorem dJxa1e45_init_da8c8_4 : decode cJxa1e45_init_da8c8 4 = .ok (.return_, 1) := by decide +kernel
set_option maxRecDepth 20000 in
theorem ggJxc12de_init_da8c8_Jxa1e45_init_da8c8 : GoodIn wsJxc12de_init_da8c8 wsJxa1e45_init_da8c8 := goodIn_r _ [5, 6, 7, 8] (by decide +kernel) (by decide +kernel)
set_option maxRecDepth 20000 in
theorem gJxc12de_init_da8c8_Jxa1e45_init_da8c8 : GoodIn wsJxc12de_init_da8c8 (wsJxa1e45_init_da8c8) := ggJxc12de_init_da8c8_Jxa1e45_init_da8c8
theorem dJxc12de_init_da8c8_0 : decode cJxc12de_init_da8c8 0 = .ok (.aload_n 0, 1) := by decide +kernel
theorem dJxc12de_init_da8c8_1 : decode cJxc12de_init_da8c8 1 = .ok (.invokespecial 1, 3) := by decide +kernel
theorem dJxc12de_init_da8c8_4 : decode cJxc12de_init_da8c8 4 = .ok (.aload_n 0, 1) := by decide +kernel
theorem dJxc12de_init_da8c8_5 : decode cJxc12de_init_da8c8 5 = .ok (.iconst 0, 1) := by decide +kernel
theorem dJxc12de_init_da8c8_6 : decode cJxc12de_init_da8c8 6 = .ok (.putfield 7, 3) := by decide +kernel
theorem dJxc12de_init_da8c8_9 : decode cJxc12de_init_da8c8 9 = .ok (.return_, 1) := by decide +kernel
set_option maxRecDepth 20000 in
theorem ggJx4a65c_init_da8c8_Jxc12de_init_da8c8 : GoodIn wsJx4a65c_init_da8c8 wsJxc12de_init_da8c8 := goodIn_r _ [6, 7, 8, 9, 10, 11, 12, 13, 14, 15, 16, 17] (by decide +kernel) (by decide +kernel)
set_option maxRecDepth 20000 in
theorem gJx4a65c_init_da8c8_Jxc12de_init_da8c8 : GoodIn wsJx4a65c_init_da8c8 (wsJxc12de_init_da8c8) := ggJx4a65c_init_da8c8_Jxc12de_init_da8c8
theorem dJx4a65c_init_da8c8_0 : decode cJx4a65c_init_da8c8 0 = .ok (.aload_n 0, 1) := by decide +kernel
theorem dJx4a65c_init_da8c8_1 : decode cJx4a65c_init_da8c8 1 = .ok (.invokespecial 1, 3) := by decide +kernel
theorem dJx4a65c_init_da8c8_4 : decode cJx4a65c_init_da8c8 4 = .ok (.aload_n 0, 1) := by decide +kernel
theorem dJx4a65c_init_da8c8_5 : decode cJx4a65c_init_da8c8 5 = .ok (.getstatic 39, 3) := by decide +kernel
theorem dJx4a65c_init_da8c8_8 : decode cJx4a65c_init_da8c8 8 = .ok (.putfield 9, 3) := by decide +kernel
theorem dJx4a65c_init_da8c8_11 : decode cJx4a65c_init_da8c8 11 = .ok (.return_, 1) := by decide +kernel
set_option maxRecDepth 20000 in
theorem ggJx4a65c_grow_92f84_J8_newLength_cabcc : GoodIn wsJx4a65c_grow_92f84 wsJ8_newLength_cabcc := goodIn_r _ [11, 12, 4, 5, 6, 13, 14, 15, 10, 16] (by decide +kernel) (by decide +kernel)
set_option maxRecDepth 20000 in
theorem gJx4a65c_grow_92f84_J8_newLength_cabcc : GoodIn wsJx4a65c_grow_92f84 (va_wsS RJx4a65c 73 yJ8_newLength_cabcc wsJ8_newLength_cabcc) := goodIn_app (goodIn_of _ (by decide +kernel)) ggJx4a65c_grow_92f84_J8_newLength_cabcc
set_option maxRecDepth 20000 in
theorem ggJx4a65c_grow_92f84_J7_copyOf_1904c : GoodIn wsJx4a65c_grow_92f84 wsJ7_copyOf_1904c := goodIn_r _ [20, 21, 22, 23, 24, 25, 26, 19, 27, 28, 29, 30, 31, 5, 32, 33, 34, 35, 36] (by decide +kernel) (by decide +kernel)
set_option maxRecDepth 20000 in
theorem gJx4a65c_grow_92f84_J7_copyOf_1904c : GoodIn wsJx4a65c_grow_92f84 (va_wsS RJx4a65c 66 yJ7_copyOf_1904c wsJ7_copyOf_1904c) := goodIn_app (goodIn_of _ (by decide +kernel)) ggJx4a65c_grow_92f84_J7_copyOf_1904c
theorem dJx4a65c_grow_92f84_0 : decode cJx4a65c_grow_92f84 0 = .ok (.aload_n 0, 1) := by decide +kernel
theorem dJx4a65c_grow_92f84_1 : decode cJx4a65c_grow_92f84 1 = .ok (.getfield 9, 3) := by decide +kernel
theorem dJx4a65c_grow_92f84_4 : decode cJx4a65c_grow_92f84 4 = .ok (.arraylength, 1) := by decide +kernel
theorem dJx4a65c_grow_92f84_5 : decode cJx4a65c_grow_92f84 5 = .ok (.istore_n 2, 1) := by decide +kernel
theorem dJx4a65c_grow_92f84_6 : decode cJx4a65c_grow_92f84 6 = .ok (.iload_n 2, 1) := by decide +kernel
theorem dJx4a65c_grow_92f84_7 : decode cJx4a65c_grow_92f84 7 = .ok (.ifCond .gt 13, 3) := by decide +kernel
theorem dJx4a65c_grow_92f84_10 : decode cJx4a65c_grow_92f84 10 = .ok (.aload_n 0, 1) := by decide +kernel
theorem dJx4a65c_grow_92f84_11 : decode cJx4a65c_grow_92f84 11 = .ok (.getfield 9, 3) := by decide +kernel
theorem dJx4a65c_grow_92f84_14 : decode cJx4a65c_grow_92f84 14 = .ok (.getstatic 39, 3) := by decide +kernel
theorem dJx4a65c_grow_92f84_17 : decode cJx4a65c_grow_92f84 17 = .ok (.if_acmp .eq 28, 3) := by decide +kernel
theorem dJx4a65c_grow_92f84_20 : decode cJx4a65c_grow_92f84 20 = .ok (.iload_n 2, 1) := by decide +kernel
theorem dJx4a65c_grow_92f84_21 : decode cJx4a65c_grow_92f84 21 = .ok (.iload_n 1, 1) := by decide +kernel
theorem dJx4a65c_grow_92f84_22 : decode cJx4a65c_grow_92f84 22 = .ok (.iload_n 2, 1) := by decide +kernel
theorem dJx4a65c_grow_92f84_23 : decode cJx4a65c_grow_92f84 23 = .ok (.isub, 1) := by decide +kernel
theorem dJx4a65c_grow_92f84_24 : decode cJx4a65c_grow_92f84 24 = .ok (.iload_n 2, 1) := by decide +kernel
theorem dJx4a65c_grow_92f84_25 : decode cJx4a65c_grow_92f84 25 = .ok (.iconst 1, 1) := by decide +kernel
theorem dJx4a65c_grow_92f84_26 : decode cJx4a65c_grow_92f84 26 = .ok (.ishr, 1) := by decide +kernel
theorem dJx4a65c_grow_92f84_27 : decode cJx4a65c_grow_92f84 27 = .ok (.invokestatic 73, 3) := by decide +kernel
theorem dJx4a65c_grow_92f84_30 : decode cJx4a65c_grow_92f84 30 = .ok (.istore_n 3, 1) := by decide +kernel
theorem dJx4a65c_grow_92f84_31 : decode cJx4a65c_grow_92f84 31 = .ok (.aload_n 0, 1) := by decide +kernel
theorem dJx4a65c_grow_92f84_32 : decode cJx4a65c_grow_92f84 32 = .ok (.aload_n 0, 1) := by decide +kernel
theorem dJx4a65c_grow_92f84_33 : decode cJx4a65c_grow_92f84 33 = .ok (.getfield 9, 3) := by decide +kernel
theorem dJx4a65c_grow_92f84_36 : decode cJx4a65c_grow_92f84 36 = .ok (.iload_n 3, 1) := by decide +kernel
theorem dJx4a65c_grow_92f84_37 : decode cJx4a65c_grow_92f84 37 = .ok (.invokestatic 66, 3) := by decide +kernel
theorem dJx4a65c_grow_92f84_40 : decode cJx4a65c_grow_92f84 40 = .ok (.dup_x1, 1) := by decide +kernel
theorem dJx4a65c_grow_92f84_41 : decode cJx4a65c_grow_92f84 41 = .ok (.putfield 9, 3) := by decide +kernel
theorem dJx4a65c_grow_92f84_44 : decode cJx4a65c_grow_92f84 44 = .ok (.areturn, 1) := by decide +kernel
theorem dJx4a65c_grow_92f84_45 : decode cJx4a65c_grow_92f84 45 = .ok (.aload_n 0, 1) := by decide +kernel
theorem dJx4a65c_grow_92f84_46 : decode cJx4a65c_grow_92f84 46 = .ok (.bipush 10, 2) := by decide +kernel
theorem dJx4a65c_grow_92f84_48 : decode cJx4a65c_grow_92f84 48 = .ok (.iload_n 1, 1) := by decide +kernel
theorem dJx4a65c_grow_92f84_49 : decode cJx4a65c_grow_92f84 49 = .ok (.invokestatic 79, 3) := by decide +kernel
theorem dJx4a65c_grow_92f84_52 : decode cJx4a65c_grow_92f84 52 = .ok (.anewarray 7, 3) := by decide +kernel
theorem dJx4a65c_grow_92f84_55 : decode cJx4a65c_grow_92f84 55 = .ok (.dup_x1, 1) := by decide +kernel
theorem dJx4a65c_grow_92f84_56 : decode cJx4a65c_grow_92f84 56 = .ok (.putfield 9, 3) := by decide +kernel
theorem dJx4a65c_grow_92f84_59 : decode cJx4a65c_grow_92f84 59 = .ok (.areturn, 1) := by decide +kernel
set_option maxRecDepth 20000 in
theorem ggJx4a65c_grow_d5877_Jx4a65c_grow_92f84 : GoodIn wsJx4a65c_grow_d5877 wsJx4a65c_grow_92f84 := goodIn_r _ [6, 7, 8, 9, 10, 11, 12, 13, 14, 15, 16, 17, 18, 19, 20, 21, 22, 23, 24, 25, 26, 27, 28, 29, 30, 31, 32, 33, 34, 35, 36, 37, 38, 39, 40, 41, 42, 43, 44, 45] (by decide +kernel) (by decide +kernel)
set_option maxRecDepth 20000 in
theorem gJx4a65c_grow_d5877_Jx4a65c_grow_92f84 : GoodIn wsJx4a65c_grow_d5877 (wsV RJx4a65c 69 RJx4a65c yJx4a65c_grow_92f84 wsJx4a65c_grow_92f84) := goodIn_app (goodIn_of _ (by decide +kernel)) ggJx4a65c_grow_d5877_Jx4a65c_grow_92f84
theorem dJx4a65c_grow_d5877_0 : decode cJx4a65c_grow_d5877 0 = .ok (.aload_n 0, 1) := by decide +kernel
theorem dJx4a65c_grow_d5877_1 : decode cJx4a65c_grow_d5877 1 = .ok (.aload_n 0, 1) := by decide +kernel
theorem dJx4a65c_grow_d5877_2 : decode cJx4a65c_grow_d5877 2 = .ok (.getfield 48, 3) := by decide +kernel
theorem dJx4a65c_grow_d5877_5 : decode cJx4a65c_grow_d5877 5 = .ok (.iconst 1, 1) := by decide +kernel
theorem dJx4a65c_grow_d5877_6 : decode cJx4a65c_grow_d5877 6 = .ok (.iadd, 1) := by decide +kernel
theorem dJx4a65c_grow_d5877_7 : decode cJx4a65c_grow_d5877 7 = .ok (.invokevirtual 69, 3) := by decide +kernel
theorem dJx4a65c_grow_d5877_10 : decode cJx4a65c_grow_d5877 10 = .ok (.areturn, 1) := by decide +kernel
theorem dJx4a65c_size_8abf5_0 : decode cJx4a65c_size_8abf5 0 = .ok (.aload_n 0, 1) := by decide +kernel
theorem dJx4a65c_size_8abf5_1 : decode cJx4a65c_size_8abf5 1 = .ok (.getfield 48, 3) := by decide +kernel
theorem dJx4a65c_size_8abf5_4 : decode cJx4a65c_size_8abf5 4 = .ok (.ireturn, 1) := by decide +kernel
theorem dJx4a65c_elementData_915e3_0 : decode cJx4a65c_elementData_915e3 0 = .ok (.aload_n 0, 1) := by decide +kernel
theorem dJx4a65c_elementData_915e3_1 : decode cJx4a65c_elementData_915e3 1 = .ok (.getfield 9, 3) := by decide +kernel
theorem dJx4a65c_elementData_915e3_4 : decode cJx4a65c_elementData_915e3 4 = .ok (.iload_n 1, 1) := by decide +kernel
theorem dJx4a65c_elementData_915e3_5 : decode cJx4a65c_elementData_915e3 5 = .ok (.aaload, 1) := by decide +kernel
theorem dJx4a65c_elementData_915e3_6 : decode cJx4a65c_elementData_915e3 6 = .ok (.areturn, 1) := by decide +kernel
set_option maxRecDepth 20000 in
theorem ggJx4a65c_get_915e3_J15_checkIndex_7cf53 : GoodIn wsJx4a65c_get_915e3 wsJ15_checkIndex_7cf53 := goodIn_r _ [5, 6, 7, 8, 9] (by decide +kernel) (by decide +kernel)
set_option maxRecDepth 20000 in
theorem gJx4a65c_get_915e3_J15_checkIndex_7cf53 : GoodIn wsJx4a65c_get_915e3 (va_wsS RJx4a65c 118 yJ15_checkIndex_7cf53 wsJ15_checkIndex_7cf53) := goodIn_app (goodIn_of _ (by decide +kernel)) ggJx4a65c_get_915e3_J15_checkIndex_7cf53
set_option maxRecDepth 20000 in
theorem ggJx4a65c_get_915e3_Jx4a65c_elementData_915e3 : GoodIn wsJx4a65c_get_915e3 wsJx4a65c_elementData_915e3 := goodIn_r _ [14, 15, 16, 17, 18] (by decide +kernel) (by decide +kernel)
set_option maxRecDepth 20000 in
theorem gJx4a65c_get_915e3_Jx4a65c_elementData_915e3 : GoodIn wsJx4a65c_get_915e3 (wsV RJx4a65c 123 RJx4a65c yJx4a65c_elementData_915e3 wsJx4a65c_elementData_915e3) := goodIn_app (goodIn_of _ (by decide +kernel)) ggJx4a65c_get_915e3_Jx4a65c_elementData_915e3
theorem dJx4a65c_get_915e3_0 : decode cJx4a65c_get_915e3 0 = .ok (.iload_n 1, 1) := by decide +kernel
theorem dJx4a65c_get_915e3_1 : decode cJx4a65c_get_915e3 1 = .ok (.aload_n 0, 1) := by decide +kernel
theorem dJx4a65c_get_915e3_2 : decode cJx4a65c_get_915e3 2 = .ok (.getfield 48, 3) := by decide +kernel
theorem dJx4a65c_get_915e3_5 : decode cJx4a65c_get_915e3 5 = .ok (.invokestatic 118, 3) := by decide +kernel
theorem dJx4a65c_get_915e3_8 : decode cJx4a65c_get_915e3 8 = .ok (.pop, 1) := by decide +kernel
theorem dJx4a65c_get_915e3_9 : decode cJx4a65c_get_915e3 9 = .ok (.aload_n 0, 1) := by decide +kernel
theorem dJx4a65c_get_915e3_10 : decode cJx4a65c_get_915e3 10 = .ok (.iload_n 1, 1) := by decide +kernel
theorem dJx4a65c_get_915e3_11 : decode cJx4a65c_get_915e3 11 = .ok (.invokevirtual 123, 3) := by decide +kernel
theorem dJx4a65c_get_915e3_14 : decode cJx4a65c_get_915e3 14 = .ok (.areturn, 1) := by decide +kernel
set_option maxRecDepth 20000 in
theorem ggJx4a65c_add_72be8_Jx4a65c_grow_d5877 : GoodIn wsJx4a65c_add_72be8 wsJx4a65c_grow_d5877 := goodIn_r _ [6, 1, 7, 8, 9, 5, 10, 11, 12, 13, 14, 15, 16, 17, 18, 19, 20, 21, 22, 23, 24, 25, 26, 27, 28, 29, 30, 31, 32, 33, 34, 35, 36, 37, 38, 39, 40, 41, 42, 43, 44, 45, 46, 47, 48, 49] (by decide +kernel) (by decide +kernel)
set_option maxRecDepth 20000 in
theorem gJx4a65c_add_72be8_Jx4a65c_grow_d5877 : GoodIn wsJx4a65c_add_72be8 (wsV RJx4a65c 129 RJx4a65c yJx4a65c_grow_d5877 wsJx4a65c_grow_d5877) := goodIn_app (goodIn_of _ (by decide +kernel)) ggJx4a65c_add_72be8_Jx4a65c_grow_d5877
theorem dJx4a65c_add_72be8_0 : decode cJx4a65c_add_72be8 0 = .ok (.iload_n 3, 1) := by decide +kernel
theorem dJx4a65c_add_72be8_1 : decode cJx4a65c_add_72be8 1 = .ok (.aload_n 2, 1) := by decide +kernel
theorem dJx4a65c_add_72be8_2 : decode cJx4a65c_add_72be8 2 = .ok (.arraylength, 1) := by decide +kernel
theorem dJx4a65c_add_72be8_3 : decode cJx4a65c_add_72be8 3 = .ok (.if_icmp .ne 8, 3) := by decide +kernel
theorem dJx4a65c_add_72be8_6 : decode cJx4a65c_add_72be8 6 = .ok (.aload_n 0, 1) := by decide +kernel
theorem dJx4a65c_add_72be8_7 : decode cJx4a65c_add_72be8 7 = .ok (.invokevirtual 129, 3) := by decide +kernel
theorem dJx4a65c_add_72be8_10 : decode cJx4a65c_add_72be8 10 = .ok (.astore_n 2, 1) := by decide +kernel
theorem dJx4a65c_add_72be8_11 : decode cJx4a65c_add_72be8 11 = .ok (.aload_n 2, 1) := by decide +kernel
theorem dJx4a65c_add_72be8_12 : decode cJx4a65c_add_72be8 12 = .ok (.iload_n 3, 1) := by decide +kernel
theorem dJx4a65c_add_72be8_13 : decode cJx4a65c_add_72be8 13 = .ok (.aload_n 1, 1) := by decide +kernel
theorem dJx4a65c_add_72be8_14 : decode cJx4a65c_add_72be8 14 = .ok (.aastore, 1) := by decide +kernel
theorem dJx4a65c_add_72be8_15 : decode cJx4a65c_add_72be8 15 = .ok (.aload_n 0, 1) := by decide +kernel
theorem dJx4a65c_add_72be8_16 : decode cJx4a65c_add_72be8 16 = .ok (.iload_n 3, 1) := by decide +kernel
theorem dJx4a65c_add_72be8_17 : decode cJx4a65c_add_72be8 17 = .ok (.iconst 1, 1) := by decide +kernel
theorem dJx4a65c_add_72be8_18 : decode cJx4a65c_add_72be8 18 = .ok (.iadd, 1) := by decide +kernel
theorem dJx4a65c_add_72be8_19 : decode cJx4a65c_add_72be8 19 = .ok (.putfield 48, 3) := by decide +kernel
theorem dJx4a65c_add_72be8_22 : decode cJx4a65c_add_72be8 22 = .ok (.return_, 1) := by decide +kernel
set_option maxRecDepth 20000 in
theorem ggJx4a65c_add_9ea2d_Jx4a65c_add_72be8 : GoodIn wsJx4a65c_add_9ea2d wsJx4a65c_add_72be8 := goodIn_r _ [9, 4, 10, 11, 12, 8, 13, 14, 15, 16, 17, 3, 18, 19, 20, 21, 22, 23, 24, 25, 26, 27, 28, 29, 30, 31, 32, 33, 34, 35, 36, 37, 38, 39, 40, 41, 42, 43, 44, 45, 46, 47, 48, 49, 50, 51, 52, 53, 54, 55] (by decide +kernel) (by decide +kernel)
set_option maxRecDepth 20000 in
theorem gJx4a65c_add_9ea2d_Jx4a65c_add_72be8 : GoodIn wsJx4a65c_add_9ea2d (wsV RJx4a65c 131 RJx4a65c yJx4a65c_add_72be8 wsJx4a65c_add_72be8) := goodIn_app (goodIn_of _ (by decide +kernel)) ggJx4a65c_add_9ea2d_Jx4a65c_add_72be8
theorem dJx4a65c_add_9ea2d_0 : decode cJx4a65c_add_9ea2d 0 = .ok (.aload_n 0, 1) := by decide +kernel
theorem dJx4a65c_add_9ea2d_1 : decode cJx4a65c_add_9ea2d 1 = .ok (.dup, 1) := by decide +kernel
theorem dJx4a65c_add_9ea2d_2 : decode cJx4a65c_add_9ea2d 2 = .ok (.getfield 63, 3) := by decide +kernel
theorem dJx4a65c_add_9ea2d_5 : decode cJx4a65c_add_9ea2d 5 = .ok (.iconst 1, 1) := by decide +kernel
theorem dJx4a65c_add_9ea2d_6 : decode cJx4a65c_add_9ea2d 6 = .ok (.iadd, 1) := by decide +kernel
theorem dJx4a65c_add_9ea2d_7 : decode cJx4a65c_add_9ea2d 7 = .ok (.putfield 63, 3) := by decide +kernel
theorem dJx4a65c_add_9ea2d_10 : decode cJx4a65c_add_9ea2d 10 = .ok (.aload_n 0, 1) := by decide +kernel
theorem dJx4a65c_add_9ea2d_11 : decode cJx4a65c_add_9ea2d 11 = .ok (.aload_n 1, 1) := by decide +kernel
theorem dJx4a65c_add_9ea2d_12 : decode cJx4a65c_add_9ea2d 12 = .ok (.aload_n 0, 1) := by decide +kernel
theorem dJx4a65c_add_9ea2d_13 : decode cJx4a65c_add_9ea2d 13 = .ok (.getfield 9, 3) := by decide +kernel
theorem dJx4a65c_add_9ea2d_16 : decode cJx4a65c_add_9ea2d 16 = .ok (.aload_n 0, 1) := by decide +kernel
theorem dJx4a65c_add_9ea2d_17 : decode cJx4a65c_add_9ea2d 17 = .ok (.getfield 48, 3) := by decide +kernel
theorem dJx4a65c_add_9ea2d_20 : decode cJx4a65c_add_9ea2d 20 = .ok (.invokevirtual 131, 3) := by decide +kernel
theorem dJx4a65c_add_9ea2d_23 : decode cJx4a65c_add_9ea2d 23 = .ok (.iconst 1, 1) := by decide +kernel
theorem dJx4a65c_add_9ea2d_24 : decode cJx4a65c_add_9ea2d 24 = .ok (.ireturn, 1) := by decide +kernel
set_option maxRecDepth 20000 in
theorem ggJx4a65c_add_7a177_Jx4a65c_rangeCheckForAdd_d00df : GoodIn wsJx4a65c_add_7a177 wsJx4a65c_rangeCheckForAdd_d00df := goodIn_r _ [13, 3, 54, 55, 56] (by decide +kernel) (by decide +kernel)
set_option maxRecDepth 20000 in
theorem gJx4a65c_add_7a177_Jx4a65c_rangeCheckForAdd_d00df : GoodIn wsJx4a65c_add_7a177 (wsV RJx4a65c 135 RJx4a65c yJx4a65c_rangeCheckForAdd_d00df wsJx4a65c_rangeCheckForAdd_d00df) := goodIn_app (goodIn_of _ (by decide +kernel)) ggJx4a65c_add_7a177_Jx4a65c_rangeCheckForAdd_d00df
set_option maxRecDepth 20000 in
theorem ggJx4a65c_add_7a177_Jx4a65c_grow_d5877 : GoodIn wsJx4a65c_add_7a177 wsJx4a65c_grow_d5877 := goodIn_r _ [17, 3, 18, 19, 20, 12, 21, 4, 22, 23, 24, 25, 26, 27, 28, 29, 30, 31, 32, 33, 34, 35, 36, 37, 38, 39, 40, 41, 42, 43, 44, 45, 46, 47, 48, 49, 50, 51, 52, 53, 6, 7, 8, 54, 55, 56] (by decide +kernel) (by decide +kernel)
set_option maxRecDepth 20000 in
theorem gJx4a65c_add_7a177_Jx4a65c_grow_d5877 : GoodIn wsJx4a65c_add_7a177 (wsV RJx4a65c 129 RJx4a65c yJx4a65c_grow_d5877 wsJx4a65c_grow_d5877) := goodIn_app (goodIn_of _ (by decide +kernel)) ggJx4a65c_add_7a177_Jx4a65c_grow_d5877
theorem dJx4a65c_add_7a177_0 : decode cJx4a65c_add_7a177 0 = .ok (.aload_n 0, 1) := by decide +kernel
theorem dJx4a65c_add_7a177_1 : decode cJx4a65c_add_7a177 1 = .ok (.iload_n 1, 1) := by decide +kernel
theorem dJx4a65c_add_7a177_2 : decode cJx4a65c_add_7a177 2 = .ok (.invokevirtual 135, 3) := by decide +kernel
theorem dJx4a65c_add_7a177_5 : decode cJx4a65c_add_7a177 5 = .ok (.aload_n 0, 1) := by decide +kernel
theorem dJx4a65c_add_7a177_6 : decode cJx4a65c_add_7a177 6 = .ok (.dup, 1) := by decide +kernel
theorem dJx4a65c_add_7a177_7 : decode cJx4a65c_add_7a177 7 = .ok (.getfield 63, 3) := by decide +kernel
theorem dJx4a65c_add_7a177_10 : decode cJx4a65c_add_7a177 10 = .ok (.iconst 1, 1) := by decide +kernel
theorem dJx4a65c_add_7a177_11 : decode cJx4a65c_add_7a177 11 = .ok (.iadd, 1) := by decide +kernel
theorem dJx4a65c_add_7a177_12 : decode cJx4a65c_add_7a177 12 = .ok (.putfield 63, 3) := by decide +kernel
theorem dJx4a65c_add_7a177_15 : decode cJx4a65c_add_7a177 15 = .ok (.aload_n 0, 1) := by decide +kernel
theorem dJx4a65c_add_7a177_16 : decode cJx4a65c_add_7a177 16 = .ok (.getfield 48, 3) := by decide +kernel
theorem dJx4a65c_add_7a177_19 : decode cJx4a65c_add_7a177 19 = .ok (.dup, 1) := by decide +kernel
theorem dJx4a65c_add_7a177_20 : decode cJx4a65c_add_7a177 20 = .ok (.istore_n 3, 1) := by decide +kernel
theorem dJx4a65c_add_7a177_21 : decode cJx4a65c_add_7a177 21 = .ok (.aload_n 0, 1) := by decide +kernel
theorem dJx4a65c_add_7a177_22 : decode cJx4a65c_add_7a177 22 = .ok (.getfield 9, 3) := by decide +kernel
theorem dJx4a65c_add_7a177_25 : decode cJx4a65c_add_7a177 25 = .ok (.dup, 1) := by decide +kernel
theorem dJx4a65c_add_7a177_26 : decode cJx4a65c_add_7a177 26 = .ok (.astore 4, 2) := by decide +kernel
theorem dJx4a65c_add_7a177_28 : decode cJx4a65c_add_7a177 28 = .ok (.arraylength, 1) := by decide +kernel
theorem dJx4a65c_add_7a177_29 : decode cJx4a65c_add_7a177 29 = .ok (.if_icmp .ne 9, 3) := by decide +kernel
theorem dJx4a65c_add_7a177_32 : decode cJx4a65c_add_7a177 32 = .ok (.aload_n 0, 1) := by decide +kernel
theorem dJx4a65c_add_7a177_33 : decode cJx4a65c_add_7a177 33 = .ok (.invokevirtual 129, 3) := by decide +kernel
theorem dJx4a65c_add_7a177_36 : decode cJx4a65c_add_7a177 36 = .ok (.astore 4, 2) := by decide +kernel
theorem dJx4a65c_add_7a177_38 : decode cJx4a65c_add_7a177 38 = .ok (.aload 4, 2) := by decide +kernel
theorem dJx4a65c_add_7a177_40 : decode cJx4a65c_add_7a177 40 = .ok (.iload_n 1, 1) := by decide +kernel
theorem dJx4a65c_add_7a177_41 : decode cJx4a65c_add_7a177 41 = .ok (.aload 4, 2) := by decide +kernel
theorem dJx4a65c_add_7a177_43 : decode cJx4a65c_add_7a177 43 = .ok (.iload_n 1, 1) := by decide +kernel
theorem dJx4a65c_add_7a177_44 : decode cJx4a65c_add_7a177 44 = .ok (.iconst 1, 1) := by decide +kernel
theorem dJx4a65c_add_7a177_45 : decode cJx4a65c_add_7a177 45 = .ok (.iadd, 1) := by decide +kernel
theorem dJx4a65c_add_7a177_46 : decode cJx4a65c_add_7a177 46 = .ok (.iload_n 3, 1) := by decide +kernel
theorem dJx4a65c_add_7a177_47 : decode cJx4a65c_add_7a177 47 = .ok (.iload_n 1, 1) := by decide +kernel
theorem dJx4a65c_add_7a177_48 : decode cJx4a65c_add_7a177 48 = .ok (.isub, 1) := by decide +kernel
theorem dJx4a65c_add_7a177_49 : decode cJx4a65c_add_7a177 49 = .ok (.invokestatic 112, 3) := by decide +kernel
theorem dJx4a65c_add_7a177_52 : decode cJx4a65c_add_7a177 52 = .ok (.aload 4, 2) := by decide +kernel
theorem dJx4a65c_add_7a177_54 : decode cJx4a65c_add_7a177 54 = .ok (.iload_n 1, 1) := by decide +kernel
theorem dJx4a65c_add_7a177_55 : decode cJx4a65c_add_7a177 55 = .ok (.aload_n 2, 1) := by decide +kernel
theorem dJx4a65c_add_7a177_56 : decode cJx4a65c_add_7a177 56 = .ok (.aastore, 1) := by decide +kernel
theorem dJx4a65c_add_7a177_57 : decode cJx4a65c_add_7a177 57 = .ok (.aload_n 0, 1) := by decide +kernel
theorem dJx4a65c_add_7a177_58 : decode cJx4a65c_add_7a177 58 = .ok (.iload_n 3, 1) := by decide +kernel
theorem dJx4a65c_add_7a177_59 : decode cJx4a65c_add_7a177 59 = .ok (.iconst 1, 1) := by decide +kernel
theorem dJx4a65c_add_7a177_60 : decode cJx4a65c_add_7a177 60 = .ok (.iadd, 1) := by decide +kernel
theorem dJx4a65c_add_7a177_61 : decode cJx4a65c_add_7a177 61 = .ok (.putfield 48, 3) := by decide +kernel
theorem dJx4a65c_add_7a177_64 : decode cJx4a65c_add_7a177 64 = .ok (.return_, 1) := by decide +kernel
set_option maxRecDepth 20000 in
theorem ggJx4a65c_remove_915e3_J15_checkIndex_7cf53 : GoodIn wsJx4a65c_remove_915e3 wsJ15_checkIndex_7cf53 := goodIn_r _ [6, 7, 8, 9, 10] (by decide +kernel) (by decide +kernel)
set_option maxRecDepth 20000 in
theorem gJx4a65c_remove_915e3_J15_checkIndex_7cf53 : GoodIn wsJx4a65c_remove_915e3 (va_wsS RJx4a65c 118 yJ15_checkIndex_7cf53 wsJ15_checkIndex_7cf53) := goodIn_app (goodIn_of _ (by decide +kernel)) ggJx4a65c_remove_915e3_J15_checkIndex_7cf53
set_option maxRecDepth 20000 in
theorem ggJx4a65c_remove_915e3_Jx4a65c_fastRemove_b59b0 : GoodIn wsJx4a65c_remove_915e3 wsJx4a65c_fastRemove_b59b0 := goodIn_r _ [15, 16, 17, 1, 18, 19, 20, 21, 22, 23, 24] (by decide +kernel) (by decide +kernel)
set_option maxRecDepth 20000 in
theorem gJx4a65c_remove_915e3_Jx4a65c_fastRemove_b59b0 : GoodIn wsJx4a65c_remove_915e3 (wsV RJx4a65c 144 RJx4a65c yJx4a65c_fastRemove_b59b0 wsJx4a65c_fastRemove_b59b0) := goodIn_app (goodIn_of _ (by decide +kernel)) ggJx4a65c_remove_915e3_Jx4a65c_fastRemove_b59b0
theorem dJx4a65c_remove_915e3_0 : decode cJx4a65c_remove_915e3 0 = .ok (.iload_n 1, 1) := by decide +kernel
theorem dJx4a65c_remove_915e3_1 : decode cJx4a65c_remove_915e3 1 = .ok (.aload_n 0, 1) := by decide +kernel
theorem dJx4a65c_remove_915e3_2 : decode cJx4a65c_remove_915e3 2 = .ok (.getfield 48, 3) := by decide +kernel
theorem dJx4a65c_remove_915e3_5 : decode cJx4a65c_remove_915e3 5 = .ok (.invokestatic 118, 3) := by decide +kernel
theorem dJx4a65c_remove_915e3_8 : decode cJx4a65c_remove_915e3 8 = .ok (.pop, 1) := by decide +kernel
theorem dJx4a65c_remove_915e3_9 : decode cJx4a65c_remove_915e3 9 = .ok (.aload_n 0, 1) := by decide +kernel
theorem dJx4a65c_remove_915e3_10 : decode cJx4a65c_remove_915e3 10 = .ok (.getfield 9, 3) := by decide +kernel
theorem dJx4a65c_remove_915e3_13 : decode cJx4a65c_remove_915e3 13 = .ok (.astore_n 2, 1) := by decide +kernel
theorem dJx4a65c_remove_915e3_14 : decode cJx4a65c_remove_915e3 14 = .ok (.aload_n 2, 1) := by decide +kernel
theorem dJx4a65c_remove_915e3_15 : decode cJx4a65c_remove_915e3 15 = .ok (.iload_n 1, 1) := by decide +kernel
theorem dJx4a65c_remove_915e3_16 : decode cJx4a65c_remove_915e3 16 = .ok (.aaload, 1) := by decide +kernel
theorem dJx4a65c_remove_915e3_17 : decode cJx4a65c_remove_915e3 17 = .ok (.astore_n 3, 1) := by decide +kernel
theorem dJx4a65c_remove_915e3_18 : decode cJx4a65c_remove_915e3 18 = .ok (.aload_n 0, 1) := by decide +kernel
theorem dJx4a65c_remove_915e3_19 : decode cJx4a65c_remove_915e3 19 = .ok (.aload_n 2, 1) := by decide +kernel
theorem dJx4a65c_remove_915e3_20 : decode cJx4a65c_remove_915e3 20 = .ok (.iload_n 1, 1) := by decide +kernel
theorem dJx4a65c_remove_915e3_21 : decode cJx4a65c_remove_915e3 21 = .ok (.invokevirtual 144, 3) := by decide +kernel
theorem dJx4a65c_remove_915e3_24 : decode cJx4a65c_remove_915e3 24 = .ok (.aload_n 3, 1) := by decide +kernel
theorem dJx4a65c_remove_915e3_25 : decode cJx4a65c_remove_915e3 25 = .ok (.areturn, 1) := by decide +kernel
theorem dJx4a65c_fastRemove_b59b0_0 : decode cJx4a65c_fastRemove_b59b0 0 = .ok (.aload_n 0, 1) := by decide +kernel
theorem dJx4a65c_fastRemove_b59b0_1 : decode cJx4a65c_fastRemove_b59b0 1 = .ok (.dup, 1) := by decide +kernel
theorem dJx4a65c_fastRemove_b59b0_2 : decode cJx4a65c_fastRemove_b59b0 2 = .ok (.getfield 63, 3) := by decide +kernel
theorem dJx4a65c_fastRemove_b59b0_5 : decode cJx4a65c_fastRemove_b59b0 5 = .ok (.iconst 1, 1) := by decide +kernel
theorem dJx4a65c_fastRemove_b59b0_6 : decode cJx4a65c_fastRemove_b59b0 6 = .ok (.iadd, 1) := by decide +kernel
theorem dJx4a65c_fastRemove_b59b0_7 : decode cJx4a65c_fastRemove_b59b0 7 = .ok (.putfield 63, 3) := by decide +kernel
theorem dJx4a65c_fastRemove_b59b0_10 : decode cJx4a65c_fastRemove_b59b0 10 = .ok (.aload_n 0, 1) := by decide +kernel
theorem dJx4a65c_fastRemove_b59b0_11 : decode cJx4a65c_fastRemove_b59b0 11 = .ok (.getfield 48, 3) := by decide +kernel
theorem dJx4a65c_fastRemove_b59b0_14 : decode cJx4a65c_fastRemove_b59b0 14 = .ok (.iconst 1, 1) := by decide +kernel
theorem dJx4a65c_fastRemove_b59b0_15 : decode cJx4a65c_fastRemove_b59b0 15 = .ok (.isub, 1) := by decide +kernel
theorem dJx4a65c_fastRemove_b59b0_16 : decode cJx4a65c_fastRemove_b59b0 16 = .ok (.dup, 1) := by decide +kernel
theorem dJx4a65c_fastRemove_b59b0_17 : decode cJx4a65c_fastRemove_b59b0 17 = .ok (.istore_n 3, 1) := by decide +kernel
theorem dJx4a65c_fastRemove_b59b0_18 : decode cJx4a65c_fastRemove_b59b0 18 = .ok (.iload_n 2, 1) := by decide +kernel
theorem dJx4a65c_fastRemove_b59b0_19 : decode cJx4a65c_fastRemove_b59b0 19 = .ok (.if_icmp .le 15, 3) := by decide +kernel
theorem dJx4a65c_fastRemove_b59b0_22 : decode cJx4a65c_fastRemove_b59b0 22 = .ok (.aload_n 1, 1) := by decide +kernel
theorem dJx4a65c_fastRemove_b59b0_23 : decode cJx4a65c_fastRemove_b59b0 23 = .ok (.iload_n 2, 1) := by decide +kernel
theorem dJx4a65c_fastRemove_b59b0_24 : decode cJx4a65c_fastRemove_b59b0 24 = .ok (.iconst 1, 1) := by decide +kernel
theorem dJx4a65c_fastRemove_b59b0_25 : decode cJx4a65c_fastRemove_b59b0 25 = .ok (.iadd, 1) := by decide +kernel
theorem dJx4a65c_fastRemove_b59b0_26 : decode cJx4a65c_fastRemove_b59b0 26 = .ok (.aload_n 1, 1) := by decide +kernel
theorem dJx4a65c_fastRemove_b59b0_27 : decode cJx4a65c_fastRemove_b59b0 27 = .ok (.iload_n 2, 1) := by decide +kernel
theorem dJx4a65c_fastRemove_b59b0_28 : decode cJx4a65c_fastRemove_b59b0 28 = .ok (.iload_n 3, 1) := by decide +kernel
theorem dJx4a65c_fastRemove_b59b0_29 : decode cJx4a65c_fastRemove_b59b0 29 = .ok (.iload_n 2, 1) := by decide +kernel
theorem dJx4a65c_fastRemove_b59b0_30 : decode cJx4a65c_fastRemove_b59b0 30 = .ok (.isub, 1) := by decide +kernel
theorem dJx4a65c_fastRemove_b59b0_31 : decode cJx4a65c_fastRemove_b59b0 31 = .ok (.invokestatic 112, 3) := by decide +kernel
theorem dJx4a65c_fastRemove_b59b0_34 : decode cJx4a65c_fastRemove_b59b0 34 = .ok (.aload_n 1, 1) := by decide +kernel
theorem dJx4a65c_fastRemove_b59b0_35 : decode cJx4a65c_fastRemove_b59b0 35 = .ok (.aload_n 0, 1) := by decide +kernel
theorem dJx4a65c_fastRemove_b59b0_36 : decode cJx4a65c_fastRemove_b59b0 36 = .ok (.iload_n 3, 1) := by decide +kernel
theorem dJx4a65c_fastRemove_b59b0_37 : decode cJx4a65c_fastRemove_b59b0 37 = .ok (.dup_x1, 1) := by decide +kernel
theorem dJx4a65c_fastRemove_b59b0_38 : decode cJx4a65c_fastRemove_b59b0 38 = .ok (.putfield 48, 3) := by decide +kernel
theorem dJx4a65c_fastRemove_b59b0_41 : decode cJx4a65c_fastRemove_b59b0 41 = .ok (.aconst_null, 1) := by decide +kernel
theorem dJx4a65c_fastRemove_b59b0_42 : decode cJx4a65c_fastRemove_b59b0 42 = .ok (.aastore, 1) := by decide +kernel
theorem dJx4a65c_fastRemove_b59b0_43 : decode cJx4a65c_fastRemove_b59b0 43 = .ok (.return_, 1) := by decide +kernel
theorem dJx4a65c_clear_da8c8_0 : decode cJx4a65c_clear_da8c8 0 = .ok (.aload_n 0, 1) := by decide +kernel
theorem dJx4a65c_clear_da8c8_1 : decode cJx4a65c_clear_da8c8 1 = .ok (.dup, 1) := by decide +kernel
theorem dJx4a65c_clear_da8c8_2 : decode cJx4a65c_clear_da8c8 2 = .ok (.getfield 63, 3) := by decide +kernel
theorem dJx4a65c_clear_da8c8_5 : decode cJx4a65c_clear_da8c8 5 = .ok (.iconst 1, 1) := by decide +kernel
theorem dJx4a65c_clear_da8c8_6 : decode cJx4a65c_clear_da8c8 6 = .ok (.iadd, 1) := by decide +kernel
theorem dJx4a65c_clear_da8c8_7 : decode cJx4a65c_clear_da8c8 7 = .ok (.putfield 63, 3) := by decide +kernel
theorem dJx4a65c_clear_da8c8_10 : decode cJx4a65c_clear_da8c8 10 = .ok (.aload_n 0, 1) := by decide +kernel
theorem dJx4a65c_clear_da8c8_11 : decode cJx4a65c_clear_da8c8 11 = .ok (.getfield 9, 3) := by decide +kernel
theorem dJx4a65c_clear_da8c8_14 : decode cJx4a65c_clear_da8c8 14 = .ok (.astore_n 1, 1) := by decide +kernel
theorem dJx4a65c_clear_da8c8_15 : decode cJx4a65c_clear_da8c8 15 = .ok (.aload_n 0, 1) := by decide +kernel
theorem dJx4a65c_clear_da8c8_16 : decode cJx4a65c_clear_da8c8 16 = .ok (.getfield 48, 3) := by decide +kernel
theorem dJx4a65c_clear_da8c8_19 : decode cJx4a65c_clear_da8c8 19 = .ok (.istore_n 2, 1) := by decide +kernel
theorem dJx4a65c_clear_da8c8_20 : decode cJx4a65c_clear_da8c8 20 = .ok (.aload_n 0, 1) := by decide +kernel
theorem dJx4a65c_clear_da8c8_21 : decode cJx4a65c_clear_da8c8 21 = .ok (.iconst 0, 1) := by decide +kernel
theorem dJx4a65c_clear_da8c8_22 : decode cJx4a65c_clear_da8c8 22 = .ok (.dup_x1, 1) := by decide +kernel
theorem dJx4a65c_clear_da8c8_23 : decode cJx4a65c_clear_da8c8 23 = .ok (.putfield 48, 3) := by decide +kernel
theorem dJx4a65c_clear_da8c8_26 : decode cJx4a65c_clear_da8c8 26 = .ok (.istore_n 3, 1) := by decide +kernel
theorem dJx4a65c_clear_da8c8_27 : decode cJx4a65c_clear_da8c8 27 = .ok (.iload_n 3, 1) := by decide +kernel
theorem dJx4a65c_clear_da8c8_28 : decode cJx4a65c_clear_da8c8 28 = .ok (.iload_n 2, 1) := by decide +kernel
theorem dJx4a65c_clear_da8c8_29 : decode cJx4a65c_clear_da8c8 29 = .ok (.if_icmp .ge 13, 3) := by decide +kernel
theorem dJx4a65c_clear_da8c8_32 : decode cJx4a65c_clear_da8c8 32 = .ok (.aload_n 1, 1) := by decide +kernel
theorem dJx4a65c_clear_da8c8_33 : decode cJx4a65c_clear_da8c8 33 = .ok (.iload_n 3, 1) := by decide +kernel
theorem dJx4a65c_clear_da8c8_34 : decode cJx4a65c_clear_da8c8 34 = .ok (.aconst_null, 1) := by decide +kernel
theorem dJx4a65c_clear_da8c8_35 : decode cJx4a65c_clear_da8c8 35 = .ok (.aastore, 1) := by decide +kernel
theorem dJx4a65c_clear_da8c8_36 : decode cJx4a65c_clear_da8c8 36 = .ok (.iinc 3 1, 3) := by decide +kernel
theorem dJx4a65c_clear_da8c8_39 : decode cJx4a65c_clear_da8c8 39 = .ok (.goto (-12), 3) := by decide +kernel
theorem dJx4a65c_clear_da8c8_42 : decode cJx4a65c_clear_da8c8 42 = .ok (.return_, 1) := by decide +kernel
theorem dJx4a65c_rangeCheckForAdd_d00df_0 : decode cJx4a65c_rangeCheckForAdd_d00df 0 = .ok (.iload_n 1, 1) := by decide +kernel
theorem dJx4a65c_rangeCheckForAdd_d00df_1 : decode cJx4a65c_rangeCheckForAdd_d00df 1 = .ok (.aload_n 0, 1) := by decide +kernel
theorem dJx4a65c_rangeCheckForAdd_d00df_2 : decode cJx4a65c_rangeCheckForAdd_d00df 2 = .ok (.getfield 48, 3) := by decide +kernel
theorem dJx4a65c_rangeCheckForAdd_d00df_5 : decode cJx4a65c_rangeCheckForAdd_d00df 5 = .ok (.if_icmp .gt 7, 3) := by decide +kernel
theorem dJx4a65c_rangeCheckForAdd_d00df_8 : decode cJx4a65c_rangeCheckForAdd_d00df 8 = .ok (.iload_n 1, 1) := by decide +kernel
theorem dJx4a65c_rangeCheckForAdd_d00df_9 : decode cJx4a65c_rangeCheckForAdd_d00df 9 = .ok (.ifCond .ge 16, 3) := by decide +kernel
theorem dJx4a65c_rangeCheckForAdd_d00df_12 : decode cJx4a65c_rangeCheckForAdd_d00df 12 = .ok (.new 187, 3) := by decide +kernel
theorem dJx4a65c_rangeCheckForAdd_d00df_15 : decode cJx4a65c_rangeCheckForAdd_d00df 15 = .ok (.dup, 1) := by decide +kernel
theorem dJx4a65c_rangeCheckForAdd_d00df_16 : decode cJx4a65c_rangeCheckForAdd_d00df 16 = .ok (.aload_n 0, 1) := by decide +kernel
theorem dJx4a65c_rangeCheckForAdd_d00df_17 : decode cJx4a65c_rangeCheckForAdd_d00df 17 = .ok (.iload_n 1, 1) := by decide +kernel
theorem dJx4a65c_rangeCheckForAdd_d00df_18 : decode cJx4a65c_rangeCheckForAdd_d00df 18 = .ok (.invokevirtual 198, 3) := by decide +kernel
theorem dJx4a65c_rangeCheckForAdd_d00df_21 : decode cJx4a65c_rangeCheckForAdd_d00df 21 = .ok (.invokespecial 193, 3) := by decide +kernel
theorem dJx4a65c_rangeCheckForAdd_d00df_24 : decode cJx4a65c_rangeCheckForAdd_d00df 24 = .ok (.athrow, 1) := by decide +kernel
theorem dJx4a65c_rangeCheckForAdd_d00df_25 : decode cJx4a65c_rangeCheckForAdd_d00df 25 = .ok (.return_, 1) := by decide +kernel
set_option maxRecDepth 20000 in
theorem ggJ7_copyOf_1904c_J7_copyOf_6403c : GoodIn wsJ7_copyOf_1904c wsJ7_copyOf_6403c := goodIn_r _ [8, 9, 10, 11, 12, 13, 14, 15, 16, 17, 18] (by decide +kernel) (by decide +kernel)
set_option maxRecDepth 20000 in
theorem gJ7_copyOf_1904c_J7_copyOf_6403c : GoodIn wsJ7_copyOf_1904c (va_wsS RJ7 300 yJ7_copyOf_6403c wsJ7_copyOf_6403c) := goodIn_app (goodIn_of _ (by decide +kernel)) ggJ7_copyOf_1904c_J7_copyOf_6403c
theorem dJ7_copyOf_1904c_0 : decode cJ7_copyOf_1904c 0 = .ok (.aload_n 0, 1) := by decide +kernel
theorem dJ7_copyOf_1904c_1 : decode cJ7_copyOf_1904c 1 = .ok (.iload_n 1, 1) := by decide +kernel
theorem dJ7_copyOf_1904c_2 : decode cJ7_copyOf_1904c 2 = .ok (.aload_n 0, 1) := by decide +kernel
theorem dJ7_copyOf_1904c_3 : decode cJ7_copyOf_1904c 3 = .ok (.invokevirtual 86, 3) := by decide +kernel
theorem dJ7_copyOf_1904c_6 : decode cJ7_copyOf_1904c 6 = .ok (.invokestatic 300, 3) := by decide +kernel
theorem dJ7_copyOf_1904c_9 : decode cJ7_copyOf_1904c 9 = .ok (.areturn, 1) := by decide +kernel
theorem dJ7_copyOf_6403c_0 : decode cJ7_copyOf_6403c 0 = .ok (.aload_n 2, 1) := by decide +kernel
theorem dJ7_copyOf_6403c_1 : decode cJ7_copyOf_6403c 1 = .ok (.ldc 110, 2) := by decide +kernel
theorem dJ7_copyOf_6403c_3 : decode cJ7_copyOf_6403c 3 = .ok (.if_acmp .ne 10, 3) := by decide +kernel
theorem dJ7_copyOf_6403c_6 : decode cJ7_copyOf_6403c 6 = .ok (.iload_n 1, 1) := by decide +kernel
theorem dJ7_copyOf_6403c_7 : decode cJ7_copyOf_6403c 7 = .ok (.anewarray 2, 3) := by decide +kernel
theorem dJ7_copyOf_6403c_10 : decode cJ7_copyOf_6403c 10 = .ok (.goto 14, 3) := by decide +kernel
theorem dJ7_copyOf_6403c_13 : decode cJ7_copyOf_6403c 13 = .ok (.aload_n 2, 1) := by decide +kernel
theorem dJ7_copyOf_6403c_14 : decode cJ7_copyOf_6403c 14 = .ok (.invokevirtual 90, 3) := by decide +kernel
theorem dJ7_copyOf_6403c_17 : decode cJ7_copyOf_6403c 17 = .ok (.iload_n 1, 1) := by decide +kernel
theorem dJ7_copyOf_6403c_18 : decode cJ7_copyOf_6403c 18 = .ok (.invokestatic 95, 3) := by decide +kernel
theorem dJ7_copyOf_6403c_21 : decode cJ7_copyOf_6403c 21 = .ok (.checkcast 110, 3) := by decide +kernel
theorem dJ7_copyOf_6403c_24 : decode cJ7_copyOf_6403c 24 = .ok (.astore_n 3, 1) := by decide +kernel
theorem dJ7_copyOf_6403c_25 : decode cJ7_copyOf_6403c 25 = .ok (.aload_n 0, 1) := by decide +kernel
theorem dJ7_copyOf_6403c_26 : decode cJ7_copyOf_6403c 26 = .ok (.iconst 0, 1) := by decide +kernel
theorem dJ7_copyOf_6403c_27 : decode cJ7_copyOf_6403c 27 = .ok (.aload_n 3, 1) := by decide +kernel
theorem dJ7_copyOf_6403c_28 : decode cJ7_copyOf_6403c 28 = .ok (.iconst 0, 1) := by decide +kernel
theorem dJ7_copyOf_6403c_29 : decode cJ7_copyOf_6403c 29 = .ok (.aload_n 0, 1) := by decide +kernel
theorem dJ7_copyOf_6403c_30 : decode cJ7_copyOf_6403c 30 = .ok (.arraylength, 1) := by decide +kernel
theorem dJ7_copyOf_6403c_31 : decode cJ7_copyOf_6403c 31 = .ok (.iload_n 1, 1) := by decide +kernel
theorem dJ7_copyOf_6403c_32 : decode cJ7_copyOf_6403c 32 = .ok (.invokestatic 304, 3) := by decide +kernel
theorem dJ7_copyOf_6403c_35 : decode cJ7_copyOf_6403c 35 = .ok (.invokestatic 150, 3) := by decide +kernel
theorem dJ7_copyOf_6403c_38 : decode cJ7_copyOf_6403c 38 = .ok (.aload_n 3, 1) := by decide +kernel
theorem dJ7_copyOf_6403c_39 : decode cJ7_copyOf_6403c 39 = .ok (.areturn, 1) := by decide +kernel
set_option maxRecDepth 20000 in
theorem ggJ15_checkIndex_7cf53_J3_checkIndex_8e157 : GoodIn wsJ15_checkIndex_7cf53 wsJ3_checkIndex_8e157 := goodIn_r _ [4] (by decide +kernel) (by decide +kernel)
set_option maxRecDepth 20000 in
theorem gJ15_checkIndex_7cf53_J3_checkIndex_8e157 : GoodIn wsJ15_checkIndex_7cf53 (va_wsS RJ15 105 yJ3_checkIndex_8e157 wsJ3_checkIndex_8e157) := goodIn_app (goodIn_of _ (by decide +kernel)) ggJ15_checkIndex_7cf53_J3_checkIndex_8e157
theorem dJ15_checkIndex_7cf53_0 : decode cJ15_checkIndex_7cf53 0 = .ok (.iload_n 0, 1) := by decide +kernel
theorem dJ15_checkIndex_7cf53_1 : decode cJ15_checkIndex_7cf53 1 = .ok (.iload_n 1, 1) := by decide +kernel
theorem dJ15_checkIndex_7cf53_2 : decode cJ15_checkIndex_7cf53 2 = .ok (.aconst_null, 1) := by decide +kernel
theorem dJ15_checkIndex_7cf53_3 : decode cJ15_checkIndex_7cf53 3 = .ok (.invokestatic 105, 3) := by decide +kernel
theorem dJ15_checkIndex_7cf53_6 : decode cJ15_checkIndex_7cf53 6 = .ok (.ireturn, 1) := by decide +kernel
set_option maxRecDepth 20000 in
theorem ggJ8_newLength_cabcc_J8_hugeLength_7cf53 : GoodIn wsJ8_newLength_cabcc wsJ8_hugeLength_7cf53 := goodIn_r _ [9, 5] (by decide +kernel) (by decide +kernel)
set_option maxRecDepth 20000 in
theorem gJ8_newLength_cabcc_J8_hugeLength_7cf53 : GoodIn wsJ8_newLength_cabcc (va_wsS RJ8 201 yJ8_hugeLength_7cf53 wsJ8_hugeLength_7cf53) := goodIn_app (goodIn_of _ (by decide +kernel)) ggJ8_newLength_cabcc_J8_hugeLength_7cf53
theorem dJ8_newLength_cabcc_0 : decode cJ8_newLength_cabcc 0 = .ok (.iload_n 0, 1) := by decide +kernel
theorem dJ8_newLength_cabcc_1 : decode cJ8_newLength_cabcc 1 = .ok (.iload_n 1, 1) := by decide +kernel
theorem dJ8_newLength_cabcc_2 : decode cJ8_newLength_cabcc 2 = .ok (.iload_n 2, 1) := by decide +kernel
theorem dJ8_newLength_cabcc_3 : decode cJ8_newLength_cabcc 3 = .ok (.invokestatic 194, 3) := by decide +kernel
theorem dJ8_newLength_cabcc_6 : decode cJ8_newLength_cabcc 6 = .ok (.iadd, 1) := by decide +kernel
theorem dJ8_newLength_cabcc_7 : decode cJ8_newLength_cabcc 7 = .ok (.istore_n 3, 1) := by decide +kernel
theorem dJ8_newLength_cabcc_8 : decode cJ8_newLength_cabcc 8 = .ok (.iconst 0, 1) := by decide +kernel
theorem dJ8_newLength_cabcc_9 : decode cJ8_newLength_cabcc 9 = .ok (.iload_n 3, 1) := by decide +kernel
theorem dJ8_newLength_cabcc_10 : decode cJ8_newLength_cabcc 10 = .ok (.if_icmp .ge 11, 3) := by decide +kernel
theorem dJ8_newLength_cabcc_13 : decode cJ8_newLength_cabcc 13 = .ok (.iload_n 3, 1) := by decide +kernel
theorem dJ8_newLength_cabcc_14 : decode cJ8_newLength_cabcc 14 = .ok (.ldc 200, 2) := by decide +kernel
theorem dJ8_newLength_cabcc_16 : decode cJ8_newLength_cabcc 16 = .ok (.if_icmp .gt 5, 3) := by decide +kernel
theorem dJ8_newLength_cabcc_19 : decode cJ8_newLength_cabcc 19 = .ok (.iload_n 3, 1) := by decide +kernel
theorem dJ8_newLength_cabcc_20 : decode cJ8_newLength_cabcc 20 = .ok (.ireturn, 1) := by decide +kernel
theorem dJ8_newLength_cabcc_21 : decode cJ8_newLength_cabcc 21 = .ok (.iload_n 0, 1) := by decide +kernel
theorem dJ8_newLength_cabcc_22 : decode cJ8_newLength_cabcc 22 = .ok (.iload_n 1, 1) := by decide +kernel
theorem dJ8_newLength_cabcc_23 : decode cJ8_newLength_cabcc 23 = .ok (.invokestatic 201, 3) := by decide +kernel
theorem dJ8_newLength_cabcc_26 : decode cJ8_newLength_cabcc 26 = .ok (.ireturn, 1) := by decide +kernel
theorem dJ8_hugeLength_7cf53_0 : decode cJ8_hugeLength_7cf53 0 = .ok (.iload_n 0, 1) := by decide +kernel
theorem dJ8_hugeLength_7cf53_1 : decode cJ8_hugeLength_7cf53 1 = .ok (.iload_n 1, 1) := by decide +kernel
theorem dJ8_hugeLength_7cf53_2 : decode cJ8_hugeLength_7cf53 2 = .ok (.iadd, 1) := by decide +kernel
theorem dJ8_hugeLength_7cf53_3 : decode cJ8_hugeLength_7cf53 3 = .ok (.istore_n 2, 1) := by decide +kernel
theorem dJ8_hugeLength_7cf53_4 : decode cJ8_hugeLength_7cf53 4 = .ok (.iload_n 2, 1) := by decide +kernel
theorem dJ8_hugeLength_7cf53_5 : decode cJ8_hugeLength_7cf53 5 = .ok (.ifCond .ge 44, 3) := by decide +kernel
theorem dJ8_hugeLength_7cf53_8 : decode cJ8_hugeLength_7cf53 8 = .ok (.new 204, 3) := by decide +kernel
theorem dJ8_hugeLength_7cf53_11 : decode cJ8_hugeLength_7cf53 11 = .ok (.dup, 1) := by decide +kernel
theorem dJ8_hugeLength_7cf53_12 : decode cJ8_hugeLength_7cf53 12 = .ok (.new 89, 3) := by decide +kernel
theorem dJ8_hugeLength_7cf53_15 : decode cJ8_hugeLength_7cf53 15 = .ok (.dup, 1) := by decide +kernel
theorem dJ8_hugeLength_7cf53_16 : decode cJ8_hugeLength_7cf53 16 = .ok (.invokespecial 91, 3) := by decide +kernel
theorem dJ8_hugeLength_7cf53_19 : decode cJ8_hugeLength_7cf53 19 = .ok (.ldc 206, 2) := by decide +kernel
theorem dJ8_hugeLength_7cf53_21 : decode cJ8_hugeLength_7cf53 21 = .ok (.invokevirtual 94, 3) := by decide +kernel
theorem dJ8_hugeLength_7cf53_24 : decode cJ8_hugeLength_7cf53 24 = .ok (.iload_n 0, 1) := by decide +kernel
theorem dJ8_hugeLength_7cf53_25 : decode cJ8_hugeLength_7cf53 25 = .ok (.invokevirtual 98, 3) := by decide +kernel
theorem dJ8_hugeLength_7cf53_28 : decode cJ8_hugeLength_7cf53 28 = .ok (.ldc 208, 2) := by decide +kernel
theorem dJ8_hugeLength_7cf53_30 : decode cJ8_hugeLength_7cf53 30 = .ok (.invokevirtual 94, 3) := by decide +kernel
theorem dJ8_hugeLength_7cf53_33 : decode cJ8_hugeLength_7cf53 33 = .ok (.iload_n 1, 1) := by decide +kernel
theorem dJ8_hugeLength_7cf53_34 : decode cJ8_hugeLength_7cf53 34 = .ok (.invokevirtual 98, 3) := by decide +kernel
theorem dJ8_hugeLength_7cf53_37 : decode cJ8_hugeLength_7cf53 37 = .ok (.ldc 210, 2) := by decide +kernel
theorem dJ8_hugeLength_7cf53_39 : decode cJ8_hugeLength_7cf53 39 = .ok (.invokevirtual 94, 3) := by decide +kernel
theorem dJ8_hugeLength_7cf53_42 : decode cJ8_hugeLength_7cf53 42 = .ok (.invokevirtual 101, 3) := by decide +kernel
theorem dJ8_hugeLength_7cf53_45 : decode cJ8_hugeLength_7cf53 45 = .ok (.invokespecial 212, 3) := by decide +kernel
theorem dJ8_hugeLength_7cf53_48 : decode cJ8_hugeLength_7cf53 48 = .ok (.athrow, 1) := by decide +kernel
theorem dJ8_hugeLength_7cf53_49 : decode cJ8_hugeLength_7cf53 49 = .ok (.iload_n 2, 1) := by decide +kernel
theorem dJ8_hugeLength_7cf53_50 : decode cJ8_hugeLength_7cf53 50 = .ok (.ldc 200, 2) := by decide +kernel
theorem dJ8_hugeLength_7cf53_52 : decode cJ8_hugeLength_7cf53 52 = .ok (.if_icmp .gt 6, 3) := by decide +kernel
theorem dJ8_hugeLength_7cf53_55 : decode cJ8_hugeLength_7cf53 55 = .ok (.ldc 200, 2) := by decide +kernel
theorem dJ8_hugeLength_7cf53_57 : decode cJ8_hugeLength_7cf53 57 = .ok (.ireturn, 1) := by decide +kernel
theorem dJ8_hugeLength_7cf53_58 : decode cJ8_hugeLength_7cf53 58 = .ok (.iload_n 2, 1) := by decide +kernel
theorem dJ8_hugeLength_7cf53_59 : decode cJ8_hugeLength_7cf53 59 = .ok (.ireturn, 1) := by decide +kernel
theorem dJ3_checkIndex_8e157_0 : decode cJ3_checkIndex_8e157 0 = .ok (.iload_n 0, 1) := by decide +kernel
theorem dJ3_checkIndex_8e157_1 : decode cJ3_checkIndex_8e157 1 = .ok (.ifCond .lt 8, 3) := by decide +kernel
theorem dJ3_checkIndex_8e157_4 : decode cJ3_checkIndex_8e157 4 = .ok (.iload_n 0, 1) := by decide +kernel
theorem dJ3_checkIndex_8e157_5 : decode cJ3_checkIndex_8e157 5 = .ok (.iload_n 1, 1) := by decide +kernel
theorem dJ3_checkIndex_8e157_6 : decode cJ3_checkIndex_8e157 6 = .ok (.if_icmp .lt 10, 3) := by decide +kernel
theorem dJ3_checkIndex_8e157_9 : decode cJ3_checkIndex_8e157 9 = .ok (.aload_n 2, 1) := by decide +kernel
theorem dJ3_checkIndex_8e157_10 : decode cJ3_checkIndex_8e157 10 = .ok (.iload_n 0, 1) := by decide +kernel
theorem dJ3_checkIndex_8e157_11 : decode cJ3_checkIndex_8e157 11 = .ok (.iload_n 1, 1) := by decide +kernel
theorem dJ3_checkIndex_8e157_12 : decode cJ3_checkIndex_8e157 12 = .ok (.invokestatic 95, 3) := by decide +kernel
theorem dJ3_checkIndex_8e157_15 : decode cJ3_checkIndex_8e157 15 = .ok (.athrow, 1) := by decide +kernel
theorem dJ3_checkIndex_8e157_16 : decode cJ3_checkIndex_8e157 16 = .ok (.iload_n 0, 1) := by decide +kernel
theorem dJ3_checkIndex_8e157_17 : decode cJ3_checkIndex_8e157 17 = .ok (.ireturn, 1) := by decide +kernel
set_option maxRecDepth 20000 in
theorem ggL_law_X7_init : GoodIn wsL_law wsX7_init := goodIn_r _ [9, 10, 11, 12, 13, 14, 15, 16, 17, 18, 19, 20, 21, 22, 23, 24, 25, 26, 27, 28, 29, 30, 31, 32, 33, 34, 35, 36, 37, 38, 39, 40, 41, 42, 43, 44, 45, 46, 47, 48, 49, 50, 51, 52, 53, 54, 55, 56, 57, 58, 59, 60, 61, 62, 63, 64, 65, 761, 762, 763, 708, 709, 710, 711, 712, 713, 714, 764, 765, 766, 767, 768, 769, 770, 771, 772, 773, 774, 775, 776, 777, 778, 779, 780, 781, 782, 783, 784] (by decide +kernel) (by decide +kernel)
set_option maxRecDepth 20000 in
theorem gL_law_X7_init : GoodIn wsL_law (wsX7_init) := ggL_law_X7_init
set_option maxRecDepth 20000 in
theorem ggL_law_X8_init : GoodIn wsL_law wsX8_init := goodIn_r _ [68, 69, 11, 12, 22, 70, 71, 72, 73, 74, 75, 76, 77, 78, 79, 80, 81, 82, 83, 84, 85, 86, 87, 88, 89, 90, 91, 92, 93, 94, 95, 96, 97, 98, 99, 100, 101, 102, 103, 104, 105, 106, 715, 716, 717, 718, 719, 720, 721, 722, 723, 724, 725, 726, 727, 728, 729, 730, 731, 732, 733, 734, 735, 736, 737, 738, 739, 740, 741, 742, 743, 744, 745, 746, 747, 748, 749, 750, 751, 752, 753, 754, 755, 756, 757, 758, 759, 760] (by decide +kernel) (by decide +kernel)
set_option maxRecDepth 20000 in
theorem gL_law_X8_init : GoodIn wsL_law (wsX8_init) := ggL_law_X8_init
set_option maxRecDepth 20000 in
theorem ggL_law_X7_join : GoodIn wsL_law wsX7_join := goodIn_r _ [110, 16, 111, 112, 113, 114, 115, 2, 116, 117, 118, 119, 120, 121, 122, 123, 124, 125, 126, 15, 127, 128, 129, 130, 131, 132, 133, 134, 135, 136, 137, 138, 139, 140, 141, 142, 143, 144, 31, 145, 146, 147, 148, 11, 12, 149, 14, 150, 151, 152, 153, 154, 155, 156, 157, 158, 28, 29, 30, 32, 33, 34, 35, 36, 37, 38, 39, 40, 41, 159, 160, 161, 162, 163, 164, 49, 50, 165, 166, 55, 56, 57, 167, 168, 169, 170, 171, 172, 173, 174, 175, 176, 177, 178, 179, 180, 181, 182, 183, 184, 185, 186, 187, 188, 189, 190, 191, 192, 193, 194, 195, 196, 197, 198, 199, 200, 201, 202, 203, 204, 205, 206, 207, 208, 209, 210, 211, 212, 213, 214, 215, 216, 217, 218, 708, 709, 710, 711, 712, 713, 714, 785, 786, 787, 788, 789, 790, 761, 762, 763, 791, 792, 793, 794, 772, 773, 774, 775] (by decide +kernel) (by decide +kernel)
set_option maxRecDepth 20000 in
theorem gL_law_X7_join : GoodIn wsL_law (wsV RL 13 RX7 yX7_join wsX7_join) := goodIn_app (goodIn_of _ (by decide +kernel)) ggL_law_X7_join
set_option maxRecDepth 20000 in
theorem ggL_law_X8_join : GoodIn wsL_law wsX8_join := goodIn_r _ [222, 223, 70, 224, 225, 5, 226, 227, 228, 229, 230, 231, 232, 233, 715, 716, 717, 718, 719, 720, 721, 722, 723, 724, 725, 726, 727, 728, 729, 730, 731, 732, 733, 734, 735, 736, 737, 738, 739, 740, 741, 742, 743, 744, 745, 746, 747, 748, 749, 750, 751, 752, 753, 754, 755, 756, 757, 758, 759, 760] (by decide +kernel) (by decide +kernel)
set_option maxRecDepth 20000 in
theorem gL_law_X8_join : GoodIn wsL_law (wsV RL 17 RX8 yX8_join wsX8_join) := goodIn_app (goodIn_of _ (by decide +kernel)) ggL_law_X8_join
set_option maxRecDepth 20000 in
theorem ggL_law_X7_open : GoodIn wsL_law wsX7_open := goodIn_r _ [237, 238, 239, 17, 240, 241, 242, 243, 244, 245, 2, 246, 16, 122, 124, 125, 126, 15, 127, 128, 129, 130, 131, 132, 133, 134, 135, 136, 137, 138, 139, 140, 141, 142, 143, 144, 31, 114, 115, 116, 117, 247, 248, 249, 250, 251, 252, 253, 254, 255, 256, 257, 11, 12, 258, 259, 260, 167, 168, 169, 170, 171, 172, 173, 174, 175, 176, 177, 178, 179, 180, 181, 182, 183, 184, 30, 185, 186, 187, 188, 189, 190, 191, 192, 193, 194, 195, 196, 197, 198, 199, 200, 201, 202, 203, 204, 205, 206, 207, 208, 209, 210, 211, 212, 213, 214, 215, 216, 217, 218, 708, 709, 710, 711, 712, 713, 714, 795, 796, 797, 798, 761, 762, 763] (by decide +kernel) (by decide +kernel)
set_option maxRecDepth 20000 in
theorem gL_law_X7_open : GoodIn wsL_law (wsV RL 18 RX7 yX7_open wsX7_open) := goodIn_app (goodIn_of _ (by decide +kernel)) ggL_law_X7_open
set_option maxRecDepth 20000 in
theorem ggL_law_X8_open : GoodIn wsL_law wsX8_open := goodIn_r _ [264, 223, 265, 266, 267, 73, 74, 75, 224, 225, 5, 226, 227, 228, 229, 268, 269, 270, 271, 715, 716, 717, 718, 719, 720, 721, 722, 723, 724, 725, 726, 727, 728, 729, 730, 731, 732, 733, 734, 735, 736, 737, 738, 739, 740, 741, 742, 743, 744, 745, 746, 747, 748, 749, 750, 751, 752, 753, 754, 755, 756, 757, 758, 759, 760] (by decide +kernel) (by decide +kernel)
set_option maxRecDepth 20000 in
theorem gL_law_X8_open : GoodIn wsL_law (wsV RL 22 RX8 yX8_open wsX8_open) := goodIn_app (goodIn_of _ (by decide +kernel)) ggL_law_X8_open
set_option maxRecDepth 20000 in
theorem ggL_law_X7_shut : GoodIn wsL_law wsX7_shut := goodIn_r _ [275, 276, 243, 244, 245, 2, 246, 16, 122, 124, 125, 126, 15, 127, 128, 129, 130, 131, 132, 133, 134, 135, 136, 137, 138, 139, 140, 141, 142, 143, 144, 31, 247, 248, 249, 250, 17, 251, 252, 253, 795, 796, 797, 798, 708, 709, 710, 711, 712, 713, 714, 761, 762, 763] (by decide +kernel) (by decide +kernel)
set_option maxRecDepth 20000 in
theorem gL_law_X7_shut : GoodIn wsL_law (wsV RL 23 RX7 yX7_shut wsX7_shut) := goodIn_app (goodIn_of _ (by decide +kernel)) ggL_law_X7_shut
set_option maxRecDepth 20000 in
theorem ggL_law_X8_shut : GoodIn wsL_law wsX8_shut := goodIn_r _ [280, 77, 268, 269, 270, 5, 271, 267, 73, 74, 715, 716, 717, 718, 719, 720, 721, 722, 723, 724, 725, 726, 727, 728, 729, 730, 731, 732, 733, 734, 735, 736, 737, 738, 739, 740, 741, 742, 743, 744, 745, 746, 747, 748, 749, 750, 751, 752, 753, 754, 755, 756, 757, 758, 759, 760] (by decide +kernel) (by decide +kernel)
set_option maxRecDepth 20000 in
theorem gL_law_X8_shut : GoodIn wsL_law (wsV RL 27 RX8 yX8_shut wsX8_shut) := goodIn_app (goodIn_of _ (by decide +kernel)) ggL_law_X8_shut
set_option maxRecDepth 20000 in
theorem ggL_law_X7_day : GoodIn wsL_law wsX7_day := goodIn_r _ [284, 26, 708, 709, 710, 711, 712, 713, 714] (by decide +kernel) (by decide +kernel)
set_option maxRecDepth 20000 in
theorem gL_law_X7_day : GoodIn wsL_law (wsV RL 28 RX7 yX7_day wsX7_day) := goodIn_app (goodIn_of _ (by decide +kernel)) ggL_law_X7_day
set_option maxRecDepth 20000 in
theorem ggL_law_X8_day : GoodIn wsL_law wsX8_day := goodIn_r _ [288, 289, 715, 716, 717, 718, 719, 720, 721, 722, 723, 724, 725, 726, 727, 728, 729, 730, 731, 732, 733, 734, 735, 736, 737, 738, 739, 740, 741, 742, 743, 744, 745, 746, 747, 748, 749, 750, 751, 752, 753, 754, 755, 756, 757, 758, 759, 760] (by decide +kernel) (by decide +kernel)
set_option maxRecDepth 20000 in
theorem gL_law_X8_day : GoodIn wsL_law (wsV RL 32 RX8 yX8_day wsX8_day) := goodIn_app (goodIn_of _ (by decide +kernel)) ggL_law_X8_day
set_option maxRecDepth 20000 in
theorem ggL_law_X7_put : GoodIn wsL_law wsX7_put := goodIn_r _ [293, 21, 294, 295, 2, 296, 297, 298, 299, 300, 301, 302, 303, 304, 20, 305, 306, 307, 308, 309, 310, 311, 312, 313, 314, 315, 316, 317, 51, 318, 319, 320, 321, 50, 322, 323, 324, 325, 326, 327, 328, 329, 330, 331, 332, 333, 334, 335, 336, 337, 53, 338, 339, 340, 341, 62, 64, 342, 343, 344, 345, 346, 15, 347, 171, 172, 31, 128, 348, 349, 350, 351, 352, 353, 354, 355, 356, 357, 358, 359, 360, 361, 362, 363, 364, 365, 366, 11, 12, 367, 368, 369, 370, 371, 372, 168, 169, 170, 173, 174, 175, 176, 177, 178, 179, 180, 181, 182, 183, 184, 30, 185, 186, 187, 188, 189, 190, 191, 192, 193, 194, 195, 196, 197, 198, 199, 200, 201, 202, 203, 204, 205, 206, 207, 208, 209, 210, 211, 212, 213, 214, 215, 216, 217, 218, 373, 374, 375, 376, 377, 378, 379, 380, 381, 382, 383, 384, 385, 386, 387, 388, 389, 390, 391, 392, 393, 394, 395, 396, 397, 398, 399, 118, 119, 120, 121, 16, 122, 123, 124, 125, 126, 127, 129, 130, 131, 132, 133, 134, 135, 136, 137, 138, 139, 140, 141, 142, 143, 144, 400, 401, 402, 403, 404, 405, 406, 407, 408, 24, 23, 409, 410, 411, 412, 413, 414, 415, 416, 417, 418, 419, 420, 421, 422, 423, 424, 425, 26, 426, 427, 428, 429, 430, 431, 432, 433, 434, 435, 436, 437, 438, 439, 114, 115, 116, 117, 440, 441, 442, 443, 25, 444, 445, 446, 447, 448, 449, 450, 451, 452, 453, 454, 455, 167, 708, 709, 710, 711, 712, 713, 714, 764, 765, 766, 767, 768, 769, 770, 771, 772, 773, 774, 775, 776, 777, 778, 779, 780, 781, 782, 783, 784, 761, 762, 763, 799, 800, 801, 802, 803, 804, 805, 806, 807, 785, 786, 787, 788, 789, 790] (by decide +kernel) (by decide +kernel)
set_option maxRecDepth 20000 in
theorem gL_law_X7_put : GoodIn wsL_law (wsV RL 35 RX7 yX7_put wsX7_put) := goodIn_app (goodIn_of _ (by decide +kernel)) ggL_law_X7_put
set_option maxRecDepth 20000 in
theorem ggL_law_X8_put : GoodIn wsL_law wsX8_put := goodIn_r _ [459, 460, 461, 462, 463, 464, 465, 81, 82, 83, 84, 466, 467, 5, 468, 469, 470, 471, 472, 473, 78, 79, 80, 474, 475, 476, 477, 85, 86, 87, 88, 89, 90, 478, 479, 480, 481, 106, 91, 482, 483, 484, 485, 486, 230, 231, 232, 233, 223, 70, 487, 488, 489, 490, 491, 492, 493, 494, 495, 99, 496, 497, 498, 499, 500, 501, 502, 503, 289, 504, 505, 506, 507, 227, 228, 229, 508, 509, 510, 511, 92, 93, 94, 95, 96, 97, 98, 715, 716, 717, 718, 719, 720, 721, 722, 723, 724, 725, 726, 727, 728, 729, 730, 731, 732, 733, 734, 735, 736, 737, 738, 739, 740, 741, 742, 743, 744, 745, 746, 747, 748, 749, 750, 751, 752, 753, 754, 755, 756, 757, 758, 759, 760] (by decide +kernel) (by decide +kernel)
set_option maxRecDepth 20000 in
theorem gL_law_X8_put : GoodIn wsL_law (wsV RL 39 RX8 yX8_put wsX8_put) := goodIn_app (goodIn_of _ (by decide +kernel)) ggL_law_X8_put
set_option maxRecDepth 20000 in
theorem ggL_law_X7_window : GoodIn wsL_law wsX7_window := goodIn_r _ [515, 516, 243, 244, 245, 2, 246, 16, 122, 124, 125, 126, 15, 127, 128, 129, 130, 131, 132, 133, 134, 135, 136, 137, 138, 139, 140, 141, 142, 143, 144, 31, 517, 518, 519, 154, 520, 521, 163, 522, 523, 524, 525, 526, 165, 527, 528, 345, 346, 347, 171, 172, 529, 320, 321, 50, 322, 323, 324, 325, 326, 530, 531, 532, 533, 432, 534, 535, 536, 537, 538, 168, 169, 170, 173, 174, 175, 176, 177, 178, 179, 180, 181, 182, 183, 184, 30, 185, 186, 187, 188, 189, 190, 191, 192, 193, 194, 195, 196, 197, 198, 199, 200, 201, 202, 203, 204, 205, 206, 207, 208, 209, 210, 211, 212, 213, 214, 215, 216, 217, 218, 539, 374, 375, 376, 377, 378, 379, 540, 541, 542, 359, 362, 435, 543, 434, 544, 545, 546, 547, 548, 413, 433, 26, 549, 550, 551, 552, 553, 554, 555, 556, 557, 358, 558, 559, 560, 561, 562, 563, 564, 565, 566, 567, 568, 569, 570, 571, 572, 573, 574, 575, 576, 577, 578, 579, 580, 581, 582, 785, 786, 787, 788, 789, 790, 708, 709, 710, 711, 712, 713, 714, 761, 762, 763, 791, 792, 793, 794, 772, 773, 774, 775, 799, 800, 801, 802, 803, 804, 805, 806, 807] (by decide +kernel) (by decide +kernel)
set_option maxRecDepth 20000 in
theorem gL_law_X7_window : GoodIn wsL_law (wsV RL 40 RX7 yX7_window wsX7_window) := goodIn_app (goodIn_of _ (by decide +kernel)) ggL_law_X7_window
set_option maxRecDepth 20000 in
theorem ggL_law_X8_window : GoodIn wsL_law wsX8_window := goodIn_r _ [586, 223, 102, 224, 225, 5, 226, 587, 588, 589, 590, 105, 591, 592, 593, 594, 495, 99, 93, 94, 98, 289, 595, 596, 597, 598, 101, 599, 600, 601, 602, 103, 104, 92, 96, 72, 715, 716, 717, 718, 719, 720, 721, 722, 723, 724, 725, 726, 727, 728, 729, 730, 731, 732, 733, 734, 735, 736, 737, 738, 739, 740, 741, 742, 743, 744, 745, 746, 747, 748, 749, 750, 751, 752, 753, 754, 755, 756, 757, 758, 759, 760] (by decide +kernel) (by decide +kernel)
set_option maxRecDepth 20000 in
theorem gL_law_X8_window : GoodIn wsL_law (wsV RL 43 RX8 yX8_window wsX8_window) := goodIn_app (goodIn_of _ (by decide +kernel)) ggL_law_X8_window
set_option maxRecDepth 20000 in
theorem ggL_law_X7_post : GoodIn wsL_law wsX7_post := goodIn_r _ [606, 516, 607, 608, 213, 187, 214, 609, 432, 243, 244, 245, 2, 246, 16, 122, 124, 125, 126, 15, 127, 128, 129, 130, 131, 132, 133, 134, 135, 136, 137, 138, 139, 140, 141, 142, 143, 144, 31, 579, 580, 581, 154, 582, 163, 522, 610, 611, 612, 613, 527, 614, 615, 616, 617, 435, 361, 436, 618, 359, 362, 247, 248, 249, 250, 17, 251, 252, 253, 619, 620, 621, 276, 114, 115, 116, 117, 622, 623, 624, 625, 434, 533, 440, 441, 442, 443, 25, 167, 168, 169, 170, 171, 172, 173, 174, 175, 176, 177, 178, 179, 180, 181, 182, 183, 184, 30, 185, 186, 188, 189, 190, 191, 192, 193, 194, 195, 196, 197, 198, 199, 200, 201, 202, 203, 204, 205, 206, 207, 208, 209, 210, 211, 212, 215, 216, 217, 218, 785, 786, 787, 788, 789, 790, 791, 792, 793, 794, 708, 709, 710, 711, 712, 713, 714, 761, 762, 763, 799, 800, 801, 802, 803, 804, 805, 806, 807, 795, 796, 797, 798] (by decide +kernel) (by decide +kernel)
set_option maxRecDepth 20000 in
theorem gL_law_X7_post : GoodIn wsL_law (wsV RL 44 RX7 yX7_post wsX7_post) := goodIn_app (goodIn_of _ (by decide +kernel)) ggL_law_X7_post
set_option maxRecDepth 20000 in
theorem ggL_law_X8_post : GoodIn wsL_law wsX8_post := goodIn_r _ [629, 223, 102, 105, 224, 225, 5, 226, 630, 631, 632, 633, 103, 104, 106, 100, 99, 101, 634, 94, 95, 75, 92, 96, 635, 636, 637, 638, 77, 227, 228, 229, 268, 269, 270, 271, 267, 73, 74, 715, 716, 717, 718, 719, 720, 721, 722, 723, 724, 725, 726, 727, 728, 729, 730, 731, 732, 733, 734, 735, 736, 737, 738, 739, 740, 741, 742, 743, 744, 745, 746, 747, 748, 749, 750, 751, 752, 753, 754, 755, 756, 757, 758, 759, 760] (by decide +kernel) (by decide +kernel)
set_option maxRecDepth 20000 in
theorem gL_law_X8_post : GoodIn wsL_law (wsV RL 48 RX8 yX8_post wsX8_post) := goodIn_app (goodIn_of _ (by decide +kernel)) ggL_law_X8_post
set_option maxRecDepth 20000 in
theorem ggL_law_X7_items : GoodIn wsL_law wsX7_items := goodIn_r _ [642, 516, 243, 244, 245, 2, 246, 16, 122, 124, 125, 126, 15, 127, 128, 129, 130, 131, 132, 133, 134, 135, 136, 137, 138, 139, 140, 141, 142, 143, 144, 31, 579, 580, 581, 154, 582, 163, 522, 785, 786, 787, 788, 789, 790, 708, 709, 710, 711, 712, 713, 714, 761, 762, 763, 791, 792, 793, 794] (by decide +kernel) (by decide +kernel)
set_option maxRecDepth 20000 in
theorem gL_law_X7_items : GoodIn wsL_law (wsV RL 49 RX7 yX7_items wsX7_items) := goodIn_app (goodIn_of _ (by decide +kernel)) ggL_law_X7_items
set_option maxRecDepth 20000 in
theorem ggL_law_X8_items : GoodIn wsL_law wsX8_items := goodIn_r _ [646, 223, 102, 224, 225, 5, 226, 715, 716, 717, 718, 719, 720, 721, 722, 723, 724, 725, 726, 727, 728, 729, 730, 731, 732, 733, 734, 735, 736, 737, 738, 739, 740, 741, 742, 743, 744, 745, 746, 747, 748, 749, 750, 751, 752, 753, 754, 755, 756, 757, 758, 759, 760] (by decide +kernel) (by decide +kernel)
set_option maxRecDepth 20000 in
theorem gL_law_X8_items : GoodIn wsL_law (wsV RL 52 RX8 yX8_items wsX8_items) := goodIn_app (goodIn_of _ (by decide +kernel)) ggL_law_X8_items
set_option maxRecDepth 20000 in
theorem ggL_law_X7_item : GoodIn wsL_law wsX7_item := goodIn_r _ [650, 516, 609, 432, 359, 435, 651, 434, 361, 362, 363, 436, 243, 244, 245, 2, 246, 16, 122, 124, 125, 126, 15, 127, 128, 129, 130, 131, 132, 133, 134, 135, 136, 137, 138, 139, 140, 141, 142, 143, 144, 31, 579, 580, 581, 154, 582, 163, 522, 610, 611, 612, 613, 527, 652, 653, 654, 655, 521, 553, 656, 657, 554, 785, 786, 787, 788, 789, 790, 791, 792, 793, 794, 799, 800, 801, 802, 803, 804, 805, 806, 807, 708, 709, 710, 711, 712, 713, 714, 761, 762, 763] (by decide +kernel) (by decide +kernel)
set_option maxRecDepth 20000 in
theorem gL_law_X7_item : GoodIn wsL_law (wsV RL 53 RX7 yX7_item wsX7_item) := goodIn_app (goodIn_of _ (by decide +kernel)) ggL_law_X7_item
set_option maxRecDepth 20000 in
theorem ggL_law_X8_item : GoodIn wsL_law wsX8_item := goodIn_r _ [661, 223, 102, 103, 92, 104, 94, 93, 95, 96, 97, 100, 105, 224, 225, 5, 226, 715, 716, 717, 718, 719, 720, 721, 722, 723, 724, 725, 726, 727, 728, 729, 730, 731, 732, 733, 734, 735, 736, 737, 738, 739, 740, 741, 742, 743, 744, 745, 746, 747, 748, 749, 750, 751, 752, 753, 754, 755, 756, 757, 758, 759, 760] (by decide +kernel) (by decide +kernel)
set_option maxRecDepth 20000 in
theorem gL_law_X8_item : GoodIn wsL_law (wsV RL 57 RX8 yX8_item wsX8_item) := goodIn_app (goodIn_of _ (by decide +kernel)) ggL_law_X8_item
set_option maxRecDepth 20000 in
theorem ggL_law_X7_control : GoodIn wsL_law wsX7_control := goodIn_r _ [665, 666, 516, 667, 354, 668, 669, 670, 243, 244, 245, 2, 246, 16, 122, 124, 125, 126, 15, 127, 128, 129, 130, 131, 132, 133, 134, 135, 136, 137, 138, 139, 140, 141, 142, 143, 144, 31, 785, 786, 787, 788, 789, 790, 791, 792, 793, 794, 772, 773, 774, 775, 708, 709, 710, 711, 712, 713, 714, 761, 762, 763] (by decide +kernel) (by decide +kernel)
set_option maxRecDepth 20000 in
theorem gL_law_X7_control : GoodIn wsL_law (wsV RL 58 RX7 yX7_control wsX7_control) := goodIn_app (goodIn_of _ (by decide +kernel)) ggL_law_X7_control
set_option maxRecDepth 20000 in
theorem ggL_law_X8_control : GoodIn wsL_law wsX8_control := goodIn_r _ [674, 223, 675, 102, 103, 70, 94, 92, 96, 224, 225, 5, 226, 715, 716, 717, 718, 719, 720, 721, 722, 723, 724, 725, 726, 727, 728, 729, 730, 731, 732, 733, 734, 735, 736, 737, 738, 739, 740, 741, 742, 743, 744, 745, 746, 747, 748, 749, 750, 751, 752, 753, 754, 755, 756, 757, 758, 759, 760] (by decide +kernel) (by decide +kernel)
set_option maxRecDepth 20000 in
theorem gL_law_X8_control : GoodIn wsL_law (wsV RL 62 RX8 yX8_control wsX8_control) := goodIn_app (goodIn_of _ (by decide +kernel)) ggL_law_X8_control
set_option maxRecDepth 20000 in
theorem ggL_law_X7_balance : GoodIn wsL_law wsX7_balance := goodIn_r _ [679, 666, 618, 243, 244, 245, 2, 246, 16, 122, 124, 125, 126, 15, 127, 128, 129, 130, 131, 132, 133, 134, 135, 136, 137, 138, 139, 140, 141, 142, 143, 144, 31, 247, 248, 249, 250, 17, 251, 252, 253, 795, 796, 797, 798, 708, 709, 710, 711, 712, 713, 714, 761, 762, 763] (by decide +kernel) (by decide +kernel)
set_option maxRecDepth 20000 in
theorem gL_law_X7_balance : GoodIn wsL_law (wsV RL 63 RX7 yX7_balance wsX7_balance) := goodIn_app (goodIn_of _ (by decide +kernel)) ggL_law_X7_balance
set_option maxRecDepth 20000 in
theorem ggL_law_X8_balance : GoodIn wsL_law wsX8_balance := goodIn_r _ [683, 675, 75, 268, 269, 270, 5, 271, 267, 73, 74, 715, 716, 717, 718, 719, 720, 721, 722, 723, 724, 725, 726, 727, 728, 729, 730, 731, 732, 733, 734, 735, 736, 737, 738, 739, 740, 741, 742, 743, 744, 745, 746, 747, 748, 749, 750, 751, 752, 753, 754, 755, 756, 757, 758, 759, 760] (by decide +kernel) (by decide +kernel)
set_option maxRecDepth 20000 in
theorem gL_law_X8_balance : GoodIn wsL_law (wsV RL 66 RX8 yX8_balance wsX8_balance) := goodIn_app (goodIn_of _ (by decide +kernel)) ggL_law_X8_balance
set_option maxRecDepth 20000 in
theorem ggL_law_X7_ledger : GoodIn wsL_law wsX7_ledger := goodIn_r _ [687, 543, 243, 244, 245, 2, 246, 16, 122, 124, 125, 126, 15, 127, 128, 129, 130, 131, 132, 133, 134, 135, 136, 137, 138, 139, 140, 141, 142, 143, 144, 31, 785, 786, 787, 788, 789, 790, 708, 709, 710, 711, 712, 713, 714, 761, 762, 763] (by decide +kernel) (by decide +kernel)
set_option maxRecDepth 20000 in
theorem gL_law_X7_ledger : GoodIn wsL_law (wsV RL 67 RX7 yX7_ledger wsX7_ledger) := goodIn_app (goodIn_of _ (by decide +kernel)) ggL_law_X7_ledger
set_option maxRecDepth 20000 in
theorem ggL_law_X8_ledger : GoodIn wsL_law wsX8_ledger := goodIn_r _ [691, 223, 72, 224, 225, 5, 226, 715, 716, 717, 718, 719, 720, 721, 722, 723, 724, 725, 726, 727, 728, 729, 730, 731, 732, 733, 734, 735, 736, 737, 738, 739, 740, 741, 742, 743, 744, 745, 746, 747, 748, 749, 750, 751, 752, 753, 754, 755, 756, 757, 758, 759, 760] (by decide +kernel) (by decide +kernel)
set_option maxRecDepth 20000 in
theorem gL_law_X8_ledger : GoodIn wsL_law (wsV RL 71 RX8 yX8_ledger wsX8_ledger) := goodIn_app (goodIn_of _ (by decide +kernel)) ggL_law_X8_ledger
set_option maxRecDepth 20000 in
theorem ggL_law_X7_rejected : GoodIn wsL_law wsX7_rejected := goodIn_r _ [695, 25, 708, 709, 710, 711, 712, 713, 714] (by decide +kernel) (by decide +kernel)
set_option maxRecDepth 20000 in
theorem gL_law_X7_rejected : GoodIn wsL_law (wsV RL 72 RX7 yX7_rejected wsX7_rejected) := goodIn_app (goodIn_of _ (by decide +kernel)) ggL_law_X7_rejected
set_option maxRecDepth 20000 in
theorem ggL_law_X8_rejected : GoodIn wsL_law wsX8_rejected := goodIn_r _ [699, 106, 715, 716, 717, 718, 719, 720, 721, 722, 723, 724, 725, 726, 727, 728, 729, 730, 731, 732, 733, 734, 735, 736, 737, 738, 739, 740, 741, 742, 743, 744, 745, 746, 747, 748, 749, 750, 751, 752, 753, 754, 755, 756, 757, 758, 759, 760] (by decide +kernel) (by decide +kernel)
set_option maxRecDepth 20000 in
theorem gL_law_X8_rejected : GoodIn wsL_law (wsV RL 75 RX8 yX8_rejected wsX8_rejected) := goodIn_app (goodIn_of _ (by decide +kernel)) ggL_law_X8_rejected
set_option maxRecDepth 20000 in
theorem ggL_law_X7_waiting : GoodIn wsL_law wsX7_waiting := goodIn_r _ [703, 413, 533, 243, 244, 245, 2, 246, 16, 122, 124, 125, 126, 15, 127, 128, 129, 130, 131, 132, 133, 134, 135, 136, 137, 138, 139, 140, 141, 142, 143, 144, 31, 785, 786, 787, 788, 789, 790, 708, 709, 710, 711, 712, 713, 714, 761, 762, 763] (by decide +kernel) (by decide +kernel)
set_option maxRecDepth 20000 in
theorem gL_law_X7_waiting : GoodIn wsL_law (wsV RL 76 RX7 yX7_waiting wsX7_waiting) := goodIn_app (goodIn_of _ (by decide +kernel)) ggL_law_X7_waiting
set_option maxRecDepth 20000 in
theorem ggL_law_X8_waiting : GoodIn wsL_law wsX8_waiting := goodIn_r _ [707, 223, 495, 99, 94, 93, 224, 225, 5, 226, 715, 716, 717, 718, 719, 720, 721, 722, 723, 724, 725, 726, 727, 728, 729, 730, 731, 732, 733, 734, 735, 736, 737, 738, 739, 740, 741, 742, 743, 744, 745, 746, 747, 748, 749, 750, 751, 752, 753, 754, 755, 756, 757, 758, 759, 760] (by decide +kernel) (by decide +kernel)
set_option maxRecDepth 20000 in
theorem gL_law_X8_waiting : GoodIn wsL_law (wsV RL 79 RX8 yX8_waiting wsX8_waiting) := goodIn_app (goodIn_of _ (by decide +kernel)) ggL_law_X8_waiting
end
section
theorem dL_law_0 : decode cL_law 0 = .ok (.new 7, 3) := by decide +kernel
theorem dL_law_3 : decode cL_law 3 = .ok (.dup, 1) := by decide +kernel
theorem dL_law_4 : decode cL_law 4 = .ok (.invokespecial 9, 3) := by decide +kernel
theorem dL_law_7 : decode cL_law 7 = .ok (.astore_n 1, 1) := by decide +kernel
theorem dL_law_8 : decode cL_law 8 = .ok (.new 10, 3) := by decide +kernel
theorem dL_law_11 : decode cL_law 11 = .ok (.dup, 1) := by decide +kernel
theorem dL_law_12 : decode cL_law 12 = .ok (.invokespecial 12, 3) := by decide +kernel
theorem dL_law_15 : decode cL_law 15 = .ok (.astore_n 2, 1) := by decide +kernel
theorem dL_law_16 : decode cL_law 16 = .ok (.iconst 0, 1) := by decide +kernel
theorem dL_law_17 : decode cL_law 17 = .ok (.istore_n 3, 1) := by decide +kernel
theorem dL_law_18 : decode cL_law 18 = .ok (.iload_n 3, 1) := by decide +kernel
theorem dL_law_19 : decode cL_law 19 = .ok (.aload_n 0, 1) := by decide +kernel
theorem dL_law_20 : decode cL_law 20 = .ok (.arraylength, 1) := by decide +kernel
theorem dL_law_21 : decode cL_law 21 = .ok (.iconst 5, 1) := by decide +kernel
theorem dL_law_22 : decode cL_law 22 = .ok (.isub, 1) := by decide +kernel
theorem dL_law_23 : decode cL_law 23 = .ok (.if_icmp .gt 562, 3) := by decide +kernel
theorem dL_law_26 : decode cL_law 26 = .ok (.aload_n 0, 1) := by decide +kernel
theorem dL_law_27 : decode cL_law 27 = .ok (.iload_n 3, 1) := by decide +kernel
theorem dL_law_28 : decode cL_law 28 = .ok (.iaload, 1) := by decide +kernel
theorem dL_law_29 : decode cL_law 29 = .ok (.bipush 15, 2) := by decide +kernel
theorem dL_law_31 : decode cL_law 31 = .ok (.iand, 1) := by decide +kernel
theorem dL_law_32 : decode cL_law 32 = .ok (.tableswitch 547 0 13 #[72, 95, 138, 171, 184, 277, 300, 333, 356, 399, 433, 467, 491, 514], 72) := by decide +kernel
theorem dL_law_104 : decode cL_law 104 = .ok (.aload_n 1, 1) := by decide +kernel
theorem dL_law_105 : decode cL_law 105 = .ok (.aload_n 0, 1) := by decide +kernel
theorem dL_law_106 : decode cL_law 106 = .ok (.iload_n 3, 1) := by decide +kernel
theorem dL_law_107 : decode cL_law 107 = .ok (.iconst 1, 1) := by decide +kernel
theorem dL_law_108 : decode cL_law 108 = .ok (.iadd, 1) := by decide +kernel
theorem dL_law_109 : decode cL_law 109 = .ok (.iaload, 1) := by decide +kernel
theorem dL_law_110 : decode cL_law 110 = .ok (.invokevirtual 13, 3) := by decide +kernel
theorem dL_law_113 : decode cL_law 113 = .ok (.aload_n 2, 1) := by decide +kernel
theorem dL_law_114 : decode cL_law 114 = .ok (.aload_n 0, 1) := by decide +kernel
theorem dL_law_115 : decode cL_law 115 = .ok (.iload_n 3, 1) := by decide +kernel
theorem dL_law_116 : decode cL_law 116 = .ok (.iconst 1, 1) := by decide +kernel
theorem dL_law_117 : decode cL_law 117 = .ok (.iadd, 1) := by decide +kernel
theorem dL_law_118 : decode cL_law 118 = .ok (.iaload, 1) := by decide +kernel
theorem dL_law_119 : decode cL_law 119 = .ok (.invokevirtual 17, 3) := by decide +kernel
theorem dL_law_122 : decode cL_law 122 = .ok (.if_icmp .eq 457, 3) := by decide +kernel
theorem dL_law_125 : decode cL_law 125 = .ok (.iconst 0, 1) := by decide +kernel
theorem dL_law_126 : decode cL_law 126 = .ok (.ireturn, 1) := by decide +kernel
theorem dL_law_127 : decode cL_law 127 = .ok (.aload_n 1, 1) := by decide +kernel
theorem dL_law_128 : decode cL_law 128 = .ok (.aload_n 0, 1) := by decide +kernel
theorem dL_law_129 : decode cL_law 129 = .ok (.iload_n 3, 1) := by decide +kernel
theorem dL_law_130 : decode cL_law 130 = .ok (.iconst 1, 1) := by decide +kernel
theorem dL_law_131 : decode cL_law 131 = .ok (.iadd, 1) := by decide +kernel
theorem dL_law_132 : decode cL_law 132 = .ok (.iaload, 1) := by decide +kernel
theorem dL_law_133 : decode cL_law 133 = .ok (.aload_n 0, 1) := by decide +kernel
theorem dL_law_134 : decode cL_law 134 = .ok (.iload_n 3, 1) := by decide +kernel
theorem dL_law_135 : decode cL_law 135 = .ok (.iconst 2, 1) := by decide +kernel
theorem dL_law_136 : decode cL_law 136 = .ok (.iadd, 1) := by decide +kernel
theorem dL_law_137 : decode cL_law 137 = .ok (.iaload, 1) := by decide +kernel
theorem dL_law_138 : decode cL_law 138 = .ok (.aload_n 0, 1) := by decide +kernel
theorem dL_law_139 : decode cL_law 139 = .ok (.iload_n 3, 1) := by decide +kernel
theorem dL_law_140 : decode cL_law 140 = .ok (.iconst 3, 1) := by decide +kernel
theorem dL_law_141 : decode cL_law 141 = .ok (.iadd, 1) := by decide +kernel
theorem dL_law_142 : decode cL_law 142 = .ok (.iaload, 1) := by decide +kernel
theorem dL_law_143 : decode cL_law 143 = .ok (.invokevirtual 18, 3) := by decide +kernel
theorem dL_law_146 : decode cL_law 146 = .ok (.aload_n 2, 1) := by decide +kernel
theorem dL_law_147 : decode cL_law 147 = .ok (.aload_n 0, 1) := by decide +kernel
theorem dL_law_148 : decode cL_law 148 = .ok (.iload_n 3, 1) := by decide +kernel
theorem dL_law_149 : decode cL_law 149 = .ok (.iconst 1, 1) := by decide +kernel
theorem dL_law_150 : decode cL_law 150 = .ok (.iadd, 1) := by decide +kernel
theorem dL_law_151 : decode cL_law 151 = .ok (.iaload, 1) := by decide +kernel
theorem dL_law_152 : decode cL_law 152 = .ok (.aload_n 0, 1) := by decide +kernel
theorem dL_law_153 : decode cL_law 153 = .ok (.iload_n 3, 1) := by decide +kernel
theorem dL_law_154 : decode cL_law 154 = .ok (.iconst 2, 1) := by decide +kernel
theorem dL_law_155 : decode cL_law 155 = .ok (.iadd, 1) := by decide +kernel
theorem dL_law_156 : decode cL_law 156 = .ok (.iaload, 1) := by decide +kernel
theorem dL_law_157 : decode cL_law 157 = .ok (.aload_n 0, 1) := by decide +kernel
theorem dL_law_158 : decode cL_law 158 = .ok (.iload_n 3, 1) := by decide +kernel
theorem dL_law_159 : decode cL_law 159 = .ok (.iconst 3, 1) := by decide +kernel
theorem dL_law_160 : decode cL_law 160 = .ok (.iadd, 1) := by decide +kernel
theorem dL_law_161 : decode cL_law 161 = .ok (.iaload, 1) := by decide +kernel
theorem dL_law_162 : decode cL_law 162 = .ok (.invokevirtual 22, 3) := by decide +kernel
theorem dL_law_165 : decode cL_law 165 = .ok (.if_icmp .eq 414, 3) := by decide +kernel
theorem dL_law_168 : decode cL_law 168 = .ok (.iconst 0, 1) := by decide +kernel
theorem dL_law_169 : decode cL_law 169 = .ok (.ireturn, 1) := by decide +kernel
theorem dL_law_170 : decode cL_law 170 = .ok (.aload_n 1, 1) := by decide +kernel
theorem dL_law_171 : decode cL_law 171 = .ok (.aload_n 0, 1) := by decide +kernel
theorem dL_law_172 : decode cL_law 172 = .ok (.iload_n 3, 1) := by decide +kernel
theorem dL_law_173 : decode cL_law 173 = .ok (.iconst 1, 1) := by decide +kernel
theorem dL_law_174 : decode cL_law 174 = .ok (.iadd, 1) := by decide +kernel
theorem dL_law_175 : decode cL_law 175 = .ok (.iaload, 1) := by decide +kernel
theorem dL_law_176 : decode cL_law 176 = .ok (.aload_n 0, 1) := by decide +kernel
theorem dL_law_177 : decode cL_law 177 = .ok (.iload_n 3, 1) := by decide +kernel
theorem dL_law_178 : decode cL_law 178 = .ok (.iconst 2, 1) := by decide +kernel
theorem dL_law_179 : decode cL_law 179 = .ok (.iadd, 1) := by decide +kernel
theorem dL_law_180 : decode cL_law 180 = .ok (.iaload, 1) := by decide +kernel
theorem dL_law_181 : decode cL_law 181 = .ok (.invokevirtual 23, 3) := by decide +kernel
theorem dL_law_184 : decode cL_law 184 = .ok (.aload_n 2, 1) := by decide +kernel
theorem dL_law_185 : decode cL_law 185 = .ok (.aload_n 0, 1) := by decide +kernel
theorem dL_law_186 : decode cL_law 186 = .ok (.iload_n 3, 1) := by decide +kernel
theorem dL_law_187 : decode cL_law 187 = .ok (.iconst 1, 1) := by decide +kernel
theorem dL_law_188 : decode cL_law 188 = .ok (.iadd, 1) := by decide +kernel
theorem dL_law_189 : decode cL_law 189 = .ok (.iaload, 1) := by decide +kernel
theorem dL_law_190 : decode cL_law 190 = .ok (.aload_n 0, 1) := by decide +kernel
theorem dL_law_191 : decode cL_law 191 = .ok (.iload_n 3, 1) := by decide +kernel
theorem dL_law_192 : decode cL_law 192 = .ok (.iconst 2, 1) := by decide +kernel
theorem dL_law_193 : decode cL_law 193 = .ok (.iadd, 1) := by decide +kernel
theorem dL_law_194 : decode cL_law 194 = .ok (.iaload, 1) := by decide +kernel
theorem dL_law_195 : decode cL_law 195 = .ok (.invokevirtual 27, 3) := by decide +kernel
theorem dL_law_198 : decode cL_law 198 = .ok (.if_icmp .eq 381, 3) := by decide +kernel
theorem dL_law_201 : decode cL_law 201 = .ok (.iconst 0, 1) := by decide +kernel
theorem dL_law_202 : decode cL_law 202 = .ok (.ireturn, 1) := by decide +kernel
theorem dL_law_203 : decode cL_law 203 = .ok (.aload_n 1, 1) := by decide +kernel
theorem dL_law_204 : decode cL_law 204 = .ok (.invokevirtual 28, 3) := by decide +kernel
theorem dL_law_207 : decode cL_law 207 = .ok (.aload_n 2, 1) := by decide +kernel
theorem dL_law_208 : decode cL_law 208 = .ok (.invokevirtual 32, 3) := by decide +kernel
theorem dL_law_211 : decode cL_law 211 = .ok (.if_icmp .eq 368, 3) := by decide +kernel
theorem dL_law_214 : decode cL_law 214 = .ok (.iconst 0, 1) := by decide +kernel
theorem dL_law_215 : decode cL_law 215 = .ok (.ireturn, 1) := by decide +kernel
theorem dL_law_216 : decode cL_law 216 = .ok (.aload_n 1, 1) := by decide +kernel
theorem dL_law_217 : decode cL_law 217 = .ok (.aload_n 0, 1) := by decide +kernel
theorem dL_law_218 : decode cL_law 218 = .ok (.iload_n 3, 1) := by decide +kernel
theorem dL_law_219 : decode cL_law 219 = .ok (.iconst 1, 1) := by decide +kernel
theorem dL_law_220 : decode cL_law 220 = .ok (.iadd, 1) := by decide +kernel
theorem dL_law_221 : decode cL_law 221 = .ok (.iaload, 1) := by decide +kernel
theorem dL_law_222 : decode cL_law 222 = .ok (.i2l, 1) := by decide +kernel
theorem dL_law_223 : decode cL_law 223 = .ok (.bipush 32, 2) := by decide +kernel
theorem dL_law_225 : decode cL_law 225 = .ok (.lshl, 1) := by decide +kernel
theorem dL_law_226 : decode cL_law 226 = .ok (.aload_n 0, 1) := by decide +kernel
theorem dL_law_227 : decode cL_law 227 = .ok (.iload_n 3, 1) := by decide +kernel
theorem dL_law_228 : decode cL_law 228 = .ok (.iconst 2, 1) := by decide +kernel
theorem dL_law_229 : decode cL_law 229 = .ok (.iadd, 1) := by decide +kernel
theorem dL_law_230 : decode cL_law 230 = .ok (.iaload, 1) := by decide +kernel
theorem dL_law_231 : decode cL_law 231 = .ok (.i2l, 1) := by decide +kernel
theorem dL_law_232 : decode cL_law 232 = .ok (.ldc2_w 33, 3) := by decide +kernel
theorem dL_law_235 : decode cL_law 235 = .ok (.land, 1) := by decide +kernel
theorem dL_law_236 : decode cL_law 236 = .ok (.lor, 1) := by decide +kernel
theorem dL_law_237 : decode cL_law 237 = .ok (.aload_n 0, 1) := by decide +kernel
theorem dL_law_238 : decode cL_law 238 = .ok (.iload_n 3, 1) := by decide +kernel
theorem dL_law_239 : decode cL_law 239 = .ok (.iconst 3, 1) := by decide +kernel
theorem dL_law_240 : decode cL_law 240 = .ok (.iadd, 1) := by decide +kernel
theorem dL_law_241 : decode cL_law 241 = .ok (.iaload, 1) := by decide +kernel
theorem dL_law_242 : decode cL_law 242 = .ok (.i2l, 1) := by decide +kernel
theorem dL_law_243 : decode cL_law 243 = .ok (.bipush 32, 2) := by decide +kernel
theorem dL_law_245 : decode cL_law 245 = .ok (.lshl, 1) := by decide +kernel
theorem dL_law_246 : decode cL_law 246 = .ok (.aload_n 0, 1) := by decide +kernel
theorem dL_law_247 : decode cL_law 247 = .ok (.iload_n 3, 1) := by decide +kernel
theorem dL_law_248 : decode cL_law 248 = .ok (.iconst 4, 1) := by decide +kernel
theorem dL_law_249 : decode cL_law 249 = .ok (.iadd, 1) := by decide +kernel
theorem dL_law_250 : decode cL_law 250 = .ok (.iaload, 1) := by decide +kernel
theorem dL_law_251 : decode cL_law 251 = .ok (.i2l, 1) := by decide +kernel
theorem dL_law_252 : decode cL_law 252 = .ok (.ldc2_w 33, 3) := by decide +kernel
theorem dL_law_255 : decode cL_law 255 = .ok (.land, 1) := by decide +kernel
theorem dL_law_256 : decode cL_law 256 = .ok (.lor, 1) := by decide +kernel
theorem dL_law_257 : decode cL_law 257 = .ok (.invokevirtual 35, 3) := by decide +kernel
theorem dL_law_260 : decode cL_law 260 = .ok (.aload_n 2, 1) := by decide +kernel
theorem dL_law_261 : decode cL_law 261 = .ok (.aload_n 0, 1) := by decide +kernel
theorem dL_law_262 : decode cL_law 262 = .ok (.iload_n 3, 1) := by decide +kernel
theorem dL_law_263 : decode cL_law 263 = .ok (.iconst 1, 1) := by decide +kernel
theorem dL_law_264 : decode cL_law 264 = .ok (.iadd, 1) := by decide +kernel
theorem dL_law_265 : decode cL_law 265 = .ok (.iaload, 1) := by decide +kernel
theorem dL_law_266 : decode cL_law 266 = .ok (.i2l, 1) := by decide +kernel
theorem dL_law_267 : decode cL_law 267 = .ok (.bipush 32, 2) := by decide +kernel
theorem dL_law_269 : decode cL_law 269 = .ok (.lshl, 1) := by decide +kernel
theorem dL_law_270 : decode cL_law 270 = .ok (.aload_n 0, 1) := by decide +kernel
theorem dL_law_271 : decode cL_law 271 = .ok (.iload_n 3, 1) := by decide +kernel
theorem dL_law_272 : decode cL_law 272 = .ok (.iconst 2, 1) := by decide +kernel
theorem dL_law_273 : decode cL_law 273 = .ok (.iadd, 1) := by decide +kernel
theorem dL_law_274 : decode cL_law 274 = .ok (.iaload, 1) := by decide +kernel
theorem dL_law_275 : decode cL_law 275 = .ok (.i2l, 1) := by decide +kernel
theorem dL_law_276 : decode cL_law 276 = .ok (.ldc2_w 33, 3) := by decide +kernel
theorem dL_law_279 : decode cL_law 279 = .ok (.land, 1) := by decide +kernel
theorem dL_law_280 : decode cL_law 280 = .ok (.lor, 1) := by decide +kernel
theorem dL_law_281 : decode cL_law 281 = .ok (.aload_n 0, 1) := by decide +kernel
theorem dL_law_282 : decode cL_law 282 = .ok (.iload_n 3, 1) := by decide +kernel
theorem dL_law_283 : decode cL_law 283 = .ok (.iconst 3, 1) := by decide +kernel
theorem dL_law_284 : decode cL_law 284 = .ok (.iadd, 1) := by decide +kernel
theorem dL_law_285 : decode cL_law 285 = .ok (.iaload, 1) := by decide +kernel
theorem dL_law_286 : decode cL_law 286 = .ok (.i2l, 1) := by decide +kernel
theorem dL_law_287 : decode cL_law 287 = .ok (.bipush 32, 2) := by decide +kernel
theorem dL_law_289 : decode cL_law 289 = .ok (.lshl, 1) := by decide +kernel
theorem dL_law_290 : decode cL_law 290 = .ok (.aload_n 0, 1) := by decide +kernel
theorem dL_law_291 : decode cL_law 291 = .ok (.iload_n 3, 1) := by decide +kernel
theorem dL_law_292 : decode cL_law 292 = .ok (.iconst 4, 1) := by decide +kernel
theorem dL_law_293 : decode cL_law 293 = .ok (.iadd, 1) := by decide +kernel
theorem dL_law_294 : decode cL_law 294 = .ok (.iaload, 1) := by decide +kernel
theorem dL_law_295 : decode cL_law 295 = .ok (.i2l, 1) := by decide +kernel
theorem dL_law_296 : decode cL_law 296 = .ok (.ldc2_w 33, 3) := by decide +kernel
theorem dL_law_299 : decode cL_law 299 = .ok (.land, 1) := by decide +kernel
theorem dL_law_300 : decode cL_law 300 = .ok (.lor, 1) := by decide +kernel
theorem dL_law_301 : decode cL_law 301 = .ok (.invokevirtual 39, 3) := by decide +kernel
theorem dL_law_304 : decode cL_law 304 = .ok (.if_icmp .eq 275, 3) := by decide +kernel
theorem dL_law_307 : decode cL_law 307 = .ok (.iconst 0, 1) := by decide +kernel
theorem dL_law_308 : decode cL_law 308 = .ok (.ireturn, 1) := by decide +kernel
theorem dL_law_309 : decode cL_law 309 = .ok (.aload_n 1, 1) := by decide +kernel
theorem dL_law_310 : decode cL_law 310 = .ok (.aload_n 0, 1) := by decide +kernel
theorem dL_law_311 : decode cL_law 311 = .ok (.iload_n 3, 1) := by decide +kernel
theorem dL_law_312 : decode cL_law 312 = .ok (.iconst 1, 1) := by decide +kernel
theorem dL_law_313 : decode cL_law 313 = .ok (.iadd, 1) := by decide +kernel
theorem dL_law_314 : decode cL_law 314 = .ok (.iaload, 1) := by decide +kernel
theorem dL_law_315 : decode cL_law 315 = .ok (.invokevirtual 40, 3) := by decide +kernel
theorem dL_law_318 : decode cL_law 318 = .ok (.aload_n 2, 1) := by decide +kernel
theorem dL_law_319 : decode cL_law 319 = .ok (.aload_n 0, 1) := by decide +kernel
theorem dL_law_320 : decode cL_law 320 = .ok (.iload_n 3, 1) := by decide +kernel
theorem dL_law_321 : decode cL_law 321 = .ok (.iconst 1, 1) := by decide +kernel
theorem dL_law_322 : decode cL_law 322 = .ok (.iadd, 1) := by decide +kernel
theorem dL_law_323 : decode cL_law 323 = .ok (.iaload, 1) := by decide +kernel
theorem dL_law_324 : decode cL_law 324 = .ok (.invokevirtual 43, 3) := by decide +kernel
theorem dL_law_327 : decode cL_law 327 = .ok (.if_icmp .eq 252, 3) := by decide +kernel
theorem dL_law_330 : decode cL_law 330 = .ok (.iconst 0, 1) := by decide +kernel
theorem dL_law_331 : decode cL_law 331 = .ok (.ireturn, 1) := by decide +kernel
theorem dL_law_332 : decode cL_law 332 = .ok (.aload_n 1, 1) := by decide +kernel
theorem dL_law_333 : decode cL_law 333 = .ok (.aload_n 0, 1) := by decide +kernel
theorem dL_law_334 : decode cL_law 334 = .ok (.iload_n 3, 1) := by decide +kernel
theorem dL_law_335 : decode cL_law 335 = .ok (.iconst 1, 1) := by decide +kernel
theorem dL_law_336 : decode cL_law 336 = .ok (.iadd, 1) := by decide +kernel
theorem dL_law_337 : decode cL_law 337 = .ok (.iaload, 1) := by decide +kernel
theorem dL_law_338 : decode cL_law 338 = .ok (.aload_n 0, 1) := by decide +kernel
theorem dL_law_339 : decode cL_law 339 = .ok (.iload_n 3, 1) := by decide +kernel
theorem dL_law_340 : decode cL_law 340 = .ok (.iconst 2, 1) := by decide +kernel
theorem dL_law_341 : decode cL_law 341 = .ok (.iadd, 1) := by decide +kernel
theorem dL_law_342 : decode cL_law 342 = .ok (.iaload, 1) := by decide +kernel
theorem dL_law_343 : decode cL_law 343 = .ok (.invokevirtual 44, 3) := by decide +kernel
theorem dL_law_346 : decode cL_law 346 = .ok (.aload_n 2, 1) := by decide +kernel
theorem dL_law_347 : decode cL_law 347 = .ok (.aload_n 0, 1) := by decide +kernel
theorem dL_law_348 : decode cL_law 348 = .ok (.iload_n 3, 1) := by decide +kernel
theorem dL_law_349 : decode cL_law 349 = .ok (.iconst 1, 1) := by decide +kernel
theorem dL_law_350 : decode cL_law 350 = .ok (.iadd, 1) := by decide +kernel
theorem dL_law_351 : decode cL_law 351 = .ok (.iaload, 1) := by decide +kernel
theorem dL_law_352 : decode cL_law 352 = .ok (.aload_n 0, 1) := by decide +kernel
theorem dL_law_353 : decode cL_law 353 = .ok (.iload_n 3, 1) := by decide +kernel
theorem dL_law_354 : decode cL_law 354 = .ok (.iconst 2, 1) := by decide +kernel
theorem dL_law_355 : decode cL_law 355 = .ok (.iadd, 1) := by decide +kernel
theorem dL_law_356 : decode cL_law 356 = .ok (.iaload, 1) := by decide +kernel
theorem dL_law_357 : decode cL_law 357 = .ok (.invokevirtual 48, 3) := by decide +kernel
theorem dL_law_360 : decode cL_law 360 = .ok (.if_icmp .eq 219, 3) := by decide +kernel
theorem dL_law_363 : decode cL_law 363 = .ok (.iconst 0, 1) := by decide +kernel
theorem dL_law_364 : decode cL_law 364 = .ok (.ireturn, 1) := by decide +kernel
theorem dL_law_365 : decode cL_law 365 = .ok (.aload_n 1, 1) := by decide +kernel
theorem dL_law_366 : decode cL_law 366 = .ok (.aload_n 0, 1) := by decide +kernel
theorem dL_law_367 : decode cL_law 367 = .ok (.iload_n 3, 1) := by decide +kernel
theorem dL_law_368 : decode cL_law 368 = .ok (.iconst 1, 1) := by decide +kernel
theorem dL_law_369 : decode cL_law 369 = .ok (.iadd, 1) := by decide +kernel
theorem dL_law_370 : decode cL_law 370 = .ok (.iaload, 1) := by decide +kernel
theorem dL_law_371 : decode cL_law 371 = .ok (.invokevirtual 49, 3) := by decide +kernel
theorem dL_law_374 : decode cL_law 374 = .ok (.aload_n 2, 1) := by decide +kernel
theorem dL_law_375 : decode cL_law 375 = .ok (.aload_n 0, 1) := by decide +kernel
theorem dL_law_376 : decode cL_law 376 = .ok (.iload_n 3, 1) := by decide +kernel
theorem dL_law_377 : decode cL_law 377 = .ok (.iconst 1, 1) := by decide +kernel
theorem dL_law_378 : decode cL_law 378 = .ok (.iadd, 1) := by decide +kernel
theorem dL_law_379 : decode cL_law 379 = .ok (.iaload, 1) := by decide +kernel
theorem dL_law_380 : decode cL_law 380 = .ok (.invokevirtual 52, 3) := by decide +kernel
theorem dL_law_383 : decode cL_law 383 = .ok (.if_icmp .eq 196, 3) := by decide +kernel
theorem dL_law_386 : decode cL_law 386 = .ok (.iconst 0, 1) := by decide +kernel
theorem dL_law_387 : decode cL_law 387 = .ok (.ireturn, 1) := by decide +kernel
theorem dL_law_388 : decode cL_law 388 = .ok (.aload_n 1, 1) := by decide +kernel
theorem dL_law_389 : decode cL_law 389 = .ok (.aload_n 0, 1) := by decide +kernel
theorem dL_law_390 : decode cL_law 390 = .ok (.iload_n 3, 1) := by decide +kernel
theorem dL_law_391 : decode cL_law 391 = .ok (.iconst 1, 1) := by decide +kernel
theorem dL_law_392 : decode cL_law 392 = .ok (.iadd, 1) := by decide +kernel
theorem dL_law_393 : decode cL_law 393 = .ok (.iaload, 1) := by decide +kernel
theorem dL_law_394 : decode cL_law 394 = .ok (.aload_n 0, 1) := by decide +kernel
theorem dL_law_395 : decode cL_law 395 = .ok (.iload_n 3, 1) := by decide +kernel
theorem dL_law_396 : decode cL_law 396 = .ok (.iconst 2, 1) := by decide +kernel
theorem dL_law_397 : decode cL_law 397 = .ok (.iadd, 1) := by decide +kernel
theorem dL_law_398 : decode cL_law 398 = .ok (.iaload, 1) := by decide +kernel
theorem dL_law_399 : decode cL_law 399 = .ok (.aload_n 0, 1) := by decide +kernel
theorem dL_law_400 : decode cL_law 400 = .ok (.iload_n 3, 1) := by decide +kernel
theorem dL_law_401 : decode cL_law 401 = .ok (.iconst 3, 1) := by decide +kernel
theorem dL_law_402 : decode cL_law 402 = .ok (.iadd, 1) := by decide +kernel
theorem dL_law_403 : decode cL_law 403 = .ok (.iaload, 1) := by decide +kernel
theorem dL_law_404 : decode cL_law 404 = .ok (.invokevirtual 53, 3) := by decide +kernel
theorem dL_law_407 : decode cL_law 407 = .ok (.aload_n 2, 1) := by decide +kernel
theorem dL_law_408 : decode cL_law 408 = .ok (.aload_n 0, 1) := by decide +kernel
theorem dL_law_409 : decode cL_law 409 = .ok (.iload_n 3, 1) := by decide +kernel
theorem dL_law_410 : decode cL_law 410 = .ok (.iconst 1, 1) := by decide +kernel
theorem dL_law_411 : decode cL_law 411 = .ok (.iadd, 1) := by decide +kernel
theorem dL_law_412 : decode cL_law 412 = .ok (.iaload, 1) := by decide +kernel
theorem dL_law_413 : decode cL_law 413 = .ok (.aload_n 0, 1) := by decide +kernel
theorem dL_law_414 : decode cL_law 414 = .ok (.iload_n 3, 1) := by decide +kernel
theorem dL_law_415 : decode cL_law 415 = .ok (.iconst 2, 1) := by decide +kernel
theorem dL_law_416 : decode cL_law 416 = .ok (.iadd, 1) := by decide +kernel
theorem dL_law_417 : decode cL_law 417 = .ok (.iaload, 1) := by decide +kernel
theorem dL_law_418 : decode cL_law 418 = .ok (.aload_n 0, 1) := by decide +kernel
theorem dL_law_419 : decode cL_law 419 = .ok (.iload_n 3, 1) := by decide +kernel
theorem dL_law_420 : decode cL_law 420 = .ok (.iconst 3, 1) := by decide +kernel
theorem dL_law_421 : decode cL_law 421 = .ok (.iadd, 1) := by decide +kernel
theorem dL_law_422 : decode cL_law 422 = .ok (.iaload, 1) := by decide +kernel
theorem dL_law_423 : decode cL_law 423 = .ok (.invokevirtual 57, 3) := by decide +kernel
theorem dL_law_426 : decode cL_law 426 = .ok (.if_icmp .eq 153, 3) := by decide +kernel
theorem dL_law_429 : decode cL_law 429 = .ok (.iconst 0, 1) := by decide +kernel
theorem dL_law_430 : decode cL_law 430 = .ok (.ireturn, 1) := by decide +kernel
theorem dL_law_431 : decode cL_law 431 = .ok (.aload_n 1, 1) := by decide +kernel
theorem dL_law_432 : decode cL_law 432 = .ok (.aload_n 0, 1) := by decide +kernel
theorem dL_law_433 : decode cL_law 433 = .ok (.iload_n 3, 1) := by decide +kernel
theorem dL_law_434 : decode cL_law 434 = .ok (.iconst 1, 1) := by decide +kernel
theorem dL_law_435 : decode cL_law 435 = .ok (.iadd, 1) := by decide +kernel
theorem dL_law_436 : decode cL_law 436 = .ok (.iaload, 1) := by decide +kernel
theorem dL_law_437 : decode cL_law 437 = .ok (.aload_n 0, 1) := by decide +kernel
theorem dL_law_438 : decode cL_law 438 = .ok (.iload_n 3, 1) := by decide +kernel
theorem dL_law_439 : decode cL_law 439 = .ok (.iconst 2, 1) := by decide +kernel
theorem dL_law_440 : decode cL_law 440 = .ok (.iadd, 1) := by decide +kernel
theorem dL_law_441 : decode cL_law 441 = .ok (.iaload, 1) := by decide +kernel
theorem dL_law_442 : decode cL_law 442 = .ok (.invokevirtual 58, 3) := by decide +kernel
theorem dL_law_445 : decode cL_law 445 = .ok (.aload_n 2, 1) := by decide +kernel
theorem dL_law_446 : decode cL_law 446 = .ok (.aload_n 0, 1) := by decide +kernel
theorem dL_law_447 : decode cL_law 447 = .ok (.iload_n 3, 1) := by decide +kernel
theorem dL_law_448 : decode cL_law 448 = .ok (.iconst 1, 1) := by decide +kernel
theorem dL_law_449 : decode cL_law 449 = .ok (.iadd, 1) := by decide +kernel
theorem dL_law_450 : decode cL_law 450 = .ok (.iaload, 1) := by decide +kernel
theorem dL_law_451 : decode cL_law 451 = .ok (.aload_n 0, 1) := by decide +kernel
theorem dL_law_452 : decode cL_law 452 = .ok (.iload_n 3, 1) := by decide +kernel
theorem dL_law_453 : decode cL_law 453 = .ok (.iconst 2, 1) := by decide +kernel
theorem dL_law_454 : decode cL_law 454 = .ok (.iadd, 1) := by decide +kernel
theorem dL_law_455 : decode cL_law 455 = .ok (.iaload, 1) := by decide +kernel
theorem dL_law_456 : decode cL_law 456 = .ok (.invokevirtual 62, 3) := by decide +kernel
theorem dL_law_459 : decode cL_law 459 = .ok (.lcmp, 1) := by decide +kernel
theorem dL_law_460 : decode cL_law 460 = .ok (.ifCond .eq 119, 3) := by decide +kernel
theorem dL_law_463 : decode cL_law 463 = .ok (.iconst 0, 1) := by decide +kernel
theorem dL_law_464 : decode cL_law 464 = .ok (.ireturn, 1) := by decide +kernel
theorem dL_law_465 : decode cL_law 465 = .ok (.aload_n 1, 1) := by decide +kernel
theorem dL_law_466 : decode cL_law 466 = .ok (.aload_n 0, 1) := by decide +kernel
theorem dL_law_467 : decode cL_law 467 = .ok (.iload_n 3, 1) := by decide +kernel
theorem dL_law_468 : decode cL_law 468 = .ok (.iconst 1, 1) := by decide +kernel
theorem dL_law_469 : decode cL_law 469 = .ok (.iadd, 1) := by decide +kernel
theorem dL_law_470 : decode cL_law 470 = .ok (.iaload, 1) := by decide +kernel
theorem dL_law_471 : decode cL_law 471 = .ok (.aload_n 0, 1) := by decide +kernel
theorem dL_law_472 : decode cL_law 472 = .ok (.iload_n 3, 1) := by decide +kernel
theorem dL_law_473 : decode cL_law 473 = .ok (.iconst 2, 1) := by decide +kernel
theorem dL_law_474 : decode cL_law 474 = .ok (.iadd, 1) := by decide +kernel
theorem dL_law_475 : decode cL_law 475 = .ok (.iaload, 1) := by decide +kernel
theorem dL_law_476 : decode cL_law 476 = .ok (.invokevirtual 63, 3) := by decide +kernel
theorem dL_law_479 : decode cL_law 479 = .ok (.aload_n 2, 1) := by decide +kernel
theorem dL_law_480 : decode cL_law 480 = .ok (.aload_n 0, 1) := by decide +kernel
theorem dL_law_481 : decode cL_law 481 = .ok (.iload_n 3, 1) := by decide +kernel
theorem dL_law_482 : decode cL_law 482 = .ok (.iconst 1, 1) := by decide +kernel
theorem dL_law_483 : decode cL_law 483 = .ok (.iadd, 1) := by decide +kernel
theorem dL_law_484 : decode cL_law 484 = .ok (.iaload, 1) := by decide +kernel
theorem dL_law_485 : decode cL_law 485 = .ok (.aload_n 0, 1) := by decide +kernel
theorem dL_law_486 : decode cL_law 486 = .ok (.iload_n 3, 1) := by decide +kernel
theorem dL_law_487 : decode cL_law 487 = .ok (.iconst 2, 1) := by decide +kernel
theorem dL_law_488 : decode cL_law 488 = .ok (.iadd, 1) := by decide +kernel
theorem dL_law_489 : decode cL_law 489 = .ok (.iaload, 1) := by decide +kernel
theorem dL_law_490 : decode cL_law 490 = .ok (.invokevirtual 66, 3) := by decide +kernel
theorem dL_law_493 : decode cL_law 493 = .ok (.lcmp, 1) := by decide +kernel
theorem dL_law_494 : decode cL_law 494 = .ok (.ifCond .eq 85, 3) := by decide +kernel
theorem dL_law_497 : decode cL_law 497 = .ok (.iconst 0, 1) := by decide +kernel
theorem dL_law_498 : decode cL_law 498 = .ok (.ireturn, 1) := by decide +kernel
theorem dL_law_499 : decode cL_law 499 = .ok (.aload_n 1, 1) := by decide +kernel
theorem dL_law_500 : decode cL_law 500 = .ok (.aload_n 0, 1) := by decide +kernel
theorem dL_law_501 : decode cL_law 501 = .ok (.iload_n 3, 1) := by decide +kernel
theorem dL_law_502 : decode cL_law 502 = .ok (.iconst 1, 1) := by decide +kernel
theorem dL_law_503 : decode cL_law 503 = .ok (.iadd, 1) := by decide +kernel
theorem dL_law_504 : decode cL_law 504 = .ok (.iaload, 1) := by decide +kernel
theorem dL_law_505 : decode cL_law 505 = .ok (.invokevirtual 67, 3) := by decide +kernel
theorem dL_law_508 : decode cL_law 508 = .ok (.aload_n 2, 1) := by decide +kernel
theorem dL_law_509 : decode cL_law 509 = .ok (.aload_n 0, 1) := by decide +kernel
theorem dL_law_510 : decode cL_law 510 = .ok (.iload_n 3, 1) := by decide +kernel
theorem dL_law_511 : decode cL_law 511 = .ok (.iconst 1, 1) := by decide +kernel
theorem dL_law_512 : decode cL_law 512 = .ok (.iadd, 1) := by decide +kernel
theorem dL_law_513 : decode cL_law 513 = .ok (.iaload, 1) := by decide +kernel
theorem dL_law_514 : decode cL_law 514 = .ok (.invokevirtual 71, 3) := by decide +kernel
theorem dL_law_517 : decode cL_law 517 = .ok (.lcmp, 1) := by decide +kernel
theorem dL_law_518 : decode cL_law 518 = .ok (.ifCond .eq 61, 3) := by decide +kernel
theorem dL_law_521 : decode cL_law 521 = .ok (.iconst 0, 1) := by decide +kernel
theorem dL_law_522 : decode cL_law 522 = .ok (.ireturn, 1) := by decide +kernel
theorem dL_law_523 : decode cL_law 523 = .ok (.aload_n 1, 1) := by decide +kernel
theorem dL_law_524 : decode cL_law 524 = .ok (.aload_n 0, 1) := by decide +kernel
theorem dL_law_525 : decode cL_law 525 = .ok (.iload_n 3, 1) := by decide +kernel
theorem dL_law_526 : decode cL_law 526 = .ok (.iconst 1, 1) := by decide +kernel
theorem dL_law_527 : decode cL_law 527 = .ok (.iadd, 1) := by decide +kernel
theorem dL_law_528 : decode cL_law 528 = .ok (.iaload, 1) := by decide +kernel
theorem dL_law_529 : decode cL_law 529 = .ok (.invokevirtual 72, 3) := by decide +kernel
theorem dL_law_532 : decode cL_law 532 = .ok (.aload_n 2, 1) := by decide +kernel
theorem dL_law_533 : decode cL_law 533 = .ok (.aload_n 0, 1) := by decide +kernel
theorem dL_law_534 : decode cL_law 534 = .ok (.iload_n 3, 1) := by decide +kernel
theorem dL_law_535 : decode cL_law 535 = .ok (.iconst 1, 1) := by decide +kernel
theorem dL_law_536 : decode cL_law 536 = .ok (.iadd, 1) := by decide +kernel
theorem dL_law_537 : decode cL_law 537 = .ok (.iaload, 1) := by decide +kernel
theorem dL_law_538 : decode cL_law 538 = .ok (.invokevirtual 75, 3) := by decide +kernel
theorem dL_law_541 : decode cL_law 541 = .ok (.if_icmp .eq 38, 3) := by decide +kernel
theorem dL_law_544 : decode cL_law 544 = .ok (.iconst 0, 1) := by decide +kernel
theorem dL_law_545 : decode cL_law 545 = .ok (.ireturn, 1) := by decide +kernel
theorem dL_law_546 : decode cL_law 546 = .ok (.aload_n 1, 1) := by decide +kernel
theorem dL_law_547 : decode cL_law 547 = .ok (.aload_n 0, 1) := by decide +kernel
theorem dL_law_548 : decode cL_law 548 = .ok (.iload_n 3, 1) := by decide +kernel
theorem dL_law_549 : decode cL_law 549 = .ok (.iconst 1, 1) := by decide +kernel
theorem dL_law_550 : decode cL_law 550 = .ok (.iadd, 1) := by decide +kernel
theorem dL_law_551 : decode cL_law 551 = .ok (.iaload, 1) := by decide +kernel
theorem dL_law_552 : decode cL_law 552 = .ok (.aload_n 0, 1) := by decide +kernel
theorem dL_law_553 : decode cL_law 553 = .ok (.iload_n 3, 1) := by decide +kernel
theorem dL_law_554 : decode cL_law 554 = .ok (.iconst 2, 1) := by decide +kernel
theorem dL_law_555 : decode cL_law 555 = .ok (.iadd, 1) := by decide +kernel
theorem dL_law_556 : decode cL_law 556 = .ok (.iaload, 1) := by decide +kernel
theorem dL_law_557 : decode cL_law 557 = .ok (.invokevirtual 76, 3) := by decide +kernel
theorem dL_law_560 : decode cL_law 560 = .ok (.aload_n 2, 1) := by decide +kernel
theorem dL_law_561 : decode cL_law 561 = .ok (.aload_n 0, 1) := by decide +kernel
theorem dL_law_562 : decode cL_law 562 = .ok (.iload_n 3, 1) := by decide +kernel
theorem dL_law_563 : decode cL_law 563 = .ok (.iconst 1, 1) := by decide +kernel
theorem dL_law_564 : decode cL_law 564 = .ok (.iadd, 1) := by decide +kernel
theorem dL_law_565 : decode cL_law 565 = .ok (.iaload, 1) := by decide +kernel
theorem dL_law_566 : decode cL_law 566 = .ok (.aload_n 0, 1) := by decide +kernel
theorem dL_law_567 : decode cL_law 567 = .ok (.iload_n 3, 1) := by decide +kernel
theorem dL_law_568 : decode cL_law 568 = .ok (.iconst 2, 1) := by decide +kernel
theorem dL_law_569 : decode cL_law 569 = .ok (.iadd, 1) := by decide +kernel
theorem dL_law_570 : decode cL_law 570 = .ok (.iaload, 1) := by decide +kernel
theorem dL_law_571 : decode cL_law 571 = .ok (.invokevirtual 79, 3) := by decide +kernel
theorem dL_law_574 : decode cL_law 574 = .ok (.if_icmp .eq 5, 3) := by decide +kernel
theorem dL_law_577 : decode cL_law 577 = .ok (.iconst 0, 1) := by decide +kernel
theorem dL_law_578 : decode cL_law 578 = .ok (.ireturn, 1) := by decide +kernel
theorem dL_law_579 : decode cL_law 579 = .ok (.iinc 3 5, 3) := by decide +kernel
theorem dL_law_582 : decode cL_law 582 = .ok (.goto (-564), 3) := by decide +kernel
theorem dL_law_585 : decode cL_law 585 = .ok (.iconst 1, 1) := by decide +kernel
theorem dL_law_586 : decode cL_law 586 = .ok (.ireturn, 1) := by decide +kernel
abbrev vwCl : List vw_C := [(RJx4a65c, TJx4a65c, 3), (RX0, TX0, 4), (RX1, TX1, 6), (RX2, TX2, 9), (RX3, TX3, 9), (RX4, TX4, 8), (RX5, TX5, 4), (RX6, TX6, 4), (RX7, TX7, 7), (RX8, TX8, 46)]
end
section
/-! THE WORLD AS ONE ABSTRACT MEMORY. rG: what each cell of ours holds, by its address; rW: the heap holds it. All our cells lie at or above the base. -/
abbrev rGam : Type := va_G × Nat × (Nat → ClassId) × (Nat → Nat)
abbrev rG : Type := Nat → Option va_E
def rup (G : rG) (a : Nat) (e : va_E) : rG := fun b => if b = a then some e else G b
abbrev rA (Γ : rGam) : Nat → Prop := fun q => Γ.2.1 ≤ q
abbrev rTy (Γ : rGam) : List (ClassId × FieldType) := [(Γ.2.2.1 0, .int), (Γ.2.2.1 1, .long), (Γ.2.2.1 2, .boolean), (Γ.2.2.1 3, .object "ClearingFiles$Batch"), (Γ.2.2.1 4, .object "java/lang/Object")]
def rW (Γ : rGam) (cl : List vw_C) (G : rG) (H : Heap) : Prop := ∃ ws : va_W, va_P Γ.1 cl ws H ∧ va_D (rA Γ) ws ∧ ∀ a e, G a = some e → ∃ k : Nat, ws[k]? = some (a, e)
def rWt (j : Nat) : Value := match j with
  | 0 => .int 3
  | 1 => .int 7
  | _ => .int 1
def rNl : List (String × Nat × MethodName) := [(RX1, 21, yX5_init), (RX2, 18, yX6_init), (RX4, 19, yX6_init), (RX4, 24, yX2_init), (RX5, 18, yX6_init), (RX7, 253, yX3_init)]
/-- what never changes: the classes, the statics -/
def rEv (Γ : rGam) (cl : List vw_C) (U : State) : Prop :=
  va_K Γ.1 cl (rTy Γ) U ∧ Γ.2.1 ≤ U.heap.size ∧
  va_Z "java/util/ArrayList" "DEFAULTCAPACITY_EMPTY_ELEMENTDATA" "[Ljava/lang/Object;" (.ref (Γ.2.2.2 0)) (rA Γ) U U.heap ∧
  va_T (.object "java/lang/Object") (Γ.2.2.2 0) 0 (fun _ => .null) (rA Γ) U U.heap ∧
  va_Z "ClearingFiles" "WEIGHTS" "[I" (.ref (Γ.2.2.2 1)) (rA Γ) U U.heap ∧
  va_T .int (Γ.2.2.2 1) 3 rWt (rA Γ) U U.heap ∧
  va_Mi "[Ljava/lang/Object;" (Γ.2.2.2 2) U ∧ va_Dc U ∧ va_AO "java/lang/Object" U ∧ va_AO "ClearingFiles$Batch" U ∧
  va_Nw (.castable "ClearingFiles$Bank" "java/lang/Object") U ∧ va_Nw (.castable "ClearingFiles$Account" "java/lang/Object") U ∧ va_Nw (.castable "ClearingFiles$Entry" "java/lang/Object") U ∧ va_Nw (.castable "[Ljava/lang/Object;" "java/lang/Object") U ∧ ∀ q ∈ rNl, va_Nw (.methodLinkNest q.1 q.2.1 q.2.2 "ClearingFiles") U
theorem rup_self (G : rG) (a : Nat) (e : va_E) : rup G a e a = some e := by simp [rup]
theorem rup_ne (G : rG) {a b : Nat} (e : va_E) (h : b ≠ a) : rup G a e b = G b := by simp [rup, h]
theorem rW.lt {Γ : rGam} {cl : List vw_C} {G : rG} {H : Heap} (h : rW Γ cl G H) {a : Nat} {e : va_E} (ha : G a = some e) : a < H.size := by
  obtain ⟨ws, hP, -, hG⟩ := h
  obtain ⟨k, hk⟩ := hG a e ha
  exact (hP k _ hk).lt
theorem rW.base {Γ : rGam} {cl : List vw_C} {G : rG} {H : Heap} (h : rW Γ cl G H) {a : Nat} {e : va_E} (ha : G a = some e) : Γ.2.1 ≤ a := by
  obtain ⟨ws, -, hD, hG⟩ := h
  obtain ⟨k, hk⟩ := hG a e ha
  exact hD.2 k _ hk
theorem rW.mono {Γ : rGam} {cl : List vw_C} {G G' : rG} {H : Heap} (h : rW Γ cl G H) (hg : ∀ a e, G' a = some e → G a = some e) : rW Γ cl G' H := by
  obtain ⟨ws, hP, hD, hG⟩ := h
  exact ⟨ws, hP, hD, fun a e ha => hG a e (hg a e ha)⟩
theorem rW.set {Γ : rGam} {cl : List vw_C} {G : rG} {H1 : Heap} {ws : va_W} {k a : Nat} {e0 e : va_E} (hD0 : va_D (rA Γ) ws) (hk : ws[k]? = some (a, e0)) (hG : ∀ a e, G a = some e → ∃ k : Nat, ws[k]? = some (a, e)) (hP : va_P Γ.1 cl (ws.set k (a, e)) H1) (hD : va_D (rA Γ) (ws.set k (a, e))) : rW Γ cl (rup G a e) H1 := by
  refine ⟨_, hP, hD, fun b e' hb => ?_⟩
  have hlt : k < ws.length := (List.getElem?_eq_some_iff.mp hk).1
  by_cases h : b = a
  · subst h
    rw [rup_self] at hb
    cases hb
    exact ⟨k, by simp [List.getElem?_set, hlt]⟩
  · rw [rup_ne _ _ h] at hb
    obtain ⟨j, hj⟩ := hG b e' hb
    refine ⟨j, ?_⟩
    have : k ≠ j := fun q => by subst q; rw [hk] at hj; cases hj; exact h rfl
    rw [List.getElem?_set_ne this]
    exact hj
theorem rW.push {Γ : rGam} {cl : List vw_C} {G : rG} {H1 : Heap} {ws : va_W} {a : Nat} {e : va_E} (hG : ∀ a e, G a = some e → ∃ k : Nat, ws[k]? = some (a, e)) (hP : va_P Γ.1 cl (ws ++ [(a, e)]) H1) (hD : va_D (rA Γ) (ws ++ [(a, e)])) : rW Γ cl (rup G a e) H1 ∧ G a = none := by
  constructor
  · refine ⟨_, hP, hD, fun b e' hb => ?_⟩
    by_cases h : b = a
    · subst h
      rw [rup_self] at hb
      cases hb
      exact ⟨ws.length, by simp⟩
    · rw [rup_ne _ _ h] at hb
      obtain ⟨j, hj⟩ := hG b e' hb
      refine ⟨j, ?_⟩
      rw [List.getElem?_append_left (List.getElem?_eq_some_iff.mp hj).1]
      exact hj
  · cases hn : G a with
    | none => rfl
    | some e' =>
      obtain ⟨j, hj⟩ := hG a e' hn
      have hjl : j < ws.length := (List.getElem?_eq_some_iff.mp hj).1
      have := hD.1 j ws.length (a, e') (a, e) (by rw [List.getElem?_append_left hjl]; exact hj) (by simp) rfl
      omega
theorem rEv.moved {Γ : rGam} {cl : List vw_C} {u U : State} (hW : u.WarmedH U.vm) (hb : ∀ q : Nat, q < u.heap.size → ¬ rA Γ q → U.heap[q]? = u.heap[q]?) (hz : u.heap.size ≤ U.heap.size) (h : rEv Γ cl u) : rEv Γ cl U := by
  obtain ⟨h1, h2, h3, h4, h5, h6, h7, h8, h9, h10, h11, h12, h13, h14, h15⟩ := h
  exact ⟨va_K.moved hW.alike h1, Nat.le_trans h2 hz, va_Z.moved hW.alike (h3.kept hb), va_T.moved hW.alike (h4.kept hb), va_Z.moved hW.alike (h5.kept hb), va_T.moved hW.alike (h6.kept hb), va_Mi.moved hW.alike h7, va_Dc.moved hW.alike h8, va_AO.moved hW.alike h9, va_AO.moved hW.alike h10, va_Nw.warmC hW h11, va_Nw.warmC hW h12, va_Nw.warmC hW h13, va_Nw.warmC hW h14, fun q hq => va_Nw.warmM hW (h15 q hq)⟩
/-- a method's start, its ends -/
def rPc (Γ : rGam) (cl : List vw_C) (av : List Value) (P : Heap → Prop) : Array Value → State → Prop := va_Pc av (fun U => P U.heap ∧ rEv Γ cl U)
theorem rPc_blind {Γ : rGam} {cl : List vw_C} {av : List Value} {P : Heap → Prop} : FrameBlind (rPc Γ cl av P) := fun a U g mk q => by
  obtain ⟨q0, q1, q2⟩ := q
  exact ⟨q0, q1, rEv.moved (u := U) (U := U.calling g mk a) (State.WarmedH.refl U) (fun _ _ _ => rfl) (Nat.le_refl _) q2⟩
section RG
variable {p : Program} {l : Launch} {e : Env} {R : Room} {s : State} {m : MethodId} {args : Array Value} {below : List Frame} {meth : Method} {c : Code} {H : Heap} {locs : List Loc} {cells slots : Nat} {Q : State → Prop}
variable {cc : ByteArray} {pc : Nat} {ls : Array Slot} {rest : List Value} {Γ : rGam} {cl : List vw_C} {G : rG} {a : Nat}
theorem g_get (hexec : p.tables.exec = Jvm.exec) (hb : c.code = cc) {own ref C : String} {T : u_T} {N ci index : Nat} {Ts : List Cond} (hts : ∀ w ∈ Ts, w.before args s = true) (hin : ∀ w ∈ u_ws C T N, w ∈ Ts) (hown : s.vm.findClass own = some m.cls) (hE : rEv Γ cl s) (hP : rW Γ cl G H) {fs : List Value} (he : G a = some (.inr (ci, fs))) (hc : cl[ci]? = some (C, T, N)) (k : Nat) (hk : k < N) (hlink : (Cond.fieldLink own index ref (T k).2.1 (T k).2.2.1).before args s = true) (hsame : ∀ x, s.fieldFound? (T k).1 (T k).2.1 (T k).2.2.1 = some x → s.fieldFound? ref (T k).2.1 (T k).2.2.1 = some x) {v : Value} (hv : fs[k]? = some v) (hdg : decode cc pc = .ok (.getfield index, 3))
    (kk : W p l e R s m args below meth c H locs cells slots Q (F0 m (pc + 3) ls (v :: rest))) : W p l e R s m args below meth c H locs cells slots Q (F0 m pc ls (.ref a :: rest)) := by
  obtain ⟨ws, hP, -, hG⟩ := hP
  obtain ⟨q0, hq⟩ := hG a _ he
  exact va_get hexec hb hts hin hown hE.1 hP q0 hq hc k hk hlink hsame hv hdg kk
theorem g_put (hexec : p.tables.exec = Jvm.exec) (hb : c.code = cc) {own ref C : String} {T : u_T} {N ci index : Nat} {Ts : List Cond} (hts : ∀ w ∈ Ts, w.before args s = true) (hin : ∀ w ∈ u_ws C T N, w ∈ Ts) (ty0 : Nat → FieldType) (hty : ∀ k, k < N → parseFieldDescriptor (T k).2.2.1 = some (ty0 k)) (hnm : ∀ a, a < N → ∀ b, b < N → a ≠ b → (T a).2.1 ≠ (T b).2.1) (hown : s.vm.findClass own = some m.cls) (hE : rEv Γ cl s) (hP : rW Γ cl G H) (hS0 : va_S (rA Γ) s.heap H locs) {fs : List Value} (he : G a = some (.inr (ci, fs))) (hc : cl[ci]? = some (C, T, N)) (k : Nat) (hk : k < N) (hlink : (Cond.fieldLink own index ref (T k).2.1 (T k).2.2.1).before args s = true) (hsame : ∀ x, s.fieldFound? (T k).1 (T k).2.1 (T k).2.2.1 = some x → s.fieldFound? ref (T k).2.1 (T k).2.2.1 = some x) (hfin : (T k).2.2.2 = false) {v : Value} (hn : narrow (ty0 k) v = v) (hfit : fits (ty0 k) v = true) (hl : k < fs.length)
    (hdg : decode cc pc = .ok (.putfield index, 3)) (kk : ∀ (H1 : Heap) (locs1 : List Loc), rW Γ cl (rup G a (.inr (ci, fs.set k v))) H1 → va_S (rA Γ) s.heap H1 locs1 → W p l e R s m args below meth c H1 locs1 cells slots Q (F0 m (pc + 3) ls rest)) : W p l e R s m args below meth c H locs cells slots Q (F0 m pc ls (v :: .ref a :: rest)) := by
  obtain ⟨ws, hP, hD, hG⟩ := hP
  obtain ⟨q0, hq⟩ := hG a _ he
  exact va_put hexec hb hts hin ty0 hty hnm hown hE.1 hP hD hS0 q0 hq hc k hk hlink hsame hfin (hty k hk) hn hfit hl hdg fun H1 locs1 hP1 hD1 hS1 => kk H1 locs1 (rW.set hD hq hG hP1 hD1) hS1
theorem g_putF (hexec : p.tables.exec = Jvm.exec) (hb : c.code = cc) {own ref C : String} {T : u_T} {N ci index : Nat} {Ts : List Cond} (hts : ∀ w ∈ Ts, w.before args s = true) (hin : ∀ w ∈ u_ws C T N, w ∈ Ts) (ty0 : Nat → FieldType) (hty : ∀ k, k < N → parseFieldDescriptor (T k).2.2.1 = some (ty0 k)) (hnm : ∀ a, a < N → ∀ b, b < N → a ≠ b → (T a).2.1 ≠ (T b).2.1) (hown : s.vm.findClass own = some m.cls) (hE : rEv Γ cl s) (hP : rW Γ cl G H) (hS0 : va_S (rA Γ) s.heap H locs) {fs : List Value} (he : G a = some (.inr (ci, fs))) (hc : cl[ci]? = some (C, T, N)) (k : Nat) (hk : k < N) (hlink : (Cond.fieldLink own index ref (T k).2.1 (T k).2.2.1).before args s = true) (hsame : ∀ x, s.fieldFound? (T k).1 (T k).2.1 (T k).2.2.1 = some x → s.fieldFound? ref (T k).2.1 (T k).2.2.1 = some x) (hfin : (T k).2.2.2 = true) (hin2 : meth.name = "<init>") (hdecl : (T k).1 = own) {v : Value} (hn : narrow (ty0 k) v = v) (hfit : fits (ty0 k) v = true) (hl : k < fs.length)
    (hdg : decode cc pc = .ok (.putfield index, 3)) (kk : ∀ (H1 : Heap) (locs1 : List Loc), rW Γ cl (rup G a (.inr (ci, fs.set k v))) H1 → va_S (rA Γ) s.heap H1 locs1 → W p l e R s m args below meth c H1 locs1 cells slots Q (F0 m (pc + 3) ls rest)) : W p l e R s m args below meth c H locs cells slots Q (F0 m pc ls (v :: .ref a :: rest)) := by
  obtain ⟨ws, hP, hD, hG⟩ := hP
  obtain ⟨q0, hq⟩ := hG a _ he
  exact va_putF hexec hb hts hin ty0 hty hnm hown hE.1 hP hD hS0 q0 hq hc k hk hlink hsame hfin hin2 hdecl (hty k hk) hn hfit hl hdg fun H1 locs1 hP1 hD1 hS1 => kk H1 locs1 (rW.set hD hq hG hP1 hD1) hS1
theorem g_iald (hexec : p.tables.exec = Jvm.exec) (hb : c.code = cc) (hE : rEv Γ cl s) (hP : rW Γ cl G H) {n : Nat} {f : Nat → Int32} (ha : G a = some (.inl (Γ.2.2.1 0, n, .inl f))) {i : Int32} (hin : vp_in i n) (hdg : decode cc pc = .ok (.iaload, 1))
    (kk : W p l e R s m args below meth c H locs cells slots Q (F0 m (pc + 1) ls (.int (f i.toNatClampNeg) :: rest))) : W p l e R s m args below meth c H locs cells slots Q (F0 m pc ls (.int i :: .ref a :: rest)) := by
  obtain ⟨ws, hP, -, hG⟩ := hP
  obtain ⟨q0, hq⟩ := hG a _ ha
  exact va_iald hexec hb hE.1 hP q0 0 hq rfl hin hdg kk
theorem g_zald (hexec : p.tables.exec = Jvm.exec) (hb : c.code = cc) (hE : rEv Γ cl s) (hP : rW Γ cl G H) {n : Nat} {f : Nat → Int32} (ha : G a = some (.inl (Γ.2.2.1 2, n, .inl f))) {i : Int32} (hin : vp_in i n) (hdg : decode cc pc = .ok (.baload, 1))
    (kk : W p l e R s m args below meth c H locs cells slots Q (F0 m (pc + 1) ls (.int (f i.toNatClampNeg) :: rest))) : W p l e R s m args below meth c H locs cells slots Q (F0 m pc ls (.int i :: .ref a :: rest)) := by
  obtain ⟨ws, hP, -, hG⟩ := hP
  obtain ⟨q0, hq⟩ := hG a _ ha
  exact va_zald hexec hb hE.1 hP q0 2 hq rfl hin hdg kk
theorem g_lald (hexec : p.tables.exec = Jvm.exec) (hb : c.code = cc) (hE : rEv Γ cl s) (hP : rW Γ cl G H) {n : Nat} {f : Nat → Int64} (ha : G a = some (.inl (Γ.2.2.1 1, n, .inr (.inl f)))) {i : Int32} (hin : vp_in i n) (hdg : decode cc pc = .ok (.laload, 1))
    (kk : W p l e R s m args below meth c H locs cells slots Q (F0 m (pc + 1) ls (.long (f i.toNatClampNeg) :: rest))) : W p l e R s m args below meth c H locs cells slots Q (F0 m pc ls (.int i :: .ref a :: rest)) := by
  obtain ⟨ws, hP, -, hG⟩ := hP
  obtain ⟨q0, hq⟩ := hG a _ ha
  exact va_lald hexec hb hE.1 hP q0 1 hq rfl hin hdg kk
theorem g_aald (hexec : p.tables.exec = Jvm.exec) (hb : c.code = cc) (hE : rEv Γ cl s) (hP : rW Γ cl G H) (t0 : Nat) {cA : ClassId} {C : String} (ht : (rTy Γ)[t0]? = some (cA, .object C)) {n : Nat} {f : Nat → Option Nat} (ha : G a = some (.inl (cA, n, .inr (.inr (.inr (.inr f)))))) {i : Int32} (hin : vp_in i n) (hdg : decode cc pc = .ok (.aaload, 1))
    (kk : W p l e R s m args below meth c H locs cells slots Q (F0 m (pc + 1) ls (va_rf (f i.toNatClampNeg) :: rest))) : W p l e R s m args below meth c H locs cells slots Q (F0 m pc ls (.int i :: .ref a :: rest)) := by
  obtain ⟨ws, hP, -, hG⟩ := hP
  obtain ⟨q0, hq⟩ := hG a _ ha
  exact va_aldq hexec hb hE.1 hP q0 t0 hq ht hin hdg kk
theorem g_alen (hexec : p.tables.exec = Jvm.exec) (hb : c.code = cc) (hE : rEv Γ cl s) (hP : rW Γ cl G H) (t0 : Nat) {cA : ClassId} {ty : FieldType} (ht : (rTy Γ)[t0]? = some (cA, ty)) {x : vp_A} (ha : G a = some (.inl (cA, x))) {v : Int32} (hv : nI x.1 = v) (hdg : decode cc pc = .ok (.arraylength, 1))
    (kk : W p l e R s m args below meth c H locs cells slots Q (F0 m (pc + 1) ls (.int v :: rest))) : W p l e R s m args below meth c H locs cells slots Q (F0 m pc ls (.ref a :: rest)) := by
  obtain ⟨ws, hP, -, hG⟩ := hP
  obtain ⟨q0, hq⟩ := hG a _ ha
  exact va_alen hexec hb hE.1 hP q0 t0 hq ht hv hdg kk
theorem g_iast (hexec : p.tables.exec = Jvm.exec) (hb : c.code = cc) (hE : rEv Γ cl s) (hP : rW Γ cl G H) (hS : va_S (rA Γ) s.heap H locs) {n : Nat} {f : Nat → Int32} (ha : G a = some (.inl (Γ.2.2.1 0, n, .inl f))) {i x : Int32} (hin : vp_in i n) (hdg : decode cc pc = .ok (.iastore, 1))
    (kk : ∀ (H1 : Heap) (locs1 : List Loc), rW Γ cl (rup G a (.inl (Γ.2.2.1 0, n, .inl (upd f i.toNatClampNeg x)))) H1 → va_S (rA Γ) s.heap H1 locs1 → W p l e R s m args below meth c H1 locs1 cells slots Q (F0 m (pc + 1) ls rest)) : W p l e R s m args below meth c H locs cells slots Q (F0 m pc ls (.int x :: .int i :: .ref a :: rest)) := by
  obtain ⟨ws, hP, hD, hG⟩ := hP
  obtain ⟨q0, hq⟩ := hG a _ ha
  exact va_iast hexec hb hE.1 hP hD hS q0 0 hq rfl hin hdg fun H1 locs1 hP1 hD1 hS1 => kk H1 locs1 (rW.set hD hq hG hP1 hD1) hS1
theorem g_zast (hexec : p.tables.exec = Jvm.exec) (hb : c.code = cc) (hE : rEv Γ cl s) (hP : rW Γ cl G H) (hS : va_S (rA Γ) s.heap H locs) {n : Nat} {f : Nat → Int32} (ha : G a = some (.inl (Γ.2.2.1 2, n, .inl f))) {i x : Int32} (hin : vp_in i n) (hdg : decode cc pc = .ok (.bastore, 1))
    (kk : ∀ (H1 : Heap) (locs1 : List Loc), rW Γ cl (rup G a (.inl (Γ.2.2.1 2, n, .inl (upd f i.toNatClampNeg (vp_nar .boolean x))))) H1 → va_S (rA Γ) s.heap H1 locs1 → W p l e R s m args below meth c H1 locs1 cells slots Q (F0 m (pc + 1) ls rest)) : W p l e R s m args below meth c H locs cells slots Q (F0 m pc ls (.int x :: .int i :: .ref a :: rest)) := by
  obtain ⟨ws, hP, hD, hG⟩ := hP
  obtain ⟨q0, hq⟩ := hG a _ ha
  exact va_zast hexec hb hE.1 hP hD hS q0 2 hq rfl hin hdg fun H1 locs1 hP1 hD1 hS1 => kk H1 locs1 (rW.set hD hq hG hP1 hD1) hS1
theorem g_last (hexec : p.tables.exec = Jvm.exec) (hb : c.code = cc) (hE : rEv Γ cl s) (hP : rW Γ cl G H) (hS : va_S (rA Γ) s.heap H locs) {n : Nat} {f : Nat → Int64} (ha : G a = some (.inl (Γ.2.2.1 1, n, .inr (.inl f)))) {i : Int32} {x : Int64} (hin : vp_in i n) (hdg : decode cc pc = .ok (.lastore, 1))
    (kk : ∀ (H1 : Heap) (locs1 : List Loc), rW Γ cl (rup G a (.inl (Γ.2.2.1 1, n, .inr (.inl (vp_updL f i.toNatClampNeg x))))) H1 → va_S (rA Γ) s.heap H1 locs1 → W p l e R s m args below meth c H1 locs1 cells slots Q (F0 m (pc + 1) ls rest)) : W p l e R s m args below meth c H locs cells slots Q (F0 m pc ls (.long x :: .int i :: .ref a :: rest)) := by
  obtain ⟨ws, hP, hD, hG⟩ := hP
  obtain ⟨q0, hq⟩ := hG a _ ha
  exact va_last hexec hb hE.1 hP hD hS q0 1 hq rfl hin hdg fun H1 locs1 hP1 hD1 hS1 => kk H1 locs1 (rW.set hD hq hG hP1 hD1) hS1
theorem g_aast (hexec : p.tables.exec = Jvm.exec) (hb : c.code = cc) (hE : rEv Γ cl s) (hP : rW Γ cl G H) (hS : va_S (rA Γ) s.heap H locs) (t0 ci : Nat) {E : String} {cA : ClassId} {r : vw_C} {n v : Nat} {vs : List Value} {f : Nat → Option Nat} (ha : G a = some (.inl (cA, n, .inr (.inr (.inr (.inr f)))))) (ht : (rTy Γ)[t0]? = some (cA, .object E)) (hca : va_Nw (.castable r.1 E) s) (hv : G v = some (.inr (ci, vs))) (hc : cl[ci]? = some r) {i : Int32} (hin : vp_in i n) (hdg : decode cc pc = .ok (.aastore, 1))
    (kk : ∀ (H1 : Heap) (locs1 : List Loc), rW Γ cl (rup G a (.inl (cA, n, .inr (.inr (.inr (.inr (va_up f i.toNatClampNeg (some v)))))))) H1 → va_S (rA Γ) s.heap H1 locs1 → W p l e R s m args below meth c H1 locs1 cells slots Q (F0 m (pc + 1) ls rest)) : W p l e R s m args below meth c H locs cells slots Q (F0 m pc ls (.ref v :: .int i :: .ref a :: rest)) := by
  obtain ⟨ws, hP, hD, hG⟩ := hP
  obtain ⟨q0, hq⟩ := hG a _ ha
  obtain ⟨qk, hqk⟩ := hG v _ hv
  exact va_astqO hexec hb hE.1 hP hD hS q0 t0 qk ci hq ht hca hqk hc hin hdg fun H1 locs1 hP1 hD1 hS1 => kk H1 locs1 (rW.set hD hq hG hP1 hD1) hS1
theorem g_aastS (hexec : p.tables.exec = Jvm.exec) (hb : c.code = cc) (hE : rEv Γ cl s) (hP : rW Γ cl G H) (hS : va_S (rA Γ) s.heap H locs) (t0 ci : Nat) {cA : ClassId} {r : vw_C} {n v : Nat} {vs : List Value} {f : Nat → Option Nat} (ha : G a = some (.inl (cA, n, .inr (.inr (.inr (.inr f)))))) (ht : (rTy Γ)[t0]? = some (cA, .object r.1)) (hv : G v = some (.inr (ci, vs))) (hc : cl[ci]? = some r) {i : Int32} (hin : vp_in i n) (hdg : decode cc pc = .ok (.aastore, 1))
    (kk : ∀ (H1 : Heap) (locs1 : List Loc), rW Γ cl (rup G a (.inl (cA, n, .inr (.inr (.inr (.inr (va_up f i.toNatClampNeg (some v)))))))) H1 → va_S (rA Γ) s.heap H1 locs1 → W p l e R s m args below meth c H1 locs1 cells slots Q (F0 m (pc + 1) ls rest)) : W p l e R s m args below meth c H locs cells slots Q (F0 m pc ls (.ref v :: .int i :: .ref a :: rest)) := by
  obtain ⟨ws, hP, hD, hG⟩ := hP
  obtain ⟨q0, hq⟩ := hG a _ ha
  obtain ⟨qk, hqk⟩ := hG v _ hv
  exact va_astq hexec hb hE.1 hP hD hS q0 t0 qk ci hq ht hqk hc hin hdg fun H1 locs1 hP1 hD1 hS1 => kk H1 locs1 (rW.set hD hq hG hP1 hD1) hS1
theorem g_aastN (hexec : p.tables.exec = Jvm.exec) (hb : c.code = cc) (hE : rEv Γ cl s) (hP : rW Γ cl G H) (hS : va_S (rA Γ) s.heap H locs) (t0 : Nat) {C : String} {cA : ClassId} {n : Nat} {f : Nat → Option Nat} (ha : G a = some (.inl (cA, n, .inr (.inr (.inr (.inr f)))))) (ht : (rTy Γ)[t0]? = some (cA, .object C)) {i : Int32} (hin : vp_in i n) (hdg : decode cc pc = .ok (.aastore, 1))
    (kk : ∀ (H1 : Heap) (locs1 : List Loc), rW Γ cl (rup G a (.inl (cA, n, .inr (.inr (.inr (.inr (va_up f i.toNatClampNeg none))))))) H1 → va_S (rA Γ) s.heap H1 locs1 → W p l e R s m args below meth c H1 locs1 cells slots Q (F0 m (pc + 1) ls rest)) : W p l e R s m args below meth c H locs cells slots Q (F0 m pc ls (.null :: .int i :: .ref a :: rest)) := by
  obtain ⟨ws, hP, hD, hG⟩ := hP
  obtain ⟨q0, hq⟩ := hG a _ ha
  exact va_astqN hexec hb hE.1 hP hD hS q0 t0 hq ht hin hdg fun H1 locs1 hP1 hD1 hS1 => kk H1 locs1 (rW.set hD hq hG hP1 hD1) hS1
theorem g_new (hexec : p.tables.exec = Jvm.exec) (hb : c.code = cc) {own C : String} {T : u_T} {N ci index : Nat} {Ts : List Cond} (hts : ∀ w ∈ Ts, w.before args s = true) (hin : ∀ w ∈ u_ws C T N, w ∈ Ts) (ty : Nat → FieldType) (hty : ∀ k, k < N → parseFieldDescriptor (T k).2.2.1 = some (ty k)) (hown : s.vm.findClass own = some m.cls) (hcl : (Cond.classLink own index C).before args s = true) (hinst : (Cond.instantiable C N).before args s = true) (hini : (Cond.initialized C).before args s = true)
    (hE : rEv Γ cl s) (hP : rW Γ cl G H) (hS : va_S (rA Γ) s.heap H locs) (hc : cl[ci]? = some (C, T, N)) {fs : List Value} (hfs : ∀ j, j < N → defaultValue (ty j) = vp_V fs j) (hcells : cells + 1 ≤ R.cells) (hslots : slots + N ≤ R.slots) (hdg : decode cc pc = .ok (.new index, 3))
    (kk : ∀ (q : Nat) (H1 : Heap), G q = none → Γ.2.1 ≤ q → rW Γ cl (rup G q (.inr (ci, fs))) H1 → va_S (rA Γ) s.heap H1 locs →
      W p l e R s m args below meth c H1 locs (cells + 1) (slots + N) Q (F0 m (pc + 3) ls (.ref q :: rest))) : W p l e R s m args below meth c H locs cells slots Q (F0 m pc ls rest) := by
  obtain ⟨ws, hP, hD, hG⟩ := hP
  refine va_new hexec hb hts hin ty hty hown hcl hinst hini hE.1 hP hD hS (fun q hq => Nat.le_trans hE.2.1 hq) hc hfs hcells hslots hdg fun q H1 hP1 hD1 hS1 => ?_
  obtain ⟨h1, h2⟩ := rW.push hG hP1 hD1
  exact kk q H1 h2 (h1.base (rup_self _ _ _)) h1 hS1
end RG
end
section
/-! THE ABSTRACT MEMORY: kinds, ints, longs, references, lists; by field (or array's kind), address, place -/
abbrev St : Type := (Nat → Nat) × (Nat → Nat → Nat → Int32) × (Nat → Nat → Nat → Int64) × (Nat → Nat → Nat → Option Nat) × (Nat → List Nat)
def sK (σ : St) (a : Nat) : Nat := σ.1 a
def sI (σ : St) (f a i : Nat) : Int32 := σ.2.1 f a i
def sJ (σ : St) (f a i : Nat) : Int64 := σ.2.2.1 f a i
def sR (σ : St) (f a i : Nat) : Option Nat := σ.2.2.2.1 f a i
def sL (σ : St) (a : Nat) : List Nat := σ.2.2.2.2 a
def uI (σ : St) (f a i : Nat) (v : Int32) : St := (σ.1, (fun g b j => if g = f ∧ b = a ∧ j = i then v else σ.2.1 g b j), σ.2.2)
def uJ (σ : St) (f a i : Nat) (v : Int64) : St := (σ.1, σ.2.1, (fun g b j => if g = f ∧ b = a ∧ j = i then v else σ.2.2.1 g b j), σ.2.2.2)
def uR (σ : St) (f a i : Nat) (v : Option Nat) : St := (σ.1, σ.2.1, σ.2.2.1, (fun g b j => if g = f ∧ b = a ∧ j = i then v else σ.2.2.2.1 g b j), σ.2.2.2.2)
def uL (σ : St) (a : Nat) (v : List Nat) : St := (σ.1, σ.2.1, σ.2.2.1, σ.2.2.2.1, (fun b => if b = a then v else σ.2.2.2.2 b))
/-- a new cell of kind t at q, all of it 0 or null -/
def uN (σ : St) (q t : Nat) : St := ((fun b => if b = q then t else σ.1 b), (fun g b j => if b = q then 0 else σ.2.1 g b j), (fun g b j => if b = q then 0 else σ.2.2.1 g b j), (fun g b j => if b = q then none else σ.2.2.2.1 g b j), (fun b => if b = q then [] else σ.2.2.2.2 b))
/-- a raw list becomes a list of kind t -/
def uT (σ : St) (q t : Nat) : St := ((fun b => if b = q then t else σ.1 b), σ.2.1, σ.2.2.1, σ.2.2.2.1, (fun b => if b = q then [] else σ.2.2.2.2 b))
def isB (v : Int32) : Prop := v = 0 ∨ v = 1
theorem isB.nar {v : Int32} (h : isB v) : narrow .boolean (.int v) = .int v := by rcases h with rfl | rfl <;> decide
theorem isB.fit {v : Int32} (h : isB v) : fits .boolean (.int v) = true := by rcases h with rfl | rfl <;> decide
theorem isB.vnar {v : Int32} (h : isB v) : vp_nar .boolean v = v := by rcases h with rfl | rfl <;> decide
def rElt (t : Nat) : Nat := if t = 20 then 2 else if t = 21 then 1 else 4
def rCi (t : Nat) : Nat := if t < 10 then t else 0
def rFl (t : Nat) : List (Nat × Nat) := match t with
  | 1 => [(2, 50), (0, 51), (1, 52), (0, 53)]
  | 2 => [(0, 100), (0, 101), (2, 102), (2, 103), (2, 104), (1, 105)]
  | 3 => [(2, 150), (2, 151), (0, 152), (0, 153), (0, 154), (0, 155), (0, 156), (0, 157), (0, 158)]
  | 4 => [(0, 200), (0, 201), (0, 202), (0, 203), (0, 204), (0, 205), (2, 206), (2, 207), (0, 208)]
  | 5 => [(2, 250), (2, 251), (2, 252), (0, 253), (0, 254), (0, 255), (0, 256), (0, 257)]
  | 6 => [(2, 300), (2, 301), (0, 302), (0, 303)]
  | 7 => [(1, 350), (1, 351), (1, 352), (1, 353)]
  | 8 => [(2, 400), (2, 401), (2, 402), (2, 403), (0, 404), (2, 405), (0, 406)]
  | 9 => [(0, 450), (2, 451), (2, 452), (0, 453), (0, 454), (2, 455), (2, 456), (2, 457), (2, 458), (0, 459), (0, 460), (0, 461), (0, 462), (0, 463), (2, 464), (2, 465), (2, 466), (2, 467), (2, 468), (2, 469), (2, 470), (2, 471), (2, 472), (2, 473), (2, 474), (2, 475), (2, 476), (2, 477), (0, 478), (0, 479), (2, 480), (2, 481), (2, 482), (2, 483), (2, 484), (2, 485), (2, 486), (2, 487), (2, 488), (2, 489), (0, 490), (2, 491), (2, 492), (2, 493), (2, 494), (2, 495)]
  | 19 => [(0, 950), (2, 951), (0, 952)]
  | _ => []
/-- arrays: what they hold (0 ints, 1 longs, 2 booleans, 3 batches), and how many -/
def rAr (t : Nat) : Nat × Nat := match t with
  | 1250 => (3, 4)
  | 1403 => (0, 256)
  | 1405 => (0, 34)
  | 1451 => (0, 5)
  | 1452 => (1, 5)
  | 1455 => (0, 12)
  | 1456 => (0, 12)
  | 1457 => (1, 12)
  | 1458 => (2, 12)
  | 1464 => (0, 4)
  | 1465 => (0, 4)
  | 1466 => (0, 4)
  | 1467 => (0, 4)
  | 1468 => (0, 4)
  | 1469 => (0, 4)
  | 1470 => (0, 4)
  | 1471 => (0, 20)
  | 1472 => (0, 20)
  | 1473 => (0, 20)
  | 1474 => (0, 20)
  | 1475 => (0, 20)
  | 1476 => (0, 20)
  | 1477 => (0, 256)
  | 1480 => (0, 512)
  | 1481 => (0, 512)
  | 1482 => (0, 512)
  | 1483 => (0, 512)
  | 1484 => (0, 512)
  | 1485 => (0, 512)
  | 1486 => (0, 512)
  | 1487 => (0, 512)
  | 1488 => (0, 512)
  | 1489 => (0, 512)
  | 1491 => (0, 5)
  | 1492 => (0, 2560)
  | 1493 => (2, 2560)
  | 1494 => (0, 2560)
  | 1495 => (0, 40)
  | _ => (0, 0)
def rFv (σ : St) (a : Nat) (d : Nat × Nat) : Value := match d.1 with
  | 0 => .int (sI σ d.2 a 0)
  | 1 => .long (sJ σ d.2 a 0)
  | _ => va_rf (sR σ d.2 a 0)
def rDf (d : Nat × Nat) : Value := match d.1 with
  | 0 => .int 0
  | 1 => .long 0
  | _ => .null
def rAe (Γ : rGam) (σ : St) (t a : Nat) (x : Nat × Nat) : va_E := match x.1 with
  | 0 => .inl (Γ.2.2.1 0, x.2, .inl (fun i => sI σ t a i))
  | 1 => .inl (Γ.2.2.1 1, x.2, .inr (.inl (fun i => sJ σ t a i)))
  | 2 => .inl (Γ.2.2.1 2, x.2, .inl (fun i => sI σ t a i))
  | _ => .inl (Γ.2.2.1 3, x.2, .inr (.inr (.inr (.inr (fun i => sR σ t a i)))))
def rEnt (Γ : rGam) (σ : St) (t a : Nat) : va_E := if t < 100 then .inr (rCi t, (rFl t).map (rFv σ a)) else rAe Γ σ t a (rAr t)
/-- what the abstract memory leaves out: of each list its count of changes, its array, that array's length; of each such array its list + 1 -/
abbrev rHid : Type := (Nat → Int32) × (Nat → Nat) × (Nat → Nat) × (Nat → Nat)
def rGs (Γ : rGam) (σ : St) (X : rHid) : rG := fun b =>
  if sK σ b = 0 then (if X.2.2.2 b = 0 then none else some (.inl (Γ.2.2.1 4, X.2.2.1 (X.2.2.2 b - 1), .inr (.inr (.inr (.inr (fun i => (sL σ (X.2.2.2 b - 1))[i]?)))))))
  else if 20 ≤ sK σ b ∧ sK σ b < 23 then some (.inr (0, [.int (X.1 b), .ref (X.2.1 b), .int (nI (sL σ b).length)]))
  else some (rEnt Γ σ (sK σ b) b)
def rWf (Γ : rGam) (σ : St) (X : rHid) : Prop := (∀ a, 20 ≤ sK σ a ∧ sK σ a < 23 → (sL σ a).length ≤ X.2.2.1 a ∧ X.2.2.1 a < 100000 ∧ (∀ x ∈ sL σ a, sK σ x = rElt (sK σ a)) ∧ ((X.2.1 a = Γ.2.2.2 0 ∧ X.2.2.1 a = 0) ∨ (X.2.2.2 (X.2.1 a) = a + 1 ∧ sK σ (X.2.1 a) = 0 ∧ 10 ≤ X.2.2.1 a))) ∧ ∀ a b, X.2.2.2 b = a + 1 → X.2.1 a = b ∧ 20 ≤ sK σ a ∧ sK σ a < 23
def Rep (Γ : rGam) (σ : St) (H : Heap) : Prop := ∃ X : rHid, rWf Γ σ X ∧ rW Γ vwCl (rGs Γ σ X) H
theorem rElt_ne (t : Nat) : rElt t ≠ 0 := by unfold rElt; split <;> (try split) <;> decide
theorem rGs_ob {Γ : rGam} {σ : St} {X : rHid} {a t : Nat} (hk : sK σ a = t) (h0 : t ≠ 0) (h1 : ¬ (20 ≤ t ∧ t < 23)) : rGs Γ σ X a = some (rEnt Γ σ t a) := by
  subst hk
  simp [rGs, h0, h1]
theorem rGs_up {Γ : rGam} {σ σ' : St} {X : rHid} {a t : Nat} (hk : sK σ a = t) (h0 : t ≠ 0) (h1 : ¬ (20 ≤ t ∧ t < 23)) (hK : ∀ b, sK σ' b = sK σ b) (hL : ∀ b, sL σ' b = sL σ b) (ho : ∀ b, b ≠ a → ∀ t', rEnt Γ σ' t' b = rEnt Γ σ t' b) : rGs Γ σ' X = rup (rGs Γ σ X) a (rEnt Γ σ' t a) := by
  funext b
  by_cases hb : b = a
  · subst hb
    rw [rup_self]
    exact rGs_ob ((hK b).trans hk) h0 h1
  · rw [rup_ne _ _ hb]
    simp only [rGs, hK, hL, ho b hb]
theorem rWf_up {Γ : rGam} {σ σ' : St} {X : rHid} (hK : ∀ b, sK σ' b = sK σ b) (hL : ∀ b, sL σ' b = sL σ b) (h : rWf Γ σ X) : rWf Γ σ' X := by
  unfold rWf
  simp only [hK, hL]
  exact h
theorem rFl_put {fl : List (Nat × Nat)} {k ty f : Nat} {g g' : Nat × Nat → Value} {v : Value} (hk : fl[k]? = some (ty, f)) (hnd : (fl.map Prod.snd).Nodup) (h1 : g' (ty, f) = v) (h2 : ∀ d : Nat × Nat, d.2 ≠ f → g' d = g d) : fl.map g' = (fl.map g).set k v := by
  have hlt : k < fl.length := (List.getElem?_eq_some_iff.mp hk).1
  apply List.ext_getElem?
  intro j
  by_cases hj : j = k
  · subst hj
    rw [List.getElem?_map, hk, List.getElem?_set_self (by simpa using hlt)]
    simp [h1]
  · rw [List.getElem?_set_ne (Ne.symm hj)]
    simp only [List.getElem?_map]
    cases hd : fl[j]? with
    | none => rfl
    | some d =>
      simp only [Option.map_some, Option.some.injEq]
      refine h2 d fun e => hj ?_
      have e1 : (fl.map Prod.snd)[j]? = some f := by simp [hd, e]
      have e2 : (fl.map Prod.snd)[k]? = some f := by simp [hk]
      have hjl : j < (fl.map Prod.snd).length := (List.getElem?_eq_some_iff.mp e1).1
      exact (List.getElem?_inj hjl hnd).mp (e1.trans e2.symm)
theorem rEnt_uI {Γ : rGam} {σ : St} {f a i : Nat} {v : Int32} {b : Nat} (hb : b ≠ a) (t : Nat) : rEnt Γ (uI σ f a i v) t b = rEnt Γ σ t b := by
  have e1 : ∀ g j, sI (uI σ f a i v) g b j = sI σ g b j := fun g j => by simp [sI, uI, hb]
  have e2 : ∀ d, rFv (uI σ f a i v) b d = rFv σ b d := fun d => by unfold rFv; rw [e1]; rfl
  have e3 : rFv (uI σ f a i v) b = rFv σ b := funext e2
  unfold rEnt
  rw [e3]
  unfold rAe
  simp only [e1]
  rfl
theorem rEnt_uJ {Γ : rGam} {σ : St} {f a i : Nat} {v : Int64} {b : Nat} (hb : b ≠ a) (t : Nat) : rEnt Γ (uJ σ f a i v) t b = rEnt Γ σ t b := by
  have e1 : ∀ g j, sJ (uJ σ f a i v) g b j = sJ σ g b j := fun g j => by simp [sJ, uJ, hb]
  have e2 : ∀ d, rFv (uJ σ f a i v) b d = rFv σ b d := fun d => by unfold rFv; rw [e1]; rfl
  have e3 : rFv (uJ σ f a i v) b = rFv σ b := funext e2
  unfold rEnt
  rw [e3]
  unfold rAe
  simp only [e1]
  rfl
theorem rEnt_uR {Γ : rGam} {σ : St} {f a i : Nat} {v : Option Nat} {b : Nat} (hb : b ≠ a) (t : Nat) : rEnt Γ (uR σ f a i v) t b = rEnt Γ σ t b := by
  have e1 : ∀ g j, sR (uR σ f a i v) g b j = sR σ g b j := fun g j => by simp [sR, uR, hb]
  have e2 : ∀ d, rFv (uR σ f a i v) b d = rFv σ b d := fun d => by unfold rFv; rw [e1]; rfl
  have e3 : rFv (uR σ f a i v) b = rFv σ b := funext e2
  unfold rEnt
  rw [e3]
  unfold rAe
  simp only [e1]
  rfl
theorem rEnt_uN {Γ : rGam} {σ : St} {q t0 : Nat} {b : Nat} (hb : b ≠ q) (t : Nat) : rEnt Γ (uN σ q t0) t b = rEnt Γ σ t b := by
  have e1 : ∀ g j, sI (uN σ q t0) g b j = sI σ g b j := fun g j => by simp [sI, uN, hb]
  have e2 : ∀ g j, sJ (uN σ q t0) g b j = sJ σ g b j := fun g j => by simp [sJ, uN, hb]
  have e3 : ∀ g j, sR (uN σ q t0) g b j = sR σ g b j := fun g j => by simp [sR, uN, hb]
  have e4 : rFv (uN σ q t0) b = rFv σ b := funext fun d => by unfold rFv; rw [e1, e2, e3]
  unfold rEnt
  rw [e4]
  unfold rAe
  simp only [e1, e2, e3]
theorem rEnt_newO {Γ : rGam} {σ : St} {q t0 : Nat} (ht : t0 < 100) : rEnt Γ (uN σ q t0) t0 q = .inr (rCi t0, (rFl t0).map rDf) := by
  have e4 : rFv (uN σ q t0) q = rDf := funext fun d => by unfold rFv rDf; simp [sI, sJ, sR, uN, va_rf]
  unfold rEnt
  rw [if_pos ht, e4]
theorem rGs_new {Γ : rGam} {σ : St} {X : rHid} {q t : Nat} (hW : rWf Γ σ X) (hq : rGs Γ σ X q = none) (h0 : t ≠ 0) (h1 : ¬ (20 ≤ t ∧ t < 23)) : sK σ q = 0 ∧ rWf Γ (uN σ q t) X ∧ rGs Γ (uN σ q t) X = rup (rGs Γ σ X) q (rEnt Γ (uN σ q t) t q) := by
  have hk : sK σ q = 0 := by
    by_cases hk : sK σ q = 0
    · exact hk
    · simp only [rGs, hk, if_false] at hq
      split at hq <;> cases hq
  have hx : X.2.2.2 q = 0 := by
    by_cases hx : X.2.2.2 q = 0
    · exact hx
    · simp [rGs, hk, hx] at hq
  have hKq : sK (uN σ q t) q = t := by simp [sK, uN]
  have hKn : ∀ b, b ≠ q → sK (uN σ q t) b = sK σ b := fun b hb => by simp [sK, uN, hb]
  have hLn : ∀ b, b ≠ q → sL (uN σ q t) b = sL σ b := fun b hb => by simp [sL, uN, hb]
  have hne : ∀ b, sK σ b ≠ 0 → b ≠ q := fun b hb e => hb (by rw [e]; exact hk)
  refine ⟨hk, ⟨fun a ha => ?_, fun a b hab => ?_⟩, ?_⟩
  · have haq : a ≠ q := fun e => by rw [e, hKq] at ha; exact h1 ha
    rw [hKn a haq] at ha ⊢
    rw [hLn a haq]
    obtain ⟨w1, w2, w3, w4⟩ := hW.1 a ha
    refine ⟨w1, w2, fun x hx => ?_, ?_⟩
    · have := w3 x hx
      rw [hKn x (hne x (by rw [this]; exact rElt_ne _))]
      exact this
    · rcases w4 with w4 | ⟨w4, w5, w6⟩
      · exact Or.inl w4
      · refine Or.inr ⟨w4, ?_, w6⟩
        rw [hKn _ (fun e => by rw [e, hx] at w4; omega)]
        exact w5
  · obtain ⟨w1, w2⟩ := hW.2 a b hab
    rw [hKn a (hne a (by omega))]
    exact ⟨w1, w2⟩
  · funext b
    by_cases hb : b = q
    · subst hb
      rw [rup_self]
      exact rGs_ob hKq h0 h1
    · rw [rup_ne _ _ hb]
      simp only [rGs, hKn b hb, hLn b hb, rEnt_uN hb]
      by_cases hb0 : sK σ b = 0
      · simp only [hb0, if_true]
        by_cases hb1 : X.2.2.2 b = 0
        · simp [hb1]
        · have h3 := (hW.2 (X.2.2.2 b - 1) b (by omega)).2
          rw [hLn _ (hne _ (by omega))]
      · simp only [hb0, if_false]
/-- what a method's body knows all the time -/
def Fx (Γ : rGam) (p : Program) (s : State) (m : MethodId) (meth : Method) (c : Code) (args : Array Value) (cc : ByteArray) (nL : Nat) (own : String) (ws : List Cond) (rt : Option FieldType) : Prop := CallFix p m c cc nL s args ws own ∧ rEv Γ vwCl s ∧ meth.locks = false ∧ meth.sig.returnType = rt
abbrev rQi (Γ : rGam) (below : List Frame) (post : Int32 → St → Prop) (args : Array Value) (s : State) (mc ms : Nat) : State → Prop := MQ below (va_Qi post (fun σ' t => Rep Γ σ' t.heap) (rA Γ)) args s mc ms (rA Γ)
abbrev rQl (Γ : rGam) (below : List Frame) (post : Int64 → St → Prop) (args : Array Value) (s : State) (mc ms : Nat) : State → Prop := MQ below (va_Ql post (fun σ' t => Rep Γ σ' t.heap) (rA Γ)) args s mc ms (rA Γ)
abbrev rQv (Γ : rGam) (below : List Frame) (post : St → Prop) (args : Array Value) (s : State) (mc ms : Nat) : State → Prop := MQ below (va_Qv post (fun σ' t => Rep Γ σ' t.heap) (rA Γ)) args s mc ms (rA Γ)
abbrev rQq (Γ : rGam) (below : List Frame) (post : Option Nat → St → Prop) (args : Array Value) (s : State) (mc ms : Nat) : State → Prop := MQ below (va_Qq post (fun σ' t => Rep Γ σ' t.heap) (rA Γ)) args s mc ms (rA Γ)
section RS
variable {p : Program} {l : Launch} {e : Env} {R : Room} {s : State} {m : MethodId} {args : Array Value} {below : List Frame} {meth : Method} {c : Code} {H : Heap} {locs : List Loc} {cells slots : Nat} {Q : State → Prop}
variable {cc : ByteArray} {nL : Nat} {own : String} {ws : List Cond} {rt : Option FieldType} {pc : Nat} {ls : Array Slot} {rest : List Value} {Γ : rGam} {σ : St} {a : Nat}
theorem s_getI (F : Fx Γ p s m meth c args cc nL own ws rt) (hR : Rep Γ σ H) {t : Nat} (hk : sK σ a = t) (ht : 0 < t ∧ t < 20) {C : String} {T : u_T} {N index : Nat} (hc : vwCl[rCi t]? = some (C, T, N)) (hin : ∀ w ∈ u_ws C T N, w ∈ ws) (k : Nat) (hkN : k < N) (hlink : Cond.fieldLink own index (T k).1 (T k).2.1 (T k).2.2.1 ∈ ws) {f : Nat} (hf : (rFl t)[k]? = some (0, f)) (hdg : decode cc pc = .ok (.getfield index, 3))
    (kk : W p l e R s m args below meth c H locs cells slots Q (F0 m (pc + 3) ls (.int (sI σ f a 0) :: rest))) : W p l e R s m args below meth c H locs cells slots Q (F0 m pc ls (.ref a :: rest)) := by
  obtain ⟨X, -, hG⟩ := hR
  refine g_get F.1.1 F.1.2.1 F.1.2.2.2.2 hin F.1.2.2.2.1 F.2.1 hG (ci := rCi t) (fs := (rFl t).map (rFv σ a)) ?_ hc k hkN (F.1.2.2.2.2 _ hlink) (fun _ h => h) (v := .int (sI σ f a 0)) ?_ hdg kk
  · rw [rGs_ob hk (by omega) (by omega), rEnt, if_pos (by omega)]
  · rw [List.getElem?_map, hf]; rfl
theorem s_getJ (F : Fx Γ p s m meth c args cc nL own ws rt) (hR : Rep Γ σ H) {t : Nat} (hk : sK σ a = t) (ht : 0 < t ∧ t < 20) {C : String} {T : u_T} {N index : Nat} (hc : vwCl[rCi t]? = some (C, T, N)) (hin : ∀ w ∈ u_ws C T N, w ∈ ws) (k : Nat) (hkN : k < N) (hlink : Cond.fieldLink own index (T k).1 (T k).2.1 (T k).2.2.1 ∈ ws) {f : Nat} (hf : (rFl t)[k]? = some (1, f)) (hdg : decode cc pc = .ok (.getfield index, 3))
    (kk : W p l e R s m args below meth c H locs cells slots Q (F0 m (pc + 3) ls (.long (sJ σ f a 0) :: rest))) : W p l e R s m args below meth c H locs cells slots Q (F0 m pc ls (.ref a :: rest)) := by
  obtain ⟨X, -, hG⟩ := hR
  refine g_get F.1.1 F.1.2.1 F.1.2.2.2.2 hin F.1.2.2.2.1 F.2.1 hG (ci := rCi t) (fs := (rFl t).map (rFv σ a)) ?_ hc k hkN (F.1.2.2.2.2 _ hlink) (fun _ h => h) (v := .long (sJ σ f a 0)) ?_ hdg kk
  · rw [rGs_ob hk (by omega) (by omega), rEnt, if_pos (by omega)]
  · rw [List.getElem?_map, hf]; rfl
theorem s_getR (F : Fx Γ p s m meth c args cc nL own ws rt) (hR : Rep Γ σ H) {t : Nat} (hk : sK σ a = t) (ht : 0 < t ∧ t < 20) {C : String} {T : u_T} {N index : Nat} (hc : vwCl[rCi t]? = some (C, T, N)) (hin : ∀ w ∈ u_ws C T N, w ∈ ws) (k : Nat) (hkN : k < N) (hlink : Cond.fieldLink own index (T k).1 (T k).2.1 (T k).2.2.1 ∈ ws) {f : Nat} (hf : (rFl t)[k]? = some (2, f)) (hdg : decode cc pc = .ok (.getfield index, 3))
    (kk : ∀ r : Option Nat, r = sR σ f a 0 → W p l e R s m args below meth c H locs cells slots Q (F0 m (pc + 3) ls (va_rf r :: rest))) : W p l e R s m args below meth c H locs cells slots Q (F0 m pc ls (.ref a :: rest)) := by
  obtain ⟨X, -, hG⟩ := hR
  refine g_get F.1.1 F.1.2.1 F.1.2.2.2.2 hin F.1.2.2.2.1 F.2.1 hG (ci := rCi t) (fs := (rFl t).map (rFv σ a)) ?_ hc k hkN (F.1.2.2.2.2 _ hlink) (fun _ h => h) (v := va_rf (sR σ f a 0)) ?_ hdg (kk _ rfl)
  · rw [rGs_ob hk (by omega) (by omega), rEnt, if_pos (by omega)]
  · rw [List.getElem?_map, hf]; rfl
theorem s_putG (F : Fx Γ p s m meth c args cc nL own ws rt) (hR : Rep Γ σ H) (hS : va_S (rA Γ) s.heap H locs) {t : Nat} (hk : sK σ a = t) (ht : 0 < t ∧ t < 20) {C : String} {T : u_T} {N index : Nat} (hc : vwCl[rCi t]? = some (C, T, N)) (hin : ∀ w ∈ u_ws C T N, w ∈ ws) (ty0 : Nat → FieldType) (hty : ∀ k, k < N → parseFieldDescriptor (T k).2.2.1 = some (ty0 k)) (hnm : ∀ a, a < N → ∀ b, b < N → a ≠ b → (T a).2.1 ≠ (T b).2.1) (k : Nat) (hkN : k < N) (hlink : Cond.fieldLink own index (T k).1 (T k).2.1 (T k).2.2.1 ∈ ws) (hfin : (T k).2.2.2 = false ∨ ((T k).2.2.2 = true ∧ meth.name = "<init>" ∧ (T k).1 = own)) {v : Value} (hn : narrow (ty0 k) v = v) (hfit : fits (ty0 k) v = true) {x : Nat × Nat} (hf : (rFl t)[k]? = some x) (hnd : ((rFl t).map Prod.snd).Nodup) {σ' : St} (hK : ∀ b, sK σ' b = sK σ b) (hL : ∀ b, sL σ' b = sL σ b) (ho : ∀ b, b ≠ a → ∀ t', rEnt Γ σ' t' b = rEnt Γ σ t' b) (h1 : rFv σ' a x = v) (h2 : ∀ d : Nat × Nat, d.2 ≠ x.2 → rFv σ' a d = rFv σ a d) (hdg : decode cc pc = .ok (.putfield index, 3))
    (kk : ∀ (H1 : Heap) (locs1 : List Loc), Rep Γ σ' H1 → va_S (rA Γ) s.heap H1 locs1 → W p l e R s m args below meth c H1 locs1 cells slots Q (F0 m (pc + 3) ls rest)) : W p l e R s m args below meth c H locs cells slots Q (F0 m pc ls (v :: .ref a :: rest)) := by
  obtain ⟨X, hW, hG⟩ := hR
  have he : rGs Γ σ X a = some (.inr (rCi t, (rFl t).map (rFv σ a))) := by rw [rGs_ob hk (by omega) (by omega), rEnt, if_pos (by omega)]
  have hl : k < ((rFl t).map (rFv σ a)).length := by rw [List.length_map]; exact (List.getElem?_eq_some_iff.mp hf).1
  have hfl : (rFl t).map (rFv σ' a) = ((rFl t).map (rFv σ a)).set k v := rFl_put (ty := x.1) (f := x.2) hf hnd h1 h2
  have hkk : ∀ (H1 : Heap) (locs1 : List Loc), rW Γ vwCl (rup (rGs Γ σ X) a (.inr (rCi t, ((rFl t).map (rFv σ a)).set k v))) H1 → va_S (rA Γ) s.heap H1 locs1 → W p l e R s m args below meth c H1 locs1 cells slots Q (F0 m (pc + 3) ls rest) := fun H1 locs1 h h' => by
    refine kk H1 locs1 ⟨X, rWf_up hK hL hW, ?_⟩ h'
    rw [rGs_up hk (by omega) (by omega) hK hL ho, rEnt, if_pos (by omega), hfl]
    exact h
  rcases hfin with hfin | ⟨hfin, hin2, hdecl⟩
  · exact g_put F.1.1 F.1.2.1 F.1.2.2.2.2 hin ty0 hty hnm F.1.2.2.2.1 F.2.1 hG hS he hc k hkN (F.1.2.2.2.2 _ hlink) (fun _ h => h) hfin hn hfit hl hdg hkk
  · exact g_putF F.1.1 F.1.2.1 F.1.2.2.2.2 hin ty0 hty hnm F.1.2.2.2.1 F.2.1 hG hS he hc k hkN (F.1.2.2.2.2 _ hlink) (fun _ h => h) hfin hin2 hdecl hn hfit hl hdg hkk
theorem s_putI (F : Fx Γ p s m meth c args cc nL own ws rt) (hR : Rep Γ σ H) (hS : va_S (rA Γ) s.heap H locs) {t : Nat} (hk : sK σ a = t) (ht : 0 < t ∧ t < 20) {C : String} {T : u_T} {N index : Nat} (hc : vwCl[rCi t]? = some (C, T, N)) (hin : ∀ w ∈ u_ws C T N, w ∈ ws) (ty0 : Nat → FieldType) (hty : ∀ k, k < N → parseFieldDescriptor (T k).2.2.1 = some (ty0 k)) (hnm : ∀ a, a < N → ∀ b, b < N → a ≠ b → (T a).2.1 ≠ (T b).2.1) (k : Nat) (hkN : k < N) (hlink : Cond.fieldLink own index (T k).1 (T k).2.1 (T k).2.2.1 ∈ ws) (hfin : (T k).2.2.2 = false ∨ ((T k).2.2.2 = true ∧ meth.name = "<init>" ∧ (T k).1 = own)) {v : Int32} (hn : narrow (ty0 k) (.int v) = .int v) (hfit : fits (ty0 k) (.int v) = true) {f : Nat} (hf : (rFl t)[k]? = some (0, f)) (hnd : ((rFl t).map Prod.snd).Nodup) (hdg : decode cc pc = .ok (.putfield index, 3))
    (kk : ∀ (σ' : St), σ' = uI σ f a 0 v → ∀ (H1 : Heap) (locs1 : List Loc), Rep Γ σ' H1 → va_S (rA Γ) s.heap H1 locs1 → W p l e R s m args below meth c H1 locs1 cells slots Q (F0 m (pc + 3) ls rest)) : W p l e R s m args below meth c H locs cells slots Q (F0 m pc ls (.int v :: .ref a :: rest)) :=
  s_putG F hR hS hk ht hc hin ty0 hty hnm k hkN hlink hfin hn hfit hf hnd (σ' := uI σ f a 0 v) (fun _ => rfl) (fun _ => rfl) (fun _ hb t' => rEnt_uI hb t') (by simp [rFv, sI, uI]) (fun d hd => by unfold rFv; split <;> first | rfl | (simp [sI, uI]; exact fun z => absurd z hd)) hdg (kk _ rfl)
theorem s_putJ (F : Fx Γ p s m meth c args cc nL own ws rt) (hR : Rep Γ σ H) (hS : va_S (rA Γ) s.heap H locs) {t : Nat} (hk : sK σ a = t) (ht : 0 < t ∧ t < 20) {C : String} {T : u_T} {N index : Nat} (hc : vwCl[rCi t]? = some (C, T, N)) (hin : ∀ w ∈ u_ws C T N, w ∈ ws) (ty0 : Nat → FieldType) (hty : ∀ k, k < N → parseFieldDescriptor (T k).2.2.1 = some (ty0 k)) (hnm : ∀ a, a < N → ∀ b, b < N → a ≠ b → (T a).2.1 ≠ (T b).2.1) (k : Nat) (hkN : k < N) (hlink : Cond.fieldLink own index (T k).1 (T k).2.1 (T k).2.2.1 ∈ ws) (hfin : (T k).2.2.2 = false ∨ ((T k).2.2.2 = true ∧ meth.name = "<init>" ∧ (T k).1 = own)) {v : Int64} (hn : narrow (ty0 k) (.long v) = .long v) (hfit : fits (ty0 k) (.long v) = true) {f : Nat} (hf : (rFl t)[k]? = some (1, f)) (hnd : ((rFl t).map Prod.snd).Nodup) (hdg : decode cc pc = .ok (.putfield index, 3))
    (kk : ∀ (σ' : St), σ' = uJ σ f a 0 v → ∀ (H1 : Heap) (locs1 : List Loc), Rep Γ σ' H1 → va_S (rA Γ) s.heap H1 locs1 → W p l e R s m args below meth c H1 locs1 cells slots Q (F0 m (pc + 3) ls rest)) : W p l e R s m args below meth c H locs cells slots Q (F0 m pc ls (.long v :: .ref a :: rest)) :=
  s_putG F hR hS hk ht hc hin ty0 hty hnm k hkN hlink hfin hn hfit hf hnd (σ' := uJ σ f a 0 v) (fun _ => rfl) (fun _ => rfl) (fun _ hb t' => rEnt_uJ hb t') (by simp [rFv, sJ, uJ]) (fun d hd => by unfold rFv; split <;> first | rfl | (simp [sJ, uJ]; exact fun z => absurd z hd)) hdg (kk _ rfl)
theorem s_putR (F : Fx Γ p s m meth c args cc nL own ws rt) (hR : Rep Γ σ H) (hS : va_S (rA Γ) s.heap H locs) {t : Nat} (hk : sK σ a = t) (ht : 0 < t ∧ t < 20) {C : String} {T : u_T} {N index : Nat} (hc : vwCl[rCi t]? = some (C, T, N)) (hin : ∀ w ∈ u_ws C T N, w ∈ ws) (ty0 : Nat → FieldType) (hty : ∀ k, k < N → parseFieldDescriptor (T k).2.2.1 = some (ty0 k)) (hnm : ∀ a, a < N → ∀ b, b < N → a ≠ b → (T a).2.1 ≠ (T b).2.1) (k : Nat) (hkN : k < N) (hlink : Cond.fieldLink own index (T k).1 (T k).2.1 (T k).2.2.1 ∈ ws) (hfin : (T k).2.2.2 = false ∨ ((T k).2.2.2 = true ∧ meth.name = "<init>" ∧ (T k).1 = own)) {v : Option Nat} (hn : narrow (ty0 k) (va_rf v) = va_rf v) (hfit : fits (ty0 k) (va_rf v) = true) {f : Nat} (hf : (rFl t)[k]? = some (2, f)) (hnd : ((rFl t).map Prod.snd).Nodup) (hdg : decode cc pc = .ok (.putfield index, 3))
    (kk : ∀ (σ' : St), σ' = uR σ f a 0 v → ∀ (H1 : Heap) (locs1 : List Loc), Rep Γ σ' H1 → va_S (rA Γ) s.heap H1 locs1 → W p l e R s m args below meth c H1 locs1 cells slots Q (F0 m (pc + 3) ls rest)) : W p l e R s m args below meth c H locs cells slots Q (F0 m pc ls (va_rf v :: .ref a :: rest)) :=
  s_putG F hR hS hk ht hc hin ty0 hty hnm k hkN hlink hfin hn hfit hf hnd (σ' := uR σ f a 0 v) (fun _ => rfl) (fun _ => rfl) (fun _ hb t' => rEnt_uR hb t') (by simp [rFv, sR, uR]) (fun d hd => by have hd' : ¬ d.2 = f := hd; unfold rFv; split <;> first | rfl | (simp [sR, uR, hd'])) hdg (kk _ rfl)
theorem s_iald (F : Fx Γ p s m meth c args cc nL own ws rt) (hR : Rep Γ σ H) {t n : Nat} (hk : sK σ a = t) (ht : 100 ≤ t) (hr : rAr t = (0, n)) {i : Int32} (hin : vp_in i n) (hdg : decode cc pc = .ok (.iaload, 1))
    (kk : W p l e R s m args below meth c H locs cells slots Q (F0 m (pc + 1) ls (.int (sI σ t a i.toNatClampNeg) :: rest))) : W p l e R s m args below meth c H locs cells slots Q (F0 m pc ls (.int i :: .ref a :: rest)) := by
  obtain ⟨X, -, hG⟩ := hR
  exact g_iald F.1.1 F.1.2.1 F.2.1 hG (n := n) (f := fun i => sI σ t a i) (by rw [rGs_ob hk (by omega) (by omega), rEnt, if_neg (by omega), hr]; rfl) hin hdg kk
theorem s_zald (F : Fx Γ p s m meth c args cc nL own ws rt) (hR : Rep Γ σ H) {t n : Nat} (hk : sK σ a = t) (ht : 100 ≤ t) (hr : rAr t = (2, n)) {i : Int32} (hin : vp_in i n) (hdg : decode cc pc = .ok (.baload, 1))
    (kk : W p l e R s m args below meth c H locs cells slots Q (F0 m (pc + 1) ls (.int (sI σ t a i.toNatClampNeg) :: rest))) : W p l e R s m args below meth c H locs cells slots Q (F0 m pc ls (.int i :: .ref a :: rest)) := by
  obtain ⟨X, -, hG⟩ := hR
  exact g_zald F.1.1 F.1.2.1 F.2.1 hG (n := n) (f := fun i => sI σ t a i) (by rw [rGs_ob hk (by omega) (by omega), rEnt, if_neg (by omega), hr]; rfl) hin hdg kk
theorem s_lald (F : Fx Γ p s m meth c args cc nL own ws rt) (hR : Rep Γ σ H) {t n : Nat} (hk : sK σ a = t) (ht : 100 ≤ t) (hr : rAr t = (1, n)) {i : Int32} (hin : vp_in i n) (hdg : decode cc pc = .ok (.laload, 1))
    (kk : W p l e R s m args below meth c H locs cells slots Q (F0 m (pc + 1) ls (.long (sJ σ t a i.toNatClampNeg) :: rest))) : W p l e R s m args below meth c H locs cells slots Q (F0 m pc ls (.int i :: .ref a :: rest)) := by
  obtain ⟨X, -, hG⟩ := hR
  exact g_lald F.1.1 F.1.2.1 F.2.1 hG (n := n) (f := fun i => sJ σ t a i) (by rw [rGs_ob hk (by omega) (by omega), rEnt, if_neg (by omega), hr]; rfl) hin hdg kk
theorem s_aald (F : Fx Γ p s m meth c args cc nL own ws rt) (hR : Rep Γ σ H) {t n : Nat} (hk : sK σ a = t) (ht : 100 ≤ t) (hr : rAr t = (3, n)) {i : Int32} (hin : vp_in i n) (hdg : decode cc pc = .ok (.aaload, 1))
    (kk : ∀ r : Option Nat, r = sR σ t a i.toNatClampNeg → W p l e R s m args below meth c H locs cells slots Q (F0 m (pc + 1) ls (va_rf r :: rest))) : W p l e R s m args below meth c H locs cells slots Q (F0 m pc ls (.int i :: .ref a :: rest)) := by
  obtain ⟨X, -, hG⟩ := hR
  exact g_aald F.1.1 F.1.2.1 F.2.1 hG 3 (C := "ClearingFiles$Batch") rfl (n := n) (f := fun i => sR σ t a i) (by rw [rGs_ob hk (by omega) (by omega), rEnt, if_neg (by omega), hr]; rfl) hin hdg (kk _ rfl)
theorem rArr_up {t : Nat} {σ' : St} {H1 : Heap} {X : rHid} {e : va_E} (hk : sK σ a = t) (ht : 100 ≤ t) (hW : rWf Γ σ X) (hK : ∀ b, sK σ' b = sK σ b) (hL : ∀ b, sL σ' b = sL σ b) (ho : ∀ b, b ≠ a → ∀ t', rEnt Γ σ' t' b = rEnt Γ σ t' b) (he : rAe Γ σ' t a (rAr t) = e) (h : rW Γ vwCl (rup (rGs Γ σ X) a e) H1) : Rep Γ σ' H1 := by
  refine ⟨X, rWf_up hK hL hW, ?_⟩
  rw [rGs_up hk (by omega) (by omega) hK hL ho, rEnt, if_neg (by omega), he]
  exact h
theorem s_iast (F : Fx Γ p s m meth c args cc nL own ws rt) (hR : Rep Γ σ H) (hS : va_S (rA Γ) s.heap H locs) {t n : Nat} (hk : sK σ a = t) (ht : 100 ≤ t) (hr : rAr t = (0, n)) {i x : Int32} (hin : vp_in i n) (hdg : decode cc pc = .ok (.iastore, 1))
    (kk : ∀ σ' : St, σ' = uI σ t a i.toNatClampNeg x → ∀ (H1 : Heap) (locs1 : List Loc), Rep Γ σ' H1 → va_S (rA Γ) s.heap H1 locs1 → W p l e R s m args below meth c H1 locs1 cells slots Q (F0 m (pc + 1) ls rest)) : W p l e R s m args below meth c H locs cells slots Q (F0 m pc ls (.int x :: .int i :: .ref a :: rest)) := by
  obtain ⟨X, hW, hG⟩ := hR
  refine g_iast F.1.1 F.1.2.1 F.2.1 hG hS (n := n) (f := fun i => sI σ t a i) (by rw [rGs_ob hk (by omega) (by omega), rEnt, if_neg (by omega), hr]; rfl) hin hdg fun H1 locs1 h h' => kk _ rfl H1 locs1 (rArr_up hk ht hW (fun _ => rfl) (fun _ => rfl) (fun _ hb t' => rEnt_uI hb t') ?_ h) h'
  rw [hr]
  simp only [rAe]
  congr 3
  congr 1
  funext j
  simp [sI, uI, upd]
theorem s_zast (F : Fx Γ p s m meth c args cc nL own ws rt) (hR : Rep Γ σ H) (hS : va_S (rA Γ) s.heap H locs) {t n : Nat} (hk : sK σ a = t) (ht : 100 ≤ t) (hr : rAr t = (2, n)) {i x : Int32} (hin : vp_in i n) (hx : isB x) (hdg : decode cc pc = .ok (.bastore, 1))
    (kk : ∀ σ' : St, σ' = uI σ t a i.toNatClampNeg x → ∀ (H1 : Heap) (locs1 : List Loc), Rep Γ σ' H1 → va_S (rA Γ) s.heap H1 locs1 → W p l e R s m args below meth c H1 locs1 cells slots Q (F0 m (pc + 1) ls rest)) : W p l e R s m args below meth c H locs cells slots Q (F0 m pc ls (.int x :: .int i :: .ref a :: rest)) := by
  obtain ⟨X, hW, hG⟩ := hR
  refine g_zast F.1.1 F.1.2.1 F.2.1 hG hS (n := n) (f := fun i => sI σ t a i) (by rw [rGs_ob hk (by omega) (by omega), rEnt, if_neg (by omega), hr]; rfl) hin hdg fun H1 locs1 h h' => kk _ rfl H1 locs1 (rArr_up hk ht hW (fun _ => rfl) (fun _ => rfl) (fun _ hb t' => rEnt_uI hb t') ?_ h) h'
  rw [hr, hx.vnar]
  simp only [rAe]
  congr 3
  congr 1
  funext j
  simp [sI, uI, upd]
theorem s_last (F : Fx Γ p s m meth c args cc nL own ws rt) (hR : Rep Γ σ H) (hS : va_S (rA Γ) s.heap H locs) {t n : Nat} (hk : sK σ a = t) (ht : 100 ≤ t) (hr : rAr t = (1, n)) {i : Int32} {x : Int64} (hin : vp_in i n) (hdg : decode cc pc = .ok (.lastore, 1))
    (kk : ∀ σ' : St, σ' = uJ σ t a i.toNatClampNeg x → ∀ (H1 : Heap) (locs1 : List Loc), Rep Γ σ' H1 → va_S (rA Γ) s.heap H1 locs1 → W p l e R s m args below meth c H1 locs1 cells slots Q (F0 m (pc + 1) ls rest)) : W p l e R s m args below meth c H locs cells slots Q (F0 m pc ls (.long x :: .int i :: .ref a :: rest)) := by
  obtain ⟨X, hW, hG⟩ := hR
  refine g_last F.1.1 F.1.2.1 F.2.1 hG hS (n := n) (f := fun i => sJ σ t a i) (by rw [rGs_ob hk (by omega) (by omega), rEnt, if_neg (by omega), hr]; rfl) hin hdg fun H1 locs1 h h' => kk _ rfl H1 locs1 (rArr_up hk ht hW (fun _ => rfl) (fun _ => rfl) (fun _ hb t' => rEnt_uJ hb t') ?_ h) h'
  rw [hr]
  simp only [rAe]
  congr 3
  exact congrArg Sum.inr (congrArg Sum.inl (funext fun j => by simp [sJ, uJ, vp_updL]))
theorem s_aast (F : Fx Γ p s m meth c args cc nL own ws rt) (hR : Rep Γ σ H) (hS : va_S (rA Γ) s.heap H locs) {t n : Nat} (hk : sK σ a = t) (ht : 100 ≤ t) (hr : rAr t = (3, n)) {i : Int32} {x : Nat} (hin : vp_in i n) (hx : sK σ x = 3) (hdg : decode cc pc = .ok (.aastore, 1))
    (kk : ∀ σ' : St, σ' = uR σ t a i.toNatClampNeg (some x) → ∀ (H1 : Heap) (locs1 : List Loc), Rep Γ σ' H1 → va_S (rA Γ) s.heap H1 locs1 → W p l e R s m args below meth c H1 locs1 cells slots Q (F0 m (pc + 1) ls rest)) : W p l e R s m args below meth c H locs cells slots Q (F0 m pc ls (.ref x :: .int i :: .ref a :: rest)) := by
  obtain ⟨X, hW, hG⟩ := hR
  refine g_aastS F.1.1 F.1.2.1 F.2.1 hG hS 3 3 (r := (RX2, TX2, 9)) (n := n) (f := fun i => sR σ t a i) (by rw [rGs_ob hk (by omega) (by omega), rEnt, if_neg (by omega), hr]; rfl) rfl (v := x) (vs := (rFl 3).map (rFv σ x)) (by rw [rGs_ob hx (by omega) (by omega), rEnt, if_pos (by omega)]; rfl) rfl hin hdg fun H1 locs1 h h' => kk _ rfl H1 locs1 (rArr_up hk ht hW (fun _ => rfl) (fun _ => rfl) (fun _ hb t' => rEnt_uR hb t') ?_ h) h'
  rw [hr]
  simp only [rAe]
  congr 7
  funext j
  simp [sR, uR, va_up]
theorem s_new (F : Fx Γ p s m meth c args cc nL own ws rt) (hR : Rep Γ σ H) (hS : va_S (rA Γ) s.heap H locs) (t : Nat) (ht : 0 < t ∧ t < 20) {C : String} {T : u_T} {N index : Nat} (hc : vwCl[rCi t]? = some (C, T, N)) (hin : ∀ w ∈ u_ws C T N, w ∈ ws) (ty0 : Nat → FieldType) (hty : ∀ k, k < N → parseFieldDescriptor (T k).2.2.1 = some (ty0 k)) (hdf : ∀ j, j < N → defaultValue (ty0 j) = vp_V ((rFl t).map rDf) j) (hcl : Cond.classLink own index C ∈ ws) (hinst : Cond.instantiable C N ∈ ws) (hini : Cond.initialized C ∈ ws) (hcells : cells + 1 ≤ R.cells) (hslots : slots + N ≤ R.slots) (hdg : decode cc pc = .ok (.new index, 3))
    (kk : ∀ q : Nat, sK σ q = 0 → ∀ σ' : St, σ' = uN σ q t → ∀ H1 : Heap, Rep Γ σ' H1 → va_S (rA Γ) s.heap H1 locs → W p l e R s m args below meth c H1 locs (cells + 1) (slots + N) Q (F0 m (pc + 3) ls (.ref q :: rest))) : W p l e R s m args below meth c H locs cells slots Q (F0 m pc ls rest) := by
  obtain ⟨X, hW, hG⟩ := hR
  refine g_new F.1.1 F.1.2.1 F.1.2.2.2.2 hin ty0 hty F.1.2.2.2.1 (F.1.2.2.2.2 _ hcl) (F.1.2.2.2.2 _ hinst) (F.1.2.2.2.2 _ hini) F.2.1 hG hS (ci := rCi t) hc hdf hcells hslots hdg fun q H1 hq hb h h' => ?_
  obtain ⟨w1, w2, w3⟩ := rGs_new hW hq (t := t) (by omega) (by omega)
  refine kk q w1 _ rfl H1 ⟨X, w2, ?_⟩ h'
  rw [w3, rEnt_newO (by omega)]
  exact h
end RS
theorem rdf_1 : ∀ j, j < 4 → defaultValue (tyX0 j) = vp_V ((rFl 1).map rDf) j := fun j hj => by rcases (show j = 0 ∨ j = 1 ∨ j = 2 ∨ j = 3 by omega) with rfl | rfl | rfl | rfl <;> rfl
theorem rdf_2 : ∀ j, j < 6 → defaultValue (tyX1 j) = vp_V ((rFl 2).map rDf) j := fun j hj => by rcases (show j = 0 ∨ j = 1 ∨ j = 2 ∨ j = 3 ∨ j = 4 ∨ j = 5 by omega) with rfl | rfl | rfl | rfl | rfl | rfl <;> rfl
theorem rdf_3 : ∀ j, j < 9 → defaultValue (tyX2 j) = vp_V ((rFl 3).map rDf) j := fun j hj => by rcases (show j = 0 ∨ j = 1 ∨ j = 2 ∨ j = 3 ∨ j = 4 ∨ j = 5 ∨ j = 6 ∨ j = 7 ∨ j = 8 by omega) with rfl | rfl | rfl | rfl | rfl | rfl | rfl | rfl | rfl <;> rfl
theorem rdf_4 : ∀ j, j < 9 → defaultValue (tyX3 j) = vp_V ((rFl 4).map rDf) j := fun j hj => by rcases (show j = 0 ∨ j = 1 ∨ j = 2 ∨ j = 3 ∨ j = 4 ∨ j = 5 ∨ j = 6 ∨ j = 7 ∨ j = 8 by omega) with rfl | rfl | rfl | rfl | rfl | rfl | rfl | rfl | rfl <;> rfl
theorem rdf_5 : ∀ j, j < 8 → defaultValue (tyX4 j) = vp_V ((rFl 5).map rDf) j := fun j hj => by rcases (show j = 0 ∨ j = 1 ∨ j = 2 ∨ j = 3 ∨ j = 4 ∨ j = 5 ∨ j = 6 ∨ j = 7 by omega) with rfl | rfl | rfl | rfl | rfl | rfl | rfl | rfl <;> rfl
theorem rdf_6 : ∀ j, j < 4 → defaultValue (tyX5 j) = vp_V ((rFl 6).map rDf) j := fun j hj => by rcases (show j = 0 ∨ j = 1 ∨ j = 2 ∨ j = 3 by omega) with rfl | rfl | rfl | rfl <;> rfl
theorem rdf_7 : ∀ j, j < 4 → defaultValue (tyX6 j) = vp_V ((rFl 7).map rDf) j := fun j hj => by rcases (show j = 0 ∨ j = 1 ∨ j = 2 ∨ j = 3 by omega) with rfl | rfl | rfl | rfl <;> rfl
theorem rdf_8 : ∀ j, j < 7 → defaultValue (tyX7 j) = vp_V ((rFl 8).map rDf) j := fun j hj => by rcases (show j = 0 ∨ j = 1 ∨ j = 2 ∨ j = 3 ∨ j = 4 ∨ j = 5 ∨ j = 6 by omega) with rfl | rfl | rfl | rfl | rfl | rfl | rfl <;> rfl
theorem rdf_9 : ∀ j, j < 46 → defaultValue (tyX8 j) = vp_V ((rFl 9).map rDf) j := fun j hj => by rcases (show j = 0 ∨ j = 1 ∨ j = 2 ∨ j = 3 ∨ j = 4 ∨ j = 5 ∨ j = 6 ∨ j = 7 ∨ j = 8 ∨ j = 9 ∨ j = 10 ∨ j = 11 ∨ j = 12 ∨ j = 13 ∨ j = 14 ∨ j = 15 ∨ j = 16 ∨ j = 17 ∨ j = 18 ∨ j = 19 ∨ j = 20 ∨ j = 21 ∨ j = 22 ∨ j = 23 ∨ j = 24 ∨ j = 25 ∨ j = 26 ∨ j = 27 ∨ j = 28 ∨ j = 29 ∨ j = 30 ∨ j = 31 ∨ j = 32 ∨ j = 33 ∨ j = 34 ∨ j = 35 ∨ j = 36 ∨ j = 37 ∨ j = 38 ∨ j = 39 ∨ j = 40 ∨ j = 41 ∨ j = 42 ∨ j = 43 ∨ j = 44 ∨ j = 45 by omega) with rfl | rfl | rfl | rfl | rfl | rfl | rfl | rfl | rfl | rfl | rfl | rfl | rfl | rfl | rfl | rfl | rfl | rfl | rfl | rfl | rfl | rfl | rfl | rfl | rfl | rfl | rfl | rfl | rfl | rfl | rfl | rfl | rfl | rfl | rfl | rfl | rfl | rfl | rfl | rfl | rfl | rfl | rfl | rfl | rfl | rfl <;> rfl
theorem rdf_19 : ∀ j, j < 3 → defaultValue (tyJx4a65c j) = vp_V ((rFl 19).map rDf) j := fun j hj => by rcases (show j = 0 ∨ j = 1 ∨ j = 2 by omega) with rfl | rfl | rfl <;> rfl
end
section
theorem va_cat (r : Option Nat) : (va_rf r).category = 1 := by cases r <;> rfl
theorem ls_keep {ls : Array Slot} {nL i : Nat} {v : Value} {lv lv' lk : List (Nat × Value)} (hk : lv.filter (fun q => q.1 + 1 == i) = lk) (hw : ∀ q ∈ lk, q.2.category = 1) (hl : (i, v) :: lv.filter (fun q => !(q.1 == i)) = lv') (h : lv_has ls nL ((i, v) :: lv.filter (fun q => !(q.1 == i) && !(q.1 + 1 == i && q.2.category == 2)))) : lv_has ls nL lv' := by
  subst hl
  refine ⟨h.1, h.2.1, fun q hq => h.2.2 q ?_⟩
  rcases List.mem_cons.mp hq with rfl | hq
  · exact List.mem_cons_self
  · obtain ⟨hq1, hq2⟩ := List.mem_filter.mp hq
    refine List.mem_cons_of_mem _ (List.mem_filter.mpr ⟨hq1, ?_⟩)
    by_cases hi : q.1 + 1 = i
    · have h1 : q ∈ lk := by rw [← hk]; exact List.mem_filter.mpr ⟨hq1, by simp [hi]⟩
      simp only [hq2, hw q h1, Bool.true_and]
      simp
    · simp only [hq2, Bool.true_and]
      simp [hi]
theorem ls_keep2 {ls : Array Slot} {nL i : Nat} {v : Value} {lv lv' lk : List (Nat × Value)} (hk : lv.filter (fun q => q.1 + 1 == i) = lk) (hw : ∀ q ∈ lk, q.2.category = 1) (hl : (i, v) :: lv.filter (fun q => !(q.1 == i) && !(q.1 == i + 1)) = lv') (h : lv_has ls nL ((i, v) :: lv.filter (fun q => !(q.1 == i) && (!(q.1 == i + 1) && !(q.1 + 1 == i && q.2.category == 2))))) : lv_has ls nL lv' := by
  subst hl
  refine ⟨h.1, h.2.1, fun q hq => h.2.2 q ?_⟩
  rcases List.mem_cons.mp hq with rfl | hq
  · exact List.mem_cons_self
  · obtain ⟨hq1, hq2⟩ := List.mem_filter.mp hq
    refine List.mem_cons_of_mem _ (List.mem_filter.mpr ⟨hq1, ?_⟩)
    rw [← Bool.and_assoc, hq2, Bool.true_and]
    by_cases hi : q.1 + 1 = i
    · have h1 : q ∈ lk := by rw [← hk]; exact List.mem_filter.mpr ⟨hq1, by simp [hi]⟩
      simp [hw q h1]
    · simp [hi]
theorem lk_0 : ∀ q ∈ ([] : List (Nat × Value)), q.2.category = 1 := fun _ h => absurd h List.not_mem_nil
theorem lk_r {i : Nat} {r : Option Nat} : ∀ q ∈ [(i, va_rf r)], q.2.category = 1 := fun q h => by rw [List.mem_singleton.mp h]; exact va_cat r
theorem lk_1 {i : Nat} {v : Value} (h0 : v.category = 1) : ∀ q ∈ [(i, v)], q.2.category = 1 := fun q h => by rw [List.mem_singleton.mp h]; exact h0
section RT
variable {p : Program} {l : Launch} {e : Env} {R : Room} {s : State} {m : MethodId} {args : Array Value} {below : List Frame} {meth : Method} {c : Code} {H : Heap} {locs : List Loc} {cells slots : Nat} {Q : State → Prop}
variable {cc : ByteArray} {nL : Nat} {own : String} {ws : List Cond} {rt : Option FieldType} {pc : Nat} {ls : Array Slot} {rest : List Value} {Γ : rGam} {σ : St} {a : Nat}
theorem s_aload_n (hexec : p.tables.exec = Jvm.exec) (hb : c.code = cc) {k : Fin 4} {i : Nat} {r : Option Nat} (hdg : decode cc pc = .ok (.aload_n k, 1)) (hi : (k : Nat) = i) (hl : ls[i]? = some (.val (va_rf r)))
    (kk : W p l e R s m args below meth c H locs cells slots Q (F0 m (pc + 1) ls (va_rf r :: rest))) : W p l e R s m args below meth c H locs cells slots Q (F0 m pc ls rest) := by
  cases r with
  | none => exact lv_aload_nN hexec hb hdg hi hl kk
  | some x => exact lv_aload_n hexec hb hdg hi hl kk
theorem s_aload (hexec : p.tables.exec = Jvm.exec) (hb : c.code = cc) {i : Nat} {r : Option Nat} (hdg : decode cc pc = .ok (.aload i, 2)) (hl : ls[i]? = some (.val (va_rf r)))
    (kk : W p l e R s m args below meth c H locs cells slots Q (F0 m (pc + 2) ls (va_rf r :: rest))) : W p l e R s m args below meth c H locs cells slots Q (F0 m pc ls rest) := by
  cases r with
  | none => exact lv_aloadN hexec hb hdg hl kk
  | some x => exact lv_aload hexec hb hdg hl kk
theorem s_istore_n (hexec : p.tables.exec = Jvm.exec) (hb : c.code = cc) {k : Fin 4} {i : Nat} {x : Int32} {lv lv' lk : List (Nat × Value)} (hdg : decode cc pc = .ok (.istore_n k, 1)) (hi : (k : Nat) = i) (h : lv_has ls nL lv) (hn : i < nL) (hk : lv.filter (fun q => q.1 + 1 == i) = lk) (hw : ∀ q ∈ lk, q.2.category = 1) (hl : (i, Value.int x) :: lv.filter (fun q => !(q.1 == i)) = lv')
    (kk : ∀ ls' : Array Slot, lv_has ls' nL lv' → W p l e R s m args below meth c H locs cells slots Q (F0 m (pc + 1) ls' rest)) : W p l e R s m args below meth c H locs cells slots Q (F0 m pc ls (.int x :: rest)) :=
  lv_istore_n hexec hb hdg hi h hn rfl fun ls' h' => kk ls' (ls_keep hk hw hl h')
theorem s_istore (hexec : p.tables.exec = Jvm.exec) (hb : c.code = cc) {i : Nat} {x : Int32} {lv lv' lk : List (Nat × Value)} (hdg : decode cc pc = .ok (.istore i, 2)) (h : lv_has ls nL lv) (hn : i < nL) (hk : lv.filter (fun q => q.1 + 1 == i) = lk) (hw : ∀ q ∈ lk, q.2.category = 1) (hl : (i, Value.int x) :: lv.filter (fun q => !(q.1 == i)) = lv')
    (kk : ∀ ls' : Array Slot, lv_has ls' nL lv' → W p l e R s m args below meth c H locs cells slots Q (F0 m (pc + 2) ls' rest)) : W p l e R s m args below meth c H locs cells slots Q (F0 m pc ls (.int x :: rest)) :=
  lv_istore hexec hb hdg h hn rfl fun ls' h' => kk ls' (ls_keep hk hw hl h')
theorem s_astore_n (hexec : p.tables.exec = Jvm.exec) (hb : c.code = cc) {k : Fin 4} {i : Nat} {r : Option Nat} {lv lv' lk : List (Nat × Value)} (hdg : decode cc pc = .ok (.astore_n k, 1)) (hi : (k : Nat) = i) (h : lv_has ls nL lv) (hn : i < nL) (hk : lv.filter (fun q => q.1 + 1 == i) = lk) (hw : ∀ q ∈ lk, q.2.category = 1) (hl : (i, va_rf r) :: lv.filter (fun q => !(q.1 == i)) = lv')
    (kk : ∀ ls' : Array Slot, lv_has ls' nL lv' → W p l e R s m args below meth c H locs cells slots Q (F0 m (pc + 1) ls' rest)) : W p l e R s m args below meth c H locs cells slots Q (F0 m pc ls (va_rf r :: rest)) := by
  cases r with
  | none => exact lv_astore_nN hexec hb hdg hi h hn rfl fun ls' h' => kk ls' (ls_keep hk hw hl h')
  | some x => exact lv_astore_n hexec hb hdg hi h hn rfl fun ls' h' => kk ls' (ls_keep hk hw hl h')
theorem s_astore (hexec : p.tables.exec = Jvm.exec) (hb : c.code = cc) {i : Nat} {r : Option Nat} {lv lv' lk : List (Nat × Value)} (hdg : decode cc pc = .ok (.astore i, 2)) (h : lv_has ls nL lv) (hn : i < nL) (hk : lv.filter (fun q => q.1 + 1 == i) = lk) (hw : ∀ q ∈ lk, q.2.category = 1) (hl : (i, va_rf r) :: lv.filter (fun q => !(q.1 == i)) = lv')
    (kk : ∀ ls' : Array Slot, lv_has ls' nL lv' → W p l e R s m args below meth c H locs cells slots Q (F0 m (pc + 2) ls' rest)) : W p l e R s m args below meth c H locs cells slots Q (F0 m pc ls (va_rf r :: rest)) := by
  cases r with
  | none => exact lv_astoreN hexec hb hdg h hn rfl fun ls' h' => kk ls' (ls_keep hk hw hl h')
  | some x => exact lv_astore hexec hb hdg h hn rfl fun ls' h' => kk ls' (ls_keep hk hw hl h')
theorem s_lstore_n (hexec : p.tables.exec = Jvm.exec) (hb : c.code = cc) {k : Fin 4} {i : Nat} {x : Int64} {lv lv' lk : List (Nat × Value)} (hdg : decode cc pc = .ok (.lstore_n k, 1)) (hi : (k : Nat) = i) (h : lv_has ls nL lv) (hn : i + 1 < nL) (hk : lv.filter (fun q => q.1 + 1 == i) = lk) (hw : ∀ q ∈ lk, q.2.category = 1) (hl : (i, Value.long x) :: lv.filter (fun q => !(q.1 == i) && !(q.1 == i + 1)) = lv')
    (kk : ∀ ls' : Array Slot, lv_has ls' nL lv' → W p l e R s m args below meth c H locs cells slots Q (F0 m (pc + 1) ls' rest)) : W p l e R s m args below meth c H locs cells slots Q (F0 m pc ls (.long x :: rest)) :=
  lv_lstore_n hexec hb hdg hi h hn rfl fun ls' h' => kk ls' (ls_keep2 hk hw hl h')
theorem s_lstore (hexec : p.tables.exec = Jvm.exec) (hb : c.code = cc) {i : Nat} {x : Int64} {lv lv' lk : List (Nat × Value)} (hdg : decode cc pc = .ok (.lstore i, 2)) (h : lv_has ls nL lv) (hn : i + 1 < nL) (hk : lv.filter (fun q => q.1 + 1 == i) = lk) (hw : ∀ q ∈ lk, q.2.category = 1) (hl : (i, Value.long x) :: lv.filter (fun q => !(q.1 == i) && !(q.1 == i + 1)) = lv')
    (kk : ∀ ls' : Array Slot, lv_has ls' nL lv' → W p l e R s m args below meth c H locs cells slots Q (F0 m (pc + 2) ls' rest)) : W p l e R s m args below meth c H locs cells slots Q (F0 m pc ls (.long x :: rest)) :=
  lv_lstore hexec hb hdg h hn rfl fun ls' h' => kk ls' (ls_keep2 hk hw hl h')
theorem s_iinc (hexec : p.tables.exec = Jvm.exec) (hb : c.code = cc) {i k : Nat} {n : Int} {x d : Int32} {lv lv' lk : List (Nat × Value)} (hdg : decode cc pc = .ok (.iinc i n, 3)) (h : lv_has ls nL lv) (hkk : lv[k]? = some (i, .int x)) (hd : Int32.ofInt n = d) (hn : i < nL) (hk : lv.filter (fun q => q.1 + 1 == i) = lk) (hw : ∀ q ∈ lk, q.2.category = 1) {v : Int32} (ev : v = x + d) (hl : (i, Value.int v) :: lv.filter (fun q => !(q.1 == i)) = lv')
    (kk : ∀ ls' : Array Slot, lv_has ls' nL lv' → W p l e R s m args below meth c H locs cells slots Q (F0 m (pc + 3) ls' rest)) : W p l e R s m args below meth c H locs cells slots Q (F0 m pc ls rest) :=
  lv_iinc (v := v) hexec hb hdg h hkk (by rw [hd, ev]) hn rfl fun ls' h' => kk ls' (ls_keep hk hw hl h')
theorem s_ifnull (hexec : p.tables.exec = Jvm.exec) (hb : c.code = cc) {r : Option Nat} {off : Int} {tgt : Nat} (hdg : decode cc pc = .ok (.ifnull off, 3)) (ht : (pc : Int) + off = (tgt : Int))
    (kt : r = none → W p l e R s m args below meth c H locs cells slots Q (F0 m tgt ls rest)) (kf : ¬ r = none → W p l e R s m args below meth c H locs cells slots Q (F0 m (pc + 3) ls rest)) : W p l e R s m args below meth c H locs cells slots Q (F0 m pc ls (va_rf r :: rest)) := by
  cases r with
  | none => exact lv_ifnullN hexec hb hdg ht (kt rfl)
  | some x => exact lv_ifnull hexec hb hdg (kf (by simp))
theorem s_ifnonnull (hexec : p.tables.exec = Jvm.exec) (hb : c.code = cc) {r : Option Nat} {off : Int} {tgt : Nat} (hdg : decode cc pc = .ok (.ifnonnull off, 3)) (ht : (pc : Int) + off = (tgt : Int))
    (kt : ¬ r = none → W p l e R s m args below meth c H locs cells slots Q (F0 m tgt ls rest)) (kf : r = none → W p l e R s m args below meth c H locs cells slots Q (F0 m (pc + 3) ls rest)) : W p l e R s m args below meth c H locs cells slots Q (F0 m pc ls (va_rf r :: rest)) := by
  cases r with
  | none => exact lv_ifnonnullN hexec hb hdg (kf rfl)
  | some x => exact lv_ifnonnull hexec hb hdg ht (kt (by simp))
theorem s_getW (F : Fx Γ p s m meth c args cc nL own ws rt) (hS : va_S (rA Γ) s.heap H locs) {index : Nat} (hlink : Cond.fieldLink own index "ClearingFiles" "WEIGHTS" "[I" ∈ ws) (hdg : decode cc pc = .ok (.getstatic index, 3))
    (kk : W p l e R s m args below meth c H locs cells slots Q (F0 m (pc + 3) ls (.ref (Γ.2.2.2 1) :: rest))) : W p l e R s m args below meth c H locs cells slots Q (F0 m pc ls rest) :=
  va_gets F.1.1 F.1.2.1 F.2.1.2.2.2.2.1 hS F.1.2.2.2.1 (F.1.2.2.2.2 _ hlink) (fun _ h => h) hdg kk
def rWi (j : Nat) : Int32 := match j with
  | 0 => 3
  | 1 => 7
  | _ => 1
theorem rWt_i : ∀ j : Nat, rWt j = .int (rWi j)
  | 0 => rfl
  | 1 => rfl
  | _ + 2 => rfl
theorem s_iaW (F : Fx Γ p s m meth c args cc nL own ws rt) (hS : va_S (rA Γ) s.heap H locs) {i : Int32} (hin : vp_in i 3) (hdg : decode cc pc = .ok (.iaload, 1))
    (kk : W p l e R s m args below meth c H locs cells slots Q (F0 m (pc + 1) ls (.int (rWi i.toNatClampNeg) :: rest))) : W p l e R s m args below meth c H locs cells slots Q (F0 m pc ls (.int i :: .ref (Γ.2.2.2 1) :: rest)) :=
  va_ti F.1.1 F.1.2.1 F.2.1.2.2.2.2.2.1 hS hin (v := .int (rWi i.toNatClampNeg)) (rWt_i _) hdg kk
theorem s_iret (F : Fx Γ p s m meth c args cc nL own ws (some .int)) (hR : Rep Γ σ H) (hS : va_S (rA Γ) s.heap H locs) {v : Int32} {post : Int32 → St → Prop} (h : post v σ) {mc ms : Nat} (hc : cells ≤ mc ∧ slots ≤ ms) (hdg : decode cc pc = .ok (.ireturn, 1)) : W p l e R s m args below meth c H locs cells slots (rQi Γ below post args s mc ms) (F0 m pc ls [.int v]) := by
  refine W.widen hc.1 hc.2 ?_
  exact W.iret (v := v) F.1.1 F.1.2.1 F.2.2.2 (fun t ht hW => ⟨⟨v, σ, rfl, h, by subst ht; exact hR⟩, hS.F ht⟩) hS.2.2 hdg F.2.2.1
theorem s_zret (F : Fx Γ p s m meth c args cc nL own ws (some .boolean)) (hR : Rep Γ σ H) (hS : va_S (rA Γ) s.heap H locs) {v : Int32} {post : Int32 → St → Prop} (hv : isB v) (h : post v σ) {mc ms : Nat} (hc : cells ≤ mc ∧ slots ≤ ms) (hdg : decode cc pc = .ok (.ireturn, 1)) : W p l e R s m args below meth c H locs cells slots (rQi Γ below post args s mc ms) (F0 m pc ls [.int v]) := by
  refine W.widen hc.1 hc.2 ?_
  exact W.zret (v := v) F.1.1 F.1.2.1 F.2.2.2 hv.nar (fun t ht hW => ⟨⟨v, σ, rfl, h, by subst ht; exact hR⟩, hS.F ht⟩) hS.2.2 hdg F.2.2.1
theorem s_lret (F : Fx Γ p s m meth c args cc nL own ws (some .long)) (hR : Rep Γ σ H) (hS : va_S (rA Γ) s.heap H locs) {v : Int64} {post : Int64 → St → Prop} (h : post v σ) {mc ms : Nat} (hc : cells ≤ mc ∧ slots ≤ ms) (hdg : decode cc pc = .ok (.lreturn, 1)) : W p l e R s m args below meth c H locs cells slots (rQl Γ below post args s mc ms) (F0 m pc ls [.long v]) := by
  refine W.widen hc.1 hc.2 ?_
  exact W.lret (v := v) F.1.1 F.1.2.1 F.2.2.2 (fun t ht hW => ⟨⟨v, σ, rfl, h, by subst ht; exact hR⟩, hS.F ht⟩) hS.2.2 hdg F.2.2.1
theorem s_vret (F : Fx Γ p s m meth c args cc nL own ws none) (hR : Rep Γ σ H) (hS : va_S (rA Γ) s.heap H locs) {post : St → Prop} (h : post σ) {mc ms : Nat} (hc : cells ≤ mc ∧ slots ≤ ms) (hdg : decode cc pc = .ok (.return_, 1)) : W p l e R s m args below meth c H locs cells slots (rQv Γ below post args s mc ms) (F0 m pc ls []) := by
  refine W.widen hc.1 hc.2 ?_
  exact W.vret F.1.1 F.1.2.1 F.2.2.2 (fun t ht hW => ⟨⟨σ, rfl, h, by subst ht; exact hR⟩, hS.F ht⟩) hS.2.2 hdg F.2.2.1
theorem s_aret {C : String} (F : Fx Γ p s m meth c args cc nL own ws (some (.object C))) (hR : Rep Γ σ H) (hS : va_S (rA Γ) s.heap H locs) {r : Option Nat} {post : Option Nat → St → Prop} (h : post r σ) {mc ms : Nat} (hc : cells ≤ mc ∧ slots ≤ ms) (hdg : decode cc pc = .ok (.areturn, 1)) : W p l e R s m args below meth c H locs cells slots (rQq Γ below post args s mc ms) (F0 m pc ls [va_rf r]) := by
  refine W.widen hc.1 hc.2 ?_
  exact W.aret (v := va_rf r) F.1.1 F.1.2.1 F.2.2.2 (Or.inl ⟨C, rfl⟩) (va_rf_or r) (fun t ht hW => ⟨⟨r, σ, rfl, h, by subst ht; exact hR⟩, hS.F ht⟩) hS.2.2 hdg F.2.2.1
theorem k_ev (F : Fx Γ p s m meth c args cc nL own ws rt) (hS : va_S (rA Γ) s.heap H locs) {U : State} (hU : U.heap = H) (hW : s.WarmedH U.vm) : rEv Γ vwCl U :=
  rEv.moved hW (fun q h1 h2 => by rw [hU]; exact hS.2.1 q h1 h2) (by rw [hU]; exact hS.1) F.2.1
theorem g_recv {G : rG} (hE : rEv Γ vwCl s) (hP : rW Γ vwCl G H) {b ci : Nat} {q : vw_C} {fs : List Value} (hc : vwCl[ci]? = some q) (he : G b = some (.inr (ci, fs))) : ∃ cell : Cell, H[b]? = some cell ∧ cell.vm.isStatics = false ∧ s.vm.findClass q.1 = some cell.cls := by
  obtain ⟨w, hP, -, hG⟩ := hP
  obtain ⟨k, hk⟩ := hG b _ he
  exact va_recv hE.1 hP hc hk
theorem s_recv (F : Fx Γ p s m meth c args cc nL own ws rt) (hR : Rep Γ σ H) {b t : Nat} (hk : sK σ b = t) (ht : 0 < t ∧ t < 23) {C : String} {T : u_T} {N : Nat} (hc : vwCl[rCi t]? = some (C, T, N)) : ∃ cell : Cell, H[b]? = some cell ∧ cell.vm.isStatics = false ∧ s.vm.findClass C = some cell.cls := by
  obtain ⟨X, -, hG⟩ := hR
  by_cases h : 20 ≤ t ∧ t < 23
  · refine g_recv F.2.1 hG (q := (C, T, N)) hc (fs := [.int (X.1 b), .ref (X.2.1 b), .int (nI (sL σ b).length)]) ?_
    have e : rCi t = 0 := by unfold rCi; rw [if_neg (by omega)]
    rw [e]
    simp only [rGs, hk]
    rw [if_neg (by omega), if_pos h]
  · exact g_recv F.2.1 hG (q := (C, T, N)) hc (fs := (rFl t).map (rFv σ b)) (by rw [rGs_ob hk (by omega) h, rEnt, if_pos (by omega)])
theorem k_runV (F : Fx Γ p s m meth c args cc nL own ws rt) {P : Heap → Prop} (hR : P H) (hS : va_S (rA Γ) s.heap H locs) {lv : List (Nat × Value)} (hl : lv_has ls nL lv) {y : MethodName} {C : String} {index maxL mc ms b : Nat} {bytes : ByteArray} {ret : Option FieldType} {wy wy' : List Cond} {rm : Room} {Qc : Array Value → State → Outcome → State → Prop} (n : Nat) (As : List Value) (hM : Met l y wy rm (rPc Γ vwCl (.ref b :: As) P) Qc mc ms (rA Γ)) (hG : GoodIn ws (wsV own index C y wy)) (hw : wy = Cond.code y bytes maxL ret :: wy') (hrc : rm.cells = mc) (hrs : rm.slots = ms) (hd : y.cls = C ∧ y.cls ≠ "java/lang/invoke/MethodHandle" ∧ y.cls ≠ "java/lang/invoke/VarHandle" ∧ (parseMethodDescriptor y.desc).map (fun d => d.parameters.length) = some n) (hRm : rm.frames + 1 ≤ R.frames ∧ 8 + (maxL + 11) + rm.locals ≤ R.locals) (hrv : ∃ cell : Cell, H[b]? = some cell ∧ cell.vm.isStatics = false ∧ s.vm.findClass C = some cell.cls) (hn : As.length = n) (hst : (rest.map fun v => v.category).sum ≤ 8) (hdg : decode cc pc = .ok (.invokevirtual index, 3)) (hf : cells + mc ≤ R.cells ∧ slots + ms ≤ R.slots) :
    va_Run p l e R s m args below meth c H locs cells slots mc ms (F0 m pc ls (As.reverse ++ .ref b :: rest)) rest (Qc (Value.ref b :: As).toArray) (rA Γ) :=
  va_runV (As := As) (rest := rest) F.1 hM (cwV n F.1.2.2.2.2 hG hw hrc hrs hd hRm) ⟨rPc_blind, hrv, fun U hU hW => ⟨rfl, by rw [hU]; exact hR, k_ev F hS hU hW⟩⟩ rfl hn hl.1 rfl (lv_room hst) hdg hf
theorem k_runS (F : Fx Γ p s m meth c args cc nL own ws rt) {P : Heap → Prop} (hR : P H) (hS : va_S (rA Γ) s.heap H locs) {lv : List (Nat × Value)} (hl : lv_has ls nL lv) {y : MethodName} {index maxL mc ms : Nat} {bytes : ByteArray} {ret : Option FieldType} {wy wy' : List Cond} {rm : Room} {Qc : Array Value → State → Outcome → State → Prop} (n : Nat) (As : List Value) (hM : Met l y wy rm (rPc Γ vwCl As P) Qc mc ms (rA Γ)) (hG : GoodIn ws (va_wsS own index y wy)) (hw : wy = Cond.code y bytes maxL ret :: wy') (hrc : rm.cells = mc) (hrs : rm.slots = ms) (hd : y.cls ≠ "java/lang/invoke/MethodHandle" ∧ y.cls ≠ "java/lang/invoke/VarHandle" ∧ (parseMethodDescriptor y.desc).map (fun d => d.parameters.length) = some n) (hRm : rm.frames + 1 ≤ R.frames ∧ 8 + (maxL + 11) + rm.locals ≤ R.locals) (hn : As.length = n) (hst : (rest.map fun v => v.category).sum ≤ 8) (hdg : decode cc pc = .ok (.invokestatic index, 3)) (hf : cells + mc ≤ R.cells ∧ slots + ms ≤ R.slots) :
    va_Run p l e R s m args below meth c H locs cells slots mc ms (F0 m pc ls (As.reverse ++ rest)) rest (Qc As.toArray) (rA Γ) :=
  va_runS (As := As) (rest := rest) F.1 hM (va_cwS n F.1.2.2.2.2 hG hw hrc hrs hd hRm) ⟨rPc_blind, fun U hU hW => ⟨rfl, by rw [hU]; exact hR, k_ev F hS hU hW⟩⟩ rfl hn hl.1 rfl (lv_room hst) hdg hf
theorem k_runI (F : Fx Γ p s m meth c args cc nL own ws rt) {P : Heap → Prop} (hR : P H) (hS : va_S (rA Γ) s.heap H locs) {lv : List (Nat × Value)} (hl : lv_has ls nL lv) {y : MethodName} {index maxL mc ms b : Nat} {bytes : ByteArray} {wy wy' : List Cond} {rm : Room} {Qc : Array Value → State → Outcome → State → Prop} (n : Nat) (As : List Value) (hM : Met l y wy rm (rPc Γ vwCl (.ref b :: As) P) Qc mc ms (rA Γ)) (hG : GoodIn ws wy) (hw : wy = Cond.code y bytes maxL none :: wy') (hrc : rm.cells = mc) (hrs : rm.slots = ms) (hini : Cond.initialized y.cls ∈ ws) (hlk : Cond.methodLink own index y ∈ ws) (him : Cond.instanceMethod y ∈ ws) (hy1 : y.name = "<init>") (hd : y.cls ≠ "java/lang/invoke/MethodHandle" ∧ y.cls ≠ "java/lang/invoke/VarHandle" ∧ (parseMethodDescriptor y.desc).map (fun d => d.parameters.length) = some n) (hRm : rm.frames + 1 ≤ R.frames ∧ 8 + (maxL + 11) + rm.locals ≤ R.locals) (hn : As.length = n) (hst : (rest.map fun v => v.category).sum ≤ 8) (hdg : decode cc pc = .ok (.invokespecial index, 3)) (hf : cells + mc ≤ R.cells ∧ slots + ms ≤ R.slots) :
    va_Run p l e R s m args below meth c H locs cells slots mc ms (F0 m pc ls (As.reverse ++ .ref b :: rest)) rest (Qc (Value.ref b :: As).toArray) (rA Γ) :=
  va_runI (As := As) (rest := rest) F.1 hM (cwI n F.1.2.2.2.2 hG hw hrc hrs (F.1.2.2.2.2 _ hini) (F.1.2.2.2.2 _ hlk) (F.1.2.2.2.2 _ him) hy1 hd hRm) ⟨rPc_blind, fun U hU hW => ⟨rfl, by rw [hU]; exact hR, k_ev F hS hU hW⟩⟩ rfl hn hl.1 rfl (lv_room hst) hdg hf
variable {st0 : List Value} {aa : Array Value} {mc ms : Nat}
theorem s_ci {post : Int32 → St → Prop} (hS : va_S (rA Γ) s.heap H locs) (hr : va_Run p l e R s m args below meth c H locs cells slots mc ms (F0 m pc ls st0) rest (va_Qi post (fun σ' t => Rep Γ σ' t.heap) (rA Γ) aa) (rA Γ))
    (kk : ∀ (r : Int32) (σ' : St) (H1 : Heap) (locs1 : List Loc), post r σ' → Rep Γ σ' H1 → va_S (rA Γ) s.heap H1 locs1 → W p l e R s m args below meth c H1 locs1 (cells + mc) (slots + ms) Q (F0 m (pc + 3) ls (.int r :: rest))) : W p l e R s m args below meth c H locs cells slots Q (F0 m pc ls st0) :=
  va_calli hr hS (fun _ _ h => h) (fun _ h => h) fun r u t H1 locs1 ht _ hp hB _ _ hS1 => kk r u H1 locs1 hp (by rw [← ht]; exact hB) hS1
theorem s_cl {post : Int64 → St → Prop} (hS : va_S (rA Γ) s.heap H locs) (hr : va_Run p l e R s m args below meth c H locs cells slots mc ms (F0 m pc ls st0) rest (va_Ql post (fun σ' t => Rep Γ σ' t.heap) (rA Γ) aa) (rA Γ))
    (kk : ∀ (r : Int64) (σ' : St) (H1 : Heap) (locs1 : List Loc), post r σ' → Rep Γ σ' H1 → va_S (rA Γ) s.heap H1 locs1 → W p l e R s m args below meth c H1 locs1 (cells + mc) (slots + ms) Q (F0 m (pc + 3) ls (.long r :: rest))) : W p l e R s m args below meth c H locs cells slots Q (F0 m pc ls st0) :=
  va_calll hr hS (fun _ _ h => h) (fun _ h => h) fun r u t H1 locs1 ht _ hp hB _ _ hS1 => kk r u H1 locs1 hp (by rw [← ht]; exact hB) hS1
theorem s_cv {post : St → Prop} (hS : va_S (rA Γ) s.heap H locs) (hr : va_Run p l e R s m args below meth c H locs cells slots mc ms (F0 m pc ls st0) rest (va_Qv post (fun σ' t => Rep Γ σ' t.heap) (rA Γ) aa) (rA Γ))
    (kk : ∀ (σ' : St) (H1 : Heap) (locs1 : List Loc), post σ' → Rep Γ σ' H1 → va_S (rA Γ) s.heap H1 locs1 → W p l e R s m args below meth c H1 locs1 (cells + mc) (slots + ms) Q (F0 m (pc + 3) ls rest)) : W p l e R s m args below meth c H locs cells slots Q (F0 m pc ls st0) :=
  va_callv hr hS (fun _ _ h => h) (fun _ h => h) fun u t H1 locs1 ht _ hp hB _ _ hS1 => kk u H1 locs1 hp (by rw [← ht]; exact hB) hS1
theorem s_cq {post : Option Nat → St → Prop} (hS : va_S (rA Γ) s.heap H locs) (hr : va_Run p l e R s m args below meth c H locs cells slots mc ms (F0 m pc ls st0) rest (va_Qq post (fun σ' t => Rep Γ σ' t.heap) (rA Γ) aa) (rA Γ))
    (kk : ∀ (r : Option Nat) (σ' : St) (H1 : Heap) (locs1 : List Loc), post r σ' → Rep Γ σ' H1 → va_S (rA Γ) s.heap H1 locs1 → W p l e R s m args below meth c H1 locs1 (cells + mc) (slots + ms) Q (F0 m (pc + 3) ls (va_rf r :: rest))) : W p l e R s m args below meth c H locs cells slots Q (F0 m pc ls st0) :=
  va_callq hr hS (fun _ _ h => h) (fun _ h => h) fun r u t H1 locs1 ht _ hp hB _ _ hS1 => kk r u H1 locs1 hp (by rw [← ht]; exact hB) hS1
end RT
end
section
theorem va_RA_uniq {U : State} {c1 c2 : ClassId} {ty : FieldType} (h1 : va_RA U c1 ty) (h2 : va_RA U c2 ty) : c1 = c2 := by
  cases ty with
  | object C =>
    obtain ⟨_, _, _, _, _, h⟩ := h1
    obtain ⟨_, _, _, _, _, h'⟩ := h2
    exact Option.some.inj (h.symm.trans h')
  | _ =>
    have h1' : U.vm.findClass _ = some c1 := h1
    have h2' : U.vm.findClass _ = some c2 := h2
    exact Option.some.inj (h1'.symm.trans h2')
theorem rf_nar (C : String) (r : Option Nat) : narrow (.object C) (va_rf r) = va_rf r := by cases r <;> rfl
theorem rf_narA (t : FieldType) (r : Option Nat) : narrow (.array t) (va_rf r) = va_rf r := by cases r <;> rfl
theorem rf_fit (C : String) (r : Option Nat) : fits (.object C) (va_rf r) = true := by cases r <;> rfl
theorem rf_fitA (t : FieldType) (r : Option Nat) : fits (.array t) (va_rf r) = true := by cases r <;> rfl
section RU
variable {p : Program} {l : Launch} {e : Env} {R : Room} {s : State} {m : MethodId} {args : Array Value} {below : List Frame} {meth : Method} {c : Code} {H : Heap} {locs : List Loc} {cells slots : Nat} {Q : State → Prop}
variable {cc : ByteArray} {nL : Nat} {own : String} {ws : List Cond} {rt : Option FieldType} {pc : Nat} {ls : Array Slot} {rest : List Value} {Γ : rGam} {σ : St} {a : Nat}
theorem s_newG (F : Fx Γ p s m meth c args cc nL own ws rt) (hR : Rep Γ σ H) (hS : va_S (rA Γ) s.heap H locs) {t n : Nat} (ht : 100 ≤ t) {atype : ArrayType} (harr : Cond.arrayClass (newarray.typeOf atype) ∈ ws) {ty : FieldType} (hty : newarray.typeOf atype = ty) (t0 : Nat) {cA0 : ClassId} (htt : (rTy Γ)[t0]? = some (cA0, ty)) {a0 : vp_A} (ha : ∀ cA : ClassId, vp_cell cA a0 = arrV cA n (fun _ => defaultValue ty)) (he : ∀ q, rAe Γ (uN σ q t) t q (rAr t) = .inl (cA0, a0)) {i : Int32} (hi : i = nI n) (hn : n < 100000) (hb8 : n * componentBytes ty ≤ 536870912) (hcells : cells + 1 ≤ R.cells) (hslots : slots + n ≤ R.slots) (hdg : decode cc pc = .ok (.newarray atype, 2))
    (kk : ∀ q : Nat, sK σ q = 0 → ∀ σ' : St, σ' = uN σ q t → ∀ H1 : Heap, Rep Γ σ' H1 → va_S (rA Γ) s.heap H1 locs → W p l e R s m args below meth c H1 locs (cells + 1) (slots + n) Q (F0 m (pc + 2) ls (.ref q :: rest))) : W p l e R s m args below meth c H locs cells slots Q (F0 m pc ls (.int i :: rest)) := by
  obtain ⟨X, hW, hG⟩ := hR
  obtain ⟨w, hP, hD, hGw⟩ := hG
  subst hi
  refine va_newa F.1.1 F.1.2.1 (F.1.2.2.2.2 _ harr) hty F.2.1.1 hP hD hS (fun q hq => Nat.le_trans F.2.1.2.1 hq) ha (nI_pos (by omega)) (nI_clamp (by omega)) hb8 hcells hslots hdg fun q cA H1 hK1 hP1 hD1 hS1 => ?_
  have e1 : cA = cA0 := va_RA_uniq (hK1.2 5 (cA, ty) rfl).2 (F.2.1.1.2 t0 _ htt).2
  subst e1
  obtain ⟨h1, h2⟩ := rW.push hGw hP1 hD1
  obtain ⟨w1, w2, w3⟩ := rGs_new hW h2 (t := t) (by omega) (by omega)
  refine kk q w1 _ rfl H1 ⟨X, w2, ?_⟩ hS1
  rw [w3, rEnt, if_neg (by omega), he q]
  exact h1
theorem s_newI (F : Fx Γ p s m meth c args cc nL own ws rt) (hR : Rep Γ σ H) (hS : va_S (rA Γ) s.heap H locs) (t : Nat) {n : Nat} (ht : 100 ≤ t) (hr : rAr t = (0, n)) (harr : Cond.arrayClass .int ∈ ws) {i : Int32} (hi : i = nI n) (hn : n < 100000) (hcells : cells + 1 ≤ R.cells) (hslots : slots + n ≤ R.slots) (hdg : decode cc pc = .ok (.newarray .int, 2))
    (kk : ∀ q : Nat, sK σ q = 0 → ∀ σ' : St, σ' = uN σ q t → ∀ H1 : Heap, Rep Γ σ' H1 → va_S (rA Γ) s.heap H1 locs → W p l e R s m args below meth c H1 locs (cells + 1) (slots + n) Q (F0 m (pc + 2) ls (.ref q :: rest))) : W p l e R s m args below meth c H locs cells slots Q (F0 m pc ls (.int i :: rest)) :=
  s_newG F hR hS ht (atype := .int) harr rfl 0 rfl (a0 := (n, .inl (fun _ => 0))) (fun _ => rfl) (fun q => by rw [hr]; simp only [rAe]; simp [sI, uN]) hi hn (by show n * 4 ≤ _; omega) hcells hslots hdg kk
theorem s_newJ (F : Fx Γ p s m meth c args cc nL own ws rt) (hR : Rep Γ σ H) (hS : va_S (rA Γ) s.heap H locs) (t : Nat) {n : Nat} (ht : 100 ≤ t) (hr : rAr t = (1, n)) (harr : Cond.arrayClass .long ∈ ws) {i : Int32} (hi : i = nI n) (hn : n < 100000) (hcells : cells + 1 ≤ R.cells) (hslots : slots + n ≤ R.slots) (hdg : decode cc pc = .ok (.newarray .long, 2))
    (kk : ∀ q : Nat, sK σ q = 0 → ∀ σ' : St, σ' = uN σ q t → ∀ H1 : Heap, Rep Γ σ' H1 → va_S (rA Γ) s.heap H1 locs → W p l e R s m args below meth c H1 locs (cells + 1) (slots + n) Q (F0 m (pc + 2) ls (.ref q :: rest))) : W p l e R s m args below meth c H locs cells slots Q (F0 m pc ls (.int i :: rest)) :=
  s_newG F hR hS ht (atype := .long) harr rfl 1 rfl (a0 := (n, .inr (.inl (fun _ => 0)))) (fun _ => rfl) (fun q => by rw [hr]; simp only [rAe]; simp [sJ, uN]) hi hn (by show n * 8 ≤ _; omega) hcells hslots hdg kk
theorem s_newZ (F : Fx Γ p s m meth c args cc nL own ws rt) (hR : Rep Γ σ H) (hS : va_S (rA Γ) s.heap H locs) (t : Nat) {n : Nat} (ht : 100 ≤ t) (hr : rAr t = (2, n)) (harr : Cond.arrayClass .boolean ∈ ws) {i : Int32} (hi : i = nI n) (hn : n < 100000) (hcells : cells + 1 ≤ R.cells) (hslots : slots + n ≤ R.slots) (hdg : decode cc pc = .ok (.newarray .boolean, 2))
    (kk : ∀ q : Nat, sK σ q = 0 → ∀ σ' : St, σ' = uN σ q t → ∀ H1 : Heap, Rep Γ σ' H1 → va_S (rA Γ) s.heap H1 locs → W p l e R s m args below meth c H1 locs (cells + 1) (slots + n) Q (F0 m (pc + 2) ls (.ref q :: rest))) : W p l e R s m args below meth c H locs cells slots Q (F0 m pc ls (.int i :: rest)) :=
  s_newG F hR hS ht (atype := .boolean) harr rfl 2 rfl (a0 := (n, .inl (fun _ => 0))) (fun _ => rfl) (fun q => by rw [hr]; simp only [rAe]; simp [sI, uN]) hi hn (by show n * 1 ≤ _; omega) hcells hslots hdg kk
theorem s_newB (F : Fx Γ p s m meth c args cc nL own ws rt) (hR : Rep Γ σ H) (hS : va_S (rA Γ) s.heap H locs) (t : Nat) {n index : Nat} (ht : 100 ≤ t) (hr : rAr t = (3, n)) (hcl : Cond.classLink own index "ClearingFiles$Batch" ∈ ws) {i : Int32} (hi : i = nI n) (hn : n < 100000) (hcells : cells + 1 ≤ R.cells) (hslots : slots + n ≤ R.slots) (hdg : decode cc pc = .ok (.anewarray index, 3))
    (kk : ∀ q : Nat, sK σ q = 0 → ∀ σ' : St, σ' = uN σ q t → ∀ H1 : Heap, Rep Γ σ' H1 → va_S (rA Γ) s.heap H1 locs → W p l e R s m args below meth c H1 locs (cells + 1) (slots + n) Q (F0 m (pc + 3) ls (.ref q :: rest))) : W p l e R s m args below meth c H locs cells slots Q (F0 m pc ls (.int i :: rest)) := by
  obtain ⟨X, hW, hG⟩ := hR
  obtain ⟨w, hP, hD, hGw⟩ := hG
  subst hi
  refine va_newq F.1.1 F.1.2.1 F.1.2.2.2.1 (F.1.2.2.2.2 _ hcl) F.2.1.2.2.2.2.2.2.2.2.2.1 F.2.1.1 hP hD hS (fun q hq => Nat.le_trans F.2.1.2.1 hq) (nI_pos (by omega)) (nI_clamp (by omega)) (by omega) hcells hslots hdg fun q cA H1 hK1 hP1 hD1 hS1 => ?_
  have e1 : cA = Γ.2.2.1 3 := va_RA_uniq (hK1.2 5 (cA, .object "ClearingFiles$Batch") rfl).2 (F.2.1.1.2 3 _ rfl).2
  subst e1
  obtain ⟨h1, h2⟩ := rW.push hGw hP1 hD1
  obtain ⟨w1, w2, w3⟩ := rGs_new hW h2 (t := t) (by omega) (by omega)
  refine kk q w1 _ rfl H1 ⟨X, w2, ?_⟩ hS1
  rw [w3, rEnt, if_neg (by omega), hr]
  have e2 : rAe Γ (uN σ q t) t q (3, n) = .inl (Γ.2.2.1 3, n, .inr (.inr (.inr (.inr (fun _ => none))))) := by simp [rAe, sR, uN]
  rw [e2]
  exact h1
theorem s_cast (F : Fx Γ p s m meth c args cc nL own ws rt) (hR : Rep Γ σ H) {t : Nat} (hk : sK σ a = t) (ht : 0 < t ∧ t < 10) {C : String} {T : u_T} {N index : Nat} (hc : vwCl[rCi t]? = some (C, T, N)) (hlink : Cond.classLink own index C ∈ ws) (hdg : decode cc pc = .ok (.checkcast index, 3))
    (kk : W p l e R s m args below meth c H locs cells slots Q (F0 m (pc + 3) ls (.ref a :: rest))) : W p l e R s m args below meth c H locs cells slots Q (F0 m pc ls (.ref a :: rest)) :=
  va_castS F.1.1 F.1.2.1 F.1.2.2.2.1 (F.1.2.2.2.2 _ hlink) (F.2.1.1.1 _ _ hc).2 (s_recv F hR hk (by omega) hc) hdg kk
theorem s_alen (F : Fx Γ p s m meth c args cc nL own ws rt) (hR : Rep Γ σ H) {t : Nat} (hk : sK σ a = t) (ht : 100 ≤ t) (t0 : Nat) {n : Nat} (hr : rAr t = (t0, n)) {v : Int32} (hv : nI n = v) (hdg : decode cc pc = .ok (.arraylength, 1))
    (kk : W p l e R s m args below meth c H locs cells slots Q (F0 m (pc + 1) ls (.int v :: rest))) : W p l e R s m args below meth c H locs cells slots Q (F0 m pc ls (.ref a :: rest)) := by
  obtain ⟨X, -, hG⟩ := hR
  have he : rGs Γ σ X a = some (rAe Γ σ t a (t0, n)) := by rw [rGs_ob hk (by omega) (by omega), rEnt, if_neg (by omega), hr]
  match t0, he with
  | 0, he => exact g_alen F.1.1 F.1.2.1 F.2.1 hG 0 rfl he hv hdg kk
  | 1, he => exact g_alen F.1.1 F.1.2.1 F.2.1 hG 1 rfl he hv hdg kk
  | 2, he => exact g_alen F.1.1 F.1.2.1 F.2.1 hG 2 rfl he hv hdg kk
  | _ + 3, he => exact g_alen F.1.1 F.1.2.1 F.2.1 hG 3 rfl he hv hdg kk
theorem k_runIN (F : Fx Γ p s m meth c args cc nL own ws rt) {P : Heap → Prop} (hR : P H) (hS : va_S (rA Γ) s.heap H locs) {lv : List (Nat × Value)} (hl : lv_has ls nL lv) {y : MethodName} {index maxL mc ms b : Nat} {bytes : ByteArray} {wy wy' : List Cond} {rm : Room} {Qc : Array Value → State → Outcome → State → Prop} (n : Nat) (As : List Value) (hM : Met l y wy rm (rPc Γ vwCl (.ref b :: As) P) Qc mc ms (rA Γ)) (hG : GoodIn ws wy) (hw : wy = Cond.code y bytes maxL none :: wy') (hrc : rm.cells = mc) (hrs : rm.slots = ms) (hini : Cond.initialized y.cls ∈ ws) (hlk : (own, index, y) ∈ rNl) (him : Cond.instanceMethod y ∈ ws) (hy1 : y.name = "<init>") (hd : y.cls ≠ "java/lang/invoke/MethodHandle" ∧ y.cls ≠ "java/lang/invoke/VarHandle" ∧ (parseMethodDescriptor y.desc).map (fun d => d.parameters.length) = some n) (hRm : rm.frames + 1 ≤ R.frames ∧ 8 + (maxL + 11) + rm.locals ≤ R.locals) (hn : As.length = n) (hst : (rest.map fun v => v.category).sum ≤ 8) (hdg : decode cc pc = .ok (.invokespecial index, 3)) (hf : cells + mc ≤ R.cells ∧ slots + ms ≤ R.slots) :
    va_Run p l e R s m args below meth c H locs cells slots mc ms (F0 m pc ls (As.reverse ++ .ref b :: rest)) rest (Qc (Value.ref b :: As).toArray) (rA Γ) :=
  va_runIN (As := As) (rest := rest) F.1 hM ⟨va_cnB n F.1.2.2.2.2 hG hw hrc hrs (F.2.1.2.2.2.2.2.2.2.2.2.2.2.2.2.2 _ hlk) (F.1.2.2.2.2 _ hini) hd hRm, hy1, F.1.2.2.2.2 _ him⟩ ⟨rPc_blind, fun U hU hW => ⟨rfl, by rw [hU]; exact hR, k_ev F hS hU hW⟩⟩ rfl hn hl.1 rfl (lv_room hst) hdg hf
end RU
theorem rnd_1 : ((rFl 1).map Prod.snd).Nodup := by decide +kernel
theorem rnd_2 : ((rFl 2).map Prod.snd).Nodup := by decide +kernel
theorem rnd_3 : ((rFl 3).map Prod.snd).Nodup := by decide +kernel
theorem rnd_4 : ((rFl 4).map Prod.snd).Nodup := by decide +kernel
theorem rnd_5 : ((rFl 5).map Prod.snd).Nodup := by decide +kernel
theorem rnd_6 : ((rFl 6).map Prod.snd).Nodup := by decide +kernel
theorem rnd_7 : ((rFl 7).map Prod.snd).Nodup := by decide +kernel
theorem rnd_8 : ((rFl 8).map Prod.snd).Nodup := by decide +kernel
theorem rnd_9 : ((rFl 9).map Prod.snd).Nodup := by decide +kernel
theorem rnd_19 : ((rFl 19).map Prod.snd).Nodup := by decide +kernel
end
section
abbrev rmX8_within : Room := { frames := 0, cells := 0, slots := 0, locals := 0 }
def wX8_within (p1 : Int32) (p2 : Int32) (post : Int32 → St → Prop) (σ0 : St) : Prop :=
  (p1 < 0 → (post (0 : Int32) σ0)) ∧ (¬ p1 < 0 → ((p2 ≤ p1 → (post (0 : Int32) σ0)) ∧ (¬ p2 ≤ p1 → (post (1 : Int32) σ0))))
set_option maxHeartbeats 4000000 in
set_option maxRecDepth 100000 in
theorem bX8_within {p : Program} {l : Launch} {e : Env} {s : State} {m : MethodId} {args : Array Value} {below : List Frame} {meth : Method} {c : Code} {Γ : rGam} {post : Int32 → St → Prop} (F : Fx Γ p s m meth c args cX8_within 2 RX8 wsX8_within (some .boolean)) {H : Heap} {locs : List Loc} {ls : Array Slot} {cells slots : Nat} {p1 : Int32} {p2 : Int32} {σ0 : St} (h : wX8_within p1 p2 post σ0) (hR : Rep Γ σ0 H) (hS : va_S (rA Γ) s.heap H locs) (hl : lv_has ls 2 [(0, .int p1), (1, .int p2)]) (hc : cells ≤ 0 ∧ slots ≤ 0) : W p l e rmX8_within s m args below meth c H locs cells slots (rQi Γ below post args s 0 0) (F0 m 0 ls []) := by
  have hx := F.1.1
  have hb := F.1.2.1
  unfold wX8_within at h
  refine lv_iload_n hx hb dX8_within_0 rfl (lv_at hl 0 rfl) ?_
  refine lv_if_lt (tgt := 13) hx hb dX8_within_1 (by decide) (fun c1 => ?_) (fun c1 => ?_)
  · have h := h.1 c1
    refine lv_iconst (v := 0) hx hb dX8_within_13 (by decide) ?_
    exact s_zret F hR hS (by unfold isB; decide) h hc dX8_within_14
  · have h := h.2 c1
    refine lv_iload_n hx hb dX8_within_4 rfl (lv_at hl 0 rfl) ?_
    refine lv_iload_n hx hb dX8_within_5 rfl (lv_at hl 1 rfl) ?_
    refine lv_icmp_ge (tgt := 13) hx hb dX8_within_6 (by decide) (fun c2 => ?_) (fun c2 => ?_)
    · have h := h.1 c2
      refine lv_iconst (v := 0) hx hb dX8_within_13 (by decide) ?_
      exact s_zret F hR hS (by unfold isB; decide) h hc dX8_within_14
    · have h := h.2 c2
      refine lv_iconst (v := 1) hx hb dX8_within_9 (by decide) ?_
      refine lv_goto (tgt := 14) hx hb dX8_within_10 (by decide) ?_
      exact s_zret F hR hS (by unfold isB; decide) h hc dX8_within_14
set_option maxHeartbeats 4000000 in
set_option maxRecDepth 100000 in
theorem kX8_within (l : Launch) (Γ : rGam) (p1 : Int32) (p2 : Int32) (post : Int32 → St → Prop) (σ0 : St) (h : wX8_within p1 p2 post σ0) : Met l yX8_within wsX8_within rmX8_within (rPc Γ vwCl [.int p1, .int p2] (Rep Γ σ0)) (va_Qi post (fun σ' t => Rep Γ σ' t.heap) (rA Γ)) 0 0 (rA Γ) := by
  refine Met.ofW (cc := cX8_within) (maxL := 2) (ret := (some .boolean)) (by decide) rfl ?_
  intro p e s m args below meth c s₁ B hml hv
  obtain ⟨rfl, hR, hE⟩ := hv
  have F : Fx Γ p s m meth c _ cX8_within 2 RX8 wsX8_within (some .boolean) := ⟨⟨B.exec, B.bytes, hml, findClass_of_methodNamed B.named, atoms_spec (ws := wsX8_within) B.pre⟩, hE, B.notSynchronized, B.returns⟩
  have hl := lv_entry ([.int p1, .int p2]) (n := 2) (Nat.le_of_ble_eq_true rfl)
  rw [lg_entry_eq]
  generalize (lg_sl ([.int p1, .int p2]) ++ List.replicate (2 - (lg_sl ([.int p1, .int p2])).length) Slot.unset).toArray = ls at hl ⊢
  have hl : lv_has ls 2 [(0, .int p1), (1, .int p2)] := hl
  exact bX8_within F h hR va_S.rf hl ⟨Nat.le_refl 0, Nat.le_refl 0⟩
abbrev rmX8_right : Room := { frames := 0, cells := 0, slots := 0, locals := 0 }
def wX8_right_39 (k9 : Int32 → Int32 → Int32 → St → Prop) (post : Int32 → St → Prop) (x2 : Int32) (x3 : Int32) (x4 : Int32) (y0 : Int32) (σ0 : St) : Prop :=
  ∀ x6 : Int32, x6 = (x2 + (y0 * (x3 - x3 / (10 : Int32) * (10 : Int32)))) → (∀ x7 : Int32, x7 = (x3 / (10 : Int32)) → (∀ x8 : Int32, x8 = x4 + (-1 : Int32) → (k9 x6 x7 x8 σ0)))
set_option maxHeartbeats 4000000 in
set_option maxRecDepth 100000 in
theorem bX8_right_39 {p : Program} {l : Launch} {e : Env} {s : State} {m : MethodId} {args : Array Value} {below : List Frame} {meth : Method} {c : Code} {Γ : rGam} {post : Int32 → St → Prop} (F : Fx Γ p s m meth c args cX8_right 6 RX8 wsX8_right (some .boolean)) {k9 : Int32 → Int32 → Int32 → St → Prop} (hk9 : ∀ (x2 : Int32) (x3 : Int32) (x4 : Int32) (σ0 : St) (H : Heap) (locs : List Loc) (ls : Array Slot) (cells slots : Nat), k9 x2 x3 x4 σ0 → Rep Γ σ0 H → va_S (rA Γ) s.heap H locs → lv_has ls 6 [(2, .int x2), (3, .int x3), (4, .int x4)] → cells ≤ 0 ∧ slots ≤ 0 → W p l e rmX8_right s m args below meth c H locs cells slots (rQi Γ below post args s 0 0) (F0 m 9 ls [])) {H : Heap} {locs : List Loc} {ls : Array Slot} {cells slots : Nat} {x2 : Int32} {x3 : Int32} {x4 : Int32} {y0 : Int32} {σ0 : St} (h : wX8_right_39 k9 post x2 x3 x4 y0 σ0) (hR : Rep Γ σ0 H) (hS : va_S (rA Γ) s.heap H locs) (hl : lv_has ls 6 [(2, .int x2), (3, .int x3), (4, .int x4)]) (hc : cells ≤ 0 ∧ slots ≤ 0) : W p l e rmX8_right s m args below meth c H locs cells slots (rQi Γ below post args s 0 0) (F0 m 39 ls [.int y0]) := by
  have hx := F.1.1
  have hb := F.1.2.1
  unfold wX8_right_39 at h
  refine s_istore (lk := [(4, .int x4)]) (lv' := [(5, .int y0), (2, .int x2), (3, .int x3), (4, .int x4)]) hx hb dX8_right_39 hl (by decide) rfl (lk_1 rfl) rfl (fun ls hl => ?_)
  refine lv_iload_n hx hb dX8_right_41 rfl (lv_at hl 1 rfl) ?_
  refine lv_iload hx hb dX8_right_42 (lv_at hl 0 rfl) ?_
  refine lv_iload_n hx hb dX8_right_44 rfl (lv_at hl 2 rfl) ?_
  refine lv_bipush (v := 10) hx hb dX8_right_45 (by decide) ?_
  refine lv_irem hx hb dX8_right_47 (by decide) ?_
  refine lv_imul hx hb dX8_right_48 ?_
  refine lv_iadd hx hb dX8_right_49 ?_
  refine lv_topi (fun x6 ex6 => ?_)
  have h := h x6 ex6
  refine s_istore_n (lk := []) (lv' := [(2, .int x6), (5, .int y0), (3, .int x3), (4, .int x4)]) hx hb dX8_right_50 rfl hl (by decide) rfl lk_0 rfl (fun ls hl => ?_)
  refine lv_iload_n hx hb dX8_right_51 rfl (lv_at hl 2 rfl) ?_
  refine lv_bipush (v := 10) hx hb dX8_right_52 (by decide) ?_
  refine lv_idiv hx hb dX8_right_54 (by decide) ?_
  refine lv_topi (fun x7 ex7 => ?_)
  have h := h x7 ex7
  refine s_istore_n (lk := [(2, .int x6)]) (lv' := [(3, .int x7), (2, .int x6), (5, .int y0), (4, .int x4)]) hx hb dX8_right_55 rfl hl (by decide) rfl (lk_1 rfl) rfl (fun ls hl => ?_)
  obtain ⟨x8, ex8⟩ : ∃ x : Int32, x = x4 + (-1 : Int32) := ⟨_, rfl⟩
  have h := h x8 ex8
  refine s_iinc (v := x8) (d := -1) (lk := [(3, .int x7)]) (lv' := [(4, .int x8), (3, .int x7), (2, .int x6), (5, .int y0)]) hx hb dX8_right_56 hl (k := 3) rfl (by decide) (by decide) rfl (lk_1 rfl) ex8 rfl (fun ls hl => ?_)
  refine lv_goto (tgt := 9) hx hb dX8_right_59 (by decide) ?_
  exact hk9 x6 x7 x8 σ0 _ _ _ _ _ h hR hS (lv_sub hl [2, 1, 0] rfl) hc

def wX8_right_9 (post : Int32 → St → Prop) : Nat → Int32 → Int32 → Int32 → St → Prop
  | 0, _, _, _, _ => False
  | n + 1, x2, x3, x4, σ0 =>
    (x4 < 0 → (((x2 - x2 / (10 : Int32) * (10 : Int32)) = 0 → (post (1 : Int32) σ0)) ∧ (¬ (x2 - x2 / (10 : Int32) * (10 : Int32)) = 0 → (post (0 : Int32) σ0)))) ∧ (¬ x4 < 0 → (((x4 - x4 / (3 : Int32) * (3 : Int32)) = 0 → (wX8_right_39 (wX8_right_9 post n) post x2 x3 x4 (3 : Int32) σ0)) ∧ (¬ (x4 - x4 / (3 : Int32) * (3 : Int32)) = 0 → (((x4 - x4 / (3 : Int32) * (3 : Int32)) = (1 : Int32) → (wX8_right_39 (wX8_right_9 post n) post x2 x3 x4 (7 : Int32) σ0)) ∧ (¬ (x4 - x4 / (3 : Int32) * (3 : Int32)) = (1 : Int32) → (wX8_right_39 (wX8_right_9 post n) post x2 x3 x4 (1 : Int32) σ0))))))
set_option maxHeartbeats 4000000 in
set_option maxRecDepth 100000 in
theorem bX8_right_9 {p : Program} {l : Launch} {e : Env} {s : State} {m : MethodId} {args : Array Value} {below : List Frame} {meth : Method} {c : Code} {Γ : rGam} {post : Int32 → St → Prop} (F : Fx Γ p s m meth c args cX8_right 6 RX8 wsX8_right (some .boolean)) : ∀ (n : Nat) (x2 : Int32) (x3 : Int32) (x4 : Int32) (σ0 : St) (H : Heap) (locs : List Loc) (ls : Array Slot) (cells slots : Nat), wX8_right_9 post n x2 x3 x4 σ0 → Rep Γ σ0 H → va_S (rA Γ) s.heap H locs → lv_has ls 6 [(2, .int x2), (3, .int x3), (4, .int x4)] → cells ≤ 0 ∧ slots ≤ 0 → W p l e rmX8_right s m args below meth c H locs cells slots (rQi Γ below post args s 0 0) (F0 m 9 ls []) := by
  have hx := F.1.1
  have hb := F.1.2.1
  intro n
  induction n with
  | zero =>
    intro x2 x3 x4 σ0 H locs ls cells slots h
    exact absurd h (by unfold wX8_right_9; exact id)
  | succ n ih =>
    intro x2 x3 x4 σ0 H locs ls cells slots h hR hS hl hc
    unfold wX8_right_9 at h
    refine lv_iload hx hb dX8_right_9 (lv_at hl 2 rfl) ?_
    refine lv_if_lt (tgt := 62) hx hb dX8_right_11 (by decide) (fun c2 => ?_) (fun c2 => ?_)
    · have h := h.1 c2
      refine lv_iload_n hx hb dX8_right_62 rfl (lv_at hl 0 rfl) ?_
      refine lv_bipush (v := 10) hx hb dX8_right_63 (by decide) ?_
      refine lv_irem hx hb dX8_right_65 (by decide) ?_
      refine lv_if_ne (tgt := 73) hx hb dX8_right_66 (by decide) (fun c3 => ?_) (fun c3 => ?_)
      · have h := h.2 c3
        refine lv_iconst (v := 0) hx hb dX8_right_73 (by decide) ?_
        exact s_zret F hR hS (by unfold isB; decide) h hc dX8_right_74
      · have h := h.1 c3
        refine lv_iconst (v := 1) hx hb dX8_right_69 (by decide) ?_
        refine lv_goto (tgt := 74) hx hb dX8_right_70 (by decide) ?_
        exact s_zret F hR hS (by unfold isB; decide) h hc dX8_right_74
    · have h := h.2 c2
      refine lv_iload hx hb dX8_right_14 (lv_at hl 2 rfl) ?_
      refine lv_iconst (v := 3) hx hb dX8_right_16 (by decide) ?_
      refine lv_irem hx hb dX8_right_17 (by decide) ?_
      refine lv_if_ne (tgt := 25) hx hb dX8_right_18 (by decide) (fun c4 => ?_) (fun c4 => ?_)
      · have h := h.2 c4
        refine lv_iload hx hb dX8_right_25 (lv_at hl 2 rfl) ?_
        refine lv_iconst (v := 3) hx hb dX8_right_27 (by decide) ?_
        refine lv_irem hx hb dX8_right_28 (by decide) ?_
        refine lv_iconst (v := 1) hx hb dX8_right_29 (by decide) ?_
        refine lv_icmp_ne (tgt := 38) hx hb dX8_right_30 (by decide) (fun c5 => ?_) (fun c5 => ?_)
        · have h := h.2 c5
          refine lv_iconst (v := 1) hx hb dX8_right_38 (by decide) ?_
          exact bX8_right_39 F (fun x2 x3 x4 σ0 H locs ls cells slots h hR hS hl hc => ih x2 x3 x4 σ0 H locs ls cells slots h hR hS hl hc) h hR hS (lv_sub hl [0, 1, 2] rfl) hc
        · have h := h.1 c5
          refine lv_bipush (v := 7) hx hb dX8_right_33 (by decide) ?_
          refine lv_goto (tgt := 39) hx hb dX8_right_35 (by decide) ?_
          exact bX8_right_39 F (fun x2 x3 x4 σ0 H locs ls cells slots h hR hS hl hc => ih x2 x3 x4 σ0 H locs ls cells slots h hR hS hl hc) h hR hS (lv_sub hl [0, 1, 2] rfl) hc
      · have h := h.1 c4
        refine lv_iconst (v := 3) hx hb dX8_right_21 (by decide) ?_
        refine lv_goto (tgt := 39) hx hb dX8_right_22 (by decide) ?_
        exact bX8_right_39 F (fun x2 x3 x4 σ0 H locs ls cells slots h hR hS hl hc => ih x2 x3 x4 σ0 H locs ls cells slots h hR hS hl hc) h hR hS (lv_sub hl [0, 1, 2] rfl) hc

def wX8_right (p1 : Int32) (p2 : Int32) (post : Int32 → St → Prop) (σ0 : St) : Prop :=
  ∀ x1 : Int32, x1 = (p2 - (1 : Int32)) → (∃ n9 : Nat, wX8_right_9 post n9 (0 : Int32) p1 x1 σ0)
set_option maxHeartbeats 4000000 in
set_option maxRecDepth 100000 in
theorem bX8_right {p : Program} {l : Launch} {e : Env} {s : State} {m : MethodId} {args : Array Value} {below : List Frame} {meth : Method} {c : Code} {Γ : rGam} {post : Int32 → St → Prop} (F : Fx Γ p s m meth c args cX8_right 6 RX8 wsX8_right (some .boolean)) {H : Heap} {locs : List Loc} {ls : Array Slot} {cells slots : Nat} {p1 : Int32} {p2 : Int32} {σ0 : St} (h : wX8_right p1 p2 post σ0) (hR : Rep Γ σ0 H) (hS : va_S (rA Γ) s.heap H locs) (hl : lv_has ls 6 [(0, .int p1), (1, .int p2)]) (hc : cells ≤ 0 ∧ slots ≤ 0) : W p l e rmX8_right s m args below meth c H locs cells slots (rQi Γ below post args s 0 0) (F0 m 0 ls []) := by
  have hx := F.1.1
  have hb := F.1.2.1
  unfold wX8_right at h
  refine lv_iconst (v := 0) hx hb dX8_right_0 (by decide) ?_
  refine s_istore_n (lk := [(1, .int p2)]) (lv' := [(2, .int (0 : Int32)), (0, .int p1), (1, .int p2)]) hx hb dX8_right_1 rfl hl (by decide) rfl (lk_1 rfl) rfl (fun ls hl => ?_)
  refine lv_iload_n hx hb dX8_right_2 rfl (lv_at hl 1 rfl) ?_
  refine s_istore_n (lk := [(2, .int (0 : Int32))]) (lv' := [(3, .int p1), (2, .int (0 : Int32)), (0, .int p1), (1, .int p2)]) hx hb dX8_right_3 rfl hl (by decide) rfl (lk_1 rfl) rfl (fun ls hl => ?_)
  refine lv_iload_n hx hb dX8_right_4 rfl (lv_at hl 3 rfl) ?_
  refine lv_iconst (v := 1) hx hb dX8_right_5 (by decide) ?_
  refine lv_isub hx hb dX8_right_6 ?_
  refine lv_topi (fun x1 ex1 => ?_)
  have h := h x1 ex1
  refine s_istore (lk := [(3, .int p1)]) (lv' := [(4, .int x1), (3, .int p1), (2, .int (0 : Int32)), (0, .int p1), (1, .int p2)]) hx hb dX8_right_7 hl (by decide) rfl (lk_1 rfl) rfl (fun ls hl => ?_)
  obtain ⟨n9, h⟩ := h
  exact bX8_right_9 F n9 (0 : Int32) p1 x1 σ0 _ _ _ _ _ h hR hS (lv_sub hl [2, 1, 0] rfl) hc
set_option maxHeartbeats 4000000 in
set_option maxRecDepth 100000 in
theorem kX8_right (l : Launch) (Γ : rGam) (p1 : Int32) (p2 : Int32) (post : Int32 → St → Prop) (σ0 : St) (h : wX8_right p1 p2 post σ0) : Met l yX8_right wsX8_right rmX8_right (rPc Γ vwCl [.int p1, .int p2] (Rep Γ σ0)) (va_Qi post (fun σ' t => Rep Γ σ' t.heap) (rA Γ)) 0 0 (rA Γ) := by
  refine Met.ofW (cc := cX8_right) (maxL := 6) (ret := (some .boolean)) (by decide) rfl ?_
  intro p e s m args below meth c s₁ B hml hv
  obtain ⟨rfl, hR, hE⟩ := hv
  have F : Fx Γ p s m meth c _ cX8_right 6 RX8 wsX8_right (some .boolean) := ⟨⟨B.exec, B.bytes, hml, findClass_of_methodNamed B.named, atoms_spec (ws := wsX8_right) B.pre⟩, hE, B.notSynchronized, B.returns⟩
  have hl := lv_entry ([.int p1, .int p2]) (n := 6) (Nat.le_of_ble_eq_true rfl)
  rw [lg_entry_eq]
  generalize (lg_sl ([.int p1, .int p2]) ++ List.replicate (6 - (lg_sl ([.int p1, .int p2])).length) Slot.unset).toArray = ls at hl ⊢
  have hl : lv_has ls 6 [(0, .int p1), (1, .int p2)] := hl
  exact bX8_right F h hR va_S.rf hl ⟨Nat.le_refl 0, Nat.le_refl 0⟩
theorem mX8_bankOf_0 : Cond.fieldLink RX8 119 "ClearingFilesModel" "banks" "I" ∈ wsX8_bankOf := by decide +kernel
theorem mX8_bankOf_1 : Cond.fieldLink RX8 7 "ClearingFilesModel" "routings" "[I" ∈ wsX8_bankOf := by decide +kernel
theorem nX8_bankOf_X8 : ∀ w ∈ u_ws RX8 TX8 46, w ∈ wsX8_bankOf := fun _ h => List.mem_cons_of_mem _ (List.mem_append_right _ h)
abbrev rmX8_bankOf : Room := { frames := 0, cells := 0, slots := 0, locals := 0 }
def wX8_bankOf_2 (o : Nat) (post : Int32 → St → Prop) : Nat → Int32 → Int32 → St → Prop
  | 0, _, _, _ => False
  | n + 1, x1, x2, σ0 =>
    sK σ0 o = 9 ∧ (((sI σ0 450 o 0) ≤ x2 → (post (-1 : Int32) σ0)) ∧ (¬ (sI σ0 450 o 0) ≤ x2 → (sK σ0 o = 9 ∧ (∀ r4 : Option Nat, r4 = sR σ0 451 o 0 → (∃ a5 : Nat, r4 = some a5 ∧ (sK σ0 a5 = 1451 ∧ (vp_in x2 5 ∧ (((sI σ0 1451 a5 x2.toNatClampNeg) = x1 → (post x2 σ0)) ∧ (¬ (sI σ0 1451 a5 x2.toNatClampNeg) = x1 → (∀ x9 : Int32, x9 = x2 + (1 : Int32) → (wX8_bankOf_2 o post n x1 x9 σ0)))))))))))
set_option maxHeartbeats 4000000 in
set_option maxRecDepth 100000 in
theorem bX8_bankOf_2 {p : Program} {l : Launch} {e : Env} {s : State} {m : MethodId} {args : Array Value} {below : List Frame} {meth : Method} {c : Code} {Γ : rGam} {o : Nat} {post : Int32 → St → Prop} (F : Fx Γ p s m meth c args cX8_bankOf 3 RX8 wsX8_bankOf (some .int)) : ∀ (n : Nat) (x1 : Int32) (x2 : Int32) (σ0 : St) (H : Heap) (locs : List Loc) (ls : Array Slot) (cells slots : Nat), wX8_bankOf_2 o post n x1 x2 σ0 → Rep Γ σ0 H → va_S (rA Γ) s.heap H locs → lv_has ls 3 [(0, .ref o), (1, .int x1), (2, .int x2)] → cells ≤ 0 ∧ slots ≤ 0 → W p l e rmX8_bankOf s m args below meth c H locs cells slots (rQi Γ below post args s 0 0) (F0 m 2 ls []) := by
  have hx := F.1.1
  have hb := F.1.2.1
  intro n
  induction n with
  | zero =>
    intro x1 x2 σ0 H locs ls cells slots h
    exact absurd h (by unfold wX8_bankOf_2; exact id)
  | succ n ih =>
    intro x1 x2 σ0 H locs ls cells slots h hR hS hl hc
    unfold wX8_bankOf_2 at h
    refine lv_iload_n hx hb dX8_bankOf_2 rfl (lv_at hl 2 rfl) ?_
    refine lv_aload_n hx hb dX8_bankOf_3 rfl (lv_at hl 0 rfl) ?_
    obtain ⟨k1, h⟩ := h
    refine s_getI F hR k1 (by decide) (C := RX8) (T := TX8) (N := 46) rfl nX8_bankOf_X8 0 (by decide) mX8_bankOf_0 (f := 450) rfl dX8_bankOf_4 ?_
    refine lv_icmp_ge (tgt := 28) hx hb dX8_bankOf_7 (by decide) (fun c2 => ?_) (fun c2 => ?_)
    · have h := h.1 c2
      refine lv_iconst (v := -1) hx hb dX8_bankOf_28 (by decide) ?_
      exact s_iret F hR hS h hc dX8_bankOf_29
    · have h := h.2 c2
      refine lv_aload_n hx hb dX8_bankOf_10 rfl (lv_at hl 0 rfl) ?_
      obtain ⟨k3, h⟩ := h
      refine s_getR F hR k3 (by decide) (C := RX8) (T := TX8) (N := 46) rfl nX8_bankOf_X8 1 (by decide) mX8_bankOf_1 (f := 451) rfl dX8_bankOf_11 (fun r4 er4 => ?_)
      have h := h r4 er4
      refine lv_iload_n hx hb dX8_bankOf_14 rfl (lv_at hl 2 rfl) ?_
      obtain ⟨a5, ea5, h⟩ := h
      subst ea5
      obtain ⟨k6, h⟩ := h
      obtain ⟨z7, h⟩ := h
      refine s_iald F hR k6 (by decide) rfl z7 dX8_bankOf_15 ?_
      refine lv_iload_n hx hb dX8_bankOf_16 rfl (lv_at hl 1 rfl) ?_
      refine lv_icmp_ne (tgt := 22) hx hb dX8_bankOf_17 (by decide) (fun c8 => ?_) (fun c8 => ?_)
      · have h := h.2 c8
        obtain ⟨x9, ex9⟩ : ∃ x : Int32, x = x2 + (1 : Int32) := ⟨_, rfl⟩
        have h := h x9 ex9
        refine s_iinc (v := x9) (d := 1) (lk := [(1, .int x1)]) (lv' := [(2, .int x9), (0, .ref o), (1, .int x1)]) hx hb dX8_bankOf_22 hl (k := 2) rfl (by decide) (by decide) rfl (lk_1 rfl) ex9 rfl (fun ls hl => ?_)
        refine lv_goto (tgt := 2) hx hb dX8_bankOf_25 (by decide) ?_
        exact ih x1 x9 σ0 _ _ _ _ _ h hR hS (lv_sub hl [1, 2, 0] rfl) hc
      · have h := h.1 c8
        refine lv_iload_n hx hb dX8_bankOf_20 rfl (lv_at hl 2 rfl) ?_
        exact s_iret F hR hS h hc dX8_bankOf_21

def wX8_bankOf (o : Nat) (p1 : Int32) (post : Int32 → St → Prop) (σ0 : St) : Prop :=
  ∃ n10 : Nat, wX8_bankOf_2 o post n10 p1 (0 : Int32) σ0
set_option maxHeartbeats 4000000 in
set_option maxRecDepth 100000 in
theorem bX8_bankOf {p : Program} {l : Launch} {e : Env} {s : State} {m : MethodId} {args : Array Value} {below : List Frame} {meth : Method} {c : Code} {Γ : rGam} {o : Nat} {post : Int32 → St → Prop} (F : Fx Γ p s m meth c args cX8_bankOf 3 RX8 wsX8_bankOf (some .int)) {H : Heap} {locs : List Loc} {ls : Array Slot} {cells slots : Nat} {p1 : Int32} {σ0 : St} (h : wX8_bankOf o p1 post σ0) (hR : Rep Γ σ0 H) (hS : va_S (rA Γ) s.heap H locs) (hl : lv_has ls 3 [(0, .ref o), (1, .int p1)]) (hc : cells ≤ 0 ∧ slots ≤ 0) : W p l e rmX8_bankOf s m args below meth c H locs cells slots (rQi Γ below post args s 0 0) (F0 m 0 ls []) := by
  have hx := F.1.1
  have hb := F.1.2.1
  unfold wX8_bankOf at h
  refine lv_iconst (v := 0) hx hb dX8_bankOf_0 (by decide) ?_
  refine s_istore_n (lk := [(1, .int p1)]) (lv' := [(2, .int (0 : Int32)), (0, .ref o), (1, .int p1)]) hx hb dX8_bankOf_1 rfl hl (by decide) rfl (lk_1 rfl) rfl (fun ls hl => ?_)
  obtain ⟨n10, h⟩ := h
  exact bX8_bankOf_2 F n10 p1 (0 : Int32) σ0 _ _ _ _ _ h hR hS (lv_sub hl [1, 2, 0] rfl) hc
set_option maxHeartbeats 4000000 in
set_option maxRecDepth 100000 in
theorem kX8_bankOf (l : Launch) (Γ : rGam) (o : Nat) (p1 : Int32) (post : Int32 → St → Prop) (σ0 : St) (h : wX8_bankOf o p1 post σ0) : Met l yX8_bankOf wsX8_bankOf rmX8_bankOf (rPc Γ vwCl [.ref o, .int p1] (Rep Γ σ0)) (va_Qi post (fun σ' t => Rep Γ σ' t.heap) (rA Γ)) 0 0 (rA Γ) := by
  refine Met.ofW (cc := cX8_bankOf) (maxL := 3) (ret := (some .int)) (by decide) rfl ?_
  intro p e s m args below meth c s₁ B hml hv
  obtain ⟨rfl, hR, hE⟩ := hv
  have F : Fx Γ p s m meth c _ cX8_bankOf 3 RX8 wsX8_bankOf (some .int) := ⟨⟨B.exec, B.bytes, hml, findClass_of_methodNamed B.named, atoms_spec (ws := wsX8_bankOf) B.pre⟩, hE, B.notSynchronized, B.returns⟩
  have hl := lv_entry ([.ref o, .int p1]) (n := 3) (Nat.le_of_ble_eq_true rfl)
  rw [lg_entry_eq]
  generalize (lg_sl ([.ref o, .int p1]) ++ List.replicate (3 - (lg_sl ([.ref o, .int p1])).length) Slot.unset).toArray = ls at hl ⊢
  have hl : lv_has ls 3 [(0, .ref o), (1, .int p1)] := hl
  exact bX8_bankOf F h hR va_S.rf hl ⟨Nat.le_refl 0, Nat.le_refl 0⟩
theorem mX8_digits_0 : Cond.constantLong RX8 117 (10) ∈ wsX8_digits := by decide +kernel
abbrev rmX8_digits : Room := { frames := 0, cells := 0, slots := 0, locals := 0 }
def wX8_digits_35 (post : Int32 → St → Prop) : Nat → Int32 → Int64 → Int64 → Int32 → St → Prop
  | 0, _, _, _, _, _ => False
  | n + 1, x3, x4, x6, x8, σ0 =>
    (x3 ≤ x8 → (¬ x6 = 0 ∧ (post ((x4 - x4 / x6 * x6).toInt32) σ0))) ∧ (¬ x3 ≤ x8 → (∀ x5 : Int64, x5 = (x6 * (10 : Int64)) → (∀ x6 : Int32, x6 = x8 + (1 : Int32) → (wX8_digits_35 post n x3 x4 x5 x6 σ0))))
set_option maxHeartbeats 4000000 in
set_option maxRecDepth 100000 in
theorem bX8_digits_35 {p : Program} {l : Launch} {e : Env} {s : State} {m : MethodId} {args : Array Value} {below : List Frame} {meth : Method} {c : Code} {Γ : rGam} {post : Int32 → St → Prop} (F : Fx Γ p s m meth c args cX8_digits 9 RX8 wsX8_digits (some .int)) : ∀ (n : Nat) (x3 : Int32) (x4 : Int64) (x6 : Int64) (x8 : Int32) (σ0 : St) (H : Heap) (locs : List Loc) (ls : Array Slot) (cells slots : Nat), wX8_digits_35 post n x3 x4 x6 x8 σ0 → Rep Γ σ0 H → va_S (rA Γ) s.heap H locs → lv_has ls 9 [(3, .int x3), (4, .long x4), (6, .long x6), (8, .int x8)] → cells ≤ 0 ∧ slots ≤ 0 → W p l e rmX8_digits s m args below meth c H locs cells slots (rQi Γ below post args s 0 0) (F0 m 35 ls []) := by
  have hx := F.1.1
  have hb := F.1.2.1
  intro n
  induction n with
  | zero =>
    intro x3 x4 x6 x8 σ0 H locs ls cells slots h
    exact absurd h (by unfold wX8_digits_35; exact id)
  | succ n ih =>
    intro x3 x4 x6 x8 σ0 H locs ls cells slots h hR hS hl hc
    unfold wX8_digits_35 at h
    refine lv_iload hx hb dX8_digits_35 (lv_at hl 3 rfl) ?_
    refine lv_iload_n hx hb dX8_digits_37 rfl (lv_at hl 0 rfl) ?_
    refine lv_icmp_ge (tgt := 55) hx hb dX8_digits_38 (by decide) (fun c3 => ?_) (fun c3 => ?_)
    · have h := h.1 c3
      refine lv_lload hx hb dX8_digits_55 (lv_at hl 1 rfl) ?_
      refine lv_lload hx hb dX8_digits_57 (lv_at hl 2 rfl) ?_
      obtain ⟨z4, h⟩ := h
      refine lv_lrem hx hb dX8_digits_59 z4 ?_
      refine lv_l2i hx hb dX8_digits_60 rfl ?_
      exact s_iret F hR hS h hc dX8_digits_61
    · have h := h.2 c3
      refine lv_lload hx hb dX8_digits_41 (lv_at hl 2 rfl) ?_
      refine lv_ldc2 hx hb F.1.2.2.2.1 (F.1.2.2.2.2 _ mX8_digits_0) dX8_digits_43 ?_
      refine lv_lmul hx hb dX8_digits_46 ?_
      refine lv_topl (fun x5 ex5 => ?_)
      have h := h x5 ex5
      refine s_lstore (lk := []) (lv' := [(6, .long x5), (3, .int x3), (4, .long x4), (8, .int x8)]) hx hb dX8_digits_47 hl (by decide) rfl lk_0 rfl (fun ls hl => ?_)
      obtain ⟨x6, ex6⟩ : ∃ x : Int32, x = x8 + (1 : Int32) := ⟨_, rfl⟩
      have h := h x6 ex6
      refine s_iinc (v := x6) (d := 1) (lk := []) (lv' := [(8, .int x6), (6, .long x5), (3, .int x3), (4, .long x4)]) hx hb dX8_digits_49 hl (k := 3) rfl (by decide) (by decide) rfl lk_0 ex6 rfl (fun ls hl => ?_)
      refine lv_goto (tgt := 35) hx hb dX8_digits_52 (by decide) ?_
      exact ih x3 x4 x5 x6 σ0 _ _ _ _ _ h hR hS (lv_sub hl [2, 3, 1, 0] rfl) hc

def wX8_digits_8 (post : Int32 → St → Prop) : Nat → Int32 → Int64 → Int32 → St → Prop
  | 0, _, _, _, _ => False
  | n + 1, x3, x4, x6, σ0 =>
    ((18 : Int32) ≤ x6 → (∃ n7 : Nat, wX8_digits_35 post n7 x3 x4 (1 : Int64) (0 : Int32) σ0)) ∧ (¬ (18 : Int32) ≤ x6 → (∀ x8 : Int64, x8 = (x4 / (10 : Int64)) → (∀ x9 : Int32, x9 = x6 + (1 : Int32) → (wX8_digits_8 post n x3 x8 x9 σ0))))
set_option maxHeartbeats 4000000 in
set_option maxRecDepth 100000 in
theorem bX8_digits_8 {p : Program} {l : Launch} {e : Env} {s : State} {m : MethodId} {args : Array Value} {below : List Frame} {meth : Method} {c : Code} {Γ : rGam} {post : Int32 → St → Prop} (F : Fx Γ p s m meth c args cX8_digits 9 RX8 wsX8_digits (some .int)) : ∀ (n : Nat) (x3 : Int32) (x4 : Int64) (x6 : Int32) (σ0 : St) (H : Heap) (locs : List Loc) (ls : Array Slot) (cells slots : Nat), wX8_digits_8 post n x3 x4 x6 σ0 → Rep Γ σ0 H → va_S (rA Γ) s.heap H locs → lv_has ls 9 [(3, .int x3), (4, .long x4), (6, .int x6)] → cells ≤ 0 ∧ slots ≤ 0 → W p l e rmX8_digits s m args below meth c H locs cells slots (rQi Γ below post args s 0 0) (F0 m 8 ls []) := by
  have hx := F.1.1
  have hb := F.1.2.1
  intro n
  induction n with
  | zero =>
    intro x3 x4 x6 σ0 H locs ls cells slots h
    exact absurd h (by unfold wX8_digits_8; exact id)
  | succ n ih =>
    intro x3 x4 x6 σ0 H locs ls cells slots h hR hS hl hc
    unfold wX8_digits_8 at h
    refine lv_iload hx hb dX8_digits_8 (lv_at hl 2 rfl) ?_
    refine lv_bipush (v := 18) hx hb dX8_digits_10 (by decide) ?_
    refine lv_icmp_ge (tgt := 29) hx hb dX8_digits_12 (by decide) (fun c2 => ?_) (fun c2 => ?_)
    · have h := h.1 c2
      refine lv_lconst (v := 1) hx hb dX8_digits_29 (by decide) ?_
      refine s_lstore (lk := []) (lv' := [(6, .long (1 : Int64)), (3, .int x3), (4, .long x4)]) hx hb dX8_digits_30 hl (by decide) rfl lk_0 rfl (fun ls hl => ?_)
      refine lv_iconst (v := 0) hx hb dX8_digits_32 (by decide) ?_
      refine s_istore (lk := []) (lv' := [(8, .int (0 : Int32)), (6, .long (1 : Int64)), (3, .int x3), (4, .long x4)]) hx hb dX8_digits_33 hl (by decide) rfl lk_0 rfl (fun ls hl => ?_)
      obtain ⟨n7, h⟩ := h
      exact bX8_digits_35 F n7 x3 x4 (1 : Int64) (0 : Int32) σ0 _ _ _ _ _ h hR hS (lv_sub hl [2, 3, 1, 0] rfl) hc
    · have h := h.2 c2
      refine lv_lload hx hb dX8_digits_15 (lv_at hl 1 rfl) ?_
      refine lv_ldc2 hx hb F.1.2.2.2.1 (F.1.2.2.2.2 _ mX8_digits_0) dX8_digits_17 ?_
      refine lv_ldiv hx hb dX8_digits_20 (by decide) ?_
      refine lv_topl (fun x8 ex8 => ?_)
      have h := h x8 ex8
      refine s_lstore (lk := [(3, .int x3)]) (lv' := [(4, .long x8), (3, .int x3), (6, .int x6)]) hx hb dX8_digits_21 hl (by decide) rfl (lk_1 rfl) rfl (fun ls hl => ?_)
      obtain ⟨x9, ex9⟩ : ∃ x : Int32, x = x6 + (1 : Int32) := ⟨_, rfl⟩
      have h := h x9 ex9
      refine s_iinc (v := x9) (d := 1) (lk := []) (lv' := [(6, .int x9), (4, .long x8), (3, .int x3)]) hx hb dX8_digits_23 hl (k := 2) rfl (by decide) (by decide) rfl lk_0 ex9 rfl (fun ls hl => ?_)
      refine lv_goto (tgt := 8) hx hb dX8_digits_26 (by decide) ?_
      exact ih x3 x8 x9 σ0 _ _ _ _ _ h hR hS (lv_sub hl [2, 1, 0] rfl) hc

def wX8_digits (p1 : Int64) (p2 : Int32) (p3 : Int32) (post : Int32 → St → Prop) (σ0 : St) : Prop :=
  ∀ x1 : Int32, x1 = (p2 + p3) → (∃ n10 : Nat, wX8_digits_8 post n10 p3 p1 x1 σ0)
set_option maxHeartbeats 4000000 in
set_option maxRecDepth 100000 in
theorem bX8_digits {p : Program} {l : Launch} {e : Env} {s : State} {m : MethodId} {args : Array Value} {below : List Frame} {meth : Method} {c : Code} {Γ : rGam} {post : Int32 → St → Prop} (F : Fx Γ p s m meth c args cX8_digits 9 RX8 wsX8_digits (some .int)) {H : Heap} {locs : List Loc} {ls : Array Slot} {cells slots : Nat} {p1 : Int64} {p2 : Int32} {p3 : Int32} {σ0 : St} (h : wX8_digits p1 p2 p3 post σ0) (hR : Rep Γ σ0 H) (hS : va_S (rA Γ) s.heap H locs) (hl : lv_has ls 9 [(0, .long p1), (2, .int p2), (3, .int p3)]) (hc : cells ≤ 0 ∧ slots ≤ 0) : W p l e rmX8_digits s m args below meth c H locs cells slots (rQi Γ below post args s 0 0) (F0 m 0 ls []) := by
  have hx := F.1.1
  have hb := F.1.2.1
  unfold wX8_digits at h
  refine lv_lload_n hx hb dX8_digits_0 rfl (lv_at hl 0 rfl) ?_
  refine s_lstore (lk := [(3, .int p3)]) (lv' := [(4, .long p1), (0, .long p1), (2, .int p2), (3, .int p3)]) hx hb dX8_digits_1 hl (by decide) rfl (lk_1 rfl) rfl (fun ls hl => ?_)
  refine lv_iload_n hx hb dX8_digits_3 rfl (lv_at hl 2 rfl) ?_
  refine lv_iload_n hx hb dX8_digits_4 rfl (lv_at hl 3 rfl) ?_
  refine lv_iadd hx hb dX8_digits_5 ?_
  refine lv_topi (fun x1 ex1 => ?_)
  have h := h x1 ex1
  refine s_istore (lk := []) (lv' := [(6, .int x1), (4, .long p1), (0, .long p1), (2, .int p2), (3, .int p3)]) hx hb dX8_digits_6 hl (by decide) rfl lk_0 rfl (fun ls hl => ?_)
  obtain ⟨n10, h⟩ := h
  exact bX8_digits_8 F n10 p3 p1 x1 σ0 _ _ _ _ _ h hR hS (lv_sub hl [4, 1, 0] rfl) hc
set_option maxHeartbeats 4000000 in
set_option maxRecDepth 100000 in
theorem kX8_digits (l : Launch) (Γ : rGam) (p1 : Int64) (p2 : Int32) (p3 : Int32) (post : Int32 → St → Prop) (σ0 : St) (h : wX8_digits p1 p2 p3 post σ0) : Met l yX8_digits wsX8_digits rmX8_digits (rPc Γ vwCl [.long p1, .int p2, .int p3] (Rep Γ σ0)) (va_Qi post (fun σ' t => Rep Γ σ' t.heap) (rA Γ)) 0 0 (rA Γ) := by
  refine Met.ofW (cc := cX8_digits) (maxL := 9) (ret := (some .int)) (by decide) rfl ?_
  intro p e s m args below meth c s₁ B hml hv
  obtain ⟨rfl, hR, hE⟩ := hv
  have F : Fx Γ p s m meth c _ cX8_digits 9 RX8 wsX8_digits (some .int) := ⟨⟨B.exec, B.bytes, hml, findClass_of_methodNamed B.named, atoms_spec (ws := wsX8_digits) B.pre⟩, hE, B.notSynchronized, B.returns⟩
  have hl := lv_entry ([.long p1, .int p2, .int p3]) (n := 9) (Nat.le_of_ble_eq_true rfl)
  rw [lg_entry_eq]
  generalize (lg_sl ([.long p1, .int p2, .int p3]) ++ List.replicate (9 - (lg_sl ([.long p1, .int p2, .int p3])).length) Slot.unset).toArray = ls at hl ⊢
  have hl : lv_has ls 9 [(0, .long p1), (2, .int p2), (3, .int p3)] := hl
  exact bX8_digits F h hR va_S.rf hl ⟨Nat.le_refl 0, Nat.le_refl 0⟩
end
