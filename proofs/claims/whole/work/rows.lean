section
-- ===== PART A: goes FIRST, ahead of the names: the tables' words, and 'selects' of the private methods out of them =====
/-- a private method of a class that the tables say can be made, by its rows of tables_1 -/
def lw_okq (q : MethodName × Nat) : Prop := (q.1.cls ≠ "java/lang/invoke/MethodHandle" ∧ q.1.cls ≠ "java/lang/invoke/VarHandle") ∧ Cond.instantiable q.1.cls q.2 ∈ tables_1 ∧ Cond.privateMethod q.1 ∈ tables_1 ∧ Cond.instanceMethod q.1 ∈ tables_1
theorem lw_p0 : lw_okq (⟨"TreeCounts$Trees", "sumOverParts", "(I)J"⟩, 5) := ⟨⟨by decide +kernel, by decide +kernel⟩, List.mem_of_getElem? (i := 115) (by decide +kernel), List.mem_of_getElem? (i := 309) (by decide +kernel), List.mem_of_getElem? (i := 310) (by decide +kernel)⟩
theorem lw_p1 : lw_okq (⟨"TreeCounts$Grid", "rowWithLowestBit", "(I)I"⟩, 2) := ⟨⟨by decide +kernel, by decide +kernel⟩, List.mem_of_getElem? (i := 95) (by decide +kernel), List.mem_of_getElem? (i := 333) (by decide +kernel), List.mem_of_getElem? (i := 334) (by decide +kernel)⟩
theorem lw_p2 : lw_okq (⟨"TreeCounts$Grid", "clearBelow", "(I)V"⟩, 2) := ⟨⟨by decide +kernel, by decide +kernel⟩, List.mem_of_getElem? (i := 95) (by decide +kernel), List.mem_of_getElem? (i := 344) (by decide +kernel), List.mem_of_getElem? (i := 345) (by decide +kernel)⟩
theorem lw_p3 : lw_okq (⟨"TreeCounts$Trees", "beginChoice", "()V"⟩, 5) := ⟨⟨by decide +kernel, by decide +kernel⟩, List.mem_of_getElem? (i := 115) (by decide +kernel), List.mem_of_getElem? (i := 440) (by decide +kernel), List.mem_of_getElem? (i := 441) (by decide +kernel)⟩
theorem lw_p4 : lw_okq (⟨"TreeCounts$Trees", "sumIfTaken", "(I)J"⟩, 5) := ⟨⟨by decide +kernel, by decide +kernel⟩, List.mem_of_getElem? (i := 115) (by decide +kernel), List.mem_of_getElem? (i := 444) (by decide +kernel), List.mem_of_getElem? (i := 445) (by decide +kernel)⟩
theorem lw_p5 : lw_okq (⟨"TreeCounts$Trees", "take", "(IJ)V"⟩, 5) := ⟨⟨by decide +kernel, by decide +kernel⟩, List.mem_of_getElem? (i := 115) (by decide +kernel), List.mem_of_getElem? (i := 452) (by decide +kernel), List.mem_of_getElem? (i := 453) (by decide +kernel)⟩
theorem lw_p6 : lw_okq (⟨"TreeCounts$Rings", "untaken", "(II)I"⟩, 5) := ⟨⟨by decide +kernel, by decide +kernel⟩, List.mem_of_getElem? (i := 137) (by decide +kernel), List.mem_of_getElem? (i := 482) (by decide +kernel), List.mem_of_getElem? (i := 483) (by decide +kernel)⟩
theorem lw_p7 : lw_okq (⟨"TreeCounts$Rings", "findWaysBack", "(II)V"⟩, 5) := ⟨⟨by decide +kernel, by decide +kernel⟩, List.mem_of_getElem? (i := 137) (by decide +kernel), List.mem_of_getElem? (i := 486) (by decide +kernel), List.mem_of_getElem? (i := 487) (by decide +kernel)⟩
theorem lw_p8 : lw_okq (⟨"TreeCounts$Rings", "reach", "(II)I"⟩, 5) := ⟨⟨by decide +kernel, by decide +kernel⟩, List.mem_of_getElem? (i := 137) (by decide +kernel), List.mem_of_getElem? (i := 490) (by decide +kernel), List.mem_of_getElem? (i := 491) (by decide +kernel)⟩
theorem lw_p9 : lw_okq (⟨"TreeCounts$Group", "reduceAll", "()V"⟩, 9) := ⟨⟨by decide +kernel, by decide +kernel⟩, List.mem_of_getElem? (i := 161) (by decide +kernel), List.mem_of_getElem? (i := 506) (by decide +kernel), List.mem_of_getElem? (i := 507) (by decide +kernel)⟩
theorem lw_p10 : lw_okq (⟨"TreeCounts$Group", "reduced", "(J)J"⟩, 9) := ⟨⟨by decide +kernel, by decide +kernel⟩, List.mem_of_getElem? (i := 161) (by decide +kernel), List.mem_of_getElem? (i := 510) (by decide +kernel), List.mem_of_getElem? (i := 511) (by decide +kernel)⟩
theorem lw_p11 : lw_okq (⟨"TreeCounts$Group", "clearLine", "(I)V"⟩, 9) := ⟨⟨by decide +kernel, by decide +kernel⟩, List.mem_of_getElem? (i := 161) (by decide +kernel), List.mem_of_getElem? (i := 514) (by decide +kernel), List.mem_of_getElem? (i := 515) (by decide +kernel)⟩
theorem lw_p12 : lw_okq (⟨"TreeCounts$Group", "mixRows", "(II)V"⟩, 9) := ⟨⟨by decide +kernel, by decide +kernel⟩, List.mem_of_getElem? (i := 161) (by decide +kernel), List.mem_of_getElem? (i := 518) (by decide +kernel), List.mem_of_getElem? (i := 519) (by decide +kernel)⟩
theorem lw_p13 : lw_okq (⟨"TreeCounts$Group", "measure", "(JJ)V"⟩, 9) := ⟨⟨by decide +kernel, by decide +kernel⟩, List.mem_of_getElem? (i := 161) (by decide +kernel), List.mem_of_getElem? (i := 522) (by decide +kernel), List.mem_of_getElem? (i := 523) (by decide +kernel)⟩
theorem lw_p14 : lw_okq (⟨"TreeCounts$Group", "times", "(JJ)J"⟩, 9) := ⟨⟨by decide +kernel, by decide +kernel⟩, List.mem_of_getElem? (i := 161) (by decide +kernel), List.mem_of_getElem? (i := 526) (by decide +kernel), List.mem_of_getElem? (i := 527) (by decide +kernel)⟩
theorem lw_p15 : lw_okq (⟨"TreeCounts$Group", "isRowClear", "(I)Z"⟩, 9) := ⟨⟨by decide +kernel, by decide +kernel⟩, List.mem_of_getElem? (i := 161) (by decide +kernel), List.mem_of_getElem? (i := 532) (by decide +kernel), List.mem_of_getElem? (i := 533) (by decide +kernel)⟩
def lw_privs_1 : List (MethodName × Nat) := [(⟨"TreeCounts$Trees", "sumOverParts", "(I)J"⟩, 5), (⟨"TreeCounts$Grid", "rowWithLowestBit", "(I)I"⟩, 2), (⟨"TreeCounts$Grid", "clearBelow", "(I)V"⟩, 2), (⟨"TreeCounts$Trees", "beginChoice", "()V"⟩, 5), (⟨"TreeCounts$Trees", "sumIfTaken", "(I)J"⟩, 5), (⟨"TreeCounts$Trees", "take", "(IJ)V"⟩, 5), (⟨"TreeCounts$Rings", "untaken", "(II)I"⟩, 5), (⟨"TreeCounts$Rings", "findWaysBack", "(II)V"⟩, 5), (⟨"TreeCounts$Rings", "reach", "(II)I"⟩, 5), (⟨"TreeCounts$Group", "reduceAll", "()V"⟩, 9), (⟨"TreeCounts$Group", "reduced", "(J)J"⟩, 9), (⟨"TreeCounts$Group", "clearLine", "(I)V"⟩, 9), (⟨"TreeCounts$Group", "mixRows", "(II)V"⟩, 9), (⟨"TreeCounts$Group", "measure", "(JJ)V"⟩, 9), (⟨"TreeCounts$Group", "times", "(JJ)J"⟩, 9), (⟨"TreeCounts$Group", "isRowClear", "(I)Z"⟩, 9)]
theorem lw_r1 : ∀ q ∈ lw_privs_1, lw_okq q := List.forall_mem_cons.mpr ⟨lw_p0, List.forall_mem_cons.mpr ⟨lw_p1, List.forall_mem_cons.mpr ⟨lw_p2, List.forall_mem_cons.mpr ⟨lw_p3, List.forall_mem_cons.mpr ⟨lw_p4, List.forall_mem_cons.mpr ⟨lw_p5, List.forall_mem_cons.mpr ⟨lw_p6, List.forall_mem_cons.mpr ⟨lw_p7, List.forall_mem_cons.mpr ⟨lw_p8, List.forall_mem_cons.mpr ⟨lw_p9, List.forall_mem_cons.mpr ⟨lw_p10, List.forall_mem_cons.mpr ⟨lw_p11, List.forall_mem_cons.mpr ⟨lw_p12, List.forall_mem_cons.mpr ⟨lw_p13, List.forall_mem_cons.mpr ⟨lw_p14, List.forall_mem_cons.mpr ⟨lw_p15, fun _ h => absurd h List.not_mem_nil⟩⟩⟩⟩⟩⟩⟩⟩⟩⟩⟩⟩⟩⟩⟩⟩
theorem lw_p16 : lw_okq (⟨"TreeCounts$Group", "transpose", "(I)V"⟩, 9) := ⟨⟨by decide +kernel, by decide +kernel⟩, List.mem_of_getElem? (i := 161) (by decide +kernel), List.mem_of_getElem? (i := 536) (by decide +kernel), List.mem_of_getElem? (i := 537) (by decide +kernel)⟩
theorem lw_p17 : lw_okq (⟨"TreeCounts$Group", "makeChain", "()V"⟩, 9) := ⟨⟨by decide +kernel, by decide +kernel⟩, List.mem_of_getElem? (i := 161) (by decide +kernel), List.mem_of_getElem? (i := 541) (by decide +kernel), List.mem_of_getElem? (i := 542) (by decide +kernel)⟩
theorem lw_p18 : lw_okq (⟨"TreeCounts$Piles", "run", "([J[JI)V"⟩, 6) := ⟨⟨by decide +kernel, by decide +kernel⟩, List.mem_of_getElem? (i := 196) (by decide +kernel), List.mem_of_getElem? (i := 570) (by decide +kernel), List.mem_of_getElem? (i := 571) (by decide +kernel)⟩
theorem lw_p19 : lw_okq (⟨"TreeCounts$Piles", "fire", "([JIJ)V"⟩, 6) := ⟨⟨by decide +kernel, by decide +kernel⟩, List.mem_of_getElem? (i := 196) (by decide +kernel), List.mem_of_getElem? (i := 575) (by decide +kernel), List.mem_of_getElem? (i := 576) (by decide +kernel)⟩
theorem lw_p20 : lw_okq (⟨"java/lang/Throwable", "fillInStackTrace", "(I)Ljava/lang/Throwable;"⟩, 6) := ⟨⟨by decide +kernel, by decide +kernel⟩, List.mem_of_getElem? (i := 657) (by decide +kernel), List.mem_of_getElem? (i := 655) (by decide +kernel), List.mem_of_getElem? (i := 656) (by decide +kernel)⟩
theorem lw_p21 : lw_okq (⟨"TreeCountsModel", "isNode", "(I)Z"⟩, 25) := ⟨⟨by decide +kernel, by decide +kernel⟩, List.mem_of_getElem? (i := 708) (by decide +kernel), List.mem_of_getElem? (i := 803) (by decide +kernel), List.mem_of_getElem? (i := 804) (by decide +kernel)⟩
theorem lw_p22 : lw_okq (⟨"TreeCountsModel", "apartAll", "()V"⟩, 25) := ⟨⟨by decide +kernel, by decide +kernel⟩, List.mem_of_getElem? (i := 708) (by decide +kernel), List.mem_of_getElem? (i := 819) (by decide +kernel), List.mem_of_getElem? (i := 820) (by decide +kernel)⟩
theorem lw_p23 : lw_okq (⟨"TreeCountsModel", "noneOut", "()V"⟩, 25) := ⟨⟨by decide +kernel, by decide +kernel⟩, List.mem_of_getElem? (i := 708) (by decide +kernel), List.mem_of_getElem? (i := 823) (by decide +kernel), List.mem_of_getElem? (i := 824) (by decide +kernel)⟩
theorem lw_p24 : lw_okq (⟨"TreeCountsModel", "count", "()J"⟩, 25) := ⟨⟨by decide +kernel, by decide +kernel⟩, List.mem_of_getElem? (i := 708) (by decide +kernel), List.mem_of_getElem? (i := 827) (by decide +kernel), List.mem_of_getElem? (i := 828) (by decide +kernel)⟩
theorem lw_p25 : lw_okq (⟨"TreeCountsModel", "number", "(II)I"⟩, 25) := ⟨⟨by decide +kernel, by decide +kernel⟩, List.mem_of_getElem? (i := 708) (by decide +kernel), List.mem_of_getElem? (i := 831) (by decide +kernel), List.mem_of_getElem? (i := 832) (by decide +kernel)⟩
theorem lw_p26 : lw_okq (⟨"TreeCountsModel", "isFirst", "(I)Z"⟩, 25) := ⟨⟨by decide +kernel, by decide +kernel⟩, List.mem_of_getElem? (i := 708) (by decide +kernel), List.mem_of_getElem? (i := 835) (by decide +kernel), List.mem_of_getElem? (i := 836) (by decide +kernel)⟩
theorem lw_p27 : lw_okq (⟨"TreeCountsModel", "rows", "(J)V"⟩, 25) := ⟨⟨by decide +kernel, by decide +kernel⟩, List.mem_of_getElem? (i := 708) (by decide +kernel), List.mem_of_getElem? (i := 839) (by decide +kernel), List.mem_of_getElem? (i := 840) (by decide +kernel)⟩
theorem lw_p28 : lw_okq (⟨"TreeCountsModel", "clearRows", "()V"⟩, 25) := ⟨⟨by decide +kernel, by decide +kernel⟩, List.mem_of_getElem? (i := 708) (by decide +kernel), List.mem_of_getElem? (i := 843) (by decide +kernel), List.mem_of_getElem? (i := 844) (by decide +kernel)⟩
theorem lw_p29 : lw_okq (⟨"TreeCountsModel", "addTo", "(IIJ)V"⟩, 25) := ⟨⟨by decide +kernel, by decide +kernel⟩, List.mem_of_getElem? (i := 708) (by decide +kernel), List.mem_of_getElem? (i := 847) (by decide +kernel), List.mem_of_getElem? (i := 848) (by decide +kernel)⟩
theorem lw_p30 : lw_okq (⟨"TreeCountsModel", "determinant", "(I)J"⟩, 25) := ⟨⟨by decide +kernel, by decide +kernel⟩, List.mem_of_getElem? (i := 708) (by decide +kernel), List.mem_of_getElem? (i := 851) (by decide +kernel), List.mem_of_getElem? (i := 852) (by decide +kernel)⟩
theorem lw_p31 : lw_okq (⟨"TreeCountsModel", "modulo", "(IJ)J"⟩, 25) := ⟨⟨by decide +kernel, by decide +kernel⟩, List.mem_of_getElem? (i := 708) (by decide +kernel), List.mem_of_getElem? (i := 856) (by decide +kernel), List.mem_of_getElem? (i := 857) (by decide +kernel)⟩
def lw_privs_2 : List (MethodName × Nat) := [(⟨"TreeCounts$Group", "transpose", "(I)V"⟩, 9), (⟨"TreeCounts$Group", "makeChain", "()V"⟩, 9), (⟨"TreeCounts$Piles", "run", "([J[JI)V"⟩, 6), (⟨"TreeCounts$Piles", "fire", "([JIJ)V"⟩, 6), (⟨"java/lang/Throwable", "fillInStackTrace", "(I)Ljava/lang/Throwable;"⟩, 6), (⟨"TreeCountsModel", "isNode", "(I)Z"⟩, 25), (⟨"TreeCountsModel", "apartAll", "()V"⟩, 25), (⟨"TreeCountsModel", "noneOut", "()V"⟩, 25), (⟨"TreeCountsModel", "count", "()J"⟩, 25), (⟨"TreeCountsModel", "number", "(II)I"⟩, 25), (⟨"TreeCountsModel", "isFirst", "(I)Z"⟩, 25), (⟨"TreeCountsModel", "rows", "(J)V"⟩, 25), (⟨"TreeCountsModel", "clearRows", "()V"⟩, 25), (⟨"TreeCountsModel", "addTo", "(IIJ)V"⟩, 25), (⟨"TreeCountsModel", "determinant", "(I)J"⟩, 25), (⟨"TreeCountsModel", "modulo", "(IJ)J"⟩, 25)]
theorem lw_r2 : ∀ q ∈ lw_privs_2, lw_okq q := List.forall_mem_cons.mpr ⟨lw_p16, List.forall_mem_cons.mpr ⟨lw_p17, List.forall_mem_cons.mpr ⟨lw_p18, List.forall_mem_cons.mpr ⟨lw_p19, List.forall_mem_cons.mpr ⟨lw_p20, List.forall_mem_cons.mpr ⟨lw_p21, List.forall_mem_cons.mpr ⟨lw_p22, List.forall_mem_cons.mpr ⟨lw_p23, List.forall_mem_cons.mpr ⟨lw_p24, List.forall_mem_cons.mpr ⟨lw_p25, List.forall_mem_cons.mpr ⟨lw_p26, List.forall_mem_cons.mpr ⟨lw_p27, List.forall_mem_cons.mpr ⟨lw_p28, List.forall_mem_cons.mpr ⟨lw_p29, List.forall_mem_cons.mpr ⟨lw_p30, List.forall_mem_cons.mpr ⟨lw_p31, fun _ h => absurd h List.not_mem_nil⟩⟩⟩⟩⟩⟩⟩⟩⟩⟩⟩⟩⟩⟩⟩⟩
theorem lw_p32 : lw_okq (⟨"TreeCountsModel", "join", "(II)Z"⟩, 25) := ⟨⟨by decide +kernel, by decide +kernel⟩, List.mem_of_getElem? (i := 708) (by decide +kernel), List.mem_of_getElem? (i := 896) (by decide +kernel), List.mem_of_getElem? (i := 897) (by decide +kernel)⟩
theorem lw_p33 : lw_okq (⟨"TreeCountsModel", "with", "(I)J"⟩, 25) := ⟨⟨by decide +kernel, by decide +kernel⟩, List.mem_of_getElem? (i := 708) (by decide +kernel), List.mem_of_getElem? (i := 904) (by decide +kernel), List.mem_of_getElem? (i := 905) (by decide +kernel)⟩
theorem lw_p34 : lw_okq (⟨"TreeCountsModel", "takeTrees", "()I"⟩, 25) := ⟨⟨by decide +kernel, by decide +kernel⟩, List.mem_of_getElem? (i := 708) (by decide +kernel), List.mem_of_getElem? (i := 916) (by decide +kernel), List.mem_of_getElem? (i := 917) (by decide +kernel)⟩
theorem lw_p35 : lw_okq (⟨"TreeCountsModel", "ringOf", "(I)V"⟩, 25) := ⟨⟨by decide +kernel, by decide +kernel⟩, List.mem_of_getElem? (i := 708) (by decide +kernel), List.mem_of_getElem? (i := 920) (by decide +kernel), List.mem_of_getElem? (i := 921) (by decide +kernel)⟩
theorem lw_p36 : lw_okq (⟨"TreeCountsModel", "findRounds", "()Z"⟩, 25) := ⟨⟨by decide +kernel, by decide +kernel⟩, List.mem_of_getElem? (i := 708) (by decide +kernel), List.mem_of_getElem? (i := 928) (by decide +kernel), List.mem_of_getElem? (i := 929) (by decide +kernel)⟩
theorem lw_p37 : lw_okq (⟨"TreeCountsModel", "commonFrom", "(IIJ)J"⟩, 25) := ⟨⟨by decide +kernel, by decide +kernel⟩, List.mem_of_getElem? (i := 708) (by decide +kernel), List.mem_of_getElem? (i := 932) (by decide +kernel), List.mem_of_getElem? (i := 933) (by decide +kernel)⟩
theorem lw_p38 : lw_okq (⟨"TreeCountsModel", "clearCross", "(IIJ)V"⟩, 25) := ⟨⟨by decide +kernel, by decide +kernel⟩, List.mem_of_getElem? (i := 708) (by decide +kernel), List.mem_of_getElem? (i := 936) (by decide +kernel), List.mem_of_getElem? (i := 937) (by decide +kernel)⟩
theorem lw_p39 : lw_okq (⟨"TreeCountsModel", "lessRow", "(IIJIJ)V"⟩, 25) := ⟨⟨by decide +kernel, by decide +kernel⟩, List.mem_of_getElem? (i := 708) (by decide +kernel), List.mem_of_getElem? (i := 940) (by decide +kernel), List.mem_of_getElem? (i := 941) (by decide +kernel)⟩
theorem lw_p40 : lw_okq (⟨"TreeCountsModel", "swapRows", "(III)V"⟩, 25) := ⟨⟨by decide +kernel, by decide +kernel⟩, List.mem_of_getElem? (i := 708) (by decide +kernel), List.mem_of_getElem? (i := 947) (by decide +kernel), List.mem_of_getElem? (i := 948) (by decide +kernel)⟩
theorem lw_p41 : lw_okq (⟨"TreeCountsModel", "lessColumn", "(IIJIJ)V"⟩, 25) := ⟨⟨by decide +kernel, by decide +kernel⟩, List.mem_of_getElem? (i := 708) (by decide +kernel), List.mem_of_getElem? (i := 951) (by decide +kernel), List.mem_of_getElem? (i := 952) (by decide +kernel)⟩
theorem lw_p42 : lw_okq (⟨"TreeCountsModel", "swapColumns", "(III)V"⟩, 25) := ⟨⟨by decide +kernel, by decide +kernel⟩, List.mem_of_getElem? (i := 708) (by decide +kernel), List.mem_of_getElem? (i := 955) (by decide +kernel), List.mem_of_getElem? (i := 956) (by decide +kernel)⟩
theorem lw_p43 : lw_okq (⟨"TreeCountsModel", "isOther", "(IIIJ)Z"⟩, 25) := ⟨⟨by decide +kernel, by decide +kernel⟩, List.mem_of_getElem? (i := 708) (by decide +kernel), List.mem_of_getElem? (i := 959) (by decide +kernel), List.mem_of_getElem? (i := 960) (by decide +kernel)⟩
theorem lw_p44 : lw_okq (⟨"TreeCountsModel", "beginPile", "()V"⟩, 25) := ⟨⟨by decide +kernel, by decide +kernel⟩, List.mem_of_getElem? (i := 708) (by decide +kernel), List.mem_of_getElem? (i := 975) (by decide +kernel), List.mem_of_getElem? (i := 976) (by decide +kernel)⟩
theorem lw_p45 : lw_okq (⟨"TreeCountsModel", "settlePile", "(I)J"⟩, 25) := ⟨⟨by decide +kernel, by decide +kernel⟩, List.mem_of_getElem? (i := 708) (by decide +kernel), List.mem_of_getElem? (i := 979) (by decide +kernel), List.mem_of_getElem? (i := 980) (by decide +kernel)⟩
theorem lw_p46 : lw_okq (⟨"TreeCountsModel", "degree", "(I)J"⟩, 25) := ⟨⟨by decide +kernel, by decide +kernel⟩, List.mem_of_getElem? (i := 708) (by decide +kernel), List.mem_of_getElem? (i := 983) (by decide +kernel), List.mem_of_getElem? (i := 984) (by decide +kernel)⟩
theorem lw_p47 : lw_okq (⟨"TreeCountsModel", "fireNode", "(IJ)V"⟩, 25) := ⟨⟨by decide +kernel, by decide +kernel⟩, List.mem_of_getElem? (i := 708) (by decide +kernel), List.mem_of_getElem? (i := 987) (by decide +kernel), List.mem_of_getElem? (i := 988) (by decide +kernel)⟩
def lw_privs_3 : List (MethodName × Nat) := [(⟨"TreeCountsModel", "join", "(II)Z"⟩, 25), (⟨"TreeCountsModel", "with", "(I)J"⟩, 25), (⟨"TreeCountsModel", "takeTrees", "()I"⟩, 25), (⟨"TreeCountsModel", "ringOf", "(I)V"⟩, 25), (⟨"TreeCountsModel", "findRounds", "()Z"⟩, 25), (⟨"TreeCountsModel", "commonFrom", "(IIJ)J"⟩, 25), (⟨"TreeCountsModel", "clearCross", "(IIJ)V"⟩, 25), (⟨"TreeCountsModel", "lessRow", "(IIJIJ)V"⟩, 25), (⟨"TreeCountsModel", "swapRows", "(III)V"⟩, 25), (⟨"TreeCountsModel", "lessColumn", "(IIJIJ)V"⟩, 25), (⟨"TreeCountsModel", "swapColumns", "(III)V"⟩, 25), (⟨"TreeCountsModel", "isOther", "(IIIJ)Z"⟩, 25), (⟨"TreeCountsModel", "beginPile", "()V"⟩, 25), (⟨"TreeCountsModel", "settlePile", "(I)J"⟩, 25), (⟨"TreeCountsModel", "degree", "(I)J"⟩, 25), (⟨"TreeCountsModel", "fireNode", "(IJ)V"⟩, 25)]
theorem lw_r3 : ∀ q ∈ lw_privs_3, lw_okq q := List.forall_mem_cons.mpr ⟨lw_p32, List.forall_mem_cons.mpr ⟨lw_p33, List.forall_mem_cons.mpr ⟨lw_p34, List.forall_mem_cons.mpr ⟨lw_p35, List.forall_mem_cons.mpr ⟨lw_p36, List.forall_mem_cons.mpr ⟨lw_p37, List.forall_mem_cons.mpr ⟨lw_p38, List.forall_mem_cons.mpr ⟨lw_p39, List.forall_mem_cons.mpr ⟨lw_p40, List.forall_mem_cons.mpr ⟨lw_p41, List.forall_mem_cons.mpr ⟨lw_p42, List.forall_mem_cons.mpr ⟨lw_p43, List.forall_mem_cons.mpr ⟨lw_p44, List.forall_mem_cons.mpr ⟨lw_p45, List.forall_mem_cons.mpr ⟨lw_p46, List.forall_mem_cons.mpr ⟨lw_p47, fun _ h => absurd h List.not_mem_nil⟩⟩⟩⟩⟩⟩⟩⟩⟩⟩⟩⟩⟩⟩⟩⟩
theorem lw_p48 : lw_okq (⟨"TreeCountsModel", "rank", "(I)I"⟩, 25) := ⟨⟨by decide +kernel, by decide +kernel⟩, List.mem_of_getElem? (i := 708) (by decide +kernel), List.mem_of_getElem? (i := 1003) (by decide +kernel), List.mem_of_getElem? (i := 1004) (by decide +kernel)⟩
def lw_privs_4 : List (MethodName × Nat) := [(⟨"TreeCountsModel", "rank", "(I)I"⟩, 25)]
theorem lw_r4 : ∀ q ∈ lw_privs_4, lw_okq q := List.forall_mem_cons.mpr ⟨lw_p48, fun _ h => absurd h List.not_mem_nil⟩
def lw_privs : List (MethodName × Nat) := lw_privs_1 ++ (lw_privs_2 ++ (lw_privs_3 ++ (lw_privs_4)))
def lw_tbl : List Cond := k2_sels lw_privs ++ tables_1
theorem lw_privs_ok : ∀ q ∈ lw_privs, lw_okq q := by
  show ∀ q ∈ lw_privs_1 ++ (lw_privs_2 ++ (lw_privs_3 ++ (lw_privs_4))), lw_okq q
  exact List.forall_mem_append.mpr ⟨lw_r1, List.forall_mem_append.mpr ⟨lw_r2, List.forall_mem_append.mpr ⟨lw_r3, lw_r4⟩⟩⟩
end
section
/-! Z: a walk of one method, with the machine's fixed things put away. The heap from address b on is a map of cells: the cell k lies at b + k; N cells are there. A contract zM says what a method makes of the whole map. -/
def zUp (σ : Nat → Option va_E) (k : Nat) (x : va_E) : Nat → Option va_E := fun j => if j = k then some x else σ j
def zP (D : va_G) (cl : List vw_C) (b N : Nat) (σ : Nat → Option va_E) (H : Heap) : Prop := H.size = b + N ∧ ∀ (k : Nat) (x : va_E), σ k = some x → va_at D cl (b + k, x) H
def zIsN (w : Cond) : Bool := match w with
  | .fieldLinkNest _ _ _ _ _ _ => true
  | .methodLinkNest _ _ _ _ => true
  | _ => false
def zN (Nw : List Cond) (U : State) : Prop := ∀ w ∈ Nw, va_Nw w U ∧ zIsN w = true
def zF (D : va_G) (cl : List vw_C) (tys : List (ClassId × FieldType)) (Ts Nw : List Cond) (own nm : String) (cc : ByteArray) (nL : Nat) (ret : Option FieldType) (b : Nat) (p : Program) (s : State) (m : MethodId) (args : Array Value) (meth : Method) (c : Code) : Prop :=
  p.tables.exec = Jvm.exec ∧ c.code = cc ∧ c.maxLocals = nL ∧ meth.sig.returnType = ret ∧ meth.locks = false ∧ s.vm.findClass own = some m.cls ∧ (∀ w ∈ Ts, w.before args s = true) ∧ va_K D cl tys s ∧ zN Nw s ∧ meth.name = nm ∧ b ≤ s.heap.size
def Z (l : Launch) (D : va_G) (cl : List vw_C) (tys : List (ClassId × FieldType)) (Ts Nw : List Cond) (own nm : String) (cc : ByteArray) (nL : Nat) (ret : Option FieldType) (R : Room) (b : Nat) (Fi : List Frame → Array Value → State → State → Prop) (k n N : Nat) (σ : Nat → Option va_E) (pc : Nat) (lv : List (Nat × Value)) (st : List Value) : Prop :=
  ∀ (p : Program) (e : Env) (s : State) (m : MethodId) (args : Array Value) (below : List Frame) (meth : Method) (c : Code) (H : Heap) (locs : List Loc) (ls : Array Slot),
    zF D cl tys Ts Nw own nm cc nL ret b p s m args meth c → zP D cl b N σ H → va_S (fun q => b ≤ q) s.heap H locs → lv_has ls nL lv →
    W p l e R s m args below meth c H locs k n (Fi below args s) (F0 m pc ls st)
/-- a method's end -/
def zQ (D : va_G) (cl : List vw_C) (b : Nat) (Q : Outcome → Nat → (Nat → Option va_E) → Prop) : Array Value → State → Outcome → State → Prop := fun _ st oc t =>
  (∃ (N : Nat) (σ : Nat → Option va_E), Q oc N σ ∧ zP D cl b N σ t.heap) ∧ va_F (fun q => b ≤ q) st t
def zFi (D : va_G) (cl : List vw_C) (b mc ms : Nat) (Q : Outcome → Nat → (Nat → Option va_E) → Prop) : List Frame → Array Value → State → State → Prop := fun below args s => MQ below (zQ D cl b Q) args s mc ms (fun q => b ≤ q)
/-- a contract -/
def zM (l : Launch) (D : va_G) (cl : List vw_C) (tys : List (ClassId × FieldType)) (Nw : List Cond) (b : Nat) (y : MethodName) (ws : List Cond) (fr lo mc ms : Nat) (av : List Value) (N : Nat) (σ : Nat → Option va_E) (Q : Outcome → Nat → (Nat → Option va_E) → Prop) : Prop :=
  Met l y ws { frames := fr, cells := mc, slots := ms, locals := lo } (va_Pc av (fun U => zP D cl b N σ U.heap ∧ va_K D cl tys U ∧ zN Nw U)) (zQ D cl b Q) mc ms (fun q => b ≤ q)
/-- one answer, one heap -/
def zD (v : Option Value) (N : Nat) (σ : Nat → Option va_E) : Outcome → Nat → (Nat → Option va_E) → Prop := fun oc N' σ' => oc = .returned v ∧ N' = N ∧ σ' = σ
theorem zUp_s (σ : Nat → Option va_E) (k : Nat) (x : va_E) : zUp σ k x k = some x := if_pos rfl
theorem zUp_n {σ : Nat → Option va_E} {k j : Nat} {x : va_E} (h : j ≠ k) : zUp σ k x j = σ j := if_neg h
theorem zP.set {D : va_G} {cl : List vw_C} {b N k : Nat} {σ : Nat → Option va_E} {x0 x : va_E} {H H1 : Heap} (h : zP D cl b N σ H) (z : H1.size = H.size) (oq : ∀ q : Nat, q ≠ b + k → H1[q]? = H[q]?) (hx : va_at D cl (b + k, x) H1) : zP D cl b N (zUp σ k x) H1 := by
  refine ⟨z.trans h.1, fun j y hy => ?_⟩
  by_cases hj : j = k
  · subst hj
    rw [zUp_s] at hy
    cases hy
    exact hx
  · rw [zUp_n hj] at hy
    exact (h.2 j y hy).kept (oq (b + j) (by omega))
theorem zP.push {D : va_G} {cl : List vw_C} {b N : Nat} {σ : Nat → Option va_E} {x : va_E} {H H1 : Heap} (h : zP D cl b N σ H) (z : H1.size = b + N + 1) (oq : ∀ q : Nat, q < b + N → H1[q]? = H[q]?) (hx : va_at D cl (b + N, x) H1) : zP D cl b (N + 1) (zUp σ N x) H1 := by
  refine ⟨z, fun j y hy => ?_⟩
  by_cases hj : j = N
  · subst hj
    rw [zUp_s] at hy
    cases hy
    exact hx
  · rw [zUp_n hj] at hy
    have h1 := h.2 j y hy
    have h2 := h1.lt
    rw [h.1] at h2
    exact h1.kept (oq (b + j) h2)
theorem zP.one {D : va_G} {cl : List vw_C} {b N k : Nat} {σ : Nat → Option va_E} {x : va_E} {H : Heap} (h : zP D cl b N σ H) (hk : σ k = some x) : va_P D cl [(b + k, x)] H := by
  intro j q hq
  match j, hq with
  | 0, hq => cases hq; exact h.2 k x hk
  | j + 1, hq => simp at hq
theorem zN.same {Nw : List Cond} {u U : State} (h : u.vm = U.vm) (hN : zN Nw u) : zN Nw U := by
  intro w hw
  obtain ⟨h1, h2⟩ := hN w hw
  refine ⟨?_, h2⟩
  cases w <;> simp [zIsN] at h2
  · exact h1.same rfl h
  · exact h1.same rfl h
theorem zN.warm {Nw : List Cond} {u U : State} (h : u.WarmedH U.vm) (hN : zN Nw u) : zN Nw U := by
  intro w hw
  obtain ⟨h1, h2⟩ := hN w hw
  refine ⟨?_, h2⟩
  cases w <;> simp [zIsN] at h2
  · first | exact h1.warmF h | exact h1.warmM h
  · first | exact h1.warmM h | exact h1.warmF h
section ZR
variable {l : Launch} {D : va_G} {cl : List vw_C} {tys : List (ClassId × FieldType)} {Ts Nw : List Cond} {own nm : String} {cc : ByteArray} {nL : Nat} {ret : Option FieldType} {R : Room} {b : Nat} {Fi : List Frame → Array Value → State → State → Prop} {k n N : Nat} {σ : Nat → Option va_E} {pc : Nat} {lv : List (Nat × Value)} {st : List Value}
theorem z_iconst {i : Int} {v : Int32} (hd : decode cc pc = .ok (.iconst i, 1)) (hv : Int32.ofInt i = v) (kk : Z l D cl tys Ts Nw own nm cc nL ret R b Fi k n N σ (pc + 1) lv (.int v :: st)) : Z l D cl tys Ts Nw own nm cc nL ret R b Fi k n N σ pc lv (st) := fun p e s m args below meth c H locs ls hF hP hS hl => lv_iconst hF.1 hF.2.1 hd hv (kk p e s m args below meth c H locs ls hF hP hS hl)
theorem z_bipush {i : Int} {v : Int32} (hd : decode cc pc = .ok (.bipush i, 2)) (hv : (Int8.ofInt i).toInt32 = v) (kk : Z l D cl tys Ts Nw own nm cc nL ret R b Fi k n N σ (pc + 2) lv (.int v :: st)) : Z l D cl tys Ts Nw own nm cc nL ret R b Fi k n N σ pc lv (st) := fun p e s m args below meth c H locs ls hF hP hS hl => lv_bipush hF.1 hF.2.1 hd hv (kk p e s m args below meth c H locs ls hF hP hS hl)
theorem z_sipush {i : Int} {v : Int32} (hd : decode cc pc = .ok (.sipush i, 3)) (hv : (Int16.ofInt i).toInt32 = v) (kk : Z l D cl tys Ts Nw own nm cc nL ret R b Fi k n N σ (pc + 3) lv (.int v :: st)) : Z l D cl tys Ts Nw own nm cc nL ret R b Fi k n N σ pc lv (st) := fun p e s m args below meth c H locs ls hF hP hS hl => lv_sipush hF.1 hF.2.1 hd hv (kk p e s m args below meth c H locs ls hF hP hS hl)
theorem z_lconst {i : Fin 2} {v : Int64} (hd : decode cc pc = .ok (.lconst i, 1)) (hv : Int64.ofNat (i : Nat) = v) (kk : Z l D cl tys Ts Nw own nm cc nL ret R b Fi k n N σ (pc + 1) lv (.long v :: st)) : Z l D cl tys Ts Nw own nm cc nL ret R b Fi k n N σ pc lv (st) := fun p e s m args below meth c H locs ls hF hP hS hl => lv_lconst hF.1 hF.2.1 hd hv (kk p e s m args below meth c H locs ls hF hP hS hl)
theorem z_ldc {index : Nat} {v : Int32} (hd : decode cc pc = .ok (.ldc index, 2)) (hw : Jvm.Cond.constant own index v ∈ Ts) (kk : Z l D cl tys Ts Nw own nm cc nL ret R b Fi k n N σ (pc + 2) lv (.int v :: st)) : Z l D cl tys Ts Nw own nm cc nL ret R b Fi k n N σ pc lv (st) := fun p e s m args below meth c H locs ls hF hP hS hl => lv_ldc hF.1 hF.2.1 hF.2.2.2.2.2.1 (hF.2.2.2.2.2.2.1 _ hw) hd (kk p e s m args below meth c H locs ls hF hP hS hl)
theorem z_ldc2 {index : Nat} {v : Int64} (hd : decode cc pc = .ok (.ldc2_w index, 3)) (hw : Jvm.Cond.constantLong own index v ∈ Ts) (kk : Z l D cl tys Ts Nw own nm cc nL ret R b Fi k n N σ (pc + 3) lv (.long v :: st)) : Z l D cl tys Ts Nw own nm cc nL ret R b Fi k n N σ pc lv (st) := fun p e s m args below meth c H locs ls hF hP hS hl => lv_ldc2 hF.1 hF.2.1 hF.2.2.2.2.2.1 (hF.2.2.2.2.2.2.1 _ hw) hd (kk p e s m args below meth c H locs ls hF hP hS hl)
theorem z_iload_n {i : Fin 4} {v : Int32} (hd : decode cc pc = .ok (.iload_n i, 1)) (j : Nat) (hj : lv[j]? = some ((i : Nat), .int v)) (kk : Z l D cl tys Ts Nw own nm cc nL ret R b Fi k n N σ (pc + 1) lv (.int v :: st)) : Z l D cl tys Ts Nw own nm cc nL ret R b Fi k n N σ pc lv (st) := fun p e s m args below meth c H locs ls hF hP hS hl => lv_iload_n hF.1 hF.2.1 hd rfl (lv_at hl j hj) (kk p e s m args below meth c H locs ls hF hP hS hl)
theorem z_iload {i : Nat} {v : Int32} (hd : decode cc pc = .ok (.iload i, 2)) (j : Nat) (hj : lv[j]? = some (i, .int v)) (kk : Z l D cl tys Ts Nw own nm cc nL ret R b Fi k n N σ (pc + 2) lv (.int v :: st)) : Z l D cl tys Ts Nw own nm cc nL ret R b Fi k n N σ pc lv (st) := fun p e s m args below meth c H locs ls hF hP hS hl => lv_iload hF.1 hF.2.1 hd (lv_at hl j hj) (kk p e s m args below meth c H locs ls hF hP hS hl)
theorem z_lload_n {i : Fin 4} {v : Int64} (hd : decode cc pc = .ok (.lload_n i, 1)) (j : Nat) (hj : lv[j]? = some ((i : Nat), .long v)) (kk : Z l D cl tys Ts Nw own nm cc nL ret R b Fi k n N σ (pc + 1) lv (.long v :: st)) : Z l D cl tys Ts Nw own nm cc nL ret R b Fi k n N σ pc lv (st) := fun p e s m args below meth c H locs ls hF hP hS hl => lv_lload_n hF.1 hF.2.1 hd rfl (lv_at hl j hj) (kk p e s m args below meth c H locs ls hF hP hS hl)
theorem z_lload {i : Nat} {v : Int64} (hd : decode cc pc = .ok (.lload i, 2)) (j : Nat) (hj : lv[j]? = some (i, .long v)) (kk : Z l D cl tys Ts Nw own nm cc nL ret R b Fi k n N σ (pc + 2) lv (.long v :: st)) : Z l D cl tys Ts Nw own nm cc nL ret R b Fi k n N σ pc lv (st) := fun p e s m args below meth c H locs ls hF hP hS hl => lv_lload hF.1 hF.2.1 hd (lv_at hl j hj) (kk p e s m args below meth c H locs ls hF hP hS hl)
theorem z_aload_n {i : Fin 4} {v : Nat} (hd : decode cc pc = .ok (.aload_n i, 1)) (j : Nat) (hj : lv[j]? = some ((i : Nat), .ref v)) (kk : Z l D cl tys Ts Nw own nm cc nL ret R b Fi k n N σ (pc + 1) lv (.ref v :: st)) : Z l D cl tys Ts Nw own nm cc nL ret R b Fi k n N σ pc lv (st) := fun p e s m args below meth c H locs ls hF hP hS hl => lv_aload_n hF.1 hF.2.1 hd rfl (lv_at hl j hj) (kk p e s m args below meth c H locs ls hF hP hS hl)
theorem z_aload {i : Nat} {v : Nat} (hd : decode cc pc = .ok (.aload i, 2)) (j : Nat) (hj : lv[j]? = some (i, .ref v)) (kk : Z l D cl tys Ts Nw own nm cc nL ret R b Fi k n N σ (pc + 2) lv (.ref v :: st)) : Z l D cl tys Ts Nw own nm cc nL ret R b Fi k n N σ pc lv (st) := fun p e s m args below meth c H locs ls hF hP hS hl => lv_aload hF.1 hF.2.1 hd (lv_at hl j hj) (kk p e s m args below meth c H locs ls hF hP hS hl)
theorem z_istore_n {i : Fin 4} {v : Int32} {lv' : List (Nat × Value)} (hd : decode cc pc = .ok (.istore_n i, 1)) (hn : (i : Nat) < nL) (hl' : ((i : Nat), Value.int v) :: lv.filter (fun q => !(q.1 == (i : Nat)) && !(q.1 + 1 == (i : Nat) && q.2.category == 2)) = lv') (kk : Z l D cl tys Ts Nw own nm cc nL ret R b Fi k n N σ (pc + 1) lv' st) : Z l D cl tys Ts Nw own nm cc nL ret R b Fi k n N σ pc lv (.int v :: st) := fun p e s m args below meth c H locs ls hF hP hS hl => lv_istore_n hF.1 hF.2.1 hd rfl hl hn hl' (fun ls2 hl2 => kk p e s m args below meth c H locs ls2 hF hP hS hl2)
theorem z_istore {i : Nat} {v : Int32} {lv' : List (Nat × Value)} (hd : decode cc pc = .ok (.istore i, 2)) (hn : i < nL) (hl' : (i, Value.int v) :: lv.filter (fun q => !(q.1 == i) && !(q.1 + 1 == i && q.2.category == 2)) = lv') (kk : Z l D cl tys Ts Nw own nm cc nL ret R b Fi k n N σ (pc + 2) lv' st) : Z l D cl tys Ts Nw own nm cc nL ret R b Fi k n N σ pc lv (.int v :: st) := fun p e s m args below meth c H locs ls hF hP hS hl => lv_istore hF.1 hF.2.1 hd hl hn hl' (fun ls2 hl2 => kk p e s m args below meth c H locs ls2 hF hP hS hl2)
theorem z_lstore_n {i : Fin 4} {v : Int64} {lv' : List (Nat × Value)} (hd : decode cc pc = .ok (.lstore_n i, 1)) (hn : (i : Nat) + 1 < nL) (hl' : ((i : Nat), Value.long v) :: lv.filter (fun q => !(q.1 == (i : Nat)) && (!(q.1 == (i : Nat) + 1) && !(q.1 + 1 == (i : Nat) && q.2.category == 2))) = lv') (kk : Z l D cl tys Ts Nw own nm cc nL ret R b Fi k n N σ (pc + 1) lv' st) : Z l D cl tys Ts Nw own nm cc nL ret R b Fi k n N σ pc lv (.long v :: st) := fun p e s m args below meth c H locs ls hF hP hS hl => lv_lstore_n hF.1 hF.2.1 hd rfl hl hn hl' (fun ls2 hl2 => kk p e s m args below meth c H locs ls2 hF hP hS hl2)
theorem z_lstore {i : Nat} {v : Int64} {lv' : List (Nat × Value)} (hd : decode cc pc = .ok (.lstore i, 2)) (hn : i + 1 < nL) (hl' : (i, Value.long v) :: lv.filter (fun q => !(q.1 == i) && (!(q.1 == i + 1) && !(q.1 + 1 == i && q.2.category == 2))) = lv') (kk : Z l D cl tys Ts Nw own nm cc nL ret R b Fi k n N σ (pc + 2) lv' st) : Z l D cl tys Ts Nw own nm cc nL ret R b Fi k n N σ pc lv (.long v :: st) := fun p e s m args below meth c H locs ls hF hP hS hl => lv_lstore hF.1 hF.2.1 hd hl hn hl' (fun ls2 hl2 => kk p e s m args below meth c H locs ls2 hF hP hS hl2)
theorem z_astore_n {i : Fin 4} {v : Nat} {lv' : List (Nat × Value)} (hd : decode cc pc = .ok (.astore_n i, 1)) (hn : (i : Nat) < nL) (hl' : ((i : Nat), Value.ref v) :: lv.filter (fun q => !(q.1 == (i : Nat)) && !(q.1 + 1 == (i : Nat) && q.2.category == 2)) = lv') (kk : Z l D cl tys Ts Nw own nm cc nL ret R b Fi k n N σ (pc + 1) lv' st) : Z l D cl tys Ts Nw own nm cc nL ret R b Fi k n N σ pc lv (.ref v :: st) := fun p e s m args below meth c H locs ls hF hP hS hl => lv_astore_n hF.1 hF.2.1 hd rfl hl hn hl' (fun ls2 hl2 => kk p e s m args below meth c H locs ls2 hF hP hS hl2)
theorem z_astore {i : Nat} {v : Nat} {lv' : List (Nat × Value)} (hd : decode cc pc = .ok (.astore i, 2)) (hn : i < nL) (hl' : (i, Value.ref v) :: lv.filter (fun q => !(q.1 == i) && !(q.1 + 1 == i && q.2.category == 2)) = lv') (kk : Z l D cl tys Ts Nw own nm cc nL ret R b Fi k n N σ (pc + 2) lv' st) : Z l D cl tys Ts Nw own nm cc nL ret R b Fi k n N σ pc lv (.ref v :: st) := fun p e s m args below meth c H locs ls hF hP hS hl => lv_astore hF.1 hF.2.1 hd hl hn hl' (fun ls2 hl2 => kk p e s m args below meth c H locs ls2 hF hP hS hl2)
theorem z_iinc {i : Nat} {d : Int} {x v : Int32} {lv' : List (Nat × Value)} (hd : decode cc pc = .ok (.iinc i d, 3)) (j : Nat) (hj : lv[j]? = some (i, .int x)) (hv : x + Int32.ofInt d = v) (hn : i < nL) (hl' : (i, Value.int v) :: lv.filter (fun q => !(q.1 == i) && !(q.1 + 1 == i && q.2.category == 2)) = lv') (kk : Z l D cl tys Ts Nw own nm cc nL ret R b Fi k n N σ (pc + 3) lv' st) : Z l D cl tys Ts Nw own nm cc nL ret R b Fi k n N σ pc lv st := fun p e s m args below meth c H locs ls hF hP hS hl => lv_iinc hF.1 hF.2.1 hd hl (k := j) hj hv hn hl' (fun ls2 hl2 => kk p e s m args below meth c H locs ls2 hF hP hS hl2)
theorem z_iadd {x y : Int32} (hd : decode cc pc = .ok (.iadd, 1)) (kk : Z l D cl tys Ts Nw own nm cc nL ret R b Fi k n N σ (pc + 1) lv (.int (x + y) :: st)) : Z l D cl tys Ts Nw own nm cc nL ret R b Fi k n N σ pc lv (.int y :: .int x :: st) := fun p e s m args below meth c H locs ls hF hP hS hl => lv_iadd hF.1 hF.2.1 hd (kk p e s m args below meth c H locs ls hF hP hS hl)
theorem z_isub {x y : Int32} (hd : decode cc pc = .ok (.isub, 1)) (kk : Z l D cl tys Ts Nw own nm cc nL ret R b Fi k n N σ (pc + 1) lv (.int (x - y) :: st)) : Z l D cl tys Ts Nw own nm cc nL ret R b Fi k n N σ pc lv (.int y :: .int x :: st) := fun p e s m args below meth c H locs ls hF hP hS hl => lv_isub hF.1 hF.2.1 hd (kk p e s m args below meth c H locs ls hF hP hS hl)
theorem z_imul {x y : Int32} (hd : decode cc pc = .ok (.imul, 1)) (kk : Z l D cl tys Ts Nw own nm cc nL ret R b Fi k n N σ (pc + 1) lv (.int (x * y) :: st)) : Z l D cl tys Ts Nw own nm cc nL ret R b Fi k n N σ pc lv (.int y :: .int x :: st) := fun p e s m args below meth c H locs ls hF hP hS hl => lv_imul hF.1 hF.2.1 hd (kk p e s m args below meth c H locs ls hF hP hS hl)
theorem z_iand {x y : Int32} (hd : decode cc pc = .ok (.iand, 1)) (kk : Z l D cl tys Ts Nw own nm cc nL ret R b Fi k n N σ (pc + 1) lv (.int (x &&& y) :: st)) : Z l D cl tys Ts Nw own nm cc nL ret R b Fi k n N σ pc lv (.int y :: .int x :: st) := fun p e s m args below meth c H locs ls hF hP hS hl => lv_iand hF.1 hF.2.1 hd (kk p e s m args below meth c H locs ls hF hP hS hl)
theorem z_ior {x y : Int32} (hd : decode cc pc = .ok (.ior, 1)) (kk : Z l D cl tys Ts Nw own nm cc nL ret R b Fi k n N σ (pc + 1) lv (.int (x ||| y) :: st)) : Z l D cl tys Ts Nw own nm cc nL ret R b Fi k n N σ pc lv (.int y :: .int x :: st) := fun p e s m args below meth c H locs ls hF hP hS hl => lv_ior hF.1 hF.2.1 hd (kk p e s m args below meth c H locs ls hF hP hS hl)
theorem z_ixor {x y : Int32} (hd : decode cc pc = .ok (.ixor, 1)) (kk : Z l D cl tys Ts Nw own nm cc nL ret R b Fi k n N σ (pc + 1) lv (.int (x ^^^ y) :: st)) : Z l D cl tys Ts Nw own nm cc nL ret R b Fi k n N σ pc lv (.int y :: .int x :: st) := fun p e s m args below meth c H locs ls hF hP hS hl => lv_ixor hF.1 hF.2.1 hd (kk p e s m args below meth c H locs ls hF hP hS hl)
theorem z_ishl {x y : Int32} (hd : decode cc pc = .ok (.ishl, 1)) (kk : Z l D cl tys Ts Nw own nm cc nL ret R b Fi k n N σ (pc + 1) lv (.int (x <<< (y &&& 31)) :: st)) : Z l D cl tys Ts Nw own nm cc nL ret R b Fi k n N σ pc lv (.int y :: .int x :: st) := fun p e s m args below meth c H locs ls hF hP hS hl => lv_ishl hF.1 hF.2.1 hd (kk p e s m args below meth c H locs ls hF hP hS hl)
theorem z_ishr {x y : Int32} (hd : decode cc pc = .ok (.ishr, 1)) (kk : Z l D cl tys Ts Nw own nm cc nL ret R b Fi k n N σ (pc + 1) lv (.int (x >>> (y &&& 31)) :: st)) : Z l D cl tys Ts Nw own nm cc nL ret R b Fi k n N σ pc lv (.int y :: .int x :: st) := fun p e s m args below meth c H locs ls hF hP hS hl => lv_ishr hF.1 hF.2.1 hd (kk p e s m args below meth c H locs ls hF hP hS hl)
theorem z_idiv {x y : Int32} (hd : decode cc pc = .ok (.idiv, 1)) (hne : ¬ y = 0) (kk : Z l D cl tys Ts Nw own nm cc nL ret R b Fi k n N σ (pc + 1) lv (.int (x / y) :: st)) : Z l D cl tys Ts Nw own nm cc nL ret R b Fi k n N σ pc lv (.int y :: .int x :: st) := fun p e s m args below meth c H locs ls hF hP hS hl => lv_idiv hF.1 hF.2.1 hd hne (kk p e s m args below meth c H locs ls hF hP hS hl)
theorem z_irem {x y : Int32} (hd : decode cc pc = .ok (.irem, 1)) (hne : ¬ y = 0) (kk : Z l D cl tys Ts Nw own nm cc nL ret R b Fi k n N σ (pc + 1) lv (.int (x - x / y * y) :: st)) : Z l D cl tys Ts Nw own nm cc nL ret R b Fi k n N σ pc lv (.int y :: .int x :: st) := fun p e s m args below meth c H locs ls hF hP hS hl => lv_irem hF.1 hF.2.1 hd hne (kk p e s m args below meth c H locs ls hF hP hS hl)
theorem z_iushr {x y : Int32} (hd : decode cc pc = .ok (.iushr, 1)) (kk : Z l D cl tys Ts Nw own nm cc nL ret R b Fi k n N σ (pc + 1) lv (.int ((x.toUInt32 >>> (y.toUInt32 &&& Int32.toUInt32 31)).toInt32) :: st)) : Z l D cl tys Ts Nw own nm cc nL ret R b Fi k n N σ pc lv (.int y :: .int x :: st) := fun p e s m args below meth c H locs ls hF hP hS hl => lv_iushr hF.1 hF.2.1 hd rfl (kk p e s m args below meth c H locs ls hF hP hS hl)
theorem z_ineg {x : Int32} (hd : decode cc pc = .ok (.ineg, 1)) (kk : Z l D cl tys Ts Nw own nm cc nL ret R b Fi k n N σ (pc + 1) lv (.int (-x) :: st)) : Z l D cl tys Ts Nw own nm cc nL ret R b Fi k n N σ pc lv (.int x :: st) := fun p e s m args below meth c H locs ls hF hP hS hl => lv_ineg hF.1 hF.2.1 hd (kk p e s m args below meth c H locs ls hF hP hS hl)
theorem z_ladd {x y : Int64} (hd : decode cc pc = .ok (.ladd, 1)) (kk : Z l D cl tys Ts Nw own nm cc nL ret R b Fi k n N σ (pc + 1) lv (.long (x + y) :: st)) : Z l D cl tys Ts Nw own nm cc nL ret R b Fi k n N σ pc lv (.long y :: .long x :: st) := fun p e s m args below meth c H locs ls hF hP hS hl => lv_ladd hF.1 hF.2.1 hd (kk p e s m args below meth c H locs ls hF hP hS hl)
theorem z_lsub {x y : Int64} (hd : decode cc pc = .ok (.lsub, 1)) (kk : Z l D cl tys Ts Nw own nm cc nL ret R b Fi k n N σ (pc + 1) lv (.long (x - y) :: st)) : Z l D cl tys Ts Nw own nm cc nL ret R b Fi k n N σ pc lv (.long y :: .long x :: st) := fun p e s m args below meth c H locs ls hF hP hS hl => lv_lsub hF.1 hF.2.1 hd (kk p e s m args below meth c H locs ls hF hP hS hl)
theorem z_lmul {x y : Int64} (hd : decode cc pc = .ok (.lmul, 1)) (kk : Z l D cl tys Ts Nw own nm cc nL ret R b Fi k n N σ (pc + 1) lv (.long (x * y) :: st)) : Z l D cl tys Ts Nw own nm cc nL ret R b Fi k n N σ pc lv (.long y :: .long x :: st) := fun p e s m args below meth c H locs ls hF hP hS hl => lv_lmul hF.1 hF.2.1 hd (kk p e s m args below meth c H locs ls hF hP hS hl)
theorem z_land {x y : Int64} (hd : decode cc pc = .ok (.land, 1)) (kk : Z l D cl tys Ts Nw own nm cc nL ret R b Fi k n N σ (pc + 1) lv (.long (x &&& y) :: st)) : Z l D cl tys Ts Nw own nm cc nL ret R b Fi k n N σ pc lv (.long y :: .long x :: st) := fun p e s m args below meth c H locs ls hF hP hS hl => lv_land hF.1 hF.2.1 hd (kk p e s m args below meth c H locs ls hF hP hS hl)
theorem z_lor {x y : Int64} (hd : decode cc pc = .ok (.lor, 1)) (kk : Z l D cl tys Ts Nw own nm cc nL ret R b Fi k n N σ (pc + 1) lv (.long (x ||| y) :: st)) : Z l D cl tys Ts Nw own nm cc nL ret R b Fi k n N σ pc lv (.long y :: .long x :: st) := fun p e s m args below meth c H locs ls hF hP hS hl => lv_lor hF.1 hF.2.1 hd (kk p e s m args below meth c H locs ls hF hP hS hl)
theorem z_lxor {x y : Int64} (hd : decode cc pc = .ok (.lxor, 1)) (kk : Z l D cl tys Ts Nw own nm cc nL ret R b Fi k n N σ (pc + 1) lv (.long (x ^^^ y) :: st)) : Z l D cl tys Ts Nw own nm cc nL ret R b Fi k n N σ pc lv (.long y :: .long x :: st) := fun p e s m args below meth c H locs ls hF hP hS hl => lv_lxor hF.1 hF.2.1 hd (kk p e s m args below meth c H locs ls hF hP hS hl)
theorem z_ldiv {x y : Int64} (hd : decode cc pc = .ok (.ldiv, 1)) (hne : ¬ y = 0) (kk : Z l D cl tys Ts Nw own nm cc nL ret R b Fi k n N σ (pc + 1) lv (.long (x / y) :: st)) : Z l D cl tys Ts Nw own nm cc nL ret R b Fi k n N σ pc lv (.long y :: .long x :: st) := fun p e s m args below meth c H locs ls hF hP hS hl => lv_ldiv hF.1 hF.2.1 hd hne (kk p e s m args below meth c H locs ls hF hP hS hl)
theorem z_lrem {x y : Int64} (hd : decode cc pc = .ok (.lrem, 1)) (hne : ¬ y = 0) (kk : Z l D cl tys Ts Nw own nm cc nL ret R b Fi k n N σ (pc + 1) lv (.long (x - x / y * y) :: st)) : Z l D cl tys Ts Nw own nm cc nL ret R b Fi k n N σ pc lv (.long y :: .long x :: st) := fun p e s m args below meth c H locs ls hF hP hS hl => lv_lrem hF.1 hF.2.1 hd hne (kk p e s m args below meth c H locs ls hF hP hS hl)
theorem z_lneg {x : Int64} (hd : decode cc pc = .ok (.lneg, 1)) (kk : Z l D cl tys Ts Nw own nm cc nL ret R b Fi k n N σ (pc + 1) lv (.long (-x) :: st)) : Z l D cl tys Ts Nw own nm cc nL ret R b Fi k n N σ pc lv (.long x :: st) := fun p e s m args below meth c H locs ls hF hP hS hl => lv_lneg hF.1 hF.2.1 hd (kk p e s m args below meth c H locs ls hF hP hS hl)
theorem z_lshl {x : Int64} {y : Int32} (hd : decode cc pc = .ok (.lshl, 1)) (kk : Z l D cl tys Ts Nw own nm cc nL ret R b Fi k n N σ (pc + 1) lv (.long (x <<< (y.toInt64 &&& 63)) :: st)) : Z l D cl tys Ts Nw own nm cc nL ret R b Fi k n N σ pc lv (.int y :: .long x :: st) := fun p e s m args below meth c H locs ls hF hP hS hl => lv_lshl hF.1 hF.2.1 hd rfl (kk p e s m args below meth c H locs ls hF hP hS hl)
theorem z_lshr {x : Int64} {y : Int32} (hd : decode cc pc = .ok (.lshr, 1)) (kk : Z l D cl tys Ts Nw own nm cc nL ret R b Fi k n N σ (pc + 1) lv (.long (x >>> (y.toInt64 &&& 63)) :: st)) : Z l D cl tys Ts Nw own nm cc nL ret R b Fi k n N σ pc lv (.int y :: .long x :: st) := fun p e s m args below meth c H locs ls hF hP hS hl => lv_lshr hF.1 hF.2.1 hd rfl (kk p e s m args below meth c H locs ls hF hP hS hl)
theorem z_lushr {x : Int64} {y : Int32} (hd : decode cc pc = .ok (.lushr, 1)) (kk : Z l D cl tys Ts Nw own nm cc nL ret R b Fi k n N σ (pc + 1) lv (.long ((x.toUInt64 >>> (y.toInt64.toUInt64 &&& Int64.toUInt64 63)).toInt64) :: st)) : Z l D cl tys Ts Nw own nm cc nL ret R b Fi k n N σ pc lv (.int y :: .long x :: st) := fun p e s m args below meth c H locs ls hF hP hS hl => lv_lushr hF.1 hF.2.1 hd rfl (kk p e s m args below meth c H locs ls hF hP hS hl)
theorem z_i2l {x : Int32} (hd : decode cc pc = .ok (.i2l, 1)) (kk : Z l D cl tys Ts Nw own nm cc nL ret R b Fi k n N σ (pc + 1) lv (.long x.toInt64 :: st)) : Z l D cl tys Ts Nw own nm cc nL ret R b Fi k n N σ pc lv (.int x :: st) := fun p e s m args below meth c H locs ls hF hP hS hl => lv_i2l hF.1 hF.2.1 hd rfl (kk p e s m args below meth c H locs ls hF hP hS hl)
theorem z_l2i {x : Int64} (hd : decode cc pc = .ok (.l2i, 1)) (kk : Z l D cl tys Ts Nw own nm cc nL ret R b Fi k n N σ (pc + 1) lv (.int x.toInt32 :: st)) : Z l D cl tys Ts Nw own nm cc nL ret R b Fi k n N σ pc lv (.long x :: st) := fun p e s m args below meth c H locs ls hF hP hS hl => lv_l2i hF.1 hF.2.1 hd rfl (kk p e s m args below meth c H locs ls hF hP hS hl)
theorem z_lcmp {x y : Int64} (hd : decode cc pc = .ok (.lcmp, 1)) (kk : Z l D cl tys Ts Nw own nm cc nL ret R b Fi k n N σ (pc + 1) lv (.int (lg_cmp x y) :: st)) : Z l D cl tys Ts Nw own nm cc nL ret R b Fi k n N σ pc lv (.long y :: .long x :: st) := fun p e s m args below meth c H locs ls hF hP hS hl => W.lcmp hF.1 hF.2.1 hd (kk p e s m args below meth c H locs ls hF hP hS hl)
theorem z_dup {va : Value} (hd : decode cc pc = .ok (.dup, 1)) (hva : va.category = 1) (kk : Z l D cl tys Ts Nw own nm cc nL ret R b Fi k n N σ (pc + 1) lv (va :: va :: st)) : Z l D cl tys Ts Nw own nm cc nL ret R b Fi k n N σ pc lv (va :: st) := fun p e s m args below meth c H locs ls hF hP hS hl => lv_dup hF.1 hF.2.1 hd hva (kk p e s m args below meth c H locs ls hF hP hS hl)
theorem z_pop {va : Value} (hd : decode cc pc = .ok (.pop, 1)) (hva : va.category = 1) (kk : Z l D cl tys Ts Nw own nm cc nL ret R b Fi k n N σ (pc + 1) lv (st)) : Z l D cl tys Ts Nw own nm cc nL ret R b Fi k n N σ pc lv (va :: st) := fun p e s m args below meth c H locs ls hF hP hS hl => lv_pop hF.1 hF.2.1 hd hva (kk p e s m args below meth c H locs ls hF hP hS hl)
theorem z_dup_x1 {va : Value} {vb : Value} (hd : decode cc pc = .ok (.dup_x1, 1)) (hva : va.category = 1) (hvb : vb.category = 1) (kk : Z l D cl tys Ts Nw own nm cc nL ret R b Fi k n N σ (pc + 1) lv (va :: vb :: va :: st)) : Z l D cl tys Ts Nw own nm cc nL ret R b Fi k n N σ pc lv (va :: vb :: st) := fun p e s m args below meth c H locs ls hF hP hS hl => lv_dup_x1 hF.1 hF.2.1 hd hva hvb (kk p e s m args below meth c H locs ls hF hP hS hl)
theorem z_dup_x2 {va : Value} {vb : Value} {vd : Value} (hd : decode cc pc = .ok (.dup_x2, 1)) (hva : va.category = 1) (hvb : vb.category = 1) (hvd : vd.category = 1) (kk : Z l D cl tys Ts Nw own nm cc nL ret R b Fi k n N σ (pc + 1) lv (va :: vb :: vd :: va :: st)) : Z l D cl tys Ts Nw own nm cc nL ret R b Fi k n N σ pc lv (va :: vb :: vd :: st) := fun p e s m args below meth c H locs ls hF hP hS hl => lv_dup_x2 hF.1 hF.2.1 hd hva hvb hvd (kk p e s m args below meth c H locs ls hF hP hS hl)
theorem z_dup2_11 {va : Value} {vb : Value} (hd : decode cc pc = .ok (.dup2, 1)) (hva : va.category = 1) (hvb : vb.category = 1) (kk : Z l D cl tys Ts Nw own nm cc nL ret R b Fi k n N σ (pc + 1) lv (va :: vb :: va :: vb :: st)) : Z l D cl tys Ts Nw own nm cc nL ret R b Fi k n N σ pc lv (va :: vb :: st) := fun p e s m args below meth c H locs ls hF hP hS hl => lv_dup2_11 hF.1 hF.2.1 hd hva hvb (kk p e s m args below meth c H locs ls hF hP hS hl)
theorem z_dup2_2 {va : Value} (hd : decode cc pc = .ok (.dup2, 1)) (hva : va.category = 2) (kk : Z l D cl tys Ts Nw own nm cc nL ret R b Fi k n N σ (pc + 1) lv (va :: va :: st)) : Z l D cl tys Ts Nw own nm cc nL ret R b Fi k n N σ pc lv (va :: st) := fun p e s m args below meth c H locs ls hF hP hS hl => lv_dup2_2 hF.1 hF.2.1 hd hva (kk p e s m args below meth c H locs ls hF hP hS hl)
theorem z_pop2_2 {va : Value} (hd : decode cc pc = .ok (.pop2, 1)) (hva : va.category = 2) (kk : Z l D cl tys Ts Nw own nm cc nL ret R b Fi k n N σ (pc + 1) lv (st)) : Z l D cl tys Ts Nw own nm cc nL ret R b Fi k n N σ pc lv (va :: st) := fun p e s m args below meth c H locs ls hF hP hS hl => lv_pop2_2 hF.1 hF.2.1 hd hva (kk p e s m args below meth c H locs ls hF hP hS hl)
theorem z_dup2_x1_2 {va : Value} {vb : Value} (hd : decode cc pc = .ok (.dup2_x1, 1)) (hva : va.category = 2) (hvb : vb.category = 1) (kk : Z l D cl tys Ts Nw own nm cc nL ret R b Fi k n N σ (pc + 1) lv (va :: vb :: va :: st)) : Z l D cl tys Ts Nw own nm cc nL ret R b Fi k n N σ pc lv (va :: vb :: st) := fun p e s m args below meth c H locs ls hF hP hS hl => lv_dup2_x1_2 hF.1 hF.2.1 hd hva hvb (kk p e s m args below meth c H locs ls hF hP hS hl)
theorem z_dup2_x2_2 {va : Value} {vb : Value} {vd : Value} (hd : decode cc pc = .ok (.dup2_x2, 1)) (hva : va.category = 2) (hvb : vb.category = 1) (hvd : vd.category = 1) (kk : Z l D cl tys Ts Nw own nm cc nL ret R b Fi k n N σ (pc + 1) lv (va :: vb :: vd :: va :: st)) : Z l D cl tys Ts Nw own nm cc nL ret R b Fi k n N σ pc lv (va :: vb :: vd :: st) := fun p e s m args below meth c H locs ls hF hP hS hl => lv_dup2_x2_2 hF.1 hF.2.1 hd hva hvb hvd (kk p e s m args below meth c H locs ls hF hP hS hl)
theorem z_if_eq {x : Int32} {off : Int} {tgt : Nat} (hd : decode cc pc = .ok (.ifCond .eq off, 3)) (ht : (pc : Int) + off = (tgt : Int)) (kt : x = 0 → Z l D cl tys Ts Nw own nm cc nL ret R b Fi k n N σ tgt lv st) (kf : ¬ x = 0 → Z l D cl tys Ts Nw own nm cc nL ret R b Fi k n N σ (pc + 3) lv st) : Z l D cl tys Ts Nw own nm cc nL ret R b Fi k n N σ pc lv (.int x :: st) := fun p e s m args below meth c H locs ls hF hP hS hl => lv_if_eq hF.1 hF.2.1 hd ht (fun q => kt q p e s m args below meth c H locs ls hF hP hS hl) (fun q => kf q p e s m args below meth c H locs ls hF hP hS hl)
theorem z_if_ne {x : Int32} {off : Int} {tgt : Nat} (hd : decode cc pc = .ok (.ifCond .ne off, 3)) (ht : (pc : Int) + off = (tgt : Int)) (kt : ¬ x = 0 → Z l D cl tys Ts Nw own nm cc nL ret R b Fi k n N σ tgt lv st) (kf : x = 0 → Z l D cl tys Ts Nw own nm cc nL ret R b Fi k n N σ (pc + 3) lv st) : Z l D cl tys Ts Nw own nm cc nL ret R b Fi k n N σ pc lv (.int x :: st) := fun p e s m args below meth c H locs ls hF hP hS hl => lv_if_ne hF.1 hF.2.1 hd ht (fun q => kt q p e s m args below meth c H locs ls hF hP hS hl) (fun q => kf q p e s m args below meth c H locs ls hF hP hS hl)
theorem z_if_lt {x : Int32} {off : Int} {tgt : Nat} (hd : decode cc pc = .ok (.ifCond .lt off, 3)) (ht : (pc : Int) + off = (tgt : Int)) (kt : x < 0 → Z l D cl tys Ts Nw own nm cc nL ret R b Fi k n N σ tgt lv st) (kf : ¬ x < 0 → Z l D cl tys Ts Nw own nm cc nL ret R b Fi k n N σ (pc + 3) lv st) : Z l D cl tys Ts Nw own nm cc nL ret R b Fi k n N σ pc lv (.int x :: st) := fun p e s m args below meth c H locs ls hF hP hS hl => lv_if_lt hF.1 hF.2.1 hd ht (fun q => kt q p e s m args below meth c H locs ls hF hP hS hl) (fun q => kf q p e s m args below meth c H locs ls hF hP hS hl)
theorem z_if_ge {x : Int32} {off : Int} {tgt : Nat} (hd : decode cc pc = .ok (.ifCond .ge off, 3)) (ht : (pc : Int) + off = (tgt : Int)) (kt : 0 ≤ x → Z l D cl tys Ts Nw own nm cc nL ret R b Fi k n N σ tgt lv st) (kf : ¬ 0 ≤ x → Z l D cl tys Ts Nw own nm cc nL ret R b Fi k n N σ (pc + 3) lv st) : Z l D cl tys Ts Nw own nm cc nL ret R b Fi k n N σ pc lv (.int x :: st) := fun p e s m args below meth c H locs ls hF hP hS hl => lv_if_ge hF.1 hF.2.1 hd ht (fun q => kt q p e s m args below meth c H locs ls hF hP hS hl) (fun q => kf q p e s m args below meth c H locs ls hF hP hS hl)
theorem z_if_gt {x : Int32} {off : Int} {tgt : Nat} (hd : decode cc pc = .ok (.ifCond .gt off, 3)) (ht : (pc : Int) + off = (tgt : Int)) (kt : 0 < x → Z l D cl tys Ts Nw own nm cc nL ret R b Fi k n N σ tgt lv st) (kf : ¬ 0 < x → Z l D cl tys Ts Nw own nm cc nL ret R b Fi k n N σ (pc + 3) lv st) : Z l D cl tys Ts Nw own nm cc nL ret R b Fi k n N σ pc lv (.int x :: st) := fun p e s m args below meth c H locs ls hF hP hS hl => lv_if_gt hF.1 hF.2.1 hd ht (fun q => kt q p e s m args below meth c H locs ls hF hP hS hl) (fun q => kf q p e s m args below meth c H locs ls hF hP hS hl)
theorem z_if_le {x : Int32} {off : Int} {tgt : Nat} (hd : decode cc pc = .ok (.ifCond .le off, 3)) (ht : (pc : Int) + off = (tgt : Int)) (kt : x ≤ 0 → Z l D cl tys Ts Nw own nm cc nL ret R b Fi k n N σ tgt lv st) (kf : ¬ x ≤ 0 → Z l D cl tys Ts Nw own nm cc nL ret R b Fi k n N σ (pc + 3) lv st) : Z l D cl tys Ts Nw own nm cc nL ret R b Fi k n N σ pc lv (.int x :: st) := fun p e s m args below meth c H locs ls hF hP hS hl => lv_if_le hF.1 hF.2.1 hd ht (fun q => kt q p e s m args below meth c H locs ls hF hP hS hl) (fun q => kf q p e s m args below meth c H locs ls hF hP hS hl)
theorem z_icmp_eq {x y : Int32} {off : Int} {tgt : Nat} (hd : decode cc pc = .ok (.if_icmp .eq off, 3)) (ht : (pc : Int) + off = (tgt : Int)) (kt : x = y → Z l D cl tys Ts Nw own nm cc nL ret R b Fi k n N σ tgt lv st) (kf : ¬ x = y → Z l D cl tys Ts Nw own nm cc nL ret R b Fi k n N σ (pc + 3) lv st) : Z l D cl tys Ts Nw own nm cc nL ret R b Fi k n N σ pc lv (.int y :: .int x :: st) := fun p e s m args below meth c H locs ls hF hP hS hl => lv_icmp_eq hF.1 hF.2.1 hd ht (fun q => kt q p e s m args below meth c H locs ls hF hP hS hl) (fun q => kf q p e s m args below meth c H locs ls hF hP hS hl)
theorem z_icmp_ne {x y : Int32} {off : Int} {tgt : Nat} (hd : decode cc pc = .ok (.if_icmp .ne off, 3)) (ht : (pc : Int) + off = (tgt : Int)) (kt : ¬ x = y → Z l D cl tys Ts Nw own nm cc nL ret R b Fi k n N σ tgt lv st) (kf : x = y → Z l D cl tys Ts Nw own nm cc nL ret R b Fi k n N σ (pc + 3) lv st) : Z l D cl tys Ts Nw own nm cc nL ret R b Fi k n N σ pc lv (.int y :: .int x :: st) := fun p e s m args below meth c H locs ls hF hP hS hl => lv_icmp_ne hF.1 hF.2.1 hd ht (fun q => kt q p e s m args below meth c H locs ls hF hP hS hl) (fun q => kf q p e s m args below meth c H locs ls hF hP hS hl)
theorem z_icmp_lt {x y : Int32} {off : Int} {tgt : Nat} (hd : decode cc pc = .ok (.if_icmp .lt off, 3)) (ht : (pc : Int) + off = (tgt : Int)) (kt : x < y → Z l D cl tys Ts Nw own nm cc nL ret R b Fi k n N σ tgt lv st) (kf : ¬ x < y → Z l D cl tys Ts Nw own nm cc nL ret R b Fi k n N σ (pc + 3) lv st) : Z l D cl tys Ts Nw own nm cc nL ret R b Fi k n N σ pc lv (.int y :: .int x :: st) := fun p e s m args below meth c H locs ls hF hP hS hl => lv_icmp_lt hF.1 hF.2.1 hd ht (fun q => kt q p e s m args below meth c H locs ls hF hP hS hl) (fun q => kf q p e s m args below meth c H locs ls hF hP hS hl)
theorem z_icmp_ge {x y : Int32} {off : Int} {tgt : Nat} (hd : decode cc pc = .ok (.if_icmp .ge off, 3)) (ht : (pc : Int) + off = (tgt : Int)) (kt : y ≤ x → Z l D cl tys Ts Nw own nm cc nL ret R b Fi k n N σ tgt lv st) (kf : ¬ y ≤ x → Z l D cl tys Ts Nw own nm cc nL ret R b Fi k n N σ (pc + 3) lv st) : Z l D cl tys Ts Nw own nm cc nL ret R b Fi k n N σ pc lv (.int y :: .int x :: st) := fun p e s m args below meth c H locs ls hF hP hS hl => lv_icmp_ge hF.1 hF.2.1 hd ht (fun q => kt q p e s m args below meth c H locs ls hF hP hS hl) (fun q => kf q p e s m args below meth c H locs ls hF hP hS hl)
theorem z_icmp_gt {x y : Int32} {off : Int} {tgt : Nat} (hd : decode cc pc = .ok (.if_icmp .gt off, 3)) (ht : (pc : Int) + off = (tgt : Int)) (kt : y < x → Z l D cl tys Ts Nw own nm cc nL ret R b Fi k n N σ tgt lv st) (kf : ¬ y < x → Z l D cl tys Ts Nw own nm cc nL ret R b Fi k n N σ (pc + 3) lv st) : Z l D cl tys Ts Nw own nm cc nL ret R b Fi k n N σ pc lv (.int y :: .int x :: st) := fun p e s m args below meth c H locs ls hF hP hS hl => lv_icmp_gt hF.1 hF.2.1 hd ht (fun q => kt q p e s m args below meth c H locs ls hF hP hS hl) (fun q => kf q p e s m args below meth c H locs ls hF hP hS hl)
theorem z_icmp_le {x y : Int32} {off : Int} {tgt : Nat} (hd : decode cc pc = .ok (.if_icmp .le off, 3)) (ht : (pc : Int) + off = (tgt : Int)) (kt : x ≤ y → Z l D cl tys Ts Nw own nm cc nL ret R b Fi k n N σ tgt lv st) (kf : ¬ x ≤ y → Z l D cl tys Ts Nw own nm cc nL ret R b Fi k n N σ (pc + 3) lv st) : Z l D cl tys Ts Nw own nm cc nL ret R b Fi k n N σ pc lv (.int y :: .int x :: st) := fun p e s m args below meth c H locs ls hF hP hS hl => lv_icmp_le hF.1 hF.2.1 hd ht (fun q => kt q p e s m args below meth c H locs ls hF hP hS hl) (fun q => kf q p e s m args below meth c H locs ls hF hP hS hl)
theorem z_goto {off : Int} {tgt : Nat} (hd : decode cc pc = .ok (.goto off, 3)) (ht : (pc : Int) + off = (tgt : Int)) (kk : Z l D cl tys Ts Nw own nm cc nL ret R b Fi k n N σ tgt lv st) : Z l D cl tys Ts Nw own nm cc nL ret R b Fi k n N σ pc lv st := fun p e s m args below meth c H locs ls hF hP hS hl => lv_goto hF.1 hF.2.1 hd ht (kk p e s m args below meth c H locs ls hF hP hS hl)
theorem z_tableOut {dflt lo hi : Int} {offs : Array Int} {len : Nat} {x : Int32} {tgt : Nat} (hd : decode cc pc = .ok (.tableswitch dflt lo hi offs, len)) (h : x.toInt < lo ∨ hi < x.toInt) (ht : (pc : Int) + dflt = (tgt : Int)) (kk : Z l D cl tys Ts Nw own nm cc nL ret R b Fi k n N σ tgt lv st) : Z l D cl tys Ts Nw own nm cc nL ret R b Fi k n N σ pc lv (.int x :: st) := fun p e s m args below meth c H locs ls hF hP hS hl => lv_tableOut hF.1 hF.2.1 hd h ht (kk p e s m args below meth c H locs ls hF hP hS hl)
theorem z_tableIn {dflt lo hi : Int} {offs : Array Int} {len : Nat} {x : Int32} {off : Int} {tgt : Nat} (hd : decode cc pc = .ok (.tableswitch dflt lo hi offs, len)) (h1 : ¬ x.toInt < lo) (h2 : ¬ hi < x.toInt) (ho : offs[(x.toInt - lo).toNat]? = some off) (ht : (pc : Int) + off = (tgt : Int)) (kk : Z l D cl tys Ts Nw own nm cc nL ret R b Fi k n N σ tgt lv st) : Z l D cl tys Ts Nw own nm cc nL ret R b Fi k n N σ pc lv (.int x :: st) := fun p e s m args below meth c H locs ls hF hP hS hl => lv_tableIn hF.1 hF.2.1 hd h1 h2 ho ht (kk p e s m args below meth c H locs ls hF hP hS hl)
theorem z_eq {σ' : Nat → Option va_E} {pc' : Nat} {lv' : List (Nat × Value)} {st' : List Value} (h1 : σ = σ') (h2 : pc = pc') (h3 : lv = lv') (h4 : st = st') (kk : Z l D cl tys Ts Nw own nm cc nL ret R b Fi k n N σ' pc' lv' st') : Z l D cl tys Ts Nw own nm cc nL ret R b Fi k n N σ pc lv st := by
  subst h1; subst h2; subst h3; subst h4; exact kk
theorem z_widen {k' n' : Nat} (h1 : k ≤ k') (h2 : n ≤ n') (kk : Z l D cl tys Ts Nw own nm cc nL ret R b Fi k' n' N σ pc lv st) : Z l D cl tys Ts Nw own nm cc nL ret R b Fi k n N σ pc lv st := fun p e s m args below meth c H locs ls hF hP hS hl => W.widen h1 h2 (kk p e s m args below meth c H locs ls hF hP hS hl)
/-- fewer listed locals, in any order -/
theorem z_pick {lv' : List (Nat × Value)} (ks : List Nat) (h : lv_pick lv ks = lv') (kk : Z l D cl tys Ts Nw own nm cc nL ret R b Fi k n N σ pc lv' st) : Z l D cl tys Ts Nw own nm cc nL ret R b Fi k n N σ pc lv st := fun p e s m args below meth c H locs ls hF hP hS hl => kk p e s m args below meth c H locs ls hF hP hS (lv_sub hl ks h)
/-- the field k of the class ci, by the pool index of a method of own -/
def zFd (cl : List vw_C) (Ts : List Cond) (own : String) (index ci k : Nat) : Prop := ∃ (C : String) (T : u_T) (N : Nat), cl[ci]? = some (C, T, N) ∧ (∀ w ∈ u_ws C T N, w ∈ Ts) ∧ Cond.fieldLink own index (T k).1 (T k).2.1 (T k).2.2.1 ∈ Ts ∧ k < N
theorem z_get {index ci i a : Nat} {fs : List Value} {v : Value} (hd : decode cc pc = .ok (.getfield index, 3)) (f : zFd cl Ts own index ci i) (hσ : σ a = some (.inr (ci, fs))) (hv : fs[i]? = some v) (kk : Z l D cl tys Ts Nw own nm cc nL ret R b Fi k n N σ (pc + 3) lv (v :: st)) : Z l D cl tys Ts Nw own nm cc nL ret R b Fi k n N σ pc lv (.ref (b + a) :: st) := by
  intro p e s m args below meth c H locs ls hF hP hS hl
  obtain ⟨C, T, N0, hc, hin, hlink, hk⟩ := f
  exact va_get hF.1 hF.2.1 hF.2.2.2.2.2.2.1 hin hF.2.2.2.2.2.1 hF.2.2.2.2.2.2.2.1 (hP.one hσ) 0 rfl hc i hk (hF.2.2.2.2.2.2.1 _ hlink) (fun _ h => h) hv hd (kk p e s m args below meth c H locs ls hF hP hS hl)
/-- the same field, when it may be written: not final, of the type ty -/
def zPd (cl : List vw_C) (Ts : List Cond) (own : String) (index ci k : Nat) (ty : FieldType) : Prop := ∃ (C : String) (T : u_T) (N : Nat) (ty0 : Nat → FieldType), cl[ci]? = some (C, T, N) ∧ (∀ w ∈ u_ws C T N, w ∈ Ts) ∧ Cond.fieldLink own index (T k).1 (T k).2.1 (T k).2.2.1 ∈ Ts ∧ k < N ∧ (∀ k, k < N → parseFieldDescriptor (T k).2.2.1 = some (ty0 k)) ∧ (∀ a, a < N → ∀ b, b < N → a ≠ b → (T a).2.1 ≠ (T b).2.1) ∧ (T k).2.2.2 = false ∧ parseFieldDescriptor (T k).2.2.1 = some ty
theorem z_put {index ci i a : Nat} {fs : List Value} {v : Value} {ty : FieldType} (hd : decode cc pc = .ok (.putfield index, 3)) (f : zPd cl Ts own index ci i ty) (hσ : σ a = some (.inr (ci, fs))) (hl' : i < fs.length) (hn : narrow ty v = v) (hfit : fits ty v = true) (kk : Z l D cl tys Ts Nw own nm cc nL ret R b Fi k n N (zUp σ a (.inr (ci, fs.set i v))) (pc + 3) lv st) : Z l D cl tys Ts Nw own nm cc nL ret R b Fi k n N σ pc lv (v :: .ref (b + a) :: st) := by
  intro p e s m args below meth c H locs ls hF hP hS hl
  obtain ⟨C, T, N0, ty0, hc, hin, hlink, hk, hty, hnm, hfin, hpd⟩ := f
  obtain ⟨hx, hb, hml, hr, hlocks, hown, hts, hK, hNw, hname, hbs⟩ := id hF
  have hap := va_apart (own := own) hts hin ty0 hty hnm hK hc
  obtain ⟨r, h1, cell, q1, q2, q3, q4⟩ := hP.2 a _ hσ
  have hr' : r = (C, T, N0) := Option.some.inj (h1.symm.trans hc)
  subst hr'
  obtain ⟨hS', hfc, kC, hkC, hkind⟩ := hK.1 ci _ hc
  obtain ⟨cf, kf, fi, fd, hi, hsl⟩ := hS' i hk
  have hlay := hts _ (hin _ (u_in_lay hk))
  unfold u_lay at hlay
  rw [if_neg (by rw [hfin]; decide)] at hlay
  have hst := (u_facts hfc hkC (u_lays hts hin hk) hi).1
  have h6 := u_store hfc hkC hkind hlay hi hpd hn hfit
  refine W.putK hx hb (f := fd) ⟨hown, hts _ hlink, ⟨_, _, _, hi⟩, hst⟩ (by rw [q2]; exact h6) q1 q3 (by rw [hsl]; exact k2_hasslot (q4 i hk)) rfl rfl hd fun H' e1 e2 e3 => ?_
  rw [hsl] at e1 ⊢
  exact kk p e s m args below meth c H' _ ls hF (hP.set (x0 := .inr (ci, fs)) e2 e3 ⟨_, hc, t_OB.to (V := updV (vp_V fs) i v) ⟨_, e1, q2, q3, t_set q4 hap hk v⟩ (fun j _ => vp_updV_set hl' v j)⟩) (hS.put e2 e3 (Nat.le_add_right b a)) hl
/-- a final field, in its own class's constructor -/
def zFn (cl : List vw_C) (Ts : List Cond) (own : String) (index ci k : Nat) (ty : FieldType) : Prop := ∃ (C : String) (T : u_T) (N : Nat) (ty0 : Nat → FieldType), cl[ci]? = some (C, T, N) ∧ (∀ w ∈ u_ws C T N, w ∈ Ts) ∧ Cond.fieldLink own index (T k).1 (T k).2.1 (T k).2.2.1 ∈ Ts ∧ k < N ∧ (∀ k, k < N → parseFieldDescriptor (T k).2.2.1 = some (ty0 k)) ∧ (∀ a, a < N → ∀ b, b < N → a ≠ b → (T a).2.1 ≠ (T b).2.1) ∧ (T k).2.2.2 = true ∧ parseFieldDescriptor (T k).2.2.1 = some ty ∧ (T k).1 = own
theorem z_putF {index ci i a : Nat} {fs : List Value} {v : Value} {ty : FieldType} (hd : decode cc pc = .ok (.putfield index, 3)) (f : zFn cl Ts own index ci i ty) (hin2 : nm = "<init>") (hσ : σ a = some (.inr (ci, fs))) (hl' : i < fs.length) (hn : narrow ty v = v) (hfit : fits ty v = true) (kk : Z l D cl tys Ts Nw own nm cc nL ret R b Fi k n N (zUp σ a (.inr (ci, fs.set i v))) (pc + 3) lv st) : Z l D cl tys Ts Nw own nm cc nL ret R b Fi k n N σ pc lv (v :: .ref (b + a) :: st) := by
  intro p e s m args below meth c H locs ls hF hP hS hl
  obtain ⟨C, T, N0, ty0, hc, hin, hlink, hk, hty, hnm, hfin, hpd, hdecl⟩ := f
  obtain ⟨hx, hb, hml, hr, hlocks, hown, hts, hK, hNw, hname, hbs⟩ := id hF
  have hap := va_apart (own := own) hts hin ty0 hty hnm hK hc
  obtain ⟨r, h1, cell, q1, q2, q3, q4⟩ := hP.2 a _ hσ
  have hr' : r = (C, T, N0) := Option.some.inj (h1.symm.trans hc)
  subst hr'
  obtain ⟨hS', hfc, kC, hkC, hkind⟩ := hK.1 ci _ hc
  obtain ⟨cf, kf, fi, fd, hi, hsl⟩ := hS' i hk
  have hlay := hts _ (hin _ (u_in_lay hk))
  unfold u_lay at hlay
  rw [if_pos hfin] at hlay
  have hst := (u_facts hfc hkC (u_lays hts hin hk) hi).1
  have hcf : m.cls = cf := by
    obtain ⟨_, _, c', _, _, _, -, -, hf', -, -, -, hown2, -⟩ := Cond.laysFinal_spec hlay
    have e1 : c' = cf := by have := hi.symm.trans hf'; simp at this; exact this.1.symm
    rw [hdecl] at hown2
    rw [← e1]; exact Option.some.inj (hown.symm.trans hown2)
  have h6 := u_fits hfc hkC hkind (Or.inr hlay) hi hpd hn hfit
  refine W.putFinK hx hb hown (hts _ hlink) hi hst hcf (hname.trans hin2) (by rw [q2]; exact h6) q1 q3 (by rw [hsl]; exact k2_hasslot (q4 i hk)) rfl rfl hd fun H' e1 e2 e3 => ?_
  rw [hsl] at e1 ⊢
  exact kk p e s m args below meth c H' _ ls hF (hP.set (x0 := .inr (ci, fs)) e2 e3 ⟨_, hc, t_OB.to (V := updV (vp_V fs) i v) ⟨_, e1, q2, q3, t_set q4 hap hk v⟩ (fun j _ => vp_updV_set hl' v j)⟩) (hS.put e2 e3 (Nat.le_add_right b a)) hl
theorem z_iald {t0 a len : Nat} {cA : ClassId} {f : Nat → Int32} {i : Int32} (hd : decode cc pc = .ok (.iaload, 1)) (ht : tys[t0]? = some (cA, .int)) (hσ : σ a = some (.inl (cA, len, .inl f))) (hi : vp_in i len) (kk : Z l D cl tys Ts Nw own nm cc nL ret R b Fi k n N σ (pc + 1) lv (.int (f i.toNatClampNeg) :: st)) : Z l D cl tys Ts Nw own nm cc nL ret R b Fi k n N σ pc lv (.int i :: .ref (b + a) :: st) := fun p e s m args below meth c H locs ls hF hP hS hl => va_iald hF.1 hF.2.1 hF.2.2.2.2.2.2.2.1 (hP.one hσ) 0 t0 rfl ht hi hd (kk p e s m args below meth c H locs ls hF hP hS hl)
theorem z_lald {t0 a len : Nat} {cA : ClassId} {f : Nat → Int64} {i : Int32} (hd : decode cc pc = .ok (.laload, 1)) (ht : tys[t0]? = some (cA, .long)) (hσ : σ a = some (.inl (cA, len, .inr (.inl f)))) (hi : vp_in i len) (kk : Z l D cl tys Ts Nw own nm cc nL ret R b Fi k n N σ (pc + 1) lv (.long (f i.toNatClampNeg) :: st)) : Z l D cl tys Ts Nw own nm cc nL ret R b Fi k n N σ pc lv (.int i :: .ref (b + a) :: st) := fun p e s m args below meth c H locs ls hF hP hS hl => va_lald hF.1 hF.2.1 hF.2.2.2.2.2.2.2.1 (hP.one hσ) 0 t0 rfl ht hi hd (kk p e s m args below meth c H locs ls hF hP hS hl)
theorem z_bald {t0 a len : Nat} {cA : ClassId} {f : Nat → Int32} {i : Int32} (hd : decode cc pc = .ok (.baload, 1)) (ht : tys[t0]? = some (cA, .byte)) (hσ : σ a = some (.inl (cA, len, .inl f))) (hi : vp_in i len) (kk : Z l D cl tys Ts Nw own nm cc nL ret R b Fi k n N σ (pc + 1) lv (.int (f i.toNatClampNeg) :: st)) : Z l D cl tys Ts Nw own nm cc nL ret R b Fi k n N σ pc lv (.int i :: .ref (b + a) :: st) := fun p e s m args below meth c H locs ls hF hP hS hl => va_bald hF.1 hF.2.1 hF.2.2.2.2.2.2.2.1 (hP.one hσ) 0 t0 rfl ht hi hd (kk p e s m args below meth c H locs ls hF hP hS hl)
theorem z_zald {t0 a len : Nat} {cA : ClassId} {f : Nat → Int32} {i : Int32} (hd : decode cc pc = .ok (.baload, 1)) (ht : tys[t0]? = some (cA, .boolean)) (hσ : σ a = some (.inl (cA, len, .inl f))) (hi : vp_in i len) (kk : Z l D cl tys Ts Nw own nm cc nL ret R b Fi k n N σ (pc + 1) lv (.int (f i.toNatClampNeg) :: st)) : Z l D cl tys Ts Nw own nm cc nL ret R b Fi k n N σ pc lv (.int i :: .ref (b + a) :: st) := fun p e s m args below meth c H locs ls hF hP hS hl => va_zald hF.1 hF.2.1 hF.2.2.2.2.2.2.2.1 (hP.one hσ) 0 t0 rfl ht hi hd (kk p e s m args below meth c H locs ls hF hP hS hl)
theorem z_cald {t0 a len : Nat} {cA : ClassId} {f : Nat → Int32} {i : Int32} (hd : decode cc pc = .ok (.caload, 1)) (ht : tys[t0]? = some (cA, .char)) (hσ : σ a = some (.inl (cA, len, .inl f))) (hi : vp_in i len) (kk : Z l D cl tys Ts Nw own nm cc nL ret R b Fi k n N σ (pc + 1) lv (.int (f i.toNatClampNeg) :: st)) : Z l D cl tys Ts Nw own nm cc nL ret R b Fi k n N σ pc lv (.int i :: .ref (b + a) :: st) := fun p e s m args below meth c H locs ls hF hP hS hl => va_cald hF.1 hF.2.1 hF.2.2.2.2.2.2.2.1 (hP.one hσ) 0 t0 rfl ht hi hd (kk p e s m args below meth c H locs ls hF hP hS hl)
theorem z_aald {t0 a len : Nat} {cA : ClassId} {C : String} {f : Nat → Option Nat} {i : Int32} (hd : decode cc pc = .ok (.aaload, 1)) (ht : tys[t0]? = some (cA, .object C)) (hσ : σ a = some (.inl (cA, len, .inr (.inr (.inr (.inr f)))))) (hi : vp_in i len) (kk : Z l D cl tys Ts Nw own nm cc nL ret R b Fi k n N σ (pc + 1) lv (va_rf (f i.toNatClampNeg) :: st)) : Z l D cl tys Ts Nw own nm cc nL ret R b Fi k n N σ pc lv (.int i :: .ref (b + a) :: st) := fun p e s m args below meth c H locs ls hF hP hS hl => va_aldq hF.1 hF.2.1 hF.2.2.2.2.2.2.2.1 (hP.one hσ) 0 t0 rfl ht hi hd (kk p e s m args below meth c H locs ls hF hP hS hl)
theorem z_aaldA {t0 a len : Nat} {cA : ClassId} {ty : FieldType} {f : Nat → Option Nat} {i : Int32} (hd : decode cc pc = .ok (.aaload, 1)) (ht : tys[t0]? = some (cA, .array ty)) (hσ : σ a = some (.inl (cA, len, .inr (.inr (.inr (.inr f)))))) (hi : vp_in i len) (kk : Z l D cl tys Ts Nw own nm cc nL ret R b Fi k n N σ (pc + 1) lv (va_rf (f i.toNatClampNeg) :: st)) : Z l D cl tys Ts Nw own nm cc nL ret R b Fi k n N σ pc lv (.int i :: .ref (b + a) :: st) := by
  intro p e s m args below meth c H locs ls hF hP hS hl
  have hlt : i.toNatClampNeg < len := Nat.not_le.mp fun q => hi (Or.inr q)
  exact W.aald (v := va_rf (f i.toNatClampNeg)) (ty := .array ty) hF.1 hF.2.1 (hP.2 a _ hσ) ((hF.2.2.2.2.2.2.2.1.2 t0 _ ht).1 len (fun j => va_rf (f j))) rfl (fun q => by cases q) (by show ¬ (i < 0 ∨ (arrV _ _ _).slots.size ≤ _); rw [arrV_size]; exact hi) (by show (arrV _ _ _).slots[_]? = _; rw [arrV_read _ _ hlt]) rfl rfl hd (kk p e s m args below meth c H locs ls hF hP hS hl)
theorem z_alen {t0 a : Nat} {cA : ClassId} {x : vp_A} {ty : FieldType} {v : Int32} (hd : decode cc pc = .ok (.arraylength, 1)) (ht : tys[t0]? = some (cA, ty)) (hσ : σ a = some (.inl (cA, x))) (hv : Int32.ofNat x.1 = v) (kk : Z l D cl tys Ts Nw own nm cc nL ret R b Fi k n N σ (pc + 1) lv (.int v :: st)) : Z l D cl tys Ts Nw own nm cc nL ret R b Fi k n N σ pc lv (.ref (b + a) :: st) := fun p e s m args below meth c H locs ls hF hP hS hl => va_alen hF.1 hF.2.1 hF.2.2.2.2.2.2.2.1 (hP.one hσ) 0 t0 rfl ht hv hd (kk p e s m args below meth c H locs ls hF hP hS hl)
theorem z_iast {t0 a len : Nat} {cA : ClassId} {f : Nat → Int32} {i : Int32} {x : Int32} (hd : decode cc pc = .ok (.iastore, 1)) (ht : tys[t0]? = some (cA, .int)) (hσ : σ a = some (.inl (cA, len, .inl f))) (hi : vp_in i len) (kk : Z l D cl tys Ts Nw own nm cc nL ret R b Fi k n N (zUp σ a (.inl (cA, len, .inl (upd f i.toNatClampNeg x)))) (pc + 1) lv st) : Z l D cl tys Ts Nw own nm cc nL ret R b Fi k n N σ pc lv (.int x :: .int i :: .ref (b + a) :: st) := by
  intro p e s m args below meth c H locs ls hF hP hS hl
  refine W.iast hF.1 hF.2.1 (hP.2 a _ hσ) ((hF.2.2.2.2.2.2.2.1.2 t0 _ ht).1 len (fun j => .int (f j))) (fun q => by cases q) (by show ¬ (i < 0 ∨ (arrV _ _ _).slots.size ≤ _); rw [arrV_size]; exact hi) rfl rfl hd fun H1 e1 z oq => ?_
  refine kk p e s m args below meth c H1 _ ls hF (hP.set (x0 := .inl (cA, len, .inl f)) z oq ?_) (hS.put z oq (Nat.le_add_right b a)) hl
  show H1[b + a]? = some (vp_cell _ _)
  rw [e1]
  rw [vp_cell_i, vp_cell_i, arrV_store]
  congr 2
  funext q
  by_cases hq : q = i.toNatClampNeg
  · subst hq
    simp [updV, upd]
  · simp [updV, upd, hq]
theorem z_last {t0 a len : Nat} {cA : ClassId} {f : Nat → Int64} {i : Int32} {x : Int64} (hd : decode cc pc = .ok (.lastore, 1)) (ht : tys[t0]? = some (cA, .long)) (hσ : σ a = some (.inl (cA, len, .inr (.inl f)))) (hi : vp_in i len) (kk : Z l D cl tys Ts Nw own nm cc nL ret R b Fi k n N (zUp σ a (.inl (cA, len, .inr (.inl (vp_updL f i.toNatClampNeg x))))) (pc + 1) lv st) : Z l D cl tys Ts Nw own nm cc nL ret R b Fi k n N σ pc lv (.long x :: .int i :: .ref (b + a) :: st) := by
  intro p e s m args below meth c H locs ls hF hP hS hl
  refine W.last hF.1 hF.2.1 (hP.2 a _ hσ) ((hF.2.2.2.2.2.2.2.1.2 t0 _ ht).1 len (fun j => .long (f j))) (fun q => by cases q) (by show ¬ (i < 0 ∨ (arrV _ _ _).slots.size ≤ _); rw [arrV_size]; exact hi) rfl rfl hd fun H1 e1 z oq => ?_
  refine kk p e s m args below meth c H1 _ ls hF (hP.set (x0 := .inl (cA, len, .inr (.inl f))) z oq ?_) (hS.put z oq (Nat.le_add_right b a)) hl
  show H1[b + a]? = some (vp_cell _ _)
  rw [e1]
  rw [vp_cell_l, vp_cell_l, arrV_store]
  congr 2
  funext q
  by_cases hq : q = i.toNatClampNeg
  · subst hq
    simp [updV, vp_updL]
  · simp [updV, vp_updL, hq]
/-- an array of arrays: a row is put into a place (its class is the component's) -/
theorem z_aastA {t0 t1 a a2 len : Nat} {cA cB : ClassId} {ty : FieldType} {f : Nat → Option Nat} {i : Int32} {x : vp_A} (hd : decode cc pc = .ok (.aastore, 1)) (ht : tys[t0]? = some (cA, .array ty)) (ht1 : tys[t1]? = some (cB, ty)) (hrow : ∀ U : State, va_K D cl tys U → ∃ (kA kB : Class), U.vm.classes[cA]? = some kA ∧ kA.kind = .array cB (.array ty) ∧ U.vm.classes[cB]? = some kB ∧ U.vm.assignable cB cB = true) (hσ : σ a = some (.inl (cA, len, .inr (.inr (.inr (.inr f)))))) (hσ2 : σ a2 = some (.inl (cB, x))) (hi : vp_in i len) (kk : Z l D cl tys Ts Nw own nm cc nL ret R b Fi k n N (zUp σ a (.inl (cA, len, .inr (.inr (.inr (.inr (va_up f i.toNatClampNeg (some (b + a2)))))))))  (pc + 1) lv st) : Z l D cl tys Ts Nw own nm cc nL ret R b Fi k n N σ pc lv (.ref (b + a2) :: .int i :: .ref (b + a) :: st) := by
  intro p e s m args below meth c H locs ls hF hP hS hl
  obtain ⟨kA, kB, k1, k2, k3, k4⟩ := hrow s hF.2.2.2.2.2.2.2.1
  have hlt : i.toNatClampNeg < len := Nat.not_le.mp fun q => hi (Or.inr q)
  have h0 : ¬ i < 0 := fun q => hi (Or.inl q)
  have hcv : ∃ cv : Cell, H[b + a2]? = some cv ∧ cv.cls = cB ∧ cv.vm = .none := by
    obtain ⟨n0, f0 | f0 | f0 | f0 | f0⟩ := x <;> exact ⟨_, hP.2 a2 _ hσ2, rfl, rfl⟩
  obtain ⟨cv, g1, g2, g3⟩ := hcv
  refine W.aast hF.1 hF.2.1 (hP.2 a _ hσ) (fun q h => by cases h) (fun h => by cases h) k1 k2 rfl k3 ⟨h0, by show _ < (arrV _ _ _).slots.size; rw [arrV_size]; exact hlt⟩ g1 (fun q h => by rw [g3] at h; cases h) (by rw [g2]; exact k3) (by rw [g2]; exact k4) rfl rfl hd fun H1 e1 z oq => ?_
  refine kk p e s m args below meth c H1 _ ls hF (hP.set (x0 := .inl (cA, len, .inr (.inr (.inr (.inr f))))) z oq ?_) (hS.put z oq (Nat.le_add_right b a)) hl
  show H1[b + a]? = some (vp_cell _ _)
  rw [e1]
  rw [vp_cell_q, vp_cell_q, arrV_store]
  congr 2
  funext q
  by_cases hq : q = i.toNatClampNeg
  · subst hq
    simp [updV, va_up, va_rf]
  · simp [updV, va_up, hq]
/-- an array of objects: an object is put into a place -/
theorem z_aast {t0 a a2 ci len : Nat} {cA : ClassId} {r : vw_C} {vs : List Value} {f : Nat → Option Nat} {i : Int32} (hd : decode cc pc = .ok (.aastore, 1)) (ht : tys[t0]? = some (cA, .object r.1)) (hc : cl[ci]? = some r) (hσ : σ a = some (.inl (cA, len, .inr (.inr (.inr (.inr f)))))) (hσ2 : σ a2 = some (.inr (ci, vs))) (hi : vp_in i len) (kk : Z l D cl tys Ts Nw own nm cc nL ret R b Fi k n N (zUp σ a (.inl (cA, len, .inr (.inr (.inr (.inr (va_up f i.toNatClampNeg (some (b + a2)))))))))  (pc + 1) lv st) : Z l D cl tys Ts Nw own nm cc nL ret R b Fi k n N σ pc lv (.ref (b + a2) :: .int i :: .ref (b + a) :: st) := by
  intro p e s m args below meth c H locs ls hF hP hS hl
  have hK := hF.2.2.2.2.2.2.2.1
  have hlt : i.toNatClampNeg < len := Nat.not_le.mp fun q => hi (Or.inr q)
  have h0 : ¬ i < 0 := fun q => hi (Or.inl q)
  obtain ⟨r', hr', cellV, g1, g2, g3, -⟩ := hP.2 a2 _ hσ2
  have hcls := (hK.1 ci r hc).2
  obtain ⟨kA, comp, k1, k2, k3, -⟩ := (hK.2 t0 _ ht).2
  have hcomp : comp = D.1 ci := Option.some.inj (k3.symm.trans hcls.1)
  subst hcomp
  obtain ⟨kC, hkC, -⟩ := hcls.2
  refine W.aast hF.1 hF.2.1 (hP.2 a _ hσ) (fun q h => by cases h) (fun h => by cases h) k1 k2 rfl hkC ⟨h0, by show _ < (arrV _ _ _).slots.size; rw [arrV_size]; exact hlt⟩ g1 (fun q h => by rw [g3] at h; cases h) (by rw [g2]; exact hkC) (by rw [g2]; exact va_assign hcls) rfl rfl hd fun H1 e1 z oq => ?_
  refine kk p e s m args below meth c H1 _ ls hF (hP.set (x0 := .inl (cA, len, .inr (.inr (.inr (.inr f))))) z oq ?_) (hS.put z oq (Nat.le_add_right b a)) hl
  show H1[b + a]? = some (vp_cell _ _)
  rw [e1]
  rw [vp_cell_q, vp_cell_q, arrV_store]
  congr 2
  funext q
  by_cases hq : q = i.toNatClampNeg
  · subst hq
    simp [updV, va_up, va_rf]
  · simp [updV, va_up, hq]
theorem z_new {index ci : Nat} {C : String} {T : u_T} {N0 : Nat} {fs : List Value} (hd : decode cc pc = .ok (.new index, 3)) (hc : cl[ci]? = some (C, T, N0)) (hin : ∀ w ∈ u_ws C T N0, w ∈ Ts) (ty : Nat → FieldType) (hty : ∀ k, k < N0 → parseFieldDescriptor (T k).2.2.1 = some (ty k)) (hw1 : Cond.classLink own index C ∈ Ts) (hw2 : Cond.instantiable C N0 ∈ Ts) (hw3 : Cond.initialized C ∈ Ts) (hfs : ∀ j, j < N0 → defaultValue (ty j) = vp_V fs j) (h1 : k + 1 ≤ R.cells) (h2 : n + N0 ≤ R.slots) (kk : Z l D cl tys Ts Nw own nm cc nL ret R b Fi (k + 1) (n + N0) (N + 1) (zUp σ N (.inr (ci, fs))) (pc + 3) lv (.ref (b + N) :: st)) : Z l D cl tys Ts Nw own nm cc nL ret R b Fi k n N σ pc lv st := by
  intro p e s m args below meth c H locs ls hF hP hS hl
  obtain ⟨hx, hb, hml, hr, hlocks, hown, hts, hK, hNw, hname, hbs⟩ := id hF
  have hKn := hK.1 ci _ hc
  refine W.newcK hx hb hown (hts _ hw1) (hts _ hw2) (hts _ hw3) rfl hd h1 h2 hKn.2.1 hP.1 fun H1 kC hkC e1 z1 o1 => ?_
  refine kk p e s m args below meth c H1 locs ls hF (hP.push z1 o1 ⟨_, hc, (u_born ty hts hin hKn hkC e1 hty).to hfs⟩) ⟨?_, fun x g1 g2 => ?_, hS.2.2⟩ hl
  · have := hS.1
    rw [hP.1] at this
    omega
  · have := hS.1
    rw [hP.1] at this
    exact (o1 x (by omega)).trans (hS.2.1 x g1 g2)
theorem z_newa {atype : ArrayType} {t0 len : Nat} {cA : ClassId} {ty : FieldType} {x : Int32} {a0 : vp_A} (hd : decode cc pc = .ok (.newarray atype, 2)) (hty : newarray.typeOf atype = ty) (hw : Cond.arrayClass ty ∈ Ts) (ht : tys[t0]? = some (cA, ty)) (ha : vp_cell cA a0 = arrV cA len (fun _ => defaultValue ty)) (hn : ¬ x < 0) (hN : x.toNatClampNeg = len) (hbytes : len * componentBytes ty ≤ 536870912) (h1 : k + 1 ≤ R.cells) (h2 : n + len ≤ R.slots) (kk : Z l D cl tys Ts Nw own nm cc nL ret R b Fi (k + 1) (n + len) (N + 1) (zUp σ N (.inl (cA, a0))) (pc + 2) lv (.ref (b + N) :: st)) : Z l D cl tys Ts Nw own nm cc nL ret R b Fi k n N σ pc lv (.int x :: st) := by
  intro p e s m args below meth c H locs ls hF hP hS hl
  obtain ⟨hx, hb, hml, hr, hlocks, hown, hts, hK, hNw, hname, hbs⟩ := id hF
  subst hty
  refine va_newaK hx hb (hts _ hw) rfl hd rfl hn hN hbytes h1 h2 hP.1 fun H1 cB e1 z1 o1 hAr hNm => ?_
  have hcA : cB = cA := by
    have h := (hK.2 t0 _ ht).2
    have h' : s.vm.findClass ("[" ++ (newarray.typeOf atype).toString) = some cA := by cases atype <;> exact h
    exact Option.some.inj (hNm.symm.trans h')
  subst hcA
  refine kk p e s m args below meth c H1 locs ls hF (hP.push z1 o1 ?_) ⟨?_, fun x g1 g2 => ?_, hS.2.2⟩ hl
  · show H1[b + N]? = some (vp_cell _ _)
    rw [ha]
    exact e1
  · have := hS.1
    rw [hP.1] at this
    omega
  · have := hS.1
    rw [hP.1] at this
    exact (o1 x (by omega)).trans (hS.2.1 x g1 g2)
theorem z_anew {index t0 len : Nat} {C : String} {cA : ClassId} {x : Int32} (hd : decode cc pc = .ok (.anewarray index, 3)) (hw1 : Cond.classLink own index C ∈ Ts) (hw2 : Cond.arrayOver (.object C) ∈ Ts) (ht : tys[t0]? = some (cA, .object C)) (hn : ¬ x < 0) (hN : x.toNatClampNeg = len) (hbytes : len * 4 ≤ 536870912) (h1 : k + 1 ≤ R.cells) (h2 : n + len ≤ R.slots) (kk : Z l D cl tys Ts Nw own nm cc nL ret R b Fi (k + 1) (n + len) (N + 1) (zUp σ N (.inl (cA, len, .inr (.inr (.inr (.inr (fun _ => none))))))) (pc + 3) lv (.ref (b + N) :: st)) : Z l D cl tys Ts Nw own nm cc nL ret R b Fi k n N σ pc lv (.int x :: st) := by
  intro p e s m args below meth c H locs ls hF hP hS hl
  obtain ⟨hx, hb, hml, hr, hlocks, hown, hts, hK, hNw, hname, hbs⟩ := id hF
  subst hN
  refine W.anew hx hb hown (hts _ hw1) (hts _ hw2) rfl hd rfl hn hbytes h1 h2 fun cB kA comp g1 g2 g3 g4 => ?_
  have hcA : cB = cA := by
    obtain ⟨kA', comp', -, -, -, h⟩ := (hK.2 t0 _ ht).2
    exact Option.some.inj (g1.symm.trans h)
  subst hcA
  rw [hP.1]
  refine kk p e s m args below meth c _ locs ls hF (hP.push ?_ ?_ ?_) ⟨?_, fun x g1 g2 => ?_, hS.2.2⟩ hl
  · rw [Array.size_push, hP.1]
  · intro q hq
    rw [Array.getElem?_push, if_neg (by rw [hP.1]; omega)]
  · show (H.push _)[b + N]? = some (vp_cell _ _)
    rw [vp_cell_q, arrV_new, Array.getElem?_push, if_pos hP.1.symm]
    rfl
  · have := hS.1
    rw [Array.size_push]
    omega
  · have := hS.1
    rw [Array.getElem?_push, if_neg (by omega)]
    exact hS.2.1 x g1 g2
theorem z_iret {v : Int32} {mc ms : Nat} {Q : Outcome → Nat → (Nat → Option va_E) → Prop} (hd : decode cc pc = .ok (.ireturn, 1)) (hret : ret = some .int) (h1 : k ≤ mc) (h2 : n ≤ ms) (hQ : Q (.returned (some (.int v))) N σ) : Z l D cl tys Ts Nw own nm cc nL ret R b (zFi D cl b mc ms Q) k n N σ pc lv [.int v] := by
  intro p e s m args below meth c H locs ls hF hP hS hl
  obtain ⟨hx, hb, hml, hr, hlocks, hown, hts, hK, hNw, hname, hbs⟩ := id hF
  subst hret
  refine W.widen h1 h2 ?_
  exact W.iret hx hb hr (fun t ht hW => ⟨⟨N, σ, hQ, by rw [ht]; exact hP⟩, hS.F ht⟩) hS.2.2 hd
theorem z_lret {v : Int64} {mc ms : Nat} {Q : Outcome → Nat → (Nat → Option va_E) → Prop} (hd : decode cc pc = .ok (.lreturn, 1)) (hret : ret = some .long) (h1 : k ≤ mc) (h2 : n ≤ ms) (hQ : Q (.returned (some (.long v))) N σ) : Z l D cl tys Ts Nw own nm cc nL ret R b (zFi D cl b mc ms Q) k n N σ pc lv [.long v] := by
  intro p e s m args below meth c H locs ls hF hP hS hl
  obtain ⟨hx, hb, hml, hr, hlocks, hown, hts, hK, hNw, hname, hbs⟩ := id hF
  subst hret
  refine W.widen h1 h2 ?_
  exact W.lret hx hb hr (fun t ht hW => ⟨⟨N, σ, hQ, by rw [ht]; exact hP⟩, hS.F ht⟩) hS.2.2 hd
theorem z_vret {mc ms : Nat} {Q : Outcome → Nat → (Nat → Option va_E) → Prop} (hd : decode cc pc = .ok (.return_, 1)) (hret : ret = none) (h1 : k ≤ mc) (h2 : n ≤ ms) (hQ : Q (.returned (none)) N σ) : Z l D cl tys Ts Nw own nm cc nL ret R b (zFi D cl b mc ms Q) k n N σ pc lv [] := by
  intro p e s m args below meth c H locs ls hF hP hS hl
  obtain ⟨hx, hb, hml, hr, hlocks, hown, hts, hK, hNw, hname, hbs⟩ := id hF
  subst hret
  refine W.widen h1 h2 ?_
  exact W.vret hx hb hr (fun t ht hW => ⟨⟨N, σ, hQ, by rw [ht]; exact hP⟩, hS.F ht⟩) hS.2.2 hd
theorem z_zret {v : Int32} {mc ms : Nat} {Q : Outcome → Nat → (Nat → Option va_E) → Prop} (hd : decode cc pc = .ok (.ireturn, 1)) (hret : ret = some .boolean) (hv : narrow .boolean (.int v) = .int v) (h1 : k ≤ mc) (h2 : n ≤ ms) (hQ : Q (.returned (some (.int v))) N σ) : Z l D cl tys Ts Nw own nm cc nL ret R b (zFi D cl b mc ms Q) k n N σ pc lv [.int v] := by
  intro p e s m args below meth c H locs ls hF hP hS hl
  obtain ⟨hx, hb, hml, hr, hlocks, hown, hts, hK, hNw, hname, hbs⟩ := id hF
  subst hret
  refine W.widen h1 h2 ?_
  exact W.zret hx hb hr hv (fun t ht hW => ⟨⟨N, σ, hQ, by rw [ht]; exact hP⟩, hS.F ht⟩) hS.2.2 hd
theorem z_objInit {idx a : Nat} (hd : decode cc pc = .ok (.invokespecial idx, 3)) (hw1 : Cond.methodLink own idx objectInit ∈ Ts) (hw2 : Cond.instanceMethod objectInit ∈ Ts) (hw3 : Cond.code objectInit ⟨#[0xb1]⟩ 1 none ∈ Ts) (hf : 1 ≤ R.frames) (hlo : (st.map fun v => v.category).sum + 12 ≤ R.locals) (kk : Z l D cl tys Ts Nw own nm cc nL ret R b Fi k n N σ (pc + 3) lv st) : Z l D cl tys Ts Nw own nm cc nL ret R b Fi k n N σ pc lv (.ref a :: st) := by
  intro p e s m args below meth c H locs ls hF hP hS hl
  obtain ⟨hx, hb, hml, hr, hlocks, hown, hts, hK, hNw, hname, hbs⟩ := id hF
  refine W.objInit hx hb hown (hts _ hw1) (hts _ hw2) (hts _ hw3) rfl (by rw [hml]; exact hl.1) rfl hd hf (by show 2 * 0 + _ + 12 ≤ _; omega) ?_
  exact kk p e s m args below meth c H locs ls hF hP hS hl
theorem z_pre {y : MethodName} {av : List Value} {s : State} {H : Heap} (hK : va_K D cl tys s) (hN : zN Nw s) (hP : zP D cl b N σ H) : FrameBlind (va_Pc av (fun U => zP D cl b N σ U.heap ∧ va_K D cl tys U ∧ zN Nw U)) ∧ ∀ U : State, U.heap = H → s.WarmedH U.vm → va_Pc av (fun U => zP D cl b N σ U.heap ∧ va_K D cl tys U ∧ zN Nw U) av.toArray U :=
  ⟨fun a U g mk q => ⟨q.1, q.2.1, va_K.moved (u := U) (U := U.calling g mk a) (Vm.Alike.refl U.vm) q.2.2.1, zN.same (u := U) (U := U.calling g mk a) rfl q.2.2.2⟩, fun U hU hW => ⟨rfl, by rw [hU]; exact hP, va_K.moved hW.alike hK, hN.warm hW⟩⟩
/-- behind a call -/
theorem z_behind {p : Program} {e : Env} {s : State} {m : MethodId} {args a2 : Array Value} {below : List Frame} {meth : Method} {c : Code} {H : Heap} {locs : List Loc} {ls : Array Slot} {mc ms : Nat} {st0 rest : List Value} {Q : Outcome → Nat → (Nat → Option va_E) → Prop}
    (hF : zF D cl tys Ts Nw own nm cc nL ret b p s m args meth c) (hS : va_S (fun q => b ≤ q) s.heap H locs) (hl : lv_has ls nL lv)
    (hr : va_Run p l e R s m args below meth c H locs k n mc ms (F0 m pc ls st0) rest (zQ D cl b Q a2) (fun q => b ≤ q))
    (kk : ∀ (v : Option Value) (N' : Nat) (σ' : Nat → Option va_E), Q (.returned v) N' σ' → Z l D cl tys Ts Nw own nm cc nL ret R b Fi (k + mc) (n + ms) N' σ' (pc + 3) lv (v.toList ++ rest)) : W p l e R s m args below meth c H locs k n (Fi below args s) (F0 m pc ls st0) := by
  intro T hT X
  obtain ⟨v, st₀, t, T', L, h0, X', hL, e1, e2, ⟨⟨N', σ', hq, hp⟩, hz, hk⟩, st⟩ := hr T hT X
  rw [h0] at hz hk
  have hS' : va_S (fun q => b ≤ q) s.heap T'.heap (locs ++ L) := by
    refine ⟨Nat.le_trans hS.1 (by rw [e1]; exact hz), fun q h1 h2 => by rw [e1, hk q (Nat.lt_of_lt_of_le h1 hS.1) h2]; exact hS.2.1 q h1 h2, fun q hq' => ?_⟩
    rcases List.mem_append.mp hq' with h | h
    · exact hS.2.2 q h
    · exact hL q h
  obtain ⟨t2, a1, b1⟩ := kk v N' σ' hq p e s m args below meth c T'.heap (locs ++ L) ls hF (by rw [e1]; exact hp) hS' hl T' rfl X'
  exact ⟨t2, st t2 a1, b1⟩
/-- what stands fixed of a call of y from a method of own -/
def zCV (Ts : List Cond) (own C : String) (index : Nat) (y : MethodName) (bytes : ByteArray) (maxL : Nat) (ret : Option FieldType) (ws : List Cond) (n : Nat) : Prop := GoodIn Ts (wsV own index C y ws) ∧ (∃ ws', ws = Cond.code y bytes maxL ret :: ws') ∧ (y.cls = C ∧ y.cls ≠ "java/lang/invoke/MethodHandle" ∧ y.cls ≠ "java/lang/invoke/VarHandle" ∧ (parseMethodDescriptor y.desc).map (fun d => d.parameters.length) = some n)
theorem z_callV {y : MethodName} {ws : List Cond} {fr lo mc ms index maxL i ci a : Nat} {C : String} {bytes : ByteArray} {ret' : Option FieldType} {As rest fs : List Value} {Q : Outcome → Nat → (Nat → Option va_E) → Prop} {T : u_T} {N0 : Nat}
    (hd : decode cc pc = .ok (.invokevirtual index, 3)) (cw : zCV Ts own C index y bytes maxL ret' ws i) (hσ : σ a = some (.inr (ci, fs))) (hc : cl[ci]? = some (C, T, N0)) (hM : zM l D cl tys Nw b y ws fr lo mc ms (.ref (b + a) :: As) N σ Q) (hst : st = As.reverse ++ .ref (b + a) :: rest) (hn : As.length = i) (hW : (rest.map fun v => v.category).sum ≤ 8) (hR : fr + 1 ≤ R.frames ∧ 8 + (maxL + 11) + lo ≤ R.locals) (hf : k + mc ≤ R.cells ∧ n + ms ≤ R.slots)
    (kk : ∀ (v : Option Value) (N' : Nat) (σ' : Nat → Option va_E), Q (.returned v) N' σ' → Z l D cl tys Ts Nw own nm cc nL ret R b Fi (k + mc) (n + ms) N' σ' (pc + 3) lv (v.toList ++ rest)) : Z l D cl tys Ts Nw own nm cc nL ret R b Fi k n N σ pc lv st := by
  intro p e s m args below meth c H locs ls hF hP hS hl
  obtain ⟨hx, hb, hml, hr, hlocks, hown, hts, hK, hNw, hname, hbs⟩ := id hF
  obtain ⟨hG, ⟨ws', hw⟩, hd4⟩ := cw
  have hpre := z_pre (y := y) (av := .ref (b + a) :: As) hK hNw hP
  refine z_behind (mc := mc) (ms := ms) (Q := Q) (rest := rest) hF hS hl (va_runV (n := i) (As := As) (rest := rest) (g := F0 m pc ls st) ⟨hx, hb, hml, hown, hts⟩ hM (cwV i hts hG hw rfl rfl hd4 hR) ⟨hpre.1, va_recv hK (hP.one hσ) hc (q0 := 0) rfl, hpre.2⟩ rfl hn hl.1 hst (lv_room hW) hd hf) kk
def zCS (Ts : List Cond) (own : String) (index : Nat) (y : MethodName) (bytes : ByteArray) (maxL : Nat) (ret : Option FieldType) (ws : List Cond) (n : Nat) : Prop := GoodIn Ts (wsS own index y ws) ∧ (∃ ws', ws = Cond.code y bytes maxL ret :: ws') ∧ (y.cls = own ∧ y.cls ≠ "java/lang/invoke/MethodHandle" ∧ y.cls ≠ "java/lang/invoke/VarHandle" ∧ (parseMethodDescriptor y.desc).map (fun d => d.parameters.length) = some n)
theorem z_callS {y : MethodName} {ws : List Cond} {fr lo mc ms index maxL i : Nat} {bytes : ByteArray} {ret' : Option FieldType} {As rest : List Value} {Q : Outcome → Nat → (Nat → Option va_E) → Prop}
    (hd : decode cc pc = .ok (.invokestatic index, 3)) (cw : zCS Ts own index y bytes maxL ret' ws i) (hM : zM l D cl tys Nw b y ws fr lo mc ms As N σ Q) (hst : st = As.reverse ++ rest) (hn : As.length = i) (hW : (rest.map fun v => v.category).sum ≤ 8) (hR : fr + 1 ≤ R.frames ∧ 8 + (maxL + 11) + lo ≤ R.locals) (hf : k + mc ≤ R.cells ∧ n + ms ≤ R.slots)
    (kk : ∀ (v : Option Value) (N' : Nat) (σ' : Nat → Option va_E), Q (.returned v) N' σ' → Z l D cl tys Ts Nw own nm cc nL ret R b Fi (k + mc) (n + ms) N' σ' (pc + 3) lv (v.toList ++ rest)) : Z l D cl tys Ts Nw own nm cc nL ret R b Fi k n N σ pc lv st := by
  intro p e s m args below meth c H locs ls hF hP hS hl
  obtain ⟨hx, hb, hml, hr, hlocks, hown, hts, hK, hNw, hname, hbs⟩ := id hF
  obtain ⟨hG, ⟨ws', hw⟩, hd4⟩ := cw
  have hpre := z_pre (y := y) (av := As) hK hNw hP
  refine z_behind (mc := mc) (ms := ms) (Q := Q) (rest := rest) hF hS hl (va_runS (n := i) (As := As) (rest := rest) (g := F0 m pc ls st) ⟨hx, hb, hml, hown, hts⟩ hM (cwS i hts hG hw rfl rfl hd4 hR) ⟨hpre.1, hpre.2⟩ rfl hn hl.1 hst (lv_room hW) hd hf) kk
def zCI (Ts : List Cond) (own : String) (index : Nat) (y : MethodName) (bytes : ByteArray) (maxL : Nat) (ws : List Cond) (n : Nat) : Prop := GoodIn Ts ws ∧ (∃ ws', ws = Cond.code y bytes maxL none :: ws') ∧ Cond.initialized y.cls ∈ Ts ∧ Cond.methodLink own index y ∈ Ts ∧ Cond.instanceMethod y ∈ Ts ∧ y.name = "<init>" ∧ (y.cls ≠ "java/lang/invoke/MethodHandle" ∧ y.cls ≠ "java/lang/invoke/VarHandle" ∧ (parseMethodDescriptor y.desc).map (fun d => d.parameters.length) = some n)
theorem z_callI {y : MethodName} {ws : List Cond} {fr lo mc ms index maxL i a : Nat} {bytes : ByteArray} {As rest : List Value} {Q : Outcome → Nat → (Nat → Option va_E) → Prop}
    (hd : decode cc pc = .ok (.invokespecial index, 3)) (cw : zCI Ts own index y bytes maxL ws i) (hM : zM l D cl tys Nw b y ws fr lo mc ms (.ref a :: As) N σ Q) (hst : st = As.reverse ++ .ref a :: rest) (hn : As.length = i) (hW : (rest.map fun v => v.category).sum ≤ 8) (hR : fr + 1 ≤ R.frames ∧ 8 + (maxL + 11) + lo ≤ R.locals) (hf : k + mc ≤ R.cells ∧ n + ms ≤ R.slots)
    (kk : ∀ (v : Option Value) (N' : Nat) (σ' : Nat → Option va_E), Q (.returned v) N' σ' → Z l D cl tys Ts Nw own nm cc nL ret R b Fi (k + mc) (n + ms) N' σ' (pc + 3) lv (v.toList ++ rest)) : Z l D cl tys Ts Nw own nm cc nL ret R b Fi k n N σ pc lv st := by
  intro p e s m args below meth c H locs ls hF hP hS hl
  obtain ⟨hx, hb, hml, hr, hlocks, hown, hts, hK, hNw, hname, hbs⟩ := id hF
  obtain ⟨hG, ⟨ws', hw⟩, h1, h2, h3, h4, hd4⟩ := cw
  have hpre := z_pre (y := y) (av := .ref a :: As) hK hNw hP
  refine z_behind (mc := mc) (ms := ms) (Q := Q) (rest := rest) hF hS hl (va_runI (n := i) (As := As) (rest := rest) (g := F0 m pc ls st) ⟨hx, hb, hml, hown, hts⟩ hM (cwI i hts hG hw rfl rfl (hts _ h1) (hts _ h2) (hts _ h3) h4 hd4 hR) ⟨hpre.1, hpre.2⟩ rfl hn hl.1 hst (lv_room hW) hd hf) kk
/-- calls of private members of a nest mate -/
def zCN (Ts Nw : List Cond) (own : String) (index : Nat) (y : MethodName) (host : String) (bytes : ByteArray) (maxL : Nat) (ret : Option FieldType) (ws : List Cond) (n : Nat) : Prop := GoodIn Ts ws ∧ (∃ ws', ws = Cond.code y bytes maxL ret :: ws') ∧ Cond.methodLinkNest own index y host ∈ Nw ∧ Cond.initialized y.cls ∈ Ts ∧ (y.cls ≠ "java/lang/invoke/MethodHandle" ∧ y.cls ≠ "java/lang/invoke/VarHandle" ∧ (parseMethodDescriptor y.desc).map (fun d => d.parameters.length) = some n)
theorem z_callIN {y : MethodName} {ws : List Cond} {fr lo mc ms index maxL i a : Nat} {host : String} {bytes : ByteArray} {As rest : List Value} {Q : Outcome → Nat → (Nat → Option va_E) → Prop}
    (hd : decode cc pc = .ok (.invokespecial index, 3)) (cw : zCN Ts Nw own index y host bytes maxL none ws i) (h4 : y.name = "<init>") (h3 : Cond.instanceMethod y ∈ Ts) (hM : zM l D cl tys Nw b y ws fr lo mc ms (.ref a :: As) N σ Q) (hst : st = As.reverse ++ .ref a :: rest) (hn : As.length = i) (hW : (rest.map fun v => v.category).sum ≤ 8) (hR : fr + 1 ≤ R.frames ∧ 8 + (maxL + 11) + lo ≤ R.locals) (hf : k + mc ≤ R.cells ∧ n + ms ≤ R.slots)
    (kk : ∀ (v : Option Value) (N' : Nat) (σ' : Nat → Option va_E), Q (.returned v) N' σ' → Z l D cl tys Ts Nw own nm cc nL ret R b Fi (k + mc) (n + ms) N' σ' (pc + 3) lv (v.toList ++ rest)) : Z l D cl tys Ts Nw own nm cc nL ret R b Fi k n N σ pc lv st := by
  intro p e s m args below meth c H locs ls hF hP hS hl
  obtain ⟨hx, hb, hml, hr, hlocks, hown, hts, hK, hNw, hname, hbs⟩ := id hF
  obtain ⟨hG, ⟨ws', hw⟩, h1, h2, hd4⟩ := cw
  have hpre := z_pre (y := y) (av := .ref a :: As) hK hNw hP
  refine z_behind (mc := mc) (ms := ms) (Q := Q) (rest := rest) hF hS hl (va_runIN (n := i) (As := As) (rest := rest) (g := F0 m pc ls st) ⟨hx, hb, hml, hown, hts⟩ hM ⟨va_cnB i hts hG hw rfl rfl (hNw _ h1).1 (hts _ h2) hd4 hR, h4, hts _ h3⟩ ⟨hpre.1, hpre.2⟩ rfl hn hl.1 hst (lv_room hW) hd hf) kk
theorem z_callSN {y : MethodName} {ws : List Cond} {fr lo mc ms index maxL i : Nat} {host : String} {bytes : ByteArray} {ret' : Option FieldType} {As rest : List Value} {Q : Outcome → Nat → (Nat → Option va_E) → Prop}
    (hd : decode cc pc = .ok (.invokestatic index, 3)) (cw : zCN Ts Nw own index y host bytes maxL ret' ws i) (h3 : Cond.static y ∈ Ts) (hM : zM l D cl tys Nw b y ws fr lo mc ms As N σ Q) (hst : st = As.reverse ++ rest) (hn : As.length = i) (hW : (rest.map fun v => v.category).sum ≤ 8) (hR : fr + 1 ≤ R.frames ∧ 8 + (maxL + 11) + lo ≤ R.locals) (hf : k + mc ≤ R.cells ∧ n + ms ≤ R.slots)
    (kk : ∀ (v : Option Value) (N' : Nat) (σ' : Nat → Option va_E), Q (.returned v) N' σ' → Z l D cl tys Ts Nw own nm cc nL ret R b Fi (k + mc) (n + ms) N' σ' (pc + 3) lv (v.toList ++ rest)) : Z l D cl tys Ts Nw own nm cc nL ret R b Fi k n N σ pc lv st := by
  intro p e s m args below meth c H locs ls hF hP hS hl
  obtain ⟨hx, hb, hml, hr, hlocks, hown, hts, hK, hNw, hname, hbs⟩ := id hF
  obtain ⟨hG, ⟨ws', hw⟩, h1, h2, hd4⟩ := cw
  have hpre := z_pre (y := y) (av := As) hK hNw hP
  refine z_behind (mc := mc) (ms := ms) (Q := Q) (rest := rest) hF hS hl (va_runSN (n := i) (As := As) (rest := rest) (g := F0 m pc ls st) ⟨hx, hb, hml, hown, hts⟩ hM ⟨va_cnB i hts hG hw rfl rfl (hNw _ h1).1 (hts _ h2) hd4 hR, hts _ h3, trivial⟩ ⟨hpre.1, hpre.2⟩ rfl hn hl.1 hst (lv_room hW) hd hf) kk
end ZR
/-- a contract out of a walk -/
theorem zM.of {l : Launch} {D : va_G} {cl : List vw_C} {tys : List (ClassId × FieldType)} {ws ws' Nw : List Cond} {b : Nat} {y : MethodName} {cc : ByteArray} {nL : Nat} {ret : Option FieldType} {fr lo mc ms : Nat} {av : List Value} {N : Nat} {σ : Nat → Option va_E} {Q : Outcome → Nat → (Nat → Option va_E) → Prop} (hy : plainName y.cls = true) (hw : ws = Cond.code y cc nL ret :: ws') (hlen : (lg_sl av).length ≤ nL)
    (kk : Z l D cl tys ws Nw y.cls y.name cc nL ret { frames := fr, cells := mc, slots := ms, locals := lo } b (zFi D cl b mc ms Q) 0 0 N σ 0 (lv_args 0 av) []) : zM l D cl tys Nw b y ws fr lo mc ms av N σ Q := by
  refine Met.ofW (cc := cc) (maxL := nL) (ret := ret) hy hw ?_
  intro p e s m args below meth c s₁ B hml hv
  obtain ⟨rfl, hP, hK, hN⟩ := hv
  have hx := B.exec
  have hb := B.bytes
  have hr := B.returns
  have hts := atoms_spec (ws := ws) B.pre
  have hown : s.vm.findClass y.cls = some m.cls := findClass_of_methodNamed B.named
  have hlocks := B.notSynchronized
  have hname : meth.name = y.name := (name_of_methodNamed B.named B.method).1
  have hl := lv_entry av (n := nL) hlen
  rw [lg_entry_eq]
  generalize (lg_sl av ++ List.replicate (nL - (lg_sl av).length) Slot.unset).toArray = ls at hl ⊢
  exact kk p e s m av.toArray below meth c s.heap [] ls ⟨hx, hb, hml, hr, hlocks, hown, hts, hK, hN, hname, by rw [hP.1]; exact Nat.le_add_right b N⟩ hP va_S.rf hl
end
section
/-- what of the tables' words a contract may carry on -/
def zT : List Cond := lw_tbl.filter goodWord
theorem zin {w : Cond} (i : Nat) (h : lw_tbl[i]? = some w) (hg : goodWord w = true) : w ∈ zT := List.mem_filter.mpr ⟨List.mem_of_getElem? h, hg⟩
theorem zT_tbl {w : Cond} (h : w ∈ zT) : w ∈ lw_tbl := (List.mem_filter.mp h).1
theorem mk_good {c c2 : Cond} (h : c2 ∈ zT) : GoodIn (c :: zT) (c2 :: zT) := fun w hw => (List.mem_cons.mp hw).elim (fun e => ⟨List.mem_cons_of_mem _ (e ▸ h), good_of_word (List.mem_filter.mp (e ▸ h)).2⟩) (fun h => ⟨List.mem_cons_of_mem _ h, good_of_word (List.mem_filter.mp h).2⟩)
theorem mk_cons {c w : Cond} {ws : List Cond} (h : w ∈ zT) (hg : GoodIn (c :: zT) ws) : GoodIn (c :: zT) (w :: ws) := fun v hv => (List.mem_cons.mp hv).elim (fun e => ⟨List.mem_cons_of_mem _ (e ▸ h), good_of_word (List.mem_filter.mp (e ▸ h)).2⟩) (hg v)
theorem mk_goodL {c2 : Cond} (h : c2 ∈ zT) : GoodIn lw_tbl (c2 :: zT) := fun w hw => (List.mem_cons.mp hw).elim (fun e => ⟨zT_tbl (e ▸ h), good_of_word (List.mem_filter.mp (e ▸ h)).2⟩) (fun h => ⟨zT_tbl h, good_of_word (List.mem_filter.mp h).2⟩)
def kR_C : String := "TreeCounts"
def kF_C : u_T := fun k => match k with
  | 0 => ("TreeCounts", "net", "LTreeCounts$Net;", true)
  | 1 => ("TreeCounts", "sums", "LTreeCounts$Trees;", true)
  | 2 => ("TreeCounts", "rings", "LTreeCounts$Rings;", true)
  | 3 => ("TreeCounts", "rounds", "LTreeCounts$Group;", true)
  | 4 => ("TreeCounts", "piles", "LTreeCounts$Piles;", true)
  | _ => ("TreeCounts", "sets", "LTreeCounts$Sets;", true)
def kT_C : Nat → FieldType := fun k => match k with
  | 0 => .object "TreeCounts$Net"
  | 1 => .object "TreeCounts$Trees"
  | 2 => .object "TreeCounts$Rings"
  | 3 => .object "TreeCounts$Group"
  | 4 => .object "TreeCounts$Piles"
  | _ => .object "TreeCounts$Sets"
theorem kn_C : ∀ a, a < 6 → ∀ b, b < 6 → a ≠ b → (kF_C a).2.1 ≠ (kF_C b).2.1 := by decide +kernel
theorem kt_C : ∀ k, k < 6 → parseFieldDescriptor (kF_C k).2.2.1 = some (kT_C k) := by decide +kernel
theorem ki_C : ∀ w ∈ u_ws kR_C kF_C 6, w ∈ zT := by
  have h : ∀ j, j < 6 → u_lay kR_C kF_C j ∈ zT := by
    intro j hj
    match j, hj with
    | 0, _ => exact (zin 305 (by decide +kernel) (by decide +kernel))
    | 1, _ => exact (zin 307 (by decide +kernel) (by decide +kernel))
    | 2, _ => exact (zin 309 (by decide +kernel) (by decide +kernel))
    | 3, _ => exact (zin 311 (by decide +kernel) (by decide +kernel))
    | 4, _ => exact (zin 313 (by decide +kernel) (by decide +kernel))
    | 5, _ => exact (zin 315 (by decide +kernel) (by decide +kernel))
    | j + 6, h => omega
  intro w hw
  obtain ⟨j, hj, rfl⟩ := List.mem_map.mp hw
  exact h j (List.mem_range.mp hj)
def kR_N : String := "TreeCounts$Net"
def kF_N : u_T := fun k => match k with
  | 0 => ("TreeCounts$Net", "nodes", "I", false)
  | 1 => ("TreeCounts$Net", "arcs", "I", false)
  | 2 => ("TreeCounts$Net", "from", "[I", true)
  | 3 => ("TreeCounts$Net", "to", "[I", true)
  | _ => ("TreeCounts$Net", "weight", "[I", true)
def kT_N : Nat → FieldType := fun k => match k with
  | 0 => .int
  | 1 => .int
  | 2 => .array .int
  | 3 => .array .int
  | _ => .array .int
theorem kn_N : ∀ a, a < 5 → ∀ b, b < 5 → a ≠ b → (kF_N a).2.1 ≠ (kF_N b).2.1 := by decide +kernel
theorem kt_N : ∀ k, k < 5 → parseFieldDescriptor (kF_N k).2.2.1 = some (kT_N k) := by decide +kernel
theorem ki_N : ∀ w ∈ u_ws kR_N kF_N 5, w ∈ zT := by
  have h : ∀ j, j < 5 → u_lay kR_N kF_N j ∈ zT := by
    intro j hj
    match j, hj with
    | 0, _ => exact (zin 111 (by decide +kernel) (by decide +kernel))
    | 1, _ => exact (zin 113 (by decide +kernel) (by decide +kernel))
    | 2, _ => exact (zin 115 (by decide +kernel) (by decide +kernel))
    | 3, _ => exact (zin 117 (by decide +kernel) (by decide +kernel))
    | 4, _ => exact (zin 119 (by decide +kernel) (by decide +kernel))
    | j + 5, h => omega
  intro w hw
  obtain ⟨j, hj, rfl⟩ := List.mem_map.mp hw
  exact h j (List.mem_range.mp hj)
def kR_P : String := "TreeCounts$Parts"
def kF_P : u_T := fun k => match k with
  | 0 => ("TreeCounts$Parts", "size", "I", false)
  | 1 => ("TreeCounts$Parts", "count", "I", false)
  | _ => ("TreeCounts$Parts", "part", "[I", true)
def kT_P : Nat → FieldType := fun k => match k with
  | 0 => .int
  | 1 => .int
  | _ => .array .int
theorem kn_P : ∀ a, a < 3 → ∀ b, b < 3 → a ≠ b → (kF_P a).2.1 ≠ (kF_P b).2.1 := by decide +kernel
theorem kt_P : ∀ k, k < 3 → parseFieldDescriptor (kF_P k).2.2.1 = some (kT_P k) := by decide +kernel
theorem ki_P : ∀ w ∈ u_ws kR_P kF_P 3, w ∈ zT := by
  have h : ∀ j, j < 3 → u_lay kR_P kF_P j ∈ zT := by
    intro j hj
    match j, hj with
    | 0, _ => exact (zin 136 (by decide +kernel) (by decide +kernel))
    | 1, _ => exact (zin 138 (by decide +kernel) (by decide +kernel))
    | 2, _ => exact (zin 140 (by decide +kernel) (by decide +kernel))
    | j + 3, h => omega
  intro w hw
  obtain ⟨j, hj, rfl⟩ := List.mem_map.mp hw
  exact h j (List.mem_range.mp hj)
def kR_G : String := "TreeCounts$Grid"
def kF_G : u_T := fun k => match k with
  | 0 => ("TreeCounts$Grid", "size", "I", false)
  | _ => ("TreeCounts$Grid", "cell", "[[J", true)
def kT_G : Nat → FieldType := fun k => match k with
  | 0 => .int
  | _ => .array (.array .long)
theorem kn_G : ∀ a, a < 2 → ∀ b, b < 2 → a ≠ b → (kF_G a).2.1 ≠ (kF_G b).2.1 := by decide +kernel
theorem kt_G : ∀ k, k < 2 → parseFieldDescriptor (kF_G k).2.2.1 = some (kT_G k) := by decide +kernel
theorem ki_G : ∀ w ∈ u_ws kR_G kF_G 2, w ∈ zT := by
  have h : ∀ j, j < 2 → u_lay kR_G kF_G j ∈ zT := by
    intro j hj
    match j, hj with
    | 0, _ => exact (zin 157 (by decide +kernel) (by decide +kernel))
    | 1, _ => exact (zin 159 (by decide +kernel) (by decide +kernel))
    | j + 2, h => omega
  intro w hw
  obtain ⟨j, hj, rfl⟩ := List.mem_map.mp hw
  exact h j (List.mem_range.mp hj)
def kR_T : String := "TreeCounts$Trees"
def kF_T : u_T := fun k => match k with
  | 0 => ("TreeCounts$Trees", "net", "LTreeCounts$Net;", true)
  | 1 => ("TreeCounts$Trees", "parts", "LTreeCounts$Parts;", true)
  | 2 => ("TreeCounts$Trees", "grid", "LTreeCounts$Grid;", true)
  | 3 => ("TreeCounts$Trees", "chosenSum", "J", false)
  | _ => ("TreeCounts$Trees", "chosenProduct", "J", false)
def kT_T : Nat → FieldType := fun k => match k with
  | 0 => .object "TreeCounts$Net"
  | 1 => .object "TreeCounts$Parts"
  | 2 => .object "TreeCounts$Grid"
  | 3 => .long
  | _ => .long
theorem kn_T : ∀ a, a < 5 → ∀ b, b < 5 → a ≠ b → (kF_T a).2.1 ≠ (kF_T b).2.1 := by decide +kernel
theorem kt_T : ∀ k, k < 5 → parseFieldDescriptor (kF_T k).2.2.1 = some (kT_T k) := by decide +kernel
theorem ki_T : ∀ w ∈ u_ws kR_T kF_T 5, w ∈ zT := by
  have h : ∀ j, j < 5 → u_lay kR_T kF_T j ∈ zT := by
    intro j hj
    match j, hj with
    | 0, _ => exact (zin 174 (by decide +kernel) (by decide +kernel))
    | 1, _ => exact (zin 176 (by decide +kernel) (by decide +kernel))
    | 2, _ => exact (zin 178 (by decide +kernel) (by decide +kernel))
    | 3, _ => exact (zin 180 (by decide +kernel) (by decide +kernel))
    | 4, _ => exact (zin 182 (by decide +kernel) (by decide +kernel))
    | j + 5, h => omega
  intro w hw
  obtain ⟨j, hj, rfl⟩ := List.mem_map.mp hw
  exact h j (List.mem_range.mp hj)
def kR_R : String := "TreeCounts$Rings"
def kF_R : u_T := fun k => match k with
  | 0 => ("TreeCounts$Rings", "length", "I", false)
  | 1 => ("TreeCounts$Rings", "row", "[I", true)
  | 2 => ("TreeCounts$Rings", "back", "[I", true)
  | 3 => ("TreeCounts$Rings", "net", "LTreeCounts$Net;", true)
  | _ => ("TreeCounts$Rings", "parts", "LTreeCounts$Parts;", true)
def kT_R : Nat → FieldType := fun k => match k with
  | 0 => .int
  | 1 => .array .int
  | 2 => .array .int
  | 3 => .object "TreeCounts$Net"
  | _ => .object "TreeCounts$Parts"
theorem kn_R : ∀ a, a < 5 → ∀ b, b < 5 → a ≠ b → (kF_R a).2.1 ≠ (kF_R b).2.1 := by decide +kernel
theorem kt_R : ∀ k, k < 5 → parseFieldDescriptor (kF_R k).2.2.1 = some (kT_R k) := by decide +kernel
theorem ki_R : ∀ w ∈ u_ws kR_R kF_R 5, w ∈ zT := by
  have h : ∀ j, j < 5 → u_lay kR_R kF_R j ∈ zT := by
    intro j hj
    match j, hj with
    | 0, _ => exact (zin 198 (by decide +kernel) (by decide +kernel))
    | 1, _ => exact (zin 200 (by decide +kernel) (by decide +kernel))
    | 2, _ => exact (zin 202 (by decide +kernel) (by decide +kernel))
    | 3, _ => exact (zin 204 (by decide +kernel) (by decide +kernel))
    | 4, _ => exact (zin 206 (by decide +kernel) (by decide +kernel))
    | j + 5, h => omega
  intro w hw
  obtain ⟨j, hj, rfl⟩ := List.mem_map.mp hw
  exact h j (List.mem_range.mp hj)
def kR_U : String := "TreeCounts$Group"
def kF_U : u_T := fun k => match k with
  | 0 => ("TreeCounts$Group", "count", "I", false)
  | 1 => ("TreeCounts$Group", "rounds", "[J", true)
  | 2 => ("TreeCounts$Group", "net", "LTreeCounts$Net;", true)
  | 3 => ("TreeCounts$Group", "sums", "LTreeCounts$Trees;", true)
  | 4 => ("TreeCounts$Group", "grid", "LTreeCounts$Grid;", true)
  | 5 => ("TreeCounts$Group", "order", "J", false)
  | 6 => ("TreeCounts$Group", "common", "J", false)
  | 7 => ("TreeCounts$Group", "timesPivot", "J", false)
  | _ => ("TreeCounts$Group", "timesOther", "J", false)
def kT_U : Nat → FieldType := fun k => match k with
  | 0 => .int
  | 1 => .array .long
  | 2 => .object "TreeCounts$Net"
  | 3 => .object "TreeCounts$Trees"
  | 4 => .object "TreeCounts$Grid"
  | 5 => .long
  | 6 => .long
  | 7 => .long
  | _ => .long
theorem kn_U : ∀ a, a < 9 → ∀ b, b < 9 → a ≠ b → (kF_U a).2.1 ≠ (kF_U b).2.1 := by decide +kernel
theorem kt_U : ∀ k, k < 9 → parseFieldDescriptor (kF_U k).2.2.1 = some (kT_U k) := by decide +kernel
theorem ki_U : ∀ w ∈ u_ws kR_U kF_U 9, w ∈ zT := by
  have h : ∀ j, j < 9 → u_lay kR_U kF_U j ∈ zT := by
    intro j hj
    match j, hj with
    | 0, _ => exact (zin 225 (by decide +kernel) (by decide +kernel))
    | 1, _ => exact (zin 227 (by decide +kernel) (by decide +kernel))
    | 2, _ => exact (zin 229 (by decide +kernel) (by decide +kernel))
    | 3, _ => exact (zin 231 (by decide +kernel) (by decide +kernel))
    | 4, _ => exact (zin 233 (by decide +kernel) (by decide +kernel))
    | 5, _ => exact (zin 235 (by decide +kernel) (by decide +kernel))
    | 6, _ => exact (zin 237 (by decide +kernel) (by decide +kernel))
    | 7, _ => exact (zin 239 (by decide +kernel) (by decide +kernel))
    | 8, _ => exact (zin 241 (by decide +kernel) (by decide +kernel))
    | j + 9, h => omega
  intro w hw
  obtain ⟨j, hj, rfl⟩ := List.mem_map.mp hw
  exact h j (List.mem_range.mp hj)
def kR_L : String := "TreeCounts$Piles"
def kF_L : u_T := fun k => match k with
  | 0 => ("TreeCounts$Piles", "held", "[J", true)
  | 1 => ("TreeCounts$Piles", "firings", "[J", true)
  | 2 => ("TreeCounts$Piles", "trialHeld", "[J", true)
  | 3 => ("TreeCounts$Piles", "trialFirings", "[J", true)
  | 4 => ("TreeCounts$Piles", "net", "LTreeCounts$Net;", true)
  | _ => ("TreeCounts$Piles", "grid", "LTreeCounts$Grid;", true)
def kT_L : Nat → FieldType := fun k => match k with
  | 0 => .array .long
  | 1 => .array .long
  | 2 => .array .long
  | 3 => .array .long
  | 4 => .object "TreeCounts$Net"
  | _ => .object "TreeCounts$Grid"
theorem kn_L : ∀ a, a < 6 → ∀ b, b < 6 → a ≠ b → (kF_L a).2.1 ≠ (kF_L b).2.1 := by decide +kernel
theorem kt_L : ∀ k, k < 6 → parseFieldDescriptor (kF_L k).2.2.1 = some (kT_L k) := by decide +kernel
theorem ki_L : ∀ w ∈ u_ws kR_L kF_L 6, w ∈ zT := by
  have h : ∀ j, j < 6 → u_lay kR_L kF_L j ∈ zT := by
    intro j hj
    match j, hj with
    | 0, _ => exact (zin 258 (by decide +kernel) (by decide +kernel))
    | 1, _ => exact (zin 260 (by decide +kernel) (by decide +kernel))
    | 2, _ => exact (zin 262 (by decide +kernel) (by decide +kernel))
    | 3, _ => exact (zin 264 (by decide +kernel) (by decide +kernel))
    | 4, _ => exact (zin 266 (by decide +kernel) (by decide +kernel))
    | 5, _ => exact (zin 268 (by decide +kernel) (by decide +kernel))
    | j + 6, h => omega
  intro w hw
  obtain ⟨j, hj, rfl⟩ := List.mem_map.mp hw
  exact h j (List.mem_range.mp hj)
def kR_S : String := "TreeCounts$Sets"
def kF_S : u_T := fun k => match k with
  | 0 => ("TreeCounts$Sets", "net", "LTreeCounts$Net;", true)
  | 1 => ("TreeCounts$Sets", "parts", "LTreeCounts$Parts;", true)
  | 2 => ("TreeCounts$Sets", "joined", "[LTreeCounts$Parts;", true)
  | 3 => ("TreeCounts$Sets", "lifts", "[J", true)
  | 4 => ("TreeCounts$Sets", "turns", "[J", true)
  | _ => ("TreeCounts$Sets", "fewestParts", "I", false)
def kT_S : Nat → FieldType := fun k => match k with
  | 0 => .object "TreeCounts$Net"
  | 1 => .object "TreeCounts$Parts"
  | 2 => .array (.object "TreeCounts$Parts")
  | 3 => .array .long
  | 4 => .array .long
  | _ => .int
theorem kn_S : ∀ a, a < 6 → ∀ b, b < 6 → a ≠ b → (kF_S a).2.1 ≠ (kF_S b).2.1 := by decide +kernel
theorem kt_S : ∀ k, k < 6 → parseFieldDescriptor (kF_S k).2.2.1 = some (kT_S k) := by decide +kernel
theorem ki_S : ∀ w ∈ u_ws kR_S kF_S 6, w ∈ zT := by
  have h : ∀ j, j < 6 → u_lay kR_S kF_S j ∈ zT := by
    intro j hj
    match j, hj with
    | 0, _ => exact (zin 286 (by decide +kernel) (by decide +kernel))
    | 1, _ => exact (zin 288 (by decide +kernel) (by decide +kernel))
    | 2, _ => exact (zin 290 (by decide +kernel) (by decide +kernel))
    | 3, _ => exact (zin 292 (by decide +kernel) (by decide +kernel))
    | 4, _ => exact (zin 294 (by decide +kernel) (by decide +kernel))
    | 5, _ => exact (zin 296 (by decide +kernel) (by decide +kernel))
    | j + 6, h => omega
  intro w hw
  obtain ⟨j, hj, rfl⟩ := List.mem_map.mp hw
  exact h j (List.mem_range.mp hj)
def kR_M : String := "TreeCountsModel"
def kF_M : u_T := fun k => match k with
  | 0 => ("TreeCountsModel", "thrown", "I", false)
  | 1 => ("TreeCountsModel", "nodes", "I", false)
  | 2 => ("TreeCountsModel", "arcs", "I", false)
  | 3 => ("TreeCountsModel", "from", "[I", true)
  | 4 => ("TreeCountsModel", "to", "[I", true)
  | 5 => ("TreeCountsModel", "weight", "[I", true)
  | 6 => ("TreeCountsModel", "chip", "[J", true)
  | 7 => ("TreeCountsModel", "fire", "[J", true)
  | 8 => ("TreeCountsModel", "a", "[J", true)
  | 9 => ("TreeCountsModel", "work", "[J", true)
  | 10 => ("TreeCountsModel", "part", "[I", true)
  | 11 => ("TreeCountsModel", "isOut", "[Z", true)
  | 12 => ("TreeCountsModel", "index", "[I", true)
  | 13 => ("TreeCountsModel", "kept", "[I", true)
  | 14 => ("TreeCountsModel", "factor", "J", false)
  | 15 => ("TreeCountsModel", "isTaken", "[Z", true)
  | 16 => ("TreeCountsModel", "line", "[I", true)
  | 17 => ("TreeCountsModel", "lineSize", "I", false)
  | 18 => ("TreeCountsModel", "by", "[I", true)
  | 19 => ("TreeCountsModel", "seen", "[Z", true)
  | 20 => ("TreeCountsModel", "queue", "[I", true)
  | 21 => ("TreeCountsModel", "rounds", "[J", true)
  | 22 => ("TreeCountsModel", "roundMany", "I", false)
  | 23 => ("TreeCountsModel", "pile", "[J", true)
  | _ => ("TreeCountsModel", "fires", "[J", true)
def kT_M : Nat → FieldType := fun k => match k with
  | 0 => .int
  | 1 => .int
  | 2 => .int
  | 3 => .array .int
  | 4 => .array .int
  | 5 => .array .int
  | 6 => .array .long
  | 7 => .array .long
  | 8 => .array .long
  | 9 => .array .long
  | 10 => .array .int
  | 11 => .array .boolean
  | 12 => .array .int
  | 13 => .array .int
  | 14 => .long
  | 15 => .array .boolean
  | 16 => .array .int
  | 17 => .int
  | 18 => .array .int
  | 19 => .array .boolean
  | 20 => .array .int
  | 21 => .array .long
  | 22 => .int
  | 23 => .array .long
  | _ => .array .long
theorem kn_M : ∀ a, a < 25 → ∀ b, b < 25 → a ≠ b → (kF_M a).2.1 ≠ (kF_M b).2.1 := by decide +kernel
theorem kt_M : ∀ k, k < 25 → parseFieldDescriptor (kF_M k).2.2.1 = some (kT_M k) := by decide +kernel
theorem ki_M : ∀ w ∈ u_ws kR_M kF_M 25, w ∈ zT := by
  have h : ∀ j, j < 25 → u_lay kR_M kF_M j ∈ zT := by
    intro j hj
    match j, hj with
    | 0, _ => exact (zin 787 (by decide +kernel) (by decide +kernel))
    | 1, _ => exact (zin 789 (by decide +kernel) (by decide +kernel))
    | 2, _ => exact (zin 791 (by decide +kernel) (by decide +kernel))
    | 3, _ => exact (zin 793 (by decide +kernel) (by decide +kernel))
    | 4, _ => exact (zin 795 (by decide +kernel) (by decide +kernel))
    | 5, _ => exact (zin 797 (by decide +kernel) (by decide +kernel))
    | 6, _ => exact (zin 799 (by decide +kernel) (by decide +kernel))
    | 7, _ => exact (zin 801 (by decide +kernel) (by decide +kernel))
    | 8, _ => exact (zin 803 (by decide +kernel) (by decide +kernel))
    | 9, _ => exact (zin 805 (by decide +kernel) (by decide +kernel))
    | 10, _ => exact (zin 807 (by decide +kernel) (by decide +kernel))
    | 11, _ => exact (zin 809 (by decide +kernel) (by decide +kernel))
    | 12, _ => exact (zin 811 (by decide +kernel) (by decide +kernel))
    | 13, _ => exact (zin 813 (by decide +kernel) (by decide +kernel))
    | 14, _ => exact (zin 815 (by decide +kernel) (by decide +kernel))
    | 15, _ => exact (zin 817 (by decide +kernel) (by decide +kernel))
    | 16, _ => exact (zin 819 (by decide +kernel) (by decide +kernel))
    | 17, _ => exact (zin 821 (by decide +kernel) (by decide +kernel))
    | 18, _ => exact (zin 823 (by decide +kernel) (by decide +kernel))
    | 19, _ => exact (zin 825 (by decide +kernel) (by decide +kernel))
    | 20, _ => exact (zin 827 (by decide +kernel) (by decide +kernel))
    | 21, _ => exact (zin 829 (by decide +kernel) (by decide +kernel))
    | 22, _ => exact (zin 831 (by decide +kernel) (by decide +kernel))
    | 23, _ => exact (zin 833 (by decide +kernel) (by decide +kernel))
    | 24, _ => exact (zin 835 (by decide +kernel) (by decide +kernel))
    | j + 25, h => omega
  intro w hw
  obtain ⟨j, hj, rfl⟩ := List.mem_map.mp hw
  exact h j (List.mem_range.mp hj)
abbrev kCl : List vw_C := [(kR_C, kF_C, 6), (kR_N, kF_N, 5), (kR_P, kF_P, 3), (kR_G, kF_G, 2), (kR_T, kF_T, 5), (kR_R, kF_R, 5), (kR_U, kF_U, 9), (kR_L, kF_L, 6), (kR_S, kF_S, 6), (kR_M, kF_M, 25)]
abbrev kA_C : Nat := 0
theorem kc_C : kCl[0]? = some (kR_C, kF_C, 6) := rfl
abbrev kA_N : Nat := 1
theorem kc_N : kCl[1]? = some (kR_N, kF_N, 5) := rfl
abbrev kA_P : Nat := 2
theorem kc_P : kCl[2]? = some (kR_P, kF_P, 3) := rfl
abbrev kA_G : Nat := 3
theorem kc_G : kCl[3]? = some (kR_G, kF_G, 2) := rfl
abbrev kA_T : Nat := 4
theorem kc_T : kCl[4]? = some (kR_T, kF_T, 5) := rfl
abbrev kA_R : Nat := 5
theorem kc_R : kCl[5]? = some (kR_R, kF_R, 5) := rfl
abbrev kA_U : Nat := 6
theorem kc_U : kCl[6]? = some (kR_U, kF_U, 9) := rfl
abbrev kA_L : Nat := 7
theorem kc_L : kCl[7]? = some (kR_L, kF_L, 6) := rfl
abbrev kA_S : Nat := 8
theorem kc_S : kCl[8]? = some (kR_S, kF_S, 6) := rfl
abbrev kA_M : Nat := 9
theorem kc_M : kCl[9]? = some (kR_M, kF_M, 25) := rfl
abbrev kb_C_init : ByteArray := prog_1_method_1_code
abbrev ky_C_init : MethodName := ⟨"TreeCounts", "<init>", "()V"⟩
abbrev kh_C_init : Cond := .code ky_C_init kb_C_init 3 none
theorem kz_C_init : kh_C_init ∈ zT := zin 71 (by decide +kernel) (by decide +kernel)
abbrev kb_C_node : ByteArray := prog_1_method_2_code
abbrev ky_C_node : MethodName := ⟨"TreeCounts", "node", "()I"⟩
abbrev kh_C_node : Cond := .code ky_C_node kb_C_node 1 (some FieldType.int)
theorem kz_C_node : kh_C_node ∈ zT := zin 321 (by decide +kernel) (by decide +kernel)
abbrev kb_C_arc : ByteArray := prog_1_method_3_code
abbrev ky_C_arc : MethodName := ⟨"TreeCounts", "arc", "(III)I"⟩
abbrev kh_C_arc : Cond := .code ky_C_arc kb_C_arc 4 (some FieldType.int)
theorem kz_C_arc : kh_C_arc ∈ zT := zin 325 (by decide +kernel) (by decide +kernel)
abbrev kb_C_weigh : ByteArray := prog_1_method_4_code
abbrev ky_C_weigh : MethodName := ⟨"TreeCounts", "weigh", "(II)I"⟩
abbrev kh_C_weigh : Cond := .code ky_C_weigh kb_C_weigh 4 (some FieldType.int)
theorem kz_C_weigh : kh_C_weigh ∈ zT := zin 336 (by decide +kernel) (by decide +kernel)
abbrev kb_C_drop : ByteArray := prog_1_method_5_code
abbrev ky_C_drop : MethodName := ⟨"TreeCounts", "drop", "()Z"⟩
abbrev kh_C_drop : Cond := .code ky_C_drop kb_C_drop 1 (some FieldType.boolean)
theorem kz_C_drop : kh_C_drop ∈ zT := zin 344 (by decide +kernel) (by decide +kernel)
abbrev kb_C_trees : ByteArray := prog_1_method_6_code
abbrev ky_C_trees : MethodName := ⟨"TreeCounts", "trees", "()J"⟩
abbrev kh_C_trees : Cond := .code ky_C_trees kb_C_trees 1 (some FieldType.long)
theorem kz_C_trees : kh_C_trees ∈ zT := zin 348 (by decide +kernel) (by decide +kernel)
abbrev kb_C_through : ByteArray := prog_1_method_7_code
abbrev ky_C_through : MethodName := ⟨"TreeCounts", "through", "(I)J"⟩
abbrev kh_C_through : Cond := .code ky_C_through kb_C_through 2 (some FieldType.long)
theorem kz_C_through : kh_C_through ∈ zT := zin 403 (by decide +kernel) (by decide +kernel)
abbrev kb_C_rooted : ByteArray := prog_1_method_8_code
abbrev ky_C_rooted : MethodName := ⟨"TreeCounts", "rooted", "(I)J"⟩
abbrev kh_C_rooted : Cond := .code ky_C_rooted kb_C_rooted 2 (some FieldType.long)
theorem kz_C_rooted : kh_C_rooted ∈ zT := zin 422 (by decide +kernel) (by decide +kernel)
abbrev kb_C_forests : ByteArray := prog_1_method_9_code
abbrev ky_C_forests : MethodName := ⟨"TreeCounts", "forests", "()J"⟩
abbrev kh_C_forests : Cond := .code ky_C_forests kb_C_forests 1 (some FieldType.long)
theorem kz_C_forests : kh_C_forests ∈ zT := zin 435 (by decide +kernel) (by decide +kernel)
abbrev kb_C_apart : ByteArray := prog_1_method_10_code
abbrev ky_C_apart : MethodName := ⟨"TreeCounts", "apart", "(II)J"⟩
abbrev kh_C_apart : Cond := .code ky_C_apart kb_C_apart 3 (some FieldType.long)
theorem kz_C_apart : kh_C_apart ∈ zT := zin 448 (by decide +kernel) (by decide +kernel)
abbrev kb_C_resistance : ByteArray := prog_1_method_11_code
abbrev ky_C_resistance : MethodName := ⟨"TreeCounts", "resistance", "(III)J"⟩
abbrev kh_C_resistance : Cond := .code ky_C_resistance kb_C_resistance 10 (some FieldType.long)
theorem kz_C_resistance : kh_C_resistance ∈ zT := zin 456 (by decide +kernel) (by decide +kernel)
abbrev kb_C_tours : ByteArray := prog_1_method_12_code
abbrev ky_C_tours : MethodName := ⟨"TreeCounts", "tours", "()J"⟩
abbrev kh_C_tours : Cond := .code ky_C_tours kb_C_tours 1 (some FieldType.long)
theorem kz_C_tours : kh_C_tours ∈ zT := zin 464 (by decide +kernel) (by decide +kernel)
abbrev kb_C_drawn : ByteArray := prog_1_method_13_code
abbrev ky_C_drawn : MethodName := ⟨"TreeCounts", "drawn", "(J)I"⟩
abbrev kh_C_drawn : Cond := .code ky_C_drawn kb_C_drawn 3 (some FieldType.int)
theorem kz_C_drawn : kh_C_drawn ∈ zT := zin 483 (by decide +kernel) (by decide +kernel)
abbrev kb_C_place : ByteArray := prog_1_method_14_code
abbrev ky_C_place : MethodName := ⟨"TreeCounts", "place", "(I)J"⟩
abbrev kh_C_place : Cond := .code ky_C_place kb_C_place 2 (some FieldType.long)
theorem kz_C_place : kh_C_place ∈ zT := zin 507 (by decide +kernel) (by decide +kernel)
abbrev kb_C_ring : ByteArray := prog_1_method_15_code
abbrev ky_C_ring : MethodName := ⟨"TreeCounts", "ring", "(II)I"⟩
abbrev kh_C_ring : Cond := .code ky_C_ring kb_C_ring 3 (some FieldType.int)
theorem kz_C_ring : kh_C_ring ∈ zT := zin 519 (by decide +kernel) (by decide +kernel)
abbrev kb_C_group : ByteArray := prog_1_method_16_code
abbrev ky_C_group : MethodName := ⟨"TreeCounts", "group", "(I)J"⟩
abbrev kh_C_group : Cond := .code ky_C_group kb_C_group 2 (some FieldType.long)
theorem kz_C_group : kh_C_group ∈ zT := zin 545 (by decide +kernel) (by decide +kernel)
abbrev kb_C_chips : ByteArray := prog_1_method_17_code
abbrev ky_C_chips : MethodName := ⟨"TreeCounts", "chips", "(II)J"⟩
abbrev kh_C_chips : Cond := .code ky_C_chips kb_C_chips 5 (some FieldType.long)
theorem kz_C_chips : kh_C_chips ∈ zT := zin 600 (by decide +kernel) (by decide +kernel)
abbrev kb_C_level : ByteArray := prog_1_method_18_code
abbrev ky_C_level : MethodName := ⟨"TreeCounts", "level", "(I)J"⟩
abbrev kh_C_level : Cond := .code ky_C_level kb_C_level 2 (some FieldType.long)
theorem kz_C_level : kh_C_level ∈ zT := zin 604 (by decide +kernel) (by decide +kernel)
abbrev kb_C_settle : ByteArray := prog_1_method_19_code
abbrev ky_C_settle : MethodName := ⟨"TreeCounts", "settle", "(I)J"⟩
abbrev kh_C_settle : Cond := .code ky_C_settle kb_C_settle 2 (some FieldType.long)
theorem kz_C_settle : kh_C_settle ∈ zT := zin 608 (by decide +kernel) (by decide +kernel)
abbrev kb_C_fired : ByteArray := prog_1_method_20_code
abbrev ky_C_fired : MethodName := ⟨"TreeCounts", "fired", "(I)J"⟩
abbrev kh_C_fired : Cond := .code ky_C_fired kb_C_fired 2 (some FieldType.long)
theorem kz_C_fired : kh_C_fired ∈ zT := zin 630 (by decide +kernel) (by decide +kernel)
abbrev kb_C_recurrent : ByteArray := prog_1_method_21_code
abbrev ky_C_recurrent : MethodName := ⟨"TreeCounts", "recurrent", "(I)I"⟩
abbrev kh_C_recurrent : Cond := .code ky_C_recurrent kb_C_recurrent 2 (some FieldType.int)
theorem kz_C_recurrent : kh_C_recurrent ∈ zT := zin 634 (by decide +kernel) (by decide +kernel)
abbrev kb_C_point : ByteArray := prog_1_method_22_code
abbrev ky_C_point : MethodName := ⟨"TreeCounts", "point", "(JJ)J"⟩
abbrev kh_C_point : Cond := .code ky_C_point kb_C_point 5 (some FieldType.long)
theorem kz_C_point : kh_C_point ∈ zT := zin 668 (by decide +kernel) (by decide +kernel)
abbrev kb_C_told : ByteArray := prog_1_method_23_code
abbrev ky_C_told : MethodName := ⟨"TreeCounts", "told", "(I)I"⟩
abbrev kh_C_told : Cond := .code ky_C_told kb_C_told 2 (some FieldType.int)
theorem kz_C_told : kh_C_told ∈ zT := zin 642 (by decide +kernel) (by decide +kernel)
abbrev kb_C_clear : ByteArray := prog_1_method_24_code
abbrev ky_C_clear : MethodName := ⟨"TreeCounts", "clear", "()V"⟩
abbrev kh_C_clear : Cond := .code ky_C_clear kb_C_clear 1 none
theorem kz_C_clear : kh_C_clear ∈ zT := zin 656 (by decide +kernel) (by decide +kernel)
abbrev kb_C_isWeight : ByteArray := prog_1_method_25_code
abbrev ky_C_isWeight : MethodName := ⟨"TreeCounts", "isWeight", "(I)Z"⟩
abbrev kh_C_isWeight : Cond := .code ky_C_isWeight kb_C_isWeight 1 (some FieldType.boolean)
theorem kz_C_isWeight : kh_C_isWeight ∈ zT := zin 332 (by decide +kernel) (by decide +kernel)
abbrev kb_C_commonDivisor : ByteArray := prog_1_method_26_code
abbrev ky_C_commonDivisor : MethodName := ⟨"TreeCounts", "commonDivisor", "(JJ)J"⟩
abbrev kh_C_commonDivisor : Cond := .code ky_C_commonDivisor kb_C_commonDivisor 11 (some FieldType.long)
theorem kz_C_commonDivisor : kh_C_commonDivisor ∈ zT := zin 460 (by decide +kernel) (by decide +kernel)
abbrev kb_N_init : ByteArray := prog_4_method_1_code
abbrev ky_N_init : MethodName := ⟨"TreeCounts$Net", "<init>", "()V"⟩
abbrev kh_N_init : Cond := .code ky_N_init kb_N_init 1 none
theorem kz_N_init : kh_N_init ∈ zT := zin 79 (by decide +kernel) (by decide +kernel)
abbrev kb_N_hasNode : ByteArray := prog_4_method_2_code
abbrev ky_N_hasNode : MethodName := ⟨"TreeCounts$Net", "hasNode", "(I)Z"⟩
abbrev kh_N_hasNode : Cond := .code ky_N_hasNode kb_N_hasNode 2 (some FieldType.boolean)
theorem kz_N_hasNode : kh_N_hasNode ∈ zT := zin 329 (by decide +kernel) (by decide +kernel)
abbrev kb_N_hasArc : ByteArray := prog_4_method_3_code
abbrev ky_N_hasArc : MethodName := ⟨"TreeCounts$Net", "hasArc", "(I)Z"⟩
abbrev kh_N_hasArc : Cond := .code ky_N_hasArc kb_N_hasArc 2 (some FieldType.boolean)
theorem kz_N_hasArc : kh_N_hasArc ∈ zT := zin 340 (by decide +kernel) (by decide +kernel)
abbrev kb_N_weightOutOf : ByteArray := prog_4_method_4_code
abbrev ky_N_weightOutOf : MethodName := ⟨"TreeCounts$Net", "weightOutOf", "(I)I"⟩
abbrev kh_N_weightOutOf : Cond := .code ky_N_weightOutOf kb_N_weightOutOf 4 (some FieldType.int)
theorem kz_N_weightOutOf : kh_N_weightOutOf ∈ zT := zin 472 (by decide +kernel) (by decide +kernel)
abbrev kb_N_weightInto : ByteArray := prog_4_method_5_code
abbrev ky_N_weightInto : MethodName := ⟨"TreeCounts$Net", "weightInto", "(I)I"⟩
abbrev kh_N_weightInto : Cond := .code ky_N_weightInto kb_N_weightInto 4 (some FieldType.int)
theorem kz_N_weightInto : kh_N_weightInto ∈ zT := zin 476 (by decide +kernel) (by decide +kernel)
abbrev kb_N_firstTrees : ByteArray := prog_4_method_6_code
abbrev ky_N_firstTrees : MethodName := ⟨"TreeCounts$Net", "firstTrees", "(LTreeCounts$Parts;)I"⟩
abbrev kh_N_firstTrees : Cond := .code ky_N_firstTrees kb_N_firstTrees 4 (some FieldType.int)
theorem kz_N_firstTrees : kh_N_firstTrees ∈ zT := zin 527 (by decide +kernel) (by decide +kernel)
abbrev kb_P_init : ByteArray := prog_5_method_1_code
abbrev ky_P_init : MethodName := ⟨"TreeCounts$Parts", "<init>", "()V"⟩
abbrev kh_P_init : Cond := .code ky_P_init kb_P_init 1 none
theorem kz_P_init : kh_P_init ∈ zT := zin 127 (by decide +kernel) (by decide +kernel)
abbrev kb_P_split : ByteArray := prog_5_method_2_code
abbrev ky_P_split : MethodName := ⟨"TreeCounts$Parts", "split", "(I)V"⟩
abbrev kh_P_split : Cond := .code ky_P_split kb_P_split 3 none
theorem kz_P_split : kh_P_split ∈ zT := zin 356 (by decide +kernel) (by decide +kernel)
abbrev kb_P_become : ByteArray := prog_5_method_3_code
abbrev ky_P_become : MethodName := ⟨"TreeCounts$Parts", "become", "(LTreeCounts$Parts;)V"⟩
abbrev kh_P_become : Cond := .code ky_P_become kb_P_become 2 none
theorem kz_P_become : kh_P_become ∈ zT := zin 751 (by decide +kernel) (by decide +kernel)
abbrev kb_P_areOne : ByteArray := prog_5_method_4_code
abbrev ky_P_areOne : MethodName := ⟨"TreeCounts$Parts", "areOne", "(II)Z"⟩
abbrev kh_P_areOne : Cond := .code ky_P_areOne kb_P_areOne 3 (some FieldType.boolean)
theorem kz_P_areOne : kh_P_areOne ∈ zT := zin 499 (by decide +kernel) (by decide +kernel)
abbrev kb_P_unite : ByteArray := prog_5_method_5_code
abbrev ky_P_unite : MethodName := ⟨"TreeCounts$Parts", "unite", "(II)Z"⟩
abbrev kh_P_unite : Cond := .code ky_P_unite kb_P_unite 6 (some FieldType.boolean)
theorem kz_P_unite : kh_P_unite ∈ zT := zin 411 (by decide +kernel) (by decide +kernel)
abbrev kb_G_init : ByteArray := prog_2_method_1_code
abbrev ky_G_init : MethodName := ⟨"TreeCounts$Grid", "<init>", "()V"⟩
abbrev kh_G_init : Cond := .code ky_G_init kb_G_init 1 none
theorem kz_G_init : kh_G_init ∈ zT := zin 147 (by decide +kernel) (by decide +kernel)
abbrev kb_G_blank : ByteArray := prog_2_method_2_code
abbrev ky_G_blank : MethodName := ⟨"TreeCounts$Grid", "blank", "(I)V"⟩
abbrev kh_G_blank : Cond := .code ky_G_blank kb_G_blank 4 none
theorem kz_G_blank : kh_G_blank ∈ zT := zin 364 (by decide +kernel) (by decide +kernel)
abbrev kb_G_addOneWay : ByteArray := prog_2_method_3_code
abbrev ky_G_addOneWay : MethodName := ⟨"TreeCounts$Grid", "addOneWay", "(III)V"⟩
abbrev kh_G_addOneWay : Cond := .code ky_G_addOneWay kb_G_addOneWay 4 none
theorem kz_G_addOneWay : kh_G_addOneWay ∈ zT := zin 372 (by decide +kernel) (by decide +kernel)
abbrev kb_G_addBothWays : ByteArray := prog_2_method_4_code
abbrev ky_G_addBothWays : MethodName := ⟨"TreeCounts$Grid", "addBothWays", "(III)V"⟩
abbrev kh_G_addBothWays : Cond := .code ky_G_addBothWays kb_G_addBothWays 4 none
theorem kz_G_addBothWays : kh_G_addBothWays ∈ zT := zin 368 (by decide +kernel) (by decide +kernel)
abbrev kb_G_fillBothWays : ByteArray := prog_2_method_5_code
abbrev ky_G_fillBothWays : MethodName := ⟨"TreeCounts$Grid", "fillBothWays", "(LTreeCounts$Net;)V"⟩
abbrev kh_G_fillBothWays : Cond := .code ky_G_fillBothWays kb_G_fillBothWays 3 none
theorem kz_G_fillBothWays : kh_G_fillBothWays ∈ zT := zin 443 (by decide +kernel) (by decide +kernel)
abbrev kb_G_fillOneWay : ByteArray := prog_2_method_6_code
abbrev ky_G_fillOneWay : MethodName := ⟨"TreeCounts$Grid", "fillOneWay", "(LTreeCounts$Net;)V"⟩
abbrev kh_G_fillOneWay : Cond := .code ky_G_fillOneWay kb_G_fillOneWay 3 none
theorem kz_G_fillOneWay : kh_G_fillOneWay ∈ zT := zin 430 (by decide +kernel) (by decide +kernel)
abbrev kb_G_strike : ByteArray := prog_2_method_7_code
abbrev ky_G_strike : MethodName := ⟨"TreeCounts$Grid", "strike", "(I)V"⟩
abbrev kh_G_strike : Cond := .code ky_G_strike kb_G_strike 3 none
theorem kz_G_strike : kh_G_strike ∈ zT := zin 376 (by decide +kernel) (by decide +kernel)
abbrev kb_G_swapRows : ByteArray := prog_2_method_8_code
abbrev ky_G_swapRows : MethodName := ⟨"TreeCounts$Grid", "swapRows", "(II)V"⟩
abbrev kh_G_swapRows : Cond := .code ky_G_swapRows kb_G_swapRows 4 none
theorem kz_G_swapRows : kh_G_swapRows ∈ zT := zin 391 (by decide +kernel) (by decide +kernel)
abbrev kb_G_determinant : ByteArray := prog_2_method_9_code
abbrev ky_G_determinant : MethodName := ⟨"TreeCounts$Grid", "determinant", "()J"⟩
abbrev kh_G_determinant : Cond := .code ky_G_determinant kb_G_determinant 5 (some FieldType.long)
theorem kz_G_determinant : kh_G_determinant ∈ zT := zin 380 (by decide +kernel) (by decide +kernel)
abbrev kb_G_rowWithLowestBit : ByteArray := prog_2_method_10_code
abbrev ky_G_rowWithLowestBit : MethodName := ⟨"TreeCounts$Grid", "rowWithLowestBit", "(I)I"⟩
abbrev kh_G_rowWithLowestBit : Cond := .code ky_G_rowWithLowestBit kb_G_rowWithLowestBit 6 (some FieldType.int)
theorem kz_G_rowWithLowestBit : kh_G_rowWithLowestBit ∈ zT := zin 384 (by decide +kernel) (by decide +kernel)
abbrev kb_G_clearBelow : ByteArray := prog_2_method_11_code
abbrev ky_G_clearBelow : MethodName := ⟨"TreeCounts$Grid", "clearBelow", "(I)V"⟩
abbrev kh_G_clearBelow : Cond := .code ky_G_clearBelow kb_G_clearBelow 9 none
theorem kz_G_clearBelow : kh_G_clearBelow ∈ zT := zin 395 (by decide +kernel) (by decide +kernel)
abbrev kb_G_twos : ByteArray := prog_2_method_12_code
abbrev ky_G_twos : MethodName := ⟨"TreeCounts$Grid", "twos", "(J)I"⟩
abbrev kh_G_twos : Cond := .code ky_G_twos kb_G_twos 3 (some FieldType.int)
theorem kz_G_twos : kh_G_twos ∈ zT := zin 387 (by decide +kernel) (by decide +kernel)
abbrev kb_G_inverseOfOdd : ByteArray := prog_2_method_13_code
abbrev ky_G_inverseOfOdd : MethodName := ⟨"TreeCounts$Grid", "inverseOfOdd", "(J)J"⟩
abbrev kh_G_inverseOfOdd : Cond := .code ky_G_inverseOfOdd kb_G_inverseOfOdd 5 (some FieldType.long)
theorem kz_G_inverseOfOdd : kh_G_inverseOfOdd ∈ zT := zin 398 (by decide +kernel) (by decide +kernel)
abbrev kb_T_init : ByteArray := prog_9_method_1_code
abbrev ky_T_init : MethodName := ⟨"TreeCounts$Trees", "<init>", "(LTreeCounts$Net;LTreeCounts$Parts;LTreeCounts$Grid;)V"⟩
abbrev kh_T_init : Cond := .code ky_T_init kb_T_init 4 none
theorem kz_T_init : kh_T_init ∈ zT := zin 167 (by decide +kernel) (by decide +kernel)
abbrev kb_T_sumOfAll : ByteArray := prog_9_method_2_code
abbrev ky_T_sumOfAll : MethodName := ⟨"TreeCounts$Trees", "sumOfAll", "()J"⟩
abbrev kh_T_sumOfAll : Cond := .code ky_T_sumOfAll kb_T_sumOfAll 1 (some FieldType.long)
theorem kz_T_sumOfAll : kh_T_sumOfAll ∈ zT := zin 352 (by decide +kernel) (by decide +kernel)
abbrev kb_T_sumOverParts : ByteArray := prog_9_method_3_code
abbrev ky_T_sumOverParts : MethodName := ⟨"TreeCounts$Trees", "sumOverParts", "(I)J"⟩
abbrev kh_T_sumOverParts : Cond := .code ky_T_sumOverParts kb_T_sumOverParts 3 (some FieldType.long)
theorem kz_T_sumOverParts : kh_T_sumOverParts ∈ zT := zin 360 (by decide +kernel) (by decide +kernel)
abbrev kb_T_sumWith : ByteArray := prog_9_method_4_code
abbrev ky_T_sumWith : MethodName := ⟨"TreeCounts$Trees", "sumWith", "(I)J"⟩
abbrev kh_T_sumWith : Cond := .code ky_T_sumWith kb_T_sumWith 2 (some FieldType.long)
theorem kz_T_sumWith : kh_T_sumWith ∈ zT := zin 407 (by decide +kernel) (by decide +kernel)
abbrev kb_T_sumTowards : ByteArray := prog_9_method_5_code
abbrev ky_T_sumTowards : MethodName := ⟨"TreeCounts$Trees", "sumTowards", "(I)J"⟩
abbrev kh_T_sumTowards : Cond := .code ky_T_sumTowards kb_T_sumTowards 2 (some FieldType.long)
theorem kz_T_sumTowards : kh_T_sumTowards ∈ zT := zin 426 (by decide +kernel) (by decide +kernel)
abbrev kb_T_sumOfMarked : ByteArray := prog_9_method_6_code
abbrev ky_T_sumOfMarked : MethodName := ⟨"TreeCounts$Trees", "sumOfMarked", "()J"⟩
abbrev kh_T_sumOfMarked : Cond := .code ky_T_sumOfMarked kb_T_sumOfMarked 2 (some FieldType.long)
theorem kz_T_sumOfMarked : kh_T_sumOfMarked ∈ zT := zin 439 (by decide +kernel) (by decide +kernel)
abbrev kb_T_sumOfPairs : ByteArray := prog_9_method_7_code
abbrev ky_T_sumOfPairs : MethodName := ⟨"TreeCounts$Trees", "sumOfPairs", "(II)J"⟩
abbrev kh_T_sumOfPairs : Cond := .code ky_T_sumOfPairs kb_T_sumOfPairs 3 (some FieldType.long)
theorem kz_T_sumOfPairs : kh_T_sumOfPairs ∈ zT := zin 452 (by decide +kernel) (by decide +kernel)
abbrev kb_T_toursAlongAll : ByteArray := prog_9_method_8_code
abbrev ky_T_toursAlongAll : MethodName := ⟨"TreeCounts$Trees", "toursAlongAll", "()J"⟩
abbrev kh_T_toursAlongAll : Cond := .code ky_T_toursAlongAll kb_T_toursAlongAll 5 (some FieldType.long)
theorem kz_T_toursAlongAll : kh_T_toursAlongAll ∈ zT := zin 468 (by decide +kernel) (by decide +kernel)
abbrev kb_T_factorial : ByteArray := prog_9_method_9_code
abbrev ky_T_factorial : MethodName := ⟨"TreeCounts$Trees", "factorial", "(I)J"⟩
abbrev kh_T_factorial : Cond := .code ky_T_factorial kb_T_factorial 4 (some FieldType.long)
theorem kz_T_factorial : kh_T_factorial ∈ zT := zin 479 (by decide +kernel) (by decide +kernel)
abbrev kb_T_treeAt : ByteArray := prog_9_method_10_code
abbrev ky_T_treeAt : MethodName := ⟨"TreeCounts$Trees", "treeAt", "(J)I"⟩
abbrev kh_T_treeAt : Cond := .code ky_T_treeAt kb_T_treeAt 9 (some FieldType.int)
theorem kz_T_treeAt : kh_T_treeAt ∈ zT := zin 487 (by decide +kernel) (by decide +kernel)
abbrev kb_T_sumBefore : ByteArray := prog_9_method_11_code
abbrev ky_T_sumBefore : MethodName := ⟨"TreeCounts$Trees", "sumBefore", "(I)J"⟩
abbrev kh_T_sumBefore : Cond := .code ky_T_sumBefore kb_T_sumBefore 7 (some FieldType.long)
theorem kz_T_sumBefore : kh_T_sumBefore ∈ zT := zin 515 (by decide +kernel) (by decide +kernel)
abbrev kb_T_beginChoice : ByteArray := prog_9_method_12_code
abbrev ky_T_beginChoice : MethodName := ⟨"TreeCounts$Trees", "beginChoice", "()V"⟩
abbrev kh_T_beginChoice : Cond := .code ky_T_beginChoice kb_T_beginChoice 1 none
theorem kz_T_beginChoice : kh_T_beginChoice ∈ zT := zin 491 (by decide +kernel) (by decide +kernel)
abbrev kb_T_sumIfTaken : ByteArray := prog_9_method_13_code
abbrev ky_T_sumIfTaken : MethodName := ⟨"TreeCounts$Trees", "sumIfTaken", "(I)J"⟩
abbrev kh_T_sumIfTaken : Cond := .code ky_T_sumIfTaken kb_T_sumIfTaken 2 (some FieldType.long)
theorem kz_T_sumIfTaken : kh_T_sumIfTaken ∈ zT := zin 495 (by decide +kernel) (by decide +kernel)
abbrev kb_T_take : ByteArray := prog_9_method_14_code
abbrev ky_T_take : MethodName := ⟨"TreeCounts$Trees", "take", "(IJ)V"⟩
abbrev kh_T_take : Cond := .code ky_T_take kb_T_take 4 none
theorem kz_T_take : kh_T_take ∈ zT := zin 503 (by decide +kernel) (by decide +kernel)
abbrev kb_T_isTree : ByteArray := prog_9_method_15_code
abbrev ky_T_isTree : MethodName := ⟨"TreeCounts$Trees", "isTree", "(I)Z"⟩
abbrev kh_T_isTree : Cond := .code ky_T_isTree kb_T_isTree 4 (some FieldType.boolean)
theorem kz_T_isTree : kh_T_isTree ∈ zT := zin 511 (by decide +kernel) (by decide +kernel)
abbrev kb_R_init : ByteArray := prog_7_method_1_code
abbrev ky_R_init : MethodName := ⟨"TreeCounts$Rings", "<init>", "(LTreeCounts$Net;LTreeCounts$Parts;)V"⟩
abbrev kh_R_init : Cond := .code ky_R_init kb_R_init 3 none
theorem kz_R_init : kh_R_init ∈ zT := zin 189 (by decide +kernel) (by decide +kernel)
abbrev kb_R_partsOfNet : ByteArray := prog_7_method_2_code
abbrev ky_R_partsOfNet : MethodName := ⟨"TreeCounts$Rings", "partsOfNet", "()I"⟩
abbrev kh_R_partsOfNet : Cond := .code ky_R_partsOfNet kb_R_partsOfNet 1 (some FieldType.int)
theorem kz_R_partsOfNet : kh_R_partsOfNet ∈ zT := zin 612 (by decide +kernel) (by decide +kernel)
abbrev kb_R_count : ByteArray := prog_7_method_3_code
abbrev ky_R_count : MethodName := ⟨"TreeCounts$Rings", "count", "()I"⟩
abbrev kh_R_count : Cond := .code ky_R_count kb_R_count 1 (some FieldType.int)
theorem kz_R_count : kh_R_count ∈ zT := zin 646 (by decide +kernel) (by decide +kernel)
abbrev kb_R_lay : ByteArray := prog_7_method_4_code
abbrev ky_R_lay : MethodName := ⟨"TreeCounts$Rings", "lay", "(I)V"⟩
abbrev kh_R_lay : Cond := .code ky_R_lay kb_R_lay 7 none
theorem kz_R_lay : kh_R_lay ∈ zT := zin 523 (by decide +kernel) (by decide +kernel)
abbrev kb_R_untaken : ByteArray := prog_7_method_5_code
abbrev ky_R_untaken : MethodName := ⟨"TreeCounts$Rings", "untaken", "(II)I"⟩
abbrev kh_R_untaken : Cond := .code ky_R_untaken kb_R_untaken 5 (some FieldType.int)
theorem kz_R_untaken : kh_R_untaken ∈ zT := zin 533 (by decide +kernel) (by decide +kernel)
abbrev kb_R_findWaysBack : ByteArray := prog_7_method_6_code
abbrev ky_R_findWaysBack : MethodName := ⟨"TreeCounts$Rings", "findWaysBack", "(II)V"⟩
abbrev kh_R_findWaysBack : Cond := .code ky_R_findWaysBack kb_R_findWaysBack 6 none
theorem kz_R_findWaysBack : kh_R_findWaysBack ∈ zT := zin 537 (by decide +kernel) (by decide +kernel)
abbrev kb_R_reach : ByteArray := prog_7_method_7_code
abbrev ky_R_reach : MethodName := ⟨"TreeCounts$Rings", "reach", "(II)I"⟩
abbrev kh_R_reach : Cond := .code ky_R_reach kb_R_reach 6 (some FieldType.int)
theorem kz_R_reach : kh_R_reach ∈ zT := zin 541 (by decide +kernel) (by decide +kernel)
abbrev kb_U_init : ByteArray := prog_3_method_1_code
abbrev ky_U_init : MethodName := ⟨"TreeCounts$Group", "<init>", "(LTreeCounts$Net;LTreeCounts$Trees;LTreeCounts$Grid;)V"⟩
abbrev kh_U_init : Cond := .code ky_U_init kb_U_init 4 none
theorem kz_U_init : kh_U_init ∈ zT := zin 213 (by decide +kernel) (by decide +kernel)
abbrev kb_U_round : ByteArray := prog_3_method_2_code
abbrev ky_U_round : MethodName := ⟨"TreeCounts$Group", "round", "(I)J"⟩
abbrev kh_U_round : Cond := .code ky_U_round kb_U_round 2 (some FieldType.long)
theorem kz_U_round : kh_U_round ∈ zT := zin 596 (by decide +kernel) (by decide +kernel)
abbrev kb_U_find : ByteArray := prog_3_method_3_code
abbrev ky_U_find : MethodName := ⟨"TreeCounts$Group", "find", "()V"⟩
abbrev kh_U_find : Cond := .code ky_U_find kb_U_find 2 none
theorem kz_U_find : kh_U_find ∈ zT := zin 549 (by decide +kernel) (by decide +kernel)
abbrev kb_U_reduceAll : ByteArray := prog_3_method_4_code
abbrev ky_U_reduceAll : MethodName := ⟨"TreeCounts$Group", "reduceAll", "()V"⟩
abbrev kh_U_reduceAll : Cond := .code ky_U_reduceAll kb_U_reduceAll 3 none
theorem kz_U_reduceAll : kh_U_reduceAll ∈ zT := zin 557 (by decide +kernel) (by decide +kernel)
abbrev kb_U_reduced : ByteArray := prog_3_method_5_code
abbrev ky_U_reduced : MethodName := ⟨"TreeCounts$Group", "reduced", "(J)J"⟩
abbrev kh_U_reduced : Cond := .code ky_U_reduced kb_U_reduced 5 (some FieldType.long)
theorem kz_U_reduced : kh_U_reduced ∈ zT := zin 561 (by decide +kernel) (by decide +kernel)
abbrev kb_U_clearLine : ByteArray := prog_3_method_6_code
abbrev ky_U_clearLine : MethodName := ⟨"TreeCounts$Group", "clearLine", "(I)V"⟩
abbrev kh_U_clearLine : Cond := .code ky_U_clearLine kb_U_clearLine 4 none
theorem kz_U_clearLine : kh_U_clearLine ∈ zT := zin 565 (by decide +kernel) (by decide +kernel)
abbrev kb_U_isRowClear : ByteArray := prog_3_method_7_code
abbrev ky_U_isRowClear : MethodName := ⟨"TreeCounts$Group", "isRowClear", "(I)Z"⟩
abbrev kh_U_isRowClear : Cond := .code ky_U_isRowClear kb_U_isRowClear 3 (some FieldType.boolean)
theorem kz_U_isRowClear : kh_U_isRowClear ∈ zT := zin 583 (by decide +kernel) (by decide +kernel)
abbrev kb_U_transpose : ByteArray := prog_3_method_8_code
abbrev ky_U_transpose : MethodName := ⟨"TreeCounts$Group", "transpose", "(I)V"⟩
abbrev kh_U_transpose : Cond := .code ky_U_transpose kb_U_transpose 6 none
theorem kz_U_transpose : kh_U_transpose ∈ zT := zin 587 (by decide +kernel) (by decide +kernel)
abbrev kb_U_mixRows : ByteArray := prog_3_method_9_code
abbrev ky_U_mixRows : MethodName := ⟨"TreeCounts$Group", "mixRows", "(II)V"⟩
abbrev kh_U_mixRows : Cond := .code ky_U_mixRows kb_U_mixRows 16 none
theorem kz_U_mixRows : kh_U_mixRows ∈ zT := zin 569 (by decide +kernel) (by decide +kernel)
abbrev kb_U_measure : ByteArray := prog_3_method_10_code
abbrev ky_U_measure : MethodName := ⟨"TreeCounts$Group", "measure", "(JJ)V"⟩
abbrev kh_U_measure : Cond := .code ky_U_measure kb_U_measure 20 none
theorem kz_U_measure : kh_U_measure ∈ zT := zin 573 (by decide +kernel) (by decide +kernel)
abbrev kb_U_times : ByteArray := prog_3_method_11_code
abbrev ky_U_times : MethodName := ⟨"TreeCounts$Group", "times", "(JJ)J"⟩
abbrev kh_U_times : Cond := .code ky_U_times kb_U_times 8 (some FieldType.long)
theorem kz_U_times : kh_U_times ∈ zT := zin 577 (by decide +kernel) (by decide +kernel)
abbrev kb_U_makeChain : ByteArray := prog_3_method_12_code
abbrev ky_U_makeChain : MethodName := ⟨"TreeCounts$Group", "makeChain", "()V"⟩
abbrev kh_U_makeChain : Cond := .code ky_U_makeChain kb_U_makeChain 5 none
theorem kz_U_makeChain : kh_U_makeChain ∈ zT := zin 592 (by decide +kernel) (by decide +kernel)
abbrev kb_L_init : ByteArray := prog_6_method_1_code
abbrev ky_L_init : MethodName := ⟨"TreeCounts$Piles", "<init>", "(LTreeCounts$Net;LTreeCounts$Grid;)V"⟩
abbrev kh_L_init : Cond := .code ky_L_init kb_L_init 3 none
theorem kz_L_init : kh_L_init ∈ zT := zin 248 (by decide +kernel) (by decide +kernel)
abbrev kb_L_empty : ByteArray := prog_6_method_2_code
abbrev ky_L_empty : MethodName := ⟨"TreeCounts$Piles", "empty", "()V"⟩
abbrev kh_L_empty : Cond := .code ky_L_empty kb_L_empty 2 none
theorem kz_L_empty : kh_L_empty ∈ zT := zin 660 (by decide +kernel) (by decide +kernel)
abbrev kb_L_settleAll : ByteArray := prog_6_method_3_code
abbrev ky_L_settleAll : MethodName := ⟨"TreeCounts$Piles", "settleAll", "(I)J"⟩
abbrev kh_L_settleAll : Cond := .code ky_L_settleAll kb_L_settleAll 5 (some FieldType.long)
theorem kz_L_settleAll : kh_L_settleAll ∈ zT := zin 616 (by decide +kernel) (by decide +kernel)
abbrev kb_L_comeBack : ByteArray := prog_6_method_4_code
abbrev ky_L_comeBack : MethodName := ⟨"TreeCounts$Piles", "comeBack", "(I)Z"⟩
abbrev kh_L_comeBack : Cond := .code ky_L_comeBack kb_L_comeBack 3 (some FieldType.boolean)
theorem kz_L_comeBack : kh_L_comeBack ∈ zT := zin 638 (by decide +kernel) (by decide +kernel)
abbrev kb_L_run : ByteArray := prog_6_method_5_code
abbrev ky_L_run : MethodName := ⟨"TreeCounts$Piles", "run", "([J[JI)V"⟩
abbrev kh_L_run : Cond := .code ky_L_run kb_L_run 11 none
theorem kz_L_run : kh_L_run ∈ zT := zin 621 (by decide +kernel) (by decide +kernel)
abbrev kb_L_fire : ByteArray := prog_6_method_6_code
abbrev ky_L_fire : MethodName := ⟨"TreeCounts$Piles", "fire", "([JIJ)V"⟩
abbrev kh_L_fire : Cond := .code ky_L_fire kb_L_fire 6 none
theorem kz_L_fire : kh_L_fire ∈ zT := zin 626 (by decide +kernel) (by decide +kernel)
abbrev kb_S_init : ByteArray := prog_8_method_1_code
abbrev ky_S_init : MethodName := ⟨"TreeCounts$Sets", "<init>", "(LTreeCounts$Net;LTreeCounts$Parts;)V"⟩
abbrev kh_S_init : Cond := .code ky_S_init kb_S_init 4 none
theorem kz_S_init : kh_S_init ∈ zT := zin 275 (by decide +kernel) (by decide +kernel)
abbrev kb_S_sumAt : ByteArray := prog_8_method_2_code
abbrev ky_S_sumAt : MethodName := ⟨"TreeCounts$Sets", "sumAt", "(JJ)J"⟩
abbrev kh_S_sumAt : Cond := .code ky_S_sumAt kb_S_sumAt 5 (some FieldType.long)
theorem kz_S_sumAt : kh_S_sumAt ∈ zT := zin 738 (by decide +kernel) (by decide +kernel)
abbrev kb_S_fillPowers : ByteArray := prog_8_method_3_code
abbrev ky_S_fillPowers : MethodName := ⟨"TreeCounts$Sets", "fillPowers", "([JJ)V"⟩
abbrev kh_S_fillPowers : Cond := .code ky_S_fillPowers kb_S_fillPowers 6 none
theorem kz_S_fillPowers : kh_S_fillPowers ∈ zT := zin 741 (by decide +kernel) (by decide +kernel)
abbrev kb_S_sumFrom : ByteArray := prog_8_method_4_code
abbrev ky_S_sumFrom : MethodName := ⟨"TreeCounts$Sets", "sumFrom", "(LTreeCounts$Sets;II)J"⟩
abbrev kh_S_sumFrom : Cond := .code ky_S_sumFrom kb_S_sumFrom 11 (some FieldType.long)
theorem kz_S_sumFrom : kh_S_sumFrom ∈ zT := zin 746 (by decide +kernel) (by decide +kernel)
abbrev kb_M_init : ByteArray := prog_11_method_1_code
abbrev ky_M_init : MethodName := ⟨"TreeCountsModel", "<init>", "()V"⟩
abbrev kh_M_init : Cond := .code ky_M_init kb_M_init 1 none
theorem kz_M_init : kh_M_init ∈ zT := zin 760 (by decide +kernel) (by decide +kernel)
abbrev kb_M_thrown : ByteArray := prog_11_method_2_code
abbrev ky_M_thrown : MethodName := ⟨"TreeCountsModel", "thrown", "()I"⟩
abbrev kh_M_thrown : Cond := .code ky_M_thrown kb_M_thrown 1 (some FieldType.int)
theorem kz_M_thrown : kh_M_thrown ∈ zT := zin 842 (by decide +kernel) (by decide +kernel)
abbrev kb_M_isNode : ByteArray := prog_11_method_3_code
abbrev ky_M_isNode : MethodName := ⟨"TreeCountsModel", "isNode", "(I)Z"⟩
abbrev kh_M_isNode : Cond := .code ky_M_isNode kb_M_isNode 2 (some FieldType.boolean)
theorem kz_M_isNode : kh_M_isNode ∈ zT := zin 854 (by decide +kernel) (by decide +kernel)
abbrev kb_M_node : ByteArray := prog_11_method_4_code
abbrev ky_M_node : MethodName := ⟨"TreeCountsModel", "node", "()I"⟩
abbrev kh_M_node : Cond := .code ky_M_node kb_M_node 1 (some FieldType.int)
theorem kz_M_node : kh_M_node ∈ zT := zin 846 (by decide +kernel) (by decide +kernel)
abbrev kb_M_arc : ByteArray := prog_11_method_5_code
abbrev ky_M_arc : MethodName := ⟨"TreeCountsModel", "arc", "(III)I"⟩
abbrev kh_M_arc : Cond := .code ky_M_arc kb_M_arc 4 (some FieldType.int)
theorem kz_M_arc : kh_M_arc ∈ zT := zin 850 (by decide +kernel) (by decide +kernel)
abbrev kb_M_weigh : ByteArray := prog_11_method_6_code
abbrev ky_M_weigh : MethodName := ⟨"TreeCountsModel", "weigh", "(II)I"⟩
abbrev kh_M_weigh : Cond := .code ky_M_weigh kb_M_weigh 4 (some FieldType.int)
theorem kz_M_weigh : kh_M_weigh ∈ zT := zin 858 (by decide +kernel) (by decide +kernel)
abbrev kb_M_drop : ByteArray := prog_11_method_7_code
abbrev ky_M_drop : MethodName := ⟨"TreeCountsModel", "drop", "()Z"⟩
abbrev kh_M_drop : Cond := .code ky_M_drop kb_M_drop 1 (some FieldType.boolean)
theorem kz_M_drop : kh_M_drop ∈ zT := zin 862 (by decide +kernel) (by decide +kernel)
abbrev kb_M_power : ByteArray := prog_11_method_8_code
abbrev ky_M_power : MethodName := ⟨"TreeCountsModel", "power", "(JJJ)J"⟩
abbrev kh_M_power : Cond := .code ky_M_power kb_M_power 12 (some FieldType.long)
theorem kz_M_power : kh_M_power ∈ zT := zin 911 (by decide +kernel) (by decide +kernel)
abbrev kb_M_modulo : ByteArray := prog_11_method_9_code
abbrev ky_M_modulo : MethodName := ⟨"TreeCountsModel", "modulo", "(IJ)J"⟩
abbrev kh_M_modulo : Cond := .code ky_M_modulo kb_M_modulo 14 (some FieldType.long)
theorem kz_M_modulo : kh_M_modulo ∈ zT := zin 907 (by decide +kernel) (by decide +kernel)
abbrev kb_M_determinant : ByteArray := prog_11_method_10_code
abbrev ky_M_determinant : MethodName := ⟨"TreeCountsModel", "determinant", "(I)J"⟩
abbrev kh_M_determinant : Cond := .code ky_M_determinant kb_M_determinant 8 (some FieldType.long)
theorem kz_M_determinant : kh_M_determinant ∈ zT := zin 902 (by decide +kernel) (by decide +kernel)
abbrev kb_M_clearRows : ByteArray := prog_11_method_11_code
abbrev ky_M_clearRows : MethodName := ⟨"TreeCountsModel", "clearRows", "()V"⟩
abbrev kh_M_clearRows : Cond := .code ky_M_clearRows kb_M_clearRows 2 none
theorem kz_M_clearRows : kh_M_clearRows ∈ zT := zin 894 (by decide +kernel) (by decide +kernel)
abbrev kb_M_apartAll : ByteArray := prog_11_method_12_code
abbrev ky_M_apartAll : MethodName := ⟨"TreeCountsModel", "apartAll", "()V"⟩
abbrev kh_M_apartAll : Cond := .code ky_M_apartAll kb_M_apartAll 2 none
theorem kz_M_apartAll : kh_M_apartAll ∈ zT := zin 870 (by decide +kernel) (by decide +kernel)
abbrev kb_M_join : ByteArray := prog_11_method_13_code
abbrev ky_M_join : MethodName := ⟨"TreeCountsModel", "join", "(II)Z"⟩
abbrev kh_M_join : Cond := .code ky_M_join kb_M_join 6 (some FieldType.boolean)
theorem kz_M_join : kh_M_join ∈ zT := zin 947 (by decide +kernel) (by decide +kernel)
abbrev kb_M_noneOut : ByteArray := prog_11_method_14_code
abbrev ky_M_noneOut : MethodName := ⟨"TreeCountsModel", "noneOut", "()V"⟩
abbrev kh_M_noneOut : Cond := .code ky_M_noneOut kb_M_noneOut 2 none
theorem kz_M_noneOut : kh_M_noneOut ∈ zT := zin 874 (by decide +kernel) (by decide +kernel)
abbrev kb_M_number : ByteArray := prog_11_method_15_code
abbrev ky_M_number : MethodName := ⟨"TreeCountsModel", "number", "(II)I"⟩
abbrev kh_M_number : Cond := .code ky_M_number kb_M_number 7 (some FieldType.int)
theorem kz_M_number : kh_M_number ∈ zT := zin 882 (by decide +kernel) (by decide +kernel)
abbrev kb_M_isFirst : ByteArray := prog_11_method_16_code
abbrev ky_M_isFirst : MethodName := ⟨"TreeCountsModel", "isFirst", "(I)Z"⟩
abbrev kh_M_isFirst : Cond := .code ky_M_isFirst kb_M_isFirst 4 (some FieldType.boolean)
theorem kz_M_isFirst : kh_M_isFirst ∈ zT := zin 886 (by decide +kernel) (by decide +kernel)
abbrev kb_M_addTo : ByteArray := prog_11_method_17_code
abbrev ky_M_addTo : MethodName := ⟨"TreeCountsModel", "addTo", "(IIJ)V"⟩
abbrev kh_M_addTo : Cond := .code ky_M_addTo kb_M_addTo 5 none
theorem kz_M_addTo : kh_M_addTo ∈ zT := zin 898 (by decide +kernel) (by decide +kernel)
abbrev kb_M_rows : ByteArray := prog_11_method_18_code
abbrev ky_M_rows : MethodName := ⟨"TreeCountsModel", "rows", "(J)V"⟩
abbrev kh_M_rows : Cond := .code ky_M_rows kb_M_rows 6 none
theorem kz_M_rows : kh_M_rows ∈ zT := zin 890 (by decide +kernel) (by decide +kernel)
abbrev kb_M_count : ByteArray := prog_11_method_19_code
abbrev ky_M_count : MethodName := ⟨"TreeCountsModel", "count", "()J"⟩
abbrev kh_M_count : Cond := .code ky_M_count kb_M_count 2 (some FieldType.long)
theorem kz_M_count : kh_M_count ∈ zT := zin 878 (by decide +kernel) (by decide +kernel)
abbrev kb_M_trees : ByteArray := prog_11_method_20_code
abbrev ky_M_trees : MethodName := ⟨"TreeCountsModel", "trees", "()J"⟩
abbrev kh_M_trees : Cond := .code ky_M_trees kb_M_trees 1 (some FieldType.long)
theorem kz_M_trees : kh_M_trees ∈ zT := zin 866 (by decide +kernel) (by decide +kernel)
abbrev kb_M_through : ByteArray := prog_11_method_21_code
abbrev ky_M_through : MethodName := ⟨"TreeCountsModel", "through", "(I)J"⟩
abbrev kh_M_through : Cond := .code ky_M_through kb_M_through 4 (some FieldType.long)
theorem kz_M_through : kh_M_through ∈ zT := zin 917 (by decide +kernel) (by decide +kernel)
abbrev kb_M_rooted : ByteArray := prog_11_method_22_code
abbrev ky_M_rooted : MethodName := ⟨"TreeCountsModel", "rooted", "(I)J"⟩
abbrev kh_M_rooted : Cond := .code ky_M_rooted kb_M_rooted 4 (some FieldType.long)
theorem kz_M_rooted : kh_M_rooted ∈ zT := zin 923 (by decide +kernel) (by decide +kernel)
abbrev kb_M_forests : ByteArray := prog_11_method_23_code
abbrev ky_M_forests : MethodName := ⟨"TreeCountsModel", "forests", "()J"⟩
abbrev kh_M_forests : Cond := .code ky_M_forests kb_M_forests 2 (some FieldType.long)
theorem kz_M_forests : kh_M_forests ∈ zT := zin 927 (by decide +kernel) (by decide +kernel)
abbrev kb_M_apart : ByteArray := prog_11_method_24_code
abbrev ky_M_apart : MethodName := ⟨"TreeCountsModel", "apart", "(II)J"⟩
abbrev kh_M_apart : Cond := .code ky_M_apart kb_M_apart 4 (some FieldType.long)
theorem kz_M_apart : kh_M_apart ∈ zT := zin 931 (by decide +kernel) (by decide +kernel)
abbrev kb_M_gcd : ByteArray := prog_11_method_25_code
abbrev ky_M_gcd : MethodName := ⟨"TreeCountsModel", "gcd", "(JJ)J"⟩
abbrev kh_M_gcd : Cond := .code ky_M_gcd kb_M_gcd 10 (some FieldType.long)
theorem kz_M_gcd : kh_M_gcd ∈ zT := zin 939 (by decide +kernel) (by decide +kernel)
abbrev kb_M_resistance : ByteArray := prog_11_method_26_code
abbrev ky_M_resistance : MethodName := ⟨"TreeCountsModel", "resistance", "(III)J"⟩
abbrev kh_M_resistance : Cond := .code ky_M_resistance kb_M_resistance 10 (some FieldType.long)
theorem kz_M_resistance : kh_M_resistance ∈ zT := zin 935 (by decide +kernel) (by decide +kernel)
abbrev kb_M_tours : ByteArray := prog_11_method_27_code
abbrev ky_M_tours : MethodName := ⟨"TreeCountsModel", "tours", "()J"⟩
abbrev kh_M_tours : Cond := .code ky_M_tours kb_M_tours 9 (some FieldType.long)
theorem kz_M_tours : kh_M_tours ∈ zT := zin 943 (by decide +kernel) (by decide +kernel)
abbrev kb_M_with : ByteArray := prog_11_method_28_code
abbrev ky_M_with : MethodName := ⟨"TreeCountsModel", "with", "(I)J"⟩
abbrev kh_M_with : Cond := .code ky_M_with kb_M_with 6 (some FieldType.long)
theorem kz_M_with : kh_M_with ∈ zT := zin 955 (by decide +kernel) (by decide +kernel)
abbrev kb_M_drawn : ByteArray := prog_11_method_29_code
abbrev ky_M_drawn : MethodName := ⟨"TreeCountsModel", "drawn", "(J)I"⟩
abbrev kh_M_drawn : Cond := .code ky_M_drawn kb_M_drawn 10 (some FieldType.int)
theorem kz_M_drawn : kh_M_drawn ∈ zT := zin 951 (by decide +kernel) (by decide +kernel)
abbrev kb_M_place : ByteArray := prog_11_method_30_code
abbrev ky_M_place : MethodName := ⟨"TreeCountsModel", "place", "(I)J"⟩
abbrev kh_M_place : Cond := .code ky_M_place kb_M_place 11 (some FieldType.long)
theorem kz_M_place : kh_M_place ∈ zT := zin 959 (by decide +kernel) (by decide +kernel)
abbrev kb_M_takeTrees : ByteArray := prog_11_method_31_code
abbrev ky_M_takeTrees : MethodName := ⟨"TreeCountsModel", "takeTrees", "()I"⟩
abbrev kh_M_takeTrees : Cond := .code ky_M_takeTrees kb_M_takeTrees 3 (some FieldType.int)
theorem kz_M_takeTrees : kh_M_takeTrees ∈ zT := zin 967 (by decide +kernel) (by decide +kernel)
abbrev kb_M_ringOf : ByteArray := prog_11_method_32_code
abbrev ky_M_ringOf : MethodName := ⟨"TreeCountsModel", "ringOf", "(I)V"⟩
abbrev kh_M_ringOf : Cond := .code ky_M_ringOf kb_M_ringOf 8 none
theorem kz_M_ringOf : kh_M_ringOf ∈ zT := zin 971 (by decide +kernel) (by decide +kernel)
abbrev kb_M_ring : ByteArray := prog_11_method_33_code
abbrev ky_M_ring : MethodName := ⟨"TreeCountsModel", "ring", "(II)I"⟩
abbrev kh_M_ring : Cond := .code ky_M_ring kb_M_ring 3 (some FieldType.int)
theorem kz_M_ring : kh_M_ring ∈ zT := zin 963 (by decide +kernel) (by decide +kernel)
abbrev kb_M_times : ByteArray := prog_11_method_34_code
abbrev ky_M_times : MethodName := ⟨"TreeCountsModel", "times", "(JJJ)J"⟩
abbrev kh_M_times : Cond := .code ky_M_times kb_M_times 12 (some FieldType.long)
theorem kz_M_times : kh_M_times ∈ zT := zin 994 (by decide +kernel) (by decide +kernel)
abbrev kb_M_lessRow : ByteArray := prog_11_method_35_code
abbrev ky_M_lessRow : MethodName := ⟨"TreeCountsModel", "lessRow", "(IIJIJ)V"⟩
abbrev kh_M_lessRow : Cond := .code ky_M_lessRow kb_M_lessRow 9 none
theorem kz_M_lessRow : kh_M_lessRow ∈ zT := zin 991 (by decide +kernel) (by decide +kernel)
abbrev kb_M_lessColumn : ByteArray := prog_11_method_36_code
abbrev ky_M_lessColumn : MethodName := ⟨"TreeCountsModel", "lessColumn", "(IIJIJ)V"⟩
abbrev kh_M_lessColumn : Cond := .code ky_M_lessColumn kb_M_lessColumn 9 none
theorem kz_M_lessColumn : kh_M_lessColumn ∈ zT := zin 1002 (by decide +kernel) (by decide +kernel)
abbrev kb_M_swapRows : ByteArray := prog_11_method_37_code
abbrev ky_M_swapRows : MethodName := ⟨"TreeCountsModel", "swapRows", "(III)V"⟩
abbrev kh_M_swapRows : Cond := .code ky_M_swapRows kb_M_swapRows 7 none
theorem kz_M_swapRows : kh_M_swapRows ∈ zT := zin 998 (by decide +kernel) (by decide +kernel)
abbrev kb_M_swapColumns : ByteArray := prog_11_method_38_code
abbrev ky_M_swapColumns : MethodName := ⟨"TreeCountsModel", "swapColumns", "(III)V"⟩
abbrev kh_M_swapColumns : Cond := .code ky_M_swapColumns kb_M_swapColumns 7 none
theorem kz_M_swapColumns : kh_M_swapColumns ∈ zT := zin 1006 (by decide +kernel) (by decide +kernel)
abbrev kb_M_clearCross : ByteArray := prog_11_method_39_code
abbrev ky_M_clearCross : MethodName := ⟨"TreeCountsModel", "clearCross", "(IIJ)V"⟩
abbrev kh_M_clearCross : Cond := .code ky_M_clearCross kb_M_clearCross 7 none
theorem kz_M_clearCross : kh_M_clearCross ∈ zT := zin 987 (by decide +kernel) (by decide +kernel)
abbrev kb_M_commonFrom : ByteArray := prog_11_method_40_code
abbrev ky_M_commonFrom : MethodName := ⟨"TreeCountsModel", "commonFrom", "(IIJ)J"⟩
abbrev kh_M_commonFrom : Cond := .code ky_M_commonFrom kb_M_commonFrom 9 (some FieldType.long)
theorem kz_M_commonFrom : kh_M_commonFrom ∈ zT := zin 983 (by decide +kernel) (by decide +kernel)
abbrev kb_M_findRounds : ByteArray := prog_11_method_41_code
abbrev ky_M_findRounds : MethodName := ⟨"TreeCountsModel", "findRounds", "()Z"⟩
abbrev kh_M_findRounds : Cond := .code ky_M_findRounds kb_M_findRounds 10 (some FieldType.boolean)
theorem kz_M_findRounds : kh_M_findRounds ∈ zT := zin 979 (by decide +kernel) (by decide +kernel)
abbrev kb_M_isOther : ByteArray := prog_11_method_42_code
abbrev ky_M_isOther : MethodName := ⟨"TreeCountsModel", "isOther", "(IIIJ)Z"⟩
abbrev kh_M_isOther : Cond := .code ky_M_isOther kb_M_isOther 10 (some FieldType.boolean)
theorem kz_M_isOther : kh_M_isOther ∈ zT := zin 1010 (by decide +kernel) (by decide +kernel)
abbrev kb_M_group : ByteArray := prog_11_method_43_code
abbrev ky_M_group : MethodName := ⟨"TreeCountsModel", "group", "(I)J"⟩
abbrev kh_M_group : Cond := .code ky_M_group kb_M_group 2 (some FieldType.long)
theorem kz_M_group : kh_M_group ∈ zT := zin 975 (by decide +kernel) (by decide +kernel)
abbrev kb_M_chips : ByteArray := prog_11_method_44_code
abbrev ky_M_chips : MethodName := ⟨"TreeCountsModel", "chips", "(II)J"⟩
abbrev kh_M_chips : Cond := .code ky_M_chips kb_M_chips 5 (some FieldType.long)
theorem kz_M_chips : kh_M_chips ∈ zT := zin 1014 (by decide +kernel) (by decide +kernel)
abbrev kb_M_level : ByteArray := prog_11_method_45_code
abbrev ky_M_level : MethodName := ⟨"TreeCountsModel", "level", "(I)J"⟩
abbrev kh_M_level : Cond := .code ky_M_level kb_M_level 2 (some FieldType.long)
theorem kz_M_level : kh_M_level ∈ zT := zin 1018 (by decide +kernel) (by decide +kernel)
abbrev kb_M_degree : ByteArray := prog_11_method_46_code
abbrev ky_M_degree : MethodName := ⟨"TreeCountsModel", "degree", "(I)J"⟩
abbrev kh_M_degree : Cond := .code ky_M_degree kb_M_degree 5 (some FieldType.long)
theorem kz_M_degree : kh_M_degree ∈ zT := zin 1034 (by decide +kernel) (by decide +kernel)
abbrev kb_M_fireNode : ByteArray := prog_11_method_47_code
abbrev ky_M_fireNode : MethodName := ⟨"TreeCountsModel", "fireNode", "(IJ)V"⟩
abbrev kh_M_fireNode : Cond := .code ky_M_fireNode kb_M_fireNode 6 none
theorem kz_M_fireNode : kh_M_fireNode ∈ zT := zin 1038 (by decide +kernel) (by decide +kernel)
abbrev kb_M_settlePile : ByteArray := prog_11_method_48_code
abbrev ky_M_settlePile : MethodName := ⟨"TreeCountsModel", "settlePile", "(I)J"⟩
abbrev kh_M_settlePile : Cond := .code ky_M_settlePile kb_M_settlePile 8 (some FieldType.long)
theorem kz_M_settlePile : kh_M_settlePile ∈ zT := zin 1030 (by decide +kernel) (by decide +kernel)
abbrev kb_M_beginPile : ByteArray := prog_11_method_49_code
abbrev ky_M_beginPile : MethodName := ⟨"TreeCountsModel", "beginPile", "()V"⟩
abbrev kh_M_beginPile : Cond := .code ky_M_beginPile kb_M_beginPile 2 none
theorem kz_M_beginPile : kh_M_beginPile ∈ zT := zin 1026 (by decide +kernel) (by decide +kernel)
abbrev kb_M_settle : ByteArray := prog_11_method_50_code
abbrev ky_M_settle : MethodName := ⟨"TreeCountsModel", "settle", "(I)J"⟩
abbrev kh_M_settle : Cond := .code ky_M_settle kb_M_settle 5 (some FieldType.long)
theorem kz_M_settle : kh_M_settle ∈ zT := zin 1022 (by decide +kernel) (by decide +kernel)
abbrev kb_M_fired : ByteArray := prog_11_method_51_code
abbrev ky_M_fired : MethodName := ⟨"TreeCountsModel", "fired", "(I)J"⟩
abbrev kh_M_fired : Cond := .code ky_M_fired kb_M_fired 2 (some FieldType.long)
theorem kz_M_fired : kh_M_fired ∈ zT := zin 1042 (by decide +kernel) (by decide +kernel)
abbrev kb_M_recurrent : ByteArray := prog_11_method_52_code
abbrev ky_M_recurrent : MethodName := ⟨"TreeCountsModel", "recurrent", "(I)I"⟩
abbrev kh_M_recurrent : Cond := .code ky_M_recurrent kb_M_recurrent 6 (some FieldType.int)
theorem kz_M_recurrent : kh_M_recurrent ∈ zT := zin 1046 (by decide +kernel) (by decide +kernel)
abbrev kb_M_powerOf : ByteArray := prog_11_method_53_code
abbrev ky_M_powerOf : MethodName := ⟨"TreeCountsModel", "powerOf", "(JI)J"⟩
abbrev kh_M_powerOf : Cond := .code ky_M_powerOf kb_M_powerOf 6 (some FieldType.long)
theorem kz_M_powerOf : kh_M_powerOf ∈ zT := zin 1057 (by decide +kernel) (by decide +kernel)
abbrev kb_M_rank : ByteArray := prog_11_method_54_code
abbrev ky_M_rank : MethodName := ⟨"TreeCountsModel", "rank", "(I)I"⟩
abbrev kh_M_rank : Cond := .code ky_M_rank kb_M_rank 4 (some FieldType.int)
theorem kz_M_rank : kh_M_rank ∈ zT := zin 1054 (by decide +kernel) (by decide +kernel)
abbrev kb_M_point : ByteArray := prog_11_method_55_code
abbrev ky_M_point : MethodName := ⟨"TreeCountsModel", "point", "(JJ)J"⟩
abbrev kh_M_point : Cond := .code ky_M_point kb_M_point 11 (some FieldType.long)
theorem kz_M_point : kh_M_point ∈ zT := zin 1050 (by decide +kernel) (by decide +kernel)
abbrev kb_M_told : ByteArray := prog_11_method_56_code
abbrev ky_M_told : MethodName := ⟨"TreeCountsModel", "told", "(I)I"⟩
abbrev kh_M_told : Cond := .code ky_M_told kb_M_told 2 (some FieldType.int)
theorem kz_M_told : kh_M_told ∈ zT := zin 1061 (by decide +kernel) (by decide +kernel)
abbrev kb_M_clear : ByteArray := prog_11_method_57_code
abbrev ky_M_clear : MethodName := ⟨"TreeCountsModel", "clear", "()V"⟩
abbrev kh_M_clear : Cond := .code ky_M_clear kb_M_clear 1 none
theorem kz_M_clear : kh_M_clear ∈ zT := zin 1065 (by decide +kernel) (by decide +kernel)
theorem mk_fd {own C : String} {T : u_T} {idx ci k N : Nat} (c : Cond) (hc : kCl[ci]? = some (C, T, N)) (hin : ∀ w ∈ u_ws C T N, w ∈ zT) (hl : Cond.fieldLink own idx (T k).1 (T k).2.1 (T k).2.2.1 ∈ zT) (hk : k < N) : zFd kCl (c :: zT) own idx ci k := ⟨C, T, N, hc, fun w h => List.mem_cons_of_mem _ (hin w h), List.mem_cons_of_mem _ hl, hk⟩
theorem mk_pd {own C : String} {T : u_T} {ty0 : Nat → FieldType} {ty : FieldType} {idx ci k N : Nat} (c : Cond) (hc : kCl[ci]? = some (C, T, N)) (hin : ∀ w ∈ u_ws C T N, w ∈ zT) (hl : Cond.fieldLink own idx (T k).1 (T k).2.1 (T k).2.2.1 ∈ zT) (hk : k < N) (hty : ∀ k, k < N → parseFieldDescriptor (T k).2.2.1 = some (ty0 k)) (hnm : ∀ a, a < N → ∀ b, b < N → a ≠ b → (T a).2.1 ≠ (T b).2.1) (hf : (T k).2.2.2 = false) (hp : parseFieldDescriptor (T k).2.2.1 = some ty) : zPd kCl (c :: zT) own idx ci k ty := ⟨C, T, N, ty0, hc, fun w h => List.mem_cons_of_mem _ (hin w h), List.mem_cons_of_mem _ hl, hk, hty, hnm, hf, hp⟩
theorem mk_fn {own C : String} {T : u_T} {ty0 : Nat → FieldType} {ty : FieldType} {idx ci k N : Nat} (c : Cond) (hc : kCl[ci]? = some (C, T, N)) (hin : ∀ w ∈ u_ws C T N, w ∈ zT) (hl : Cond.fieldLink own idx (T k).1 (T k).2.1 (T k).2.2.1 ∈ zT) (hk : k < N) (hty : ∀ k, k < N → parseFieldDescriptor (T k).2.2.1 = some (ty0 k)) (hnm : ∀ a, a < N → ∀ b, b < N → a ≠ b → (T a).2.1 ≠ (T b).2.1) (hf : (T k).2.2.2 = true) (hp : parseFieldDescriptor (T k).2.2.1 = some ty) (ho : (T k).1 = own) : zFn kCl (c :: zT) own idx ci k ty := ⟨C, T, N, ty0, hc, fun w h => List.mem_cons_of_mem _ (hin w h), List.mem_cons_of_mem _ hl, hk, hty, hnm, hf, hp, ho⟩
theorem mk_cv {own C : String} {idx maxL n : Nat} {y : MethodName} {bytes : ByteArray} {ret : Option FieldType} (c : Cond) (h1 : Cond.methodLink own idx y ∈ zT) (h2 : Cond.instanceMethod y ∈ zT) (h3 : Cond.selects C y y ∈ zT) (h4 : Cond.initialized C ∈ zT) (h5 : Cond.code y bytes maxL ret ∈ zT) (hd : y.cls = C ∧ y.cls ≠ "java/lang/invoke/MethodHandle" ∧ y.cls ≠ "java/lang/invoke/VarHandle" ∧ (parseMethodDescriptor y.desc).map (fun d => d.parameters.length) = some n) : zCV (c :: zT) own C idx y bytes maxL ret (Cond.code y bytes maxL ret :: zT) n := ⟨mk_cons h1 (mk_cons h2 (mk_cons h3 (mk_cons h4 (mk_good h5)))), ⟨_, rfl⟩, hd⟩
theorem mk_cs {own : String} {idx maxL n : Nat} {y : MethodName} {bytes : ByteArray} {ret : Option FieldType} (c : Cond) (h1 : Cond.methodLink own idx y ∈ zT) (h2 : Cond.static y ∈ zT) (h4 : Cond.initialized own ∈ zT) (h5 : Cond.code y bytes maxL ret ∈ zT) (hd : y.cls = own ∧ y.cls ≠ "java/lang/invoke/MethodHandle" ∧ y.cls ≠ "java/lang/invoke/VarHandle" ∧ (parseMethodDescriptor y.desc).map (fun d => d.parameters.length) = some n) : zCS (c :: zT) own idx y bytes maxL ret (Cond.code y bytes maxL ret :: zT) n := ⟨mk_cons h1 (mk_cons h2 (mk_cons h4 (mk_good h5))), ⟨_, rfl⟩, hd⟩
theorem mk_ci {own : String} {idx maxL n : Nat} {y : MethodName} {bytes : ByteArray} (c : Cond) (h5 : Cond.code y bytes maxL none ∈ zT) (h1 : Cond.initialized y.cls ∈ zT) (h2 : Cond.methodLink own idx y ∈ zT) (h3 : Cond.instanceMethod y ∈ zT) (h4 : y.name = "<init>") (hd : y.cls ≠ "java/lang/invoke/MethodHandle" ∧ y.cls ≠ "java/lang/invoke/VarHandle" ∧ (parseMethodDescriptor y.desc).map (fun d => d.parameters.length) = some n) : zCI (c :: zT) own idx y bytes maxL (Cond.code y bytes maxL none :: zT) n := ⟨mk_good h5, ⟨_, rfl⟩, List.mem_cons_of_mem _ h1, List.mem_cons_of_mem _ h2, List.mem_cons_of_mem _ h3, h4, hd⟩
def kNw : List Cond := [.methodLinkNest "TreeCounts" 9 ⟨"TreeCounts$Net", "<init>", "()V"⟩ "TreeCounts", .methodLinkNest "TreeCounts" 18 ⟨"TreeCounts$Parts", "<init>", "()V"⟩ "TreeCounts", .methodLinkNest "TreeCounts" 21 ⟨"TreeCounts$Grid", "<init>", "()V"⟩ "TreeCounts", .methodLinkNest "TreeCounts$Sets" 32 ⟨"TreeCounts$Parts", "<init>", "()V"⟩ "TreeCounts", .methodLinkNest "TreeCounts$Group" 71 ⟨"TreeCounts", "commonDivisor", "(JJ)J"⟩ "TreeCounts"]
theorem mk_cn {own host : String} {idx maxL n : Nat} {y : MethodName} {bytes : ByteArray} {ret : Option FieldType} (c : Cond) (h5 : Cond.code y bytes maxL ret ∈ zT) (h2 : Cond.methodLinkNest own idx y host ∈ kNw) (h1 : Cond.initialized y.cls ∈ zT) (hd : y.cls ≠ "java/lang/invoke/MethodHandle" ∧ y.cls ≠ "java/lang/invoke/VarHandle" ∧ (parseMethodDescriptor y.desc).map (fun d => d.parameters.length) = some n) : zCN (c :: zT) kNw own idx y host bytes maxL ret (Cond.code y bytes maxL ret :: zT) n := ⟨mk_good h5, ⟨_, rfl⟩, h2, List.mem_cons_of_mem _ h1, hd⟩
theorem kf_C_10 (c : Cond) : zFd kCl (c :: zT) "TreeCounts" 10 0 0 := mk_fd c kc_C ki_C (zin 299 (by decide +kernel) (by decide +kernel)) (by decide)
theorem kf_C_27 (c : Cond) : zFd kCl (c :: zT) "TreeCounts" 27 0 1 := mk_fd c kc_C ki_C (zin 300 (by decide +kernel) (by decide +kernel)) (by decide)
theorem kf_C_36 (c : Cond) : zFd kCl (c :: zT) "TreeCounts" 36 0 2 := mk_fd c kc_C ki_C (zin 301 (by decide +kernel) (by decide +kernel)) (by decide)
theorem kf_C_45 (c : Cond) : zFd kCl (c :: zT) "TreeCounts" 45 0 3 := mk_fd c kc_C ki_C (zin 302 (by decide +kernel) (by decide +kernel)) (by decide)
theorem kf_C_54 (c : Cond) : zFd kCl (c :: zT) "TreeCounts" 54 0 4 := mk_fd c kc_C ki_C (zin 303 (by decide +kernel) (by decide +kernel)) (by decide)
theorem kf_C_61 (c : Cond) : zFd kCl (c :: zT) "TreeCounts" 61 0 5 := mk_fd c kc_C ki_C (zin 304 (by decide +kernel) (by decide +kernel)) (by decide)
theorem kf_C_65 (c : Cond) : zFd kCl (c :: zT) "TreeCounts" 65 1 0 := mk_fd c kc_N ki_N (zin 81 (by decide +kernel) (by decide +kernel)) (by decide)
theorem kf_C_76 (c : Cond) : zFd kCl (c :: zT) "TreeCounts" 76 1 1 := mk_fd c kc_N ki_N (zin 91 (by decide +kernel) (by decide +kernel)) (by decide)
theorem kf_C_79 (c : Cond) : zFd kCl (c :: zT) "TreeCounts" 79 1 2 := mk_fd c kc_N ki_N (zin 96 (by decide +kernel) (by decide +kernel)) (by decide)
theorem kf_C_83 (c : Cond) : zFd kCl (c :: zT) "TreeCounts" 83 1 3 := mk_fd c kc_N ki_N (zin 102 (by decide +kernel) (by decide +kernel)) (by decide)
theorem kf_C_86 (c : Cond) : zFd kCl (c :: zT) "TreeCounts" 86 1 4 := mk_fd c kc_N ki_N (zin 108 (by decide +kernel) (by decide +kernel)) (by decide)
theorem kf_C_136 (c : Cond) : zFd kCl (c :: zT) "TreeCounts" 136 5 0 := mk_fd c kc_R ki_R (zin 192 (by decide +kernel) (by decide +kernel)) (by decide)
theorem kf_C_139 (c : Cond) : zFd kCl (c :: zT) "TreeCounts" 139 5 1 := mk_fd c kc_R ki_R (zin 194 (by decide +kernel) (by decide +kernel)) (by decide)
theorem kf_C_145 (c : Cond) : zFd kCl (c :: zT) "TreeCounts" 145 6 0 := mk_fd c kc_U ki_U (zin 216 (by decide +kernel) (by decide +kernel)) (by decide)
theorem kf_C_151 (c : Cond) : zFd kCl (c :: zT) "TreeCounts" 151 7 0 := mk_fd c kc_L ki_L (zin 251 (by decide +kernel) (by decide +kernel)) (by decide)
theorem kf_C_162 (c : Cond) : zFd kCl (c :: zT) "TreeCounts" 162 7 1 := mk_fd c kc_L ki_L (zin 253 (by decide +kernel) (by decide +kernel)) (by decide)
theorem kf_G_11 (c : Cond) : zFd kCl (c :: zT) "TreeCounts$Grid" 11 3 1 := mk_fd c kc_G ki_G (zin 153 (by decide +kernel) (by decide +kernel)) (by decide)
theorem kf_G_16 (c : Cond) : zFd kCl (c :: zT) "TreeCounts$Grid" 16 3 0 := mk_fd c kc_G ki_G (zin 151 (by decide +kernel) (by decide +kernel)) (by decide)
theorem kf_G_24 (c : Cond) : zFd kCl (c :: zT) "TreeCounts$Grid" 24 1 0 := mk_fd c kc_N ki_N (zin 87 (by decide +kernel) (by decide +kernel)) (by decide)
theorem kf_G_33 (c : Cond) : zFd kCl (c :: zT) "TreeCounts$Grid" 33 1 1 := mk_fd c kc_N ki_N (zin 94 (by decide +kernel) (by decide +kernel)) (by decide)
theorem kf_G_36 (c : Cond) : zFd kCl (c :: zT) "TreeCounts$Grid" 36 1 2 := mk_fd c kc_N ki_N (zin 100 (by decide +kernel) (by decide +kernel)) (by decide)
theorem kf_G_40 (c : Cond) : zFd kCl (c :: zT) "TreeCounts$Grid" 40 1 3 := mk_fd c kc_N ki_N (zin 106 (by decide +kernel) (by decide +kernel)) (by decide)
theorem kf_G_43 (c : Cond) : zFd kCl (c :: zT) "TreeCounts$Grid" 43 1 4 := mk_fd c kc_N ki_N (zin 110 (by decide +kernel) (by decide +kernel)) (by decide)
theorem kf_U_9 (c : Cond) : zFd kCl (c :: zT) "TreeCounts$Group" 9 6 1 := mk_fd c kc_U ki_U (zin 217 (by decide +kernel) (by decide +kernel)) (by decide)
theorem kf_U_15 (c : Cond) : zFd kCl (c :: zT) "TreeCounts$Group" 15 6 2 := mk_fd c kc_U ki_U (zin 218 (by decide +kernel) (by decide +kernel)) (by decide)
theorem kf_U_19 (c : Cond) : zFd kCl (c :: zT) "TreeCounts$Group" 19 6 3 := mk_fd c kc_U ki_U (zin 219 (by decide +kernel) (by decide +kernel)) (by decide)
theorem kf_U_23 (c : Cond) : zFd kCl (c :: zT) "TreeCounts$Group" 23 6 4 := mk_fd c kc_U ki_U (zin 220 (by decide +kernel) (by decide +kernel)) (by decide)
theorem kf_U_27 (c : Cond) : zFd kCl (c :: zT) "TreeCounts$Group" 27 1 0 := mk_fd c kc_N ki_N (zin 84 (by decide +kernel) (by decide +kernel)) (by decide)
theorem kf_U_33 (c : Cond) : zFd kCl (c :: zT) "TreeCounts$Group" 33 6 0 := mk_fd c kc_U ki_U (zin 215 (by decide +kernel) (by decide +kernel)) (by decide)
theorem kf_U_42 (c : Cond) : zFd kCl (c :: zT) "TreeCounts$Group" 42 6 5 := mk_fd c kc_U ki_U (zin 221 (by decide +kernel) (by decide +kernel)) (by decide)
theorem kf_U_61 (c : Cond) : zFd kCl (c :: zT) "TreeCounts$Group" 61 3 0 := mk_fd c kc_G ki_G (zin 152 (by decide +kernel) (by decide +kernel)) (by decide)
theorem kf_U_67 (c : Cond) : zFd kCl (c :: zT) "TreeCounts$Group" 67 3 1 := mk_fd c kc_G ki_G (zin 154 (by decide +kernel) (by decide +kernel)) (by decide)
theorem kf_U_97 (c : Cond) : zFd kCl (c :: zT) "TreeCounts$Group" 97 6 6 := mk_fd c kc_U ki_U (zin 222 (by decide +kernel) (by decide +kernel)) (by decide)
theorem kf_U_100 (c : Cond) : zFd kCl (c :: zT) "TreeCounts$Group" 100 6 7 := mk_fd c kc_U ki_U (zin 223 (by decide +kernel) (by decide +kernel)) (by decide)
theorem kf_U_106 (c : Cond) : zFd kCl (c :: zT) "TreeCounts$Group" 106 6 8 := mk_fd c kc_U ki_U (zin 224 (by decide +kernel) (by decide +kernel)) (by decide)
theorem kf_N_9 (c : Cond) : zFd kCl (c :: zT) "TreeCounts$Net" 9 1 2 := mk_fd c kc_N ki_N (zin 95 (by decide +kernel) (by decide +kernel)) (by decide)
theorem kf_N_15 (c : Cond) : zFd kCl (c :: zT) "TreeCounts$Net" 15 1 3 := mk_fd c kc_N ki_N (zin 101 (by decide +kernel) (by decide +kernel)) (by decide)
theorem kf_N_18 (c : Cond) : zFd kCl (c :: zT) "TreeCounts$Net" 18 1 4 := mk_fd c kc_N ki_N (zin 107 (by decide +kernel) (by decide +kernel)) (by decide)
theorem kf_N_21 (c : Cond) : zFd kCl (c :: zT) "TreeCounts$Net" 21 1 0 := mk_fd c kc_N ki_N (zin 82 (by decide +kernel) (by decide +kernel)) (by decide)
theorem kf_N_25 (c : Cond) : zFd kCl (c :: zT) "TreeCounts$Net" 25 1 1 := mk_fd c kc_N ki_N (zin 90 (by decide +kernel) (by decide +kernel)) (by decide)
theorem kf_P_9 (c : Cond) : zFd kCl (c :: zT) "TreeCounts$Parts" 9 2 2 := mk_fd c kc_P ki_P (zin 134 (by decide +kernel) (by decide +kernel)) (by decide)
theorem kf_P_15 (c : Cond) : zFd kCl (c :: zT) "TreeCounts$Parts" 15 2 0 := mk_fd c kc_P ki_P (zin 129 (by decide +kernel) (by decide +kernel)) (by decide)
theorem kf_P_19 (c : Cond) : zFd kCl (c :: zT) "TreeCounts$Parts" 19 2 1 := mk_fd c kc_P ki_P (zin 130 (by decide +kernel) (by decide +kernel)) (by decide)
theorem kf_L_9 (c : Cond) : zFd kCl (c :: zT) "TreeCounts$Piles" 9 7 0 := mk_fd c kc_L ki_L (zin 250 (by decide +kernel) (by decide +kernel)) (by decide)
theorem kf_L_15 (c : Cond) : zFd kCl (c :: zT) "TreeCounts$Piles" 15 7 1 := mk_fd c kc_L ki_L (zin 252 (by decide +kernel) (by decide +kernel)) (by decide)
theorem kf_L_18 (c : Cond) : zFd kCl (c :: zT) "TreeCounts$Piles" 18 7 2 := mk_fd c kc_L ki_L (zin 254 (by decide +kernel) (by decide +kernel)) (by decide)
theorem kf_L_21 (c : Cond) : zFd kCl (c :: zT) "TreeCounts$Piles" 21 7 3 := mk_fd c kc_L ki_L (zin 255 (by decide +kernel) (by decide +kernel)) (by decide)
theorem kf_L_24 (c : Cond) : zFd kCl (c :: zT) "TreeCounts$Piles" 24 7 4 := mk_fd c kc_L ki_L (zin 256 (by decide +kernel) (by decide +kernel)) (by decide)
theorem kf_L_28 (c : Cond) : zFd kCl (c :: zT) "TreeCounts$Piles" 28 7 5 := mk_fd c kc_L ki_L (zin 257 (by decide +kernel) (by decide +kernel)) (by decide)
theorem kf_L_42 (c : Cond) : zFd kCl (c :: zT) "TreeCounts$Piles" 42 1 0 := mk_fd c kc_N ki_N (zin 86 (by decide +kernel) (by decide +kernel)) (by decide)
theorem kf_L_48 (c : Cond) : zFd kCl (c :: zT) "TreeCounts$Piles" 48 3 1 := mk_fd c kc_G ki_G (zin 155 (by decide +kernel) (by decide +kernel)) (by decide)
theorem kf_R_9 (c : Cond) : zFd kCl (c :: zT) "TreeCounts$Rings" 9 5 1 := mk_fd c kc_R ki_R (zin 193 (by decide +kernel) (by decide +kernel)) (by decide)
theorem kf_R_15 (c : Cond) : zFd kCl (c :: zT) "TreeCounts$Rings" 15 5 2 := mk_fd c kc_R ki_R (zin 195 (by decide +kernel) (by decide +kernel)) (by decide)
theorem kf_R_18 (c : Cond) : zFd kCl (c :: zT) "TreeCounts$Rings" 18 5 3 := mk_fd c kc_R ki_R (zin 196 (by decide +kernel) (by decide +kernel)) (by decide)
theorem kf_R_22 (c : Cond) : zFd kCl (c :: zT) "TreeCounts$Rings" 22 5 4 := mk_fd c kc_R ki_R (zin 197 (by decide +kernel) (by decide +kernel)) (by decide)
theorem kf_R_32 (c : Cond) : zFd kCl (c :: zT) "TreeCounts$Rings" 32 2 1 := mk_fd c kc_P ki_P (zin 131 (by decide +kernel) (by decide +kernel)) (by decide)
theorem kf_R_38 (c : Cond) : zFd kCl (c :: zT) "TreeCounts$Rings" 38 1 1 := mk_fd c kc_N ki_N (zin 89 (by decide +kernel) (by decide +kernel)) (by decide)
theorem kf_R_47 (c : Cond) : zFd kCl (c :: zT) "TreeCounts$Rings" 47 5 0 := mk_fd c kc_R ki_R (zin 191 (by decide +kernel) (by decide +kernel)) (by decide)
theorem kf_R_54 (c : Cond) : zFd kCl (c :: zT) "TreeCounts$Rings" 54 1 2 := mk_fd c kc_N ki_N (zin 98 (by decide +kernel) (by decide +kernel)) (by decide)
theorem kf_R_61 (c : Cond) : zFd kCl (c :: zT) "TreeCounts$Rings" 61 1 3 := mk_fd c kc_N ki_N (zin 105 (by decide +kernel) (by decide +kernel)) (by decide)
theorem kf_R_64 (c : Cond) : zFd kCl (c :: zT) "TreeCounts$Rings" 64 1 0 := mk_fd c kc_N ki_N (zin 88 (by decide +kernel) (by decide +kernel)) (by decide)
theorem kf_S_11 (c : Cond) : zFd kCl (c :: zT) "TreeCounts$Sets" 11 8 2 := mk_fd c kc_S ki_S (zin 282 (by decide +kernel) (by decide +kernel)) (by decide)
theorem kf_S_17 (c : Cond) : zFd kCl (c :: zT) "TreeCounts$Sets" 17 8 3 := mk_fd c kc_S ki_S (zin 283 (by decide +kernel) (by decide +kernel)) (by decide)
theorem kf_S_21 (c : Cond) : zFd kCl (c :: zT) "TreeCounts$Sets" 21 8 4 := mk_fd c kc_S ki_S (zin 284 (by decide +kernel) (by decide +kernel)) (by decide)
theorem kf_S_24 (c : Cond) : zFd kCl (c :: zT) "TreeCounts$Sets" 24 8 0 := mk_fd c kc_S ki_S (zin 280 (by decide +kernel) (by decide +kernel)) (by decide)
theorem kf_S_28 (c : Cond) : zFd kCl (c :: zT) "TreeCounts$Sets" 28 8 1 := mk_fd c kc_S ki_S (zin 281 (by decide +kernel) (by decide +kernel)) (by decide)
theorem kf_S_43 (c : Cond) : zFd kCl (c :: zT) "TreeCounts$Sets" 43 2 1 := mk_fd c kc_P ki_P (zin 132 (by decide +kernel) (by decide +kernel)) (by decide)
theorem kf_S_47 (c : Cond) : zFd kCl (c :: zT) "TreeCounts$Sets" 47 8 5 := mk_fd c kc_S ki_S (zin 285 (by decide +kernel) (by decide +kernel)) (by decide)
theorem kf_S_50 (c : Cond) : zFd kCl (c :: zT) "TreeCounts$Sets" 50 1 0 := mk_fd c kc_N ki_N (zin 85 (by decide +kernel) (by decide +kernel)) (by decide)
theorem kf_S_61 (c : Cond) : zFd kCl (c :: zT) "TreeCounts$Sets" 61 1 1 := mk_fd c kc_N ki_N (zin 93 (by decide +kernel) (by decide +kernel)) (by decide)
theorem kf_S_64 (c : Cond) : zFd kCl (c :: zT) "TreeCounts$Sets" 64 1 2 := mk_fd c kc_N ki_N (zin 99 (by decide +kernel) (by decide +kernel)) (by decide)
theorem kf_S_68 (c : Cond) : zFd kCl (c :: zT) "TreeCounts$Sets" 68 1 3 := mk_fd c kc_N ki_N (zin 104 (by decide +kernel) (by decide +kernel)) (by decide)
theorem kf_T_9 (c : Cond) : zFd kCl (c :: zT) "TreeCounts$Trees" 9 4 0 := mk_fd c kc_T ki_T (zin 169 (by decide +kernel) (by decide +kernel)) (by decide)
theorem kf_T_15 (c : Cond) : zFd kCl (c :: zT) "TreeCounts$Trees" 15 4 1 := mk_fd c kc_T ki_T (zin 170 (by decide +kernel) (by decide +kernel)) (by decide)
theorem kf_T_19 (c : Cond) : zFd kCl (c :: zT) "TreeCounts$Trees" 19 4 2 := mk_fd c kc_T ki_T (zin 171 (by decide +kernel) (by decide +kernel)) (by decide)
theorem kf_T_23 (c : Cond) : zFd kCl (c :: zT) "TreeCounts$Trees" 23 1 0 := mk_fd c kc_N ki_N (zin 83 (by decide +kernel) (by decide +kernel)) (by decide)
theorem kf_T_39 (c : Cond) : zFd kCl (c :: zT) "TreeCounts$Trees" 39 2 1 := mk_fd c kc_P ki_P (zin 133 (by decide +kernel) (by decide +kernel)) (by decide)
theorem kf_T_47 (c : Cond) : zFd kCl (c :: zT) "TreeCounts$Trees" 47 1 1 := mk_fd c kc_N ki_N (zin 92 (by decide +kernel) (by decide +kernel)) (by decide)
theorem kf_T_50 (c : Cond) : zFd kCl (c :: zT) "TreeCounts$Trees" 50 2 2 := mk_fd c kc_P ki_P (zin 135 (by decide +kernel) (by decide +kernel)) (by decide)
theorem kf_T_54 (c : Cond) : zFd kCl (c :: zT) "TreeCounts$Trees" 54 1 2 := mk_fd c kc_N ki_N (zin 97 (by decide +kernel) (by decide +kernel)) (by decide)
theorem kf_T_57 (c : Cond) : zFd kCl (c :: zT) "TreeCounts$Trees" 57 1 3 := mk_fd c kc_N ki_N (zin 103 (by decide +kernel) (by decide +kernel)) (by decide)
theorem kf_T_60 (c : Cond) : zFd kCl (c :: zT) "TreeCounts$Trees" 60 1 4 := mk_fd c kc_N ki_N (zin 109 (by decide +kernel) (by decide +kernel)) (by decide)
theorem kf_T_85 (c : Cond) : zFd kCl (c :: zT) "TreeCounts$Trees" 85 3 1 := mk_fd c kc_G ki_G (zin 156 (by decide +kernel) (by decide +kernel)) (by decide)
theorem kf_T_102 (c : Cond) : zFd kCl (c :: zT) "TreeCounts$Trees" 102 4 3 := mk_fd c kc_T ki_T (zin 172 (by decide +kernel) (by decide +kernel)) (by decide)
theorem kf_T_113 (c : Cond) : zFd kCl (c :: zT) "TreeCounts$Trees" 113 4 4 := mk_fd c kc_T ki_T (zin 173 (by decide +kernel) (by decide +kernel)) (by decide)
theorem kf_M_7 (c : Cond) : zFd kCl (c :: zT) "TreeCountsModel" 7 9 3 := mk_fd c kc_M ki_M (zin 765 (by decide +kernel) (by decide +kernel)) (by decide)
theorem kf_M_13 (c : Cond) : zFd kCl (c :: zT) "TreeCountsModel" 13 9 4 := mk_fd c kc_M ki_M (zin 766 (by decide +kernel) (by decide +kernel)) (by decide)
theorem kf_M_16 (c : Cond) : zFd kCl (c :: zT) "TreeCountsModel" 16 9 5 := mk_fd c kc_M ki_M (zin 767 (by decide +kernel) (by decide +kernel)) (by decide)
theorem kf_M_19 (c : Cond) : zFd kCl (c :: zT) "TreeCountsModel" 19 9 6 := mk_fd c kc_M ki_M (zin 768 (by decide +kernel) (by decide +kernel)) (by decide)
theorem kf_M_23 (c : Cond) : zFd kCl (c :: zT) "TreeCountsModel" 23 9 7 := mk_fd c kc_M ki_M (zin 769 (by decide +kernel) (by decide +kernel)) (by decide)
theorem kf_M_26 (c : Cond) : zFd kCl (c :: zT) "TreeCountsModel" 26 9 8 := mk_fd c kc_M ki_M (zin 770 (by decide +kernel) (by decide +kernel)) (by decide)
theorem kf_M_29 (c : Cond) : zFd kCl (c :: zT) "TreeCountsModel" 29 9 9 := mk_fd c kc_M ki_M (zin 771 (by decide +kernel) (by decide +kernel)) (by decide)
theorem kf_M_32 (c : Cond) : zFd kCl (c :: zT) "TreeCountsModel" 32 9 10 := mk_fd c kc_M ki_M (zin 772 (by decide +kernel) (by decide +kernel)) (by decide)
theorem kf_M_35 (c : Cond) : zFd kCl (c :: zT) "TreeCountsModel" 35 9 11 := mk_fd c kc_M ki_M (zin 773 (by decide +kernel) (by decide +kernel)) (by decide)
theorem kf_M_39 (c : Cond) : zFd kCl (c :: zT) "TreeCountsModel" 39 9 12 := mk_fd c kc_M ki_M (zin 774 (by decide +kernel) (by decide +kernel)) (by decide)
theorem kf_M_42 (c : Cond) : zFd kCl (c :: zT) "TreeCountsModel" 42 9 13 := mk_fd c kc_M ki_M (zin 775 (by decide +kernel) (by decide +kernel)) (by decide)
theorem kf_M_45 (c : Cond) : zFd kCl (c :: zT) "TreeCountsModel" 45 9 15 := mk_fd c kc_M ki_M (zin 777 (by decide +kernel) (by decide +kernel)) (by decide)
theorem kf_M_48 (c : Cond) : zFd kCl (c :: zT) "TreeCountsModel" 48 9 16 := mk_fd c kc_M ki_M (zin 778 (by decide +kernel) (by decide +kernel)) (by decide)
theorem kf_M_51 (c : Cond) : zFd kCl (c :: zT) "TreeCountsModel" 51 9 18 := mk_fd c kc_M ki_M (zin 780 (by decide +kernel) (by decide +kernel)) (by decide)
theorem kf_M_54 (c : Cond) : zFd kCl (c :: zT) "TreeCountsModel" 54 9 19 := mk_fd c kc_M ki_M (zin 781 (by decide +kernel) (by decide +kernel)) (by decide)
theorem kf_M_57 (c : Cond) : zFd kCl (c :: zT) "TreeCountsModel" 57 9 20 := mk_fd c kc_M ki_M (zin 782 (by decide +kernel) (by decide +kernel)) (by decide)
theorem kf_M_60 (c : Cond) : zFd kCl (c :: zT) "TreeCountsModel" 60 9 21 := mk_fd c kc_M ki_M (zin 783 (by decide +kernel) (by decide +kernel)) (by decide)
theorem kf_M_63 (c : Cond) : zFd kCl (c :: zT) "TreeCountsModel" 63 9 23 := mk_fd c kc_M ki_M (zin 785 (by decide +kernel) (by decide +kernel)) (by decide)
theorem kf_M_66 (c : Cond) : zFd kCl (c :: zT) "TreeCountsModel" 66 9 24 := mk_fd c kc_M ki_M (zin 786 (by decide +kernel) (by decide +kernel)) (by decide)
theorem kf_M_69 (c : Cond) : zFd kCl (c :: zT) "TreeCountsModel" 69 9 0 := mk_fd c kc_M ki_M (zin 762 (by decide +kernel) (by decide +kernel)) (by decide)
theorem kf_M_73 (c : Cond) : zFd kCl (c :: zT) "TreeCountsModel" 73 9 1 := mk_fd c kc_M ki_M (zin 763 (by decide +kernel) (by decide +kernel)) (by decide)
theorem kf_M_80 (c : Cond) : zFd kCl (c :: zT) "TreeCountsModel" 80 9 2 := mk_fd c kc_M ki_M (zin 764 (by decide +kernel) (by decide +kernel)) (by decide)
theorem kf_M_148 (c : Cond) : zFd kCl (c :: zT) "TreeCountsModel" 148 9 14 := mk_fd c kc_M ki_M (zin 776 (by decide +kernel) (by decide +kernel)) (by decide)
theorem kf_M_155 (c : Cond) : zFd kCl (c :: zT) "TreeCountsModel" 155 9 17 := mk_fd c kc_M ki_M (zin 779 (by decide +kernel) (by decide +kernel)) (by decide)
theorem kf_M_183 (c : Cond) : zFd kCl (c :: zT) "TreeCountsModel" 183 9 22 := mk_fd c kc_M ki_M (zin 784 (by decide +kernel) (by decide +kernel)) (by decide)
theorem kp_C_10 (c : Cond) : zFn kCl (c :: zT) "TreeCounts" 10 0 0 (.object "TreeCounts$Net") := mk_fn c kc_C ki_C (zin 299 (by decide +kernel) (by decide +kernel)) (by decide) kt_C kn_C rfl (by decide +kernel) rfl
theorem kp_C_27 (c : Cond) : zFn kCl (c :: zT) "TreeCounts" 27 0 1 (.object "TreeCounts$Trees") := mk_fn c kc_C ki_C (zin 300 (by decide +kernel) (by decide +kernel)) (by decide) kt_C kn_C rfl (by decide +kernel) rfl
theorem kp_C_36 (c : Cond) : zFn kCl (c :: zT) "TreeCounts" 36 0 2 (.object "TreeCounts$Rings") := mk_fn c kc_C ki_C (zin 301 (by decide +kernel) (by decide +kernel)) (by decide) kt_C kn_C rfl (by decide +kernel) rfl
theorem kp_C_45 (c : Cond) : zFn kCl (c :: zT) "TreeCounts" 45 0 3 (.object "TreeCounts$Group") := mk_fn c kc_C ki_C (zin 302 (by decide +kernel) (by decide +kernel)) (by decide) kt_C kn_C rfl (by decide +kernel) rfl
theorem kp_C_54 (c : Cond) : zFn kCl (c :: zT) "TreeCounts" 54 0 4 (.object "TreeCounts$Piles") := mk_fn c kc_C ki_C (zin 303 (by decide +kernel) (by decide +kernel)) (by decide) kt_C kn_C rfl (by decide +kernel) rfl
theorem kp_C_61 (c : Cond) : zFn kCl (c :: zT) "TreeCounts" 61 0 5 (.object "TreeCounts$Sets") := mk_fn c kc_C ki_C (zin 304 (by decide +kernel) (by decide +kernel)) (by decide) kt_C kn_C rfl (by decide +kernel) rfl
theorem kp_C_65 (c : Cond) : zPd kCl (c :: zT) "TreeCounts" 65 1 0 (.int) := mk_pd c kc_N ki_N (zin 81 (by decide +kernel) (by decide +kernel)) (by decide) kt_N kn_N rfl (by decide +kernel)
theorem kp_C_76 (c : Cond) : zPd kCl (c :: zT) "TreeCounts" 76 1 1 (.int) := mk_pd c kc_N ki_N (zin 91 (by decide +kernel) (by decide +kernel)) (by decide) kt_N kn_N rfl (by decide +kernel)
theorem kp_G_11 (c : Cond) : zFn kCl (c :: zT) "TreeCounts$Grid" 11 3 1 (.array (.array .long)) := mk_fn c kc_G ki_G (zin 153 (by decide +kernel) (by decide +kernel)) (by decide) kt_G kn_G rfl (by decide +kernel) rfl
theorem kp_G_16 (c : Cond) : zPd kCl (c :: zT) "TreeCounts$Grid" 16 3 0 (.int) := mk_pd c kc_G ki_G (zin 151 (by decide +kernel) (by decide +kernel)) (by decide) kt_G kn_G rfl (by decide +kernel)
theorem kp_U_9 (c : Cond) : zFn kCl (c :: zT) "TreeCounts$Group" 9 6 1 (.array .long) := mk_fn c kc_U ki_U (zin 217 (by decide +kernel) (by decide +kernel)) (by decide) kt_U kn_U rfl (by decide +kernel) rfl
theorem kp_U_15 (c : Cond) : zFn kCl (c :: zT) "TreeCounts$Group" 15 6 2 (.object "TreeCounts$Net") := mk_fn c kc_U ki_U (zin 218 (by decide +kernel) (by decide +kernel)) (by decide) kt_U kn_U rfl (by decide +kernel) rfl
theorem kp_U_19 (c : Cond) : zFn kCl (c :: zT) "TreeCounts$Group" 19 6 3 (.object "TreeCounts$Trees") := mk_fn c kc_U ki_U (zin 219 (by decide +kernel) (by decide +kernel)) (by decide) kt_U kn_U rfl (by decide +kernel) rfl
theorem kp_U_23 (c : Cond) : zFn kCl (c :: zT) "TreeCounts$Group" 23 6 4 (.object "TreeCounts$Grid") := mk_fn c kc_U ki_U (zin 220 (by decide +kernel) (by decide +kernel)) (by decide) kt_U kn_U rfl (by decide +kernel) rfl
theorem kp_U_33 (c : Cond) : zPd kCl (c :: zT) "TreeCounts$Group" 33 6 0 (.int) := mk_pd c kc_U ki_U (zin 215 (by decide +kernel) (by decide +kernel)) (by decide) kt_U kn_U rfl (by decide +kernel)
theorem kp_U_42 (c : Cond) : zPd kCl (c :: zT) "TreeCounts$Group" 42 6 5 (.long) := mk_pd c kc_U ki_U (zin 221 (by decide +kernel) (by decide +kernel)) (by decide) kt_U kn_U rfl (by decide +kernel)
theorem kp_U_97 (c : Cond) : zPd kCl (c :: zT) "TreeCounts$Group" 97 6 6 (.long) := mk_pd c kc_U ki_U (zin 222 (by decide +kernel) (by decide +kernel)) (by decide) kt_U kn_U rfl (by decide +kernel)
theorem kp_U_100 (c : Cond) : zPd kCl (c :: zT) "TreeCounts$Group" 100 6 7 (.long) := mk_pd c kc_U ki_U (zin 223 (by decide +kernel) (by decide +kernel)) (by decide) kt_U kn_U rfl (by decide +kernel)
theorem kp_U_106 (c : Cond) : zPd kCl (c :: zT) "TreeCounts$Group" 106 6 8 (.long) := mk_pd c kc_U ki_U (zin 224 (by decide +kernel) (by decide +kernel)) (by decide) kt_U kn_U rfl (by decide +kernel)
theorem kp_N_9 (c : Cond) : zFn kCl (c :: zT) "TreeCounts$Net" 9 1 2 (.array .int) := mk_fn c kc_N ki_N (zin 95 (by decide +kernel) (by decide +kernel)) (by decide) kt_N kn_N rfl (by decide +kernel) rfl
theorem kp_N_15 (c : Cond) : zFn kCl (c :: zT) "TreeCounts$Net" 15 1 3 (.array .int) := mk_fn c kc_N ki_N (zin 101 (by decide +kernel) (by decide +kernel)) (by decide) kt_N kn_N rfl (by decide +kernel) rfl
theorem kp_N_18 (c : Cond) : zFn kCl (c :: zT) "TreeCounts$Net" 18 1 4 (.array .int) := mk_fn c kc_N ki_N (zin 107 (by decide +kernel) (by decide +kernel)) (by decide) kt_N kn_N rfl (by decide +kernel) rfl
theorem kp_P_9 (c : Cond) : zFn kCl (c :: zT) "TreeCounts$Parts" 9 2 2 (.array .int) := mk_fn c kc_P ki_P (zin 134 (by decide +kernel) (by decide +kernel)) (by decide) kt_P kn_P rfl (by decide +kernel) rfl
theorem kp_P_15 (c : Cond) : zPd kCl (c :: zT) "TreeCounts$Parts" 15 2 0 (.int) := mk_pd c kc_P ki_P (zin 129 (by decide +kernel) (by decide +kernel)) (by decide) kt_P kn_P rfl (by decide +kernel)
theorem kp_P_19 (c : Cond) : zPd kCl (c :: zT) "TreeCounts$Parts" 19 2 1 (.int) := mk_pd c kc_P ki_P (zin 130 (by decide +kernel) (by decide +kernel)) (by decide) kt_P kn_P rfl (by decide +kernel)
theorem kp_L_9 (c : Cond) : zFn kCl (c :: zT) "TreeCounts$Piles" 9 7 0 (.array .long) := mk_fn c kc_L ki_L (zin 250 (by decide +kernel) (by decide +kernel)) (by decide) kt_L kn_L rfl (by decide +kernel) rfl
theorem kp_L_15 (c : Cond) : zFn kCl (c :: zT) "TreeCounts$Piles" 15 7 1 (.array .long) := mk_fn c kc_L ki_L (zin 252 (by decide +kernel) (by decide +kernel)) (by decide) kt_L kn_L rfl (by decide +kernel) rfl
theorem kp_L_18 (c : Cond) : zFn kCl (c :: zT) "TreeCounts$Piles" 18 7 2 (.array .long) := mk_fn c kc_L ki_L (zin 254 (by decide +kernel) (by decide +kernel)) (by decide) kt_L kn_L rfl (by decide +kernel) rfl
theorem kp_L_21 (c : Cond) : zFn kCl (c :: zT) "TreeCounts$Piles" 21 7 3 (.array .long) := mk_fn c kc_L ki_L (zin 255 (by decide +kernel) (by decide +kernel)) (by decide) kt_L kn_L rfl (by decide +kernel) rfl
theorem kp_L_24 (c : Cond) : zFn kCl (c :: zT) "TreeCounts$Piles" 24 7 4 (.object "TreeCounts$Net") := mk_fn c kc_L ki_L (zin 256 (by decide +kernel) (by decide +kernel)) (by decide) kt_L kn_L rfl (by decide +kernel) rfl
theorem kp_L_28 (c : Cond) : zFn kCl (c :: zT) "TreeCounts$Piles" 28 7 5 (.object "TreeCounts$Grid") := mk_fn c kc_L ki_L (zin 257 (by decide +kernel) (by decide +kernel)) (by decide) kt_L kn_L rfl (by decide +kernel) rfl
theorem kp_R_9 (c : Cond) : zFn kCl (c :: zT) "TreeCounts$Rings" 9 5 1 (.array .int) := mk_fn c kc_R ki_R (zin 193 (by decide +kernel) (by decide +kernel)) (by decide) kt_R kn_R rfl (by decide +kernel) rfl
theorem kp_R_15 (c : Cond) : zFn kCl (c :: zT) "TreeCounts$Rings" 15 5 2 (.array .int) := mk_fn c kc_R ki_R (zin 195 (by decide +kernel) (by decide +kernel)) (by decide) kt_R kn_R rfl (by decide +kernel) rfl
theorem kp_R_18 (c : Cond) : zFn kCl (c :: zT) "TreeCounts$Rings" 18 5 3 (.object "TreeCounts$Net") := mk_fn c kc_R ki_R (zin 196 (by decide +kernel) (by decide +kernel)) (by decide) kt_R kn_R rfl (by decide +kernel) rfl
theorem kp_R_22 (c : Cond) : zFn kCl (c :: zT) "TreeCounts$Rings" 22 5 4 (.object "TreeCounts$Parts") := mk_fn c kc_R ki_R (zin 197 (by decide +kernel) (by decide +kernel)) (by decide) kt_R kn_R rfl (by decide +kernel) rfl
theorem kp_R_47 (c : Cond) : zPd kCl (c :: zT) "TreeCounts$Rings" 47 5 0 (.int) := mk_pd c kc_R ki_R (zin 191 (by decide +kernel) (by decide +kernel)) (by decide) kt_R kn_R rfl (by decide +kernel)
theorem kp_S_11 (c : Cond) : zFn kCl (c :: zT) "TreeCounts$Sets" 11 8 2 (.array (.object "TreeCounts$Parts")) := mk_fn c kc_S ki_S (zin 282 (by decide +kernel) (by decide +kernel)) (by decide) kt_S kn_S rfl (by decide +kernel) rfl
theorem kp_S_17 (c : Cond) : zFn kCl (c :: zT) "TreeCounts$Sets" 17 8 3 (.array .long) := mk_fn c kc_S ki_S (zin 283 (by decide +kernel) (by decide +kernel)) (by decide) kt_S kn_S rfl (by decide +kernel) rfl
theorem kp_S_21 (c : Cond) : zFn kCl (c :: zT) "TreeCounts$Sets" 21 8 4 (.array .long) := mk_fn c kc_S ki_S (zin 284 (by decide +kernel) (by decide +kernel)) (by decide) kt_S kn_S rfl (by decide +kernel) rfl
theorem kp_S_24 (c : Cond) : zFn kCl (c :: zT) "TreeCounts$Sets" 24 8 0 (.object "TreeCounts$Net") := mk_fn c kc_S ki_S (zin 280 (by decide +kernel) (by decide +kernel)) (by decide) kt_S kn_S rfl (by decide +kernel) rfl
theorem kp_S_28 (c : Cond) : zFn kCl (c :: zT) "TreeCounts$Sets" 28 8 1 (.object "TreeCounts$Parts") := mk_fn c kc_S ki_S (zin 281 (by decide +kernel) (by decide +kernel)) (by decide) kt_S kn_S rfl (by decide +kernel) rfl
theorem kp_S_47 (c : Cond) : zPd kCl (c :: zT) "TreeCounts$Sets" 47 8 5 (.int) := mk_pd c kc_S ki_S (zin 285 (by decide +kernel) (by decide +kernel)) (by decide) kt_S kn_S rfl (by decide +kernel)
theorem kp_T_9 (c : Cond) : zFn kCl (c :: zT) "TreeCounts$Trees" 9 4 0 (.object "TreeCounts$Net") := mk_fn c kc_T ki_T (zin 169 (by decide +kernel) (by decide +kernel)) (by decide) kt_T kn_T rfl (by decide +kernel) rfl
theorem kp_T_15 (c : Cond) : zFn kCl (c :: zT) "TreeCounts$Trees" 15 4 1 (.object "TreeCounts$Parts") := mk_fn c kc_T ki_T (zin 170 (by decide +kernel) (by decide +kernel)) (by decide) kt_T kn_T rfl (by decide +kernel) rfl
theorem kp_T_19 (c : Cond) : zFn kCl (c :: zT) "TreeCounts$Trees" 19 4 2 (.object "TreeCounts$Grid") := mk_fn c kc_T ki_T (zin 171 (by decide +kernel) (by decide +kernel)) (by decide) kt_T kn_T rfl (by decide +kernel) rfl
theorem kp_T_102 (c : Cond) : zPd kCl (c :: zT) "TreeCounts$Trees" 102 4 3 (.long) := mk_pd c kc_T ki_T (zin 172 (by decide +kernel) (by decide +kernel)) (by decide) kt_T kn_T rfl (by decide +kernel)
theorem kp_T_113 (c : Cond) : zPd kCl (c :: zT) "TreeCounts$Trees" 113 4 4 (.long) := mk_pd c kc_T ki_T (zin 173 (by decide +kernel) (by decide +kernel)) (by decide) kt_T kn_T rfl (by decide +kernel)
theorem kp_M_7 (c : Cond) : zFn kCl (c :: zT) "TreeCountsModel" 7 9 3 (.array .int) := mk_fn c kc_M ki_M (zin 765 (by decide +kernel) (by decide +kernel)) (by decide) kt_M kn_M rfl (by decide +kernel) rfl
theorem kp_M_13 (c : Cond) : zFn kCl (c :: zT) "TreeCountsModel" 13 9 4 (.array .int) := mk_fn c kc_M ki_M (zin 766 (by decide +kernel) (by decide +kernel)) (by decide) kt_M kn_M rfl (by decide +kernel) rfl
theorem kp_M_16 (c : Cond) : zFn kCl (c :: zT) "TreeCountsModel" 16 9 5 (.array .int) := mk_fn c kc_M ki_M (zin 767 (by decide +kernel) (by decide +kernel)) (by decide) kt_M kn_M rfl (by decide +kernel) rfl
theorem kp_M_19 (c : Cond) : zFn kCl (c :: zT) "TreeCountsModel" 19 9 6 (.array .long) := mk_fn c kc_M ki_M (zin 768 (by decide +kernel) (by decide +kernel)) (by decide) kt_M kn_M rfl (by decide +kernel) rfl
theorem kp_M_23 (c : Cond) : zFn kCl (c :: zT) "TreeCountsModel" 23 9 7 (.array .long) := mk_fn c kc_M ki_M (zin 769 (by decide +kernel) (by decide +kernel)) (by decide) kt_M kn_M rfl (by decide +kernel) rfl
theorem kp_M_26 (c : Cond) : zFn kCl (c :: zT) "TreeCountsModel" 26 9 8 (.array .long) := mk_fn c kc_M ki_M (zin 770 (by decide +kernel) (by decide +kernel)) (by decide) kt_M kn_M rfl (by decide +kernel) rfl
theorem kp_M_29 (c : Cond) : zFn kCl (c :: zT) "TreeCountsModel" 29 9 9 (.array .long) := mk_fn c kc_M ki_M (zin 771 (by decide +kernel) (by decide +kernel)) (by decide) kt_M kn_M rfl (by decide +kernel) rfl
theorem kp_M_32 (c : Cond) : zFn kCl (c :: zT) "TreeCountsModel" 32 9 10 (.array .int) := mk_fn c kc_M ki_M (zin 772 (by decide +kernel) (by decide +kernel)) (by decide) kt_M kn_M rfl (by decide +kernel) rfl
theorem kp_M_35 (c : Cond) : zFn kCl (c :: zT) "TreeCountsModel" 35 9 11 (.array .boolean) := mk_fn c kc_M ki_M (zin 773 (by decide +kernel) (by decide +kernel)) (by decide) kt_M kn_M rfl (by decide +kernel) rfl
theorem kp_M_39 (c : Cond) : zFn kCl (c :: zT) "TreeCountsModel" 39 9 12 (.array .int) := mk_fn c kc_M ki_M (zin 774 (by decide +kernel) (by decide +kernel)) (by decide) kt_M kn_M rfl (by decide +kernel) rfl
theorem kp_M_42 (c : Cond) : zFn kCl (c :: zT) "TreeCountsModel" 42 9 13 (.array .int) := mk_fn c kc_M ki_M (zin 775 (by decide +kernel) (by decide +kernel)) (by decide) kt_M kn_M rfl (by decide +kernel) rfl
theorem kp_M_45 (c : Cond) : zFn kCl (c :: zT) "TreeCountsModel" 45 9 15 (.array .boolean) := mk_fn c kc_M ki_M (zin 777 (by decide +kernel) (by decide +kernel)) (by decide) kt_M kn_M rfl (by decide +kernel) rfl
theorem kp_M_48 (c : Cond) : zFn kCl (c :: zT) "TreeCountsModel" 48 9 16 (.array .int) := mk_fn c kc_M ki_M (zin 778 (by decide +kernel) (by decide +kernel)) (by decide) kt_M kn_M rfl (by decide +kernel) rfl
theorem kp_M_51 (c : Cond) : zFn kCl (c :: zT) "TreeCountsModel" 51 9 18 (.array .int) := mk_fn c kc_M ki_M (zin 780 (by decide +kernel) (by decide +kernel)) (by decide) kt_M kn_M rfl (by decide +kernel) rfl
theorem kp_M_54 (c : Cond) : zFn kCl (c :: zT) "TreeCountsModel" 54 9 19 (.array .boolean) := mk_fn c kc_M ki_M (zin 781 (by decide +kernel) (by decide +kernel)) (by decide) kt_M kn_M rfl (by decide +kernel) rfl
theorem kp_M_57 (c : Cond) : zFn kCl (c :: zT) "TreeCountsModel" 57 9 20 (.array .int) := mk_fn c kc_M ki_M (zin 782 (by decide +kernel) (by decide +kernel)) (by decide) kt_M kn_M rfl (by decide +kernel) rfl
theorem kp_M_60 (c : Cond) : zFn kCl (c :: zT) "TreeCountsModel" 60 9 21 (.array .long) := mk_fn c kc_M ki_M (zin 783 (by decide +kernel) (by decide +kernel)) (by decide) kt_M kn_M rfl (by decide +kernel) rfl
theorem kp_M_63 (c : Cond) : zFn kCl (c :: zT) "TreeCountsModel" 63 9 23 (.array .long) := mk_fn c kc_M ki_M (zin 785 (by decide +kernel) (by decide +kernel)) (by decide) kt_M kn_M rfl (by decide +kernel) rfl
theorem kp_M_66 (c : Cond) : zFn kCl (c :: zT) "TreeCountsModel" 66 9 24 (.array .long) := mk_fn c kc_M ki_M (zin 786 (by decide +kernel) (by decide +kernel)) (by decide) kt_M kn_M rfl (by decide +kernel) rfl
theorem kp_M_69 (c : Cond) : zPd kCl (c :: zT) "TreeCountsModel" 69 9 0 (.int) := mk_pd c kc_M ki_M (zin 762 (by decide +kernel) (by decide +kernel)) (by decide) kt_M kn_M rfl (by decide +kernel)
theorem kp_M_73 (c : Cond) : zPd kCl (c :: zT) "TreeCountsModel" 73 9 1 (.int) := mk_pd c kc_M ki_M (zin 763 (by decide +kernel) (by decide +kernel)) (by decide) kt_M kn_M rfl (by decide +kernel)
theorem kp_M_80 (c : Cond) : zPd kCl (c :: zT) "TreeCountsModel" 80 9 2 (.int) := mk_pd c kc_M ki_M (zin 764 (by decide +kernel) (by decide +kernel)) (by decide) kt_M kn_M rfl (by decide +kernel)
theorem kp_M_148 (c : Cond) : zPd kCl (c :: zT) "TreeCountsModel" 148 9 14 (.long) := mk_pd c kc_M ki_M (zin 776 (by decide +kernel) (by decide +kernel)) (by decide) kt_M kn_M rfl (by decide +kernel)
theorem kp_M_155 (c : Cond) : zPd kCl (c :: zT) "TreeCountsModel" 155 9 17 (.int) := mk_pd c kc_M ki_M (zin 779 (by decide +kernel) (by decide +kernel)) (by decide) kt_M kn_M rfl (by decide +kernel)
theorem kp_M_183 (c : Cond) : zPd kCl (c :: zT) "TreeCountsModel" 183 9 22 (.int) := mk_pd c kc_M ki_M (zin 784 (by decide +kernel) (by decide +kernel)) (by decide) kt_M kn_M rfl (by decide +kernel)
theorem kg_C_9 (c : Cond) : zCN (c :: zT) kNw "TreeCounts" 9 ky_N_init "TreeCounts" kb_N_init 1 none (kh_N_init :: zT) 0 := mk_cn c kz_N_init (by decide +kernel) (zin 51 (by decide +kernel) (by decide +kernel)) ⟨by decide, by decide, by decide +kernel⟩
theorem kg_C_18 (c : Cond) : zCN (c :: zT) kNw "TreeCounts" 18 ky_P_init "TreeCounts" kb_P_init 1 none (kh_P_init :: zT) 0 := mk_cn c kz_P_init (by decide +kernel) (zin 52 (by decide +kernel) (by decide +kernel)) ⟨by decide, by decide, by decide +kernel⟩
theorem kg_C_21 (c : Cond) : zCN (c :: zT) kNw "TreeCounts" 21 ky_G_init "TreeCounts" kb_G_init 1 none (kh_G_init :: zT) 0 := mk_cn c kz_G_init (by decide +kernel) (zin 53 (by decide +kernel) (by decide +kernel)) ⟨by decide, by decide, by decide +kernel⟩
theorem kg_C_24 (c : Cond) : zCI (c :: zT) "TreeCounts" 24 ky_T_init kb_T_init 4 (kh_T_init :: zT) 3 := mk_ci c kz_T_init (zin 54 (by decide +kernel) (by decide +kernel)) (zin 165 (by decide +kernel) (by decide +kernel)) (zin 166 (by decide +kernel) (by decide +kernel)) rfl ⟨by decide, by decide, by decide +kernel⟩
theorem kg_C_33 (c : Cond) : zCI (c :: zT) "TreeCounts" 33 ky_R_init kb_R_init 3 (kh_R_init :: zT) 2 := mk_ci c kz_R_init (zin 55 (by decide +kernel) (by decide +kernel)) (zin 187 (by decide +kernel) (by decide +kernel)) (zin 188 (by decide +kernel) (by decide +kernel)) rfl ⟨by decide, by decide, by decide +kernel⟩
theorem kg_C_42 (c : Cond) : zCI (c :: zT) "TreeCounts" 42 ky_U_init kb_U_init 4 (kh_U_init :: zT) 3 := mk_ci c kz_U_init (zin 56 (by decide +kernel) (by decide +kernel)) (zin 211 (by decide +kernel) (by decide +kernel)) (zin 212 (by decide +kernel) (by decide +kernel)) rfl ⟨by decide, by decide, by decide +kernel⟩
theorem kg_C_51 (c : Cond) : zCI (c :: zT) "TreeCounts" 51 ky_L_init kb_L_init 3 (kh_L_init :: zT) 2 := mk_ci c kz_L_init (zin 57 (by decide +kernel) (by decide +kernel)) (zin 246 (by decide +kernel) (by decide +kernel)) (zin 247 (by decide +kernel) (by decide +kernel)) rfl ⟨by decide, by decide, by decide +kernel⟩
theorem kg_C_60 (c : Cond) : zCI (c :: zT) "TreeCounts" 60 ky_S_init kb_S_init 4 (kh_S_init :: zT) 2 := mk_ci c kz_S_init (zin 58 (by decide +kernel) (by decide +kernel)) (zin 273 (by decide +kernel) (by decide +kernel)) (zin 274 (by decide +kernel) (by decide +kernel)) rfl ⟨by decide, by decide, by decide +kernel⟩
theorem kg_C_69 (c : Cond) : zCV (c :: zT) "TreeCounts" "TreeCounts$Net" 69 ky_N_hasNode kb_N_hasNode 2 (some FieldType.boolean) (kh_N_hasNode :: zT) 1 := mk_cv c (zin 326 (by decide +kernel) (by decide +kernel)) (zin 327 (by decide +kernel) (by decide +kernel)) (zin 328 (by decide +kernel) (by decide +kernel)) (zin 51 (by decide +kernel) (by decide +kernel)) kz_N_hasNode ⟨rfl, by decide, by decide, by decide +kernel⟩
theorem kg_C_73 (c : Cond) : zCS (c :: zT) "TreeCounts" 73 ky_C_isWeight kb_C_isWeight 1 (some FieldType.boolean) (kh_C_isWeight :: zT) 1 := mk_cs c (zin 330 (by decide +kernel) (by decide +kernel)) (zin 331 (by decide +kernel) (by decide +kernel)) (zin 50 (by decide +kernel) (by decide +kernel)) kz_C_isWeight ⟨rfl, by decide, by decide, by decide +kernel⟩
theorem kg_C_89 (c : Cond) : zCV (c :: zT) "TreeCounts" "TreeCounts$Net" 89 ky_N_hasArc kb_N_hasArc 2 (some FieldType.boolean) (kh_N_hasArc :: zT) 1 := mk_cv c (zin 337 (by decide +kernel) (by decide +kernel)) (zin 338 (by decide +kernel) (by decide +kernel)) (zin 339 (by decide +kernel) (by decide +kernel)) (zin 51 (by decide +kernel) (by decide +kernel)) kz_N_hasArc ⟨rfl, by decide, by decide, by decide +kernel⟩
theorem kg_C_92 (c : Cond) : zCV (c :: zT) "TreeCounts" "TreeCounts$Trees" 92 ky_T_sumOfAll kb_T_sumOfAll 1 (some FieldType.long) (kh_T_sumOfAll :: zT) 0 := mk_cv c (zin 349 (by decide +kernel) (by decide +kernel)) (zin 350 (by decide +kernel) (by decide +kernel)) (zin 351 (by decide +kernel) (by decide +kernel)) (zin 54 (by decide +kernel) (by decide +kernel)) kz_T_sumOfAll ⟨rfl, by decide, by decide, by decide +kernel⟩
theorem kg_C_96 (c : Cond) : zCV (c :: zT) "TreeCounts" "TreeCounts$Trees" 96 ky_T_sumWith kb_T_sumWith 2 (some FieldType.long) (kh_T_sumWith :: zT) 1 := mk_cv c (zin 404 (by decide +kernel) (by decide +kernel)) (zin 405 (by decide +kernel) (by decide +kernel)) (zin 406 (by decide +kernel) (by decide +kernel)) (zin 54 (by decide +kernel) (by decide +kernel)) kz_T_sumWith ⟨rfl, by decide, by decide, by decide +kernel⟩
theorem kg_C_102 (c : Cond) : zCV (c :: zT) "TreeCounts" "TreeCounts$Trees" 102 ky_T_sumTowards kb_T_sumTowards 2 (some FieldType.long) (kh_T_sumTowards :: zT) 1 := mk_cv c (zin 423 (by decide +kernel) (by decide +kernel)) (zin 424 (by decide +kernel) (by decide +kernel)) (zin 425 (by decide +kernel) (by decide +kernel)) (zin 54 (by decide +kernel) (by decide +kernel)) kz_T_sumTowards ⟨rfl, by decide, by decide, by decide +kernel⟩
theorem kg_C_105 (c : Cond) : zCV (c :: zT) "TreeCounts" "TreeCounts$Trees" 105 ky_T_sumOfMarked kb_T_sumOfMarked 2 (some FieldType.long) (kh_T_sumOfMarked :: zT) 0 := mk_cv c (zin 436 (by decide +kernel) (by decide +kernel)) (zin 437 (by decide +kernel) (by decide +kernel)) (zin 438 (by decide +kernel) (by decide +kernel)) (zin 54 (by decide +kernel) (by decide +kernel)) kz_T_sumOfMarked ⟨rfl, by decide, by decide, by decide +kernel⟩
theorem kg_C_108 (c : Cond) : zCV (c :: zT) "TreeCounts" "TreeCounts$Trees" 108 ky_T_sumOfPairs kb_T_sumOfPairs 3 (some FieldType.long) (kh_T_sumOfPairs :: zT) 2 := mk_cv c (zin 449 (by decide +kernel) (by decide +kernel)) (zin 450 (by decide +kernel) (by decide +kernel)) (zin 451 (by decide +kernel) (by decide +kernel)) (zin 54 (by decide +kernel) (by decide +kernel)) kz_T_sumOfPairs ⟨rfl, by decide, by decide, by decide +kernel⟩
theorem kg_C_112 (c : Cond) : zCV (c :: zT) "TreeCounts" "TreeCounts" 112 ky_C_apart kb_C_apart 3 (some FieldType.long) (kh_C_apart :: zT) 2 := mk_cv c (zin 457 (by decide +kernel) (by decide +kernel)) (zin 446 (by decide +kernel) (by decide +kernel)) (zin 447 (by decide +kernel) (by decide +kernel)) (zin 50 (by decide +kernel) (by decide +kernel)) kz_C_apart ⟨rfl, by decide, by decide, by decide +kernel⟩
theorem kg_C_115 (c : Cond) : zCS (c :: zT) "TreeCounts" 115 ky_C_commonDivisor kb_C_commonDivisor 11 (some FieldType.long) (kh_C_commonDivisor :: zT) 2 := mk_cs c (zin 458 (by decide +kernel) (by decide +kernel)) (zin 459 (by decide +kernel) (by decide +kernel)) (zin 50 (by decide +kernel) (by decide +kernel)) kz_C_commonDivisor ⟨rfl, by decide, by decide, by decide +kernel⟩
theorem kg_C_119 (c : Cond) : zCV (c :: zT) "TreeCounts" "TreeCounts$Trees" 119 ky_T_toursAlongAll kb_T_toursAlongAll 5 (some FieldType.long) (kh_T_toursAlongAll :: zT) 0 := mk_cv c (zin 465 (by decide +kernel) (by decide +kernel)) (zin 466 (by decide +kernel) (by decide +kernel)) (zin 467 (by decide +kernel) (by decide +kernel)) (zin 54 (by decide +kernel) (by decide +kernel)) kz_T_toursAlongAll ⟨rfl, by decide, by decide, by decide +kernel⟩
theorem kg_C_122 (c : Cond) : zCV (c :: zT) "TreeCounts" "TreeCounts$Trees" 122 ky_T_treeAt kb_T_treeAt 9 (some FieldType.int) (kh_T_treeAt :: zT) 1 := mk_cv c (zin 484 (by decide +kernel) (by decide +kernel)) (zin 485 (by decide +kernel) (by decide +kernel)) (zin 486 (by decide +kernel) (by decide +kernel)) (zin 54 (by decide +kernel) (by decide +kernel)) kz_T_treeAt ⟨rfl, by decide, by decide, by decide +kernel⟩
theorem kg_C_126 (c : Cond) : zCV (c :: zT) "TreeCounts" "TreeCounts$Trees" 126 ky_T_isTree kb_T_isTree 4 (some FieldType.boolean) (kh_T_isTree :: zT) 1 := mk_cv c (zin 508 (by decide +kernel) (by decide +kernel)) (zin 509 (by decide +kernel) (by decide +kernel)) (zin 510 (by decide +kernel) (by decide +kernel)) (zin 54 (by decide +kernel) (by decide +kernel)) kz_T_isTree ⟨rfl, by decide, by decide, by decide +kernel⟩
theorem kg_C_129 (c : Cond) : zCV (c :: zT) "TreeCounts" "TreeCounts$Trees" 129 ky_T_sumBefore kb_T_sumBefore 7 (some FieldType.long) (kh_T_sumBefore :: zT) 1 := mk_cv c (zin 512 (by decide +kernel) (by decide +kernel)) (zin 513 (by decide +kernel) (by decide +kernel)) (zin 514 (by decide +kernel) (by decide +kernel)) (zin 54 (by decide +kernel) (by decide +kernel)) kz_T_sumBefore ⟨rfl, by decide, by decide, by decide +kernel⟩
theorem kg_C_132 (c : Cond) : zCV (c :: zT) "TreeCounts" "TreeCounts$Rings" 132 ky_R_lay kb_R_lay 7 none (kh_R_lay :: zT) 1 := mk_cv c (zin 520 (by decide +kernel) (by decide +kernel)) (zin 521 (by decide +kernel) (by decide +kernel)) (zin 522 (by decide +kernel) (by decide +kernel)) (zin 55 (by decide +kernel) (by decide +kernel)) kz_R_lay ⟨rfl, by decide, by decide, by decide +kernel⟩
theorem kg_C_142 (c : Cond) : zCV (c :: zT) "TreeCounts" "TreeCounts$Group" 142 ky_U_find kb_U_find 2 none (kh_U_find :: zT) 0 := mk_cv c (zin 546 (by decide +kernel) (by decide +kernel)) (zin 547 (by decide +kernel) (by decide +kernel)) (zin 548 (by decide +kernel) (by decide +kernel)) (zin 56 (by decide +kernel) (by decide +kernel)) kz_U_find ⟨rfl, by decide, by decide, by decide +kernel⟩
theorem kg_C_148 (c : Cond) : zCV (c :: zT) "TreeCounts" "TreeCounts$Group" 148 ky_U_round kb_U_round 2 (some FieldType.long) (kh_U_round :: zT) 1 := mk_cv c (zin 593 (by decide +kernel) (by decide +kernel)) (zin 594 (by decide +kernel) (by decide +kernel)) (zin 595 (by decide +kernel) (by decide +kernel)) (zin 56 (by decide +kernel) (by decide +kernel)) kz_U_round ⟨rfl, by decide, by decide, by decide +kernel⟩
theorem kg_C_155 (c : Cond) : zCV (c :: zT) "TreeCounts" "TreeCounts$Rings" 155 ky_R_partsOfNet kb_R_partsOfNet 1 (some FieldType.int) (kh_R_partsOfNet :: zT) 0 := mk_cv c (zin 609 (by decide +kernel) (by decide +kernel)) (zin 610 (by decide +kernel) (by decide +kernel)) (zin 611 (by decide +kernel) (by decide +kernel)) (zin 55 (by decide +kernel) (by decide +kernel)) kz_R_partsOfNet ⟨rfl, by decide, by decide, by decide +kernel⟩
theorem kg_C_159 (c : Cond) : zCV (c :: zT) "TreeCounts" "TreeCounts$Piles" 159 ky_L_settleAll kb_L_settleAll 5 (some FieldType.long) (kh_L_settleAll :: zT) 1 := mk_cv c (zin 613 (by decide +kernel) (by decide +kernel)) (zin 614 (by decide +kernel) (by decide +kernel)) (zin 615 (by decide +kernel) (by decide +kernel)) (zin 57 (by decide +kernel) (by decide +kernel)) kz_L_settleAll ⟨rfl, by decide, by decide, by decide +kernel⟩
theorem kg_C_165 (c : Cond) : zCV (c :: zT) "TreeCounts" "TreeCounts$Piles" 165 ky_L_comeBack kb_L_comeBack 3 (some FieldType.boolean) (kh_L_comeBack :: zT) 1 := mk_cv c (zin 635 (by decide +kernel) (by decide +kernel)) (zin 636 (by decide +kernel) (by decide +kernel)) (zin 637 (by decide +kernel) (by decide +kernel)) (zin 57 (by decide +kernel) (by decide +kernel)) kz_L_comeBack ⟨rfl, by decide, by decide, by decide +kernel⟩
theorem kg_C_175 (c : Cond) : zCV (c :: zT) "TreeCounts" "TreeCounts$Sets" 175 ky_S_sumAt kb_S_sumAt 5 (some FieldType.long) (kh_S_sumAt :: zT) 2 := mk_cv c (zin 735 (by decide +kernel) (by decide +kernel)) (zin 736 (by decide +kernel) (by decide +kernel)) (zin 737 (by decide +kernel) (by decide +kernel)) (zin 58 (by decide +kernel) (by decide +kernel)) kz_S_sumAt ⟨rfl, by decide, by decide, by decide +kernel⟩
theorem kg_C_178 (c : Cond) : zCV (c :: zT) "TreeCounts" "TreeCounts$Rings" 178 ky_R_count kb_R_count 1 (some FieldType.int) (kh_R_count :: zT) 0 := mk_cv c (zin 643 (by decide +kernel) (by decide +kernel)) (zin 644 (by decide +kernel) (by decide +kernel)) (zin 645 (by decide +kernel) (by decide +kernel)) (zin 55 (by decide +kernel) (by decide +kernel)) kz_R_count ⟨rfl, by decide, by decide, by decide +kernel⟩
theorem kg_C_180 (c : Cond) : zCV (c :: zT) "TreeCounts" "TreeCounts$Piles" 180 ky_L_empty kb_L_empty 2 none (kh_L_empty :: zT) 0 := mk_cv c (zin 657 (by decide +kernel) (by decide +kernel)) (zin 658 (by decide +kernel) (by decide +kernel)) (zin 659 (by decide +kernel) (by decide +kernel)) (zin 57 (by decide +kernel) (by decide +kernel)) kz_L_empty ⟨rfl, by decide, by decide, by decide +kernel⟩
theorem kg_G_20 (c : Cond) : zCV (c :: zT) "TreeCounts$Grid" "TreeCounts$Grid" 20 ky_G_addOneWay kb_G_addOneWay 4 none (kh_G_addOneWay :: zT) 3 := mk_cv c (zin 369 (by decide +kernel) (by decide +kernel)) (zin 370 (by decide +kernel) (by decide +kernel)) (zin 371 (by decide +kernel) (by decide +kernel)) (zin 53 (by decide +kernel) (by decide +kernel)) kz_G_addOneWay ⟨rfl, by decide, by decide, by decide +kernel⟩
theorem kg_G_29 (c : Cond) : zCV (c :: zT) "TreeCounts$Grid" "TreeCounts$Grid" 29 ky_G_blank kb_G_blank 4 none (kh_G_blank :: zT) 1 := mk_cv c (zin 431 (by decide +kernel) (by decide +kernel)) (zin 362 (by decide +kernel) (by decide +kernel)) (zin 363 (by decide +kernel) (by decide +kernel)) (zin 53 (by decide +kernel) (by decide +kernel)) kz_G_blank ⟨rfl, by decide, by decide, by decide +kernel⟩
theorem kg_G_46 (c : Cond) : zCV (c :: zT) "TreeCounts$Grid" "TreeCounts$Grid" 46 ky_G_addBothWays kb_G_addBothWays 4 none (kh_G_addBothWays :: zT) 3 := mk_cv c (zin 444 (by decide +kernel) (by decide +kernel)) (zin 366 (by decide +kernel) (by decide +kernel)) (zin 367 (by decide +kernel) (by decide +kernel)) (zin 53 (by decide +kernel) (by decide +kernel)) kz_G_addBothWays ⟨rfl, by decide, by decide, by decide +kernel⟩
theorem kg_G_49 (c : Cond) : zCV (c :: zT) "TreeCounts$Grid" "TreeCounts$Grid" 49 ky_G_rowWithLowestBit kb_G_rowWithLowestBit 6 (some FieldType.int) (kh_G_rowWithLowestBit :: zT) 1 := mk_cv c (zin 381 (by decide +kernel) (by decide +kernel)) (zin 383 (by decide +kernel) (by decide +kernel)) (zin 1 (by decide +kernel) (by decide +kernel)) (zin 53 (by decide +kernel) (by decide +kernel)) kz_G_rowWithLowestBit ⟨rfl, by decide, by decide, by decide +kernel⟩
theorem kg_G_53 (c : Cond) : zCV (c :: zT) "TreeCounts$Grid" "TreeCounts$Grid" 53 ky_G_swapRows kb_G_swapRows 4 none (kh_G_swapRows :: zT) 2 := mk_cv c (zin 388 (by decide +kernel) (by decide +kernel)) (zin 389 (by decide +kernel) (by decide +kernel)) (zin 390 (by decide +kernel) (by decide +kernel)) (zin 53 (by decide +kernel) (by decide +kernel)) kz_G_swapRows ⟨rfl, by decide, by decide, by decide +kernel⟩
theorem kg_G_57 (c : Cond) : zCV (c :: zT) "TreeCounts$Grid" "TreeCounts$Grid" 57 ky_G_clearBelow kb_G_clearBelow 9 none (kh_G_clearBelow :: zT) 1 := mk_cv c (zin 392 (by decide +kernel) (by decide +kernel)) (zin 394 (by decide +kernel) (by decide +kernel)) (zin 2 (by decide +kernel) (by decide +kernel)) (zin 53 (by decide +kernel) (by decide +kernel)) kz_G_clearBelow ⟨rfl, by decide, by decide, by decide +kernel⟩
theorem kg_G_60 (c : Cond) : zCS (c :: zT) "TreeCounts$Grid" 60 ky_G_twos kb_G_twos 3 (some FieldType.int) (kh_G_twos :: zT) 1 := mk_cs c (zin 385 (by decide +kernel) (by decide +kernel)) (zin 386 (by decide +kernel) (by decide +kernel)) (zin 53 (by decide +kernel) (by decide +kernel)) kz_G_twos ⟨rfl, by decide, by decide, by decide +kernel⟩
theorem kg_G_64 (c : Cond) : zCS (c :: zT) "TreeCounts$Grid" 64 ky_G_inverseOfOdd kb_G_inverseOfOdd 5 (some FieldType.long) (kh_G_inverseOfOdd :: zT) 1 := mk_cs c (zin 396 (by decide +kernel) (by decide +kernel)) (zin 397 (by decide +kernel) (by decide +kernel)) (zin 53 (by decide +kernel) (by decide +kernel)) kz_G_inverseOfOdd ⟨rfl, by decide, by decide, by decide +kernel⟩
theorem kg_U_36 (c : Cond) : zCV (c :: zT) "TreeCounts$Group" "TreeCounts$Trees" 36 ky_T_sumOfAll kb_T_sumOfAll 1 (some FieldType.long) (kh_T_sumOfAll :: zT) 0 := mk_cv c (zin 550 (by decide +kernel) (by decide +kernel)) (zin 350 (by decide +kernel) (by decide +kernel)) (zin 351 (by decide +kernel) (by decide +kernel)) (zin 54 (by decide +kernel) (by decide +kernel)) kz_T_sumOfAll ⟨rfl, by decide, by decide, by decide +kernel⟩
theorem kg_U_48 (c : Cond) : zCV (c :: zT) "TreeCounts$Group" "TreeCounts$Grid" 48 ky_G_fillBothWays kb_G_fillBothWays 3 none (kh_G_fillBothWays :: zT) 1 := mk_cv c (zin 552 (by decide +kernel) (by decide +kernel)) (zin 441 (by decide +kernel) (by decide +kernel)) (zin 442 (by decide +kernel) (by decide +kernel)) (zin 53 (by decide +kernel) (by decide +kernel)) kz_G_fillBothWays ⟨rfl, by decide, by decide, by decide +kernel⟩
theorem kg_U_54 (c : Cond) : zCV (c :: zT) "TreeCounts$Group" "TreeCounts$Grid" 54 ky_G_strike kb_G_strike 3 none (kh_G_strike :: zT) 1 := mk_cv c (zin 553 (by decide +kernel) (by decide +kernel)) (zin 374 (by decide +kernel) (by decide +kernel)) (zin 375 (by decide +kernel) (by decide +kernel)) (zin 53 (by decide +kernel) (by decide +kernel)) kz_G_strike ⟨rfl, by decide, by decide, by decide +kernel⟩
theorem kg_U_58 (c : Cond) : zCV (c :: zT) "TreeCounts$Group" "TreeCounts$Group" 58 ky_U_reduceAll kb_U_reduceAll 3 none (kh_U_reduceAll :: zT) 0 := mk_cv c (zin 554 (by decide +kernel) (by decide +kernel)) (zin 556 (by decide +kernel) (by decide +kernel)) (zin 9 (by decide +kernel) (by decide +kernel)) (zin 56 (by decide +kernel) (by decide +kernel)) kz_U_reduceAll ⟨rfl, by decide, by decide, by decide +kernel⟩
theorem kg_U_64 (c : Cond) : zCV (c :: zT) "TreeCounts$Group" "TreeCounts$Group" 64 ky_U_clearLine kb_U_clearLine 4 none (kh_U_clearLine :: zT) 1 := mk_cv c (zin 562 (by decide +kernel) (by decide +kernel)) (zin 564 (by decide +kernel) (by decide +kernel)) (zin 11 (by decide +kernel) (by decide +kernel)) (zin 56 (by decide +kernel) (by decide +kernel)) kz_U_clearLine ⟨rfl, by decide, by decide, by decide +kernel⟩
theorem kg_U_71 (c : Cond) : zCN (c :: zT) kNw "TreeCounts$Group" 71 ky_C_commonDivisor "TreeCounts" kb_C_commonDivisor 11 (some FieldType.long) (kh_C_commonDivisor :: zT) 2 := mk_cn c kz_C_commonDivisor (by decide +kernel) (zin 50 (by decide +kernel) (by decide +kernel)) ⟨by decide, by decide, by decide +kernel⟩
theorem kg_U_75 (c : Cond) : zCV (c :: zT) "TreeCounts$Group" "TreeCounts$Group" 75 ky_U_makeChain kb_U_makeChain 5 none (kh_U_makeChain :: zT) 0 := mk_cv c (zin 589 (by decide +kernel) (by decide +kernel)) (zin 591 (by decide +kernel) (by decide +kernel)) (zin 17 (by decide +kernel) (by decide +kernel)) (zin 56 (by decide +kernel) (by decide +kernel)) kz_U_makeChain ⟨rfl, by decide, by decide, by decide +kernel⟩
theorem kg_U_78 (c : Cond) : zCV (c :: zT) "TreeCounts$Group" "TreeCounts$Group" 78 ky_U_reduced kb_U_reduced 5 (some FieldType.long) (kh_U_reduced :: zT) 1 := mk_cv c (zin 558 (by decide +kernel) (by decide +kernel)) (zin 560 (by decide +kernel) (by decide +kernel)) (zin 10 (by decide +kernel) (by decide +kernel)) (zin 56 (by decide +kernel) (by decide +kernel)) kz_U_reduced ⟨rfl, by decide, by decide, by decide +kernel⟩
theorem kg_U_82 (c : Cond) : zCV (c :: zT) "TreeCounts$Group" "TreeCounts$Group" 82 ky_U_mixRows kb_U_mixRows 16 none (kh_U_mixRows :: zT) 2 := mk_cv c (zin 566 (by decide +kernel) (by decide +kernel)) (zin 568 (by decide +kernel) (by decide +kernel)) (zin 12 (by decide +kernel) (by decide +kernel)) (zin 56 (by decide +kernel) (by decide +kernel)) kz_U_mixRows ⟨rfl, by decide, by decide, by decide +kernel⟩
theorem kg_U_86 (c : Cond) : zCV (c :: zT) "TreeCounts$Group" "TreeCounts$Group" 86 ky_U_isRowClear kb_U_isRowClear 3 (some FieldType.boolean) (kh_U_isRowClear :: zT) 1 := mk_cv c (zin 580 (by decide +kernel) (by decide +kernel)) (zin 582 (by decide +kernel) (by decide +kernel)) (zin 15 (by decide +kernel) (by decide +kernel)) (zin 56 (by decide +kernel) (by decide +kernel)) kz_U_isRowClear ⟨rfl, by decide, by decide, by decide +kernel⟩
theorem kg_U_90 (c : Cond) : zCV (c :: zT) "TreeCounts$Group" "TreeCounts$Group" 90 ky_U_transpose kb_U_transpose 6 none (kh_U_transpose :: zT) 1 := mk_cv c (zin 584 (by decide +kernel) (by decide +kernel)) (zin 586 (by decide +kernel) (by decide +kernel)) (zin 16 (by decide +kernel) (by decide +kernel)) (zin 56 (by decide +kernel) (by decide +kernel)) kz_U_transpose ⟨rfl, by decide, by decide, by decide +kernel⟩
theorem kg_U_93 (c : Cond) : zCV (c :: zT) "TreeCounts$Group" "TreeCounts$Group" 93 ky_U_measure kb_U_measure 20 none (kh_U_measure :: zT) 2 := mk_cv c (zin 570 (by decide +kernel) (by decide +kernel)) (zin 572 (by decide +kernel) (by decide +kernel)) (zin 13 (by decide +kernel) (by decide +kernel)) (zin 56 (by decide +kernel) (by decide +kernel)) kz_U_measure ⟨rfl, by decide, by decide, by decide +kernel⟩
theorem kg_U_103 (c : Cond) : zCV (c :: zT) "TreeCounts$Group" "TreeCounts$Group" 103 ky_U_times kb_U_times 8 (some FieldType.long) (kh_U_times :: zT) 2 := mk_cv c (zin 574 (by decide +kernel) (by decide +kernel)) (zin 576 (by decide +kernel) (by decide +kernel)) (zin 14 (by decide +kernel) (by decide +kernel)) (zin 56 (by decide +kernel) (by decide +kernel)) kz_U_times ⟨rfl, by decide, by decide, by decide +kernel⟩
theorem kg_N_28 (c : Cond) : zCV (c :: zT) "TreeCounts$Net" "TreeCounts$Parts" 28 ky_P_split kb_P_split 3 none (kh_P_split :: zT) 1 := mk_cv c (zin 528 (by decide +kernel) (by decide +kernel)) (zin 354 (by decide +kernel) (by decide +kernel)) (zin 355 (by decide +kernel) (by decide +kernel)) (zin 52 (by decide +kernel) (by decide +kernel)) kz_P_split ⟨rfl, by decide, by decide, by decide +kernel⟩
theorem kg_N_34 (c : Cond) : zCV (c :: zT) "TreeCounts$Net" "TreeCounts$Parts" 34 ky_P_unite kb_P_unite 6 (some FieldType.boolean) (kh_P_unite :: zT) 2 := mk_cv c (zin 529 (by decide +kernel) (by decide +kernel)) (zin 409 (by decide +kernel) (by decide +kernel)) (zin 410 (by decide +kernel) (by decide +kernel)) (zin 52 (by decide +kernel) (by decide +kernel)) kz_P_unite ⟨rfl, by decide, by decide, by decide +kernel⟩
theorem kg_L_32 (c : Cond) : zCV (c :: zT) "TreeCounts$Piles" "TreeCounts$Grid" 32 ky_G_fillBothWays kb_G_fillBothWays 3 none (kh_G_fillBothWays :: zT) 1 := mk_cv c (zin 617 (by decide +kernel) (by decide +kernel)) (zin 441 (by decide +kernel) (by decide +kernel)) (zin 442 (by decide +kernel) (by decide +kernel)) (zin 53 (by decide +kernel) (by decide +kernel)) kz_G_fillBothWays ⟨rfl, by decide, by decide, by decide +kernel⟩
theorem kg_L_38 (c : Cond) : zCV (c :: zT) "TreeCounts$Piles" "TreeCounts$Piles" 38 ky_L_run kb_L_run 11 none (kh_L_run :: zT) 3 := mk_cv c (zin 618 (by decide +kernel) (by decide +kernel)) (zin 620 (by decide +kernel) (by decide +kernel)) (zin 18 (by decide +kernel) (by decide +kernel)) (zin 57 (by decide +kernel) (by decide +kernel)) kz_L_run ⟨rfl, by decide, by decide, by decide +kernel⟩
theorem kg_L_52 (c : Cond) : zCV (c :: zT) "TreeCounts$Piles" "TreeCounts$Piles" 52 ky_L_fire kb_L_fire 6 none (kh_L_fire :: zT) 3 := mk_cv c (zin 623 (by decide +kernel) (by decide +kernel)) (zin 625 (by decide +kernel) (by decide +kernel)) (zin 19 (by decide +kernel) (by decide +kernel)) (zin 57 (by decide +kernel) (by decide +kernel)) kz_L_fire ⟨rfl, by decide, by decide, by decide +kernel⟩
theorem kg_R_26 (c : Cond) : zCV (c :: zT) "TreeCounts$Rings" "TreeCounts$Net" 26 ky_N_firstTrees kb_N_firstTrees 4 (some FieldType.int) (kh_N_firstTrees :: zT) 1 := mk_cv c (zin 524 (by decide +kernel) (by decide +kernel)) (zin 525 (by decide +kernel) (by decide +kernel)) (zin 526 (by decide +kernel) (by decide +kernel)) (zin 51 (by decide +kernel) (by decide +kernel)) kz_N_firstTrees ⟨rfl, by decide, by decide, by decide +kernel⟩
theorem kg_R_50 (c : Cond) : zCV (c :: zT) "TreeCounts$Rings" "TreeCounts$Rings" 50 ky_R_untaken kb_R_untaken 5 (some FieldType.int) (kh_R_untaken :: zT) 2 := mk_cv c (zin 530 (by decide +kernel) (by decide +kernel)) (zin 532 (by decide +kernel) (by decide +kernel)) (zin 6 (by decide +kernel) (by decide +kernel)) (zin 55 (by decide +kernel) (by decide +kernel)) kz_R_untaken ⟨rfl, by decide, by decide, by decide +kernel⟩
theorem kg_R_57 (c : Cond) : zCV (c :: zT) "TreeCounts$Rings" "TreeCounts$Rings" 57 ky_R_findWaysBack kb_R_findWaysBack 6 none (kh_R_findWaysBack :: zT) 2 := mk_cv c (zin 534 (by decide +kernel) (by decide +kernel)) (zin 536 (by decide +kernel) (by decide +kernel)) (zin 7 (by decide +kernel) (by decide +kernel)) (zin 55 (by decide +kernel) (by decide +kernel)) kz_R_findWaysBack ⟨rfl, by decide, by decide, by decide +kernel⟩
theorem kg_R_67 (c : Cond) : zCV (c :: zT) "TreeCounts$Rings" "TreeCounts$Rings" 67 ky_R_reach kb_R_reach 6 (some FieldType.int) (kh_R_reach :: zT) 2 := mk_cv c (zin 538 (by decide +kernel) (by decide +kernel)) (zin 540 (by decide +kernel) (by decide +kernel)) (zin 8 (by decide +kernel) (by decide +kernel)) (zin 55 (by decide +kernel) (by decide +kernel)) kz_R_reach ⟨rfl, by decide, by decide, by decide +kernel⟩
theorem kg_S_32 (c : Cond) : zCN (c :: zT) kNw "TreeCounts$Sets" 32 ky_P_init "TreeCounts" kb_P_init 1 none (kh_P_init :: zT) 0 := mk_cn c kz_P_init (by decide +kernel) (zin 52 (by decide +kernel) (by decide +kernel)) ⟨by decide, by decide, by decide +kernel⟩
theorem kg_S_33 (c : Cond) : zCS (c :: zT) "TreeCounts$Sets" 33 ky_S_fillPowers kb_S_fillPowers 6 none (kh_S_fillPowers :: zT) 2 := mk_cs c (zin 739 (by decide +kernel) (by decide +kernel)) (zin 740 (by decide +kernel) (by decide +kernel)) (zin 58 (by decide +kernel) (by decide +kernel)) kz_S_fillPowers ⟨rfl, by decide, by decide, by decide +kernel⟩
theorem kg_S_37 (c : Cond) : zCV (c :: zT) "TreeCounts$Sets" "TreeCounts$Net" 37 ky_N_firstTrees kb_N_firstTrees 4 (some FieldType.int) (kh_N_firstTrees :: zT) 1 := mk_cv c (zin 742 (by decide +kernel) (by decide +kernel)) (zin 525 (by decide +kernel) (by decide +kernel)) (zin 526 (by decide +kernel) (by decide +kernel)) (zin 51 (by decide +kernel) (by decide +kernel)) kz_N_firstTrees ⟨rfl, by decide, by decide, by decide +kernel⟩
theorem kg_S_53 (c : Cond) : zCV (c :: zT) "TreeCounts$Sets" "TreeCounts$Parts" 53 ky_P_split kb_P_split 3 none (kh_P_split :: zT) 1 := mk_cv c (zin 743 (by decide +kernel) (by decide +kernel)) (zin 354 (by decide +kernel) (by decide +kernel)) (zin 355 (by decide +kernel) (by decide +kernel)) (zin 52 (by decide +kernel) (by decide +kernel)) kz_P_split ⟨rfl, by decide, by decide, by decide +kernel⟩
theorem kg_S_57 (c : Cond) : zCS (c :: zT) "TreeCounts$Sets" 57 ky_S_sumFrom kb_S_sumFrom 11 (some FieldType.long) (kh_S_sumFrom :: zT) 3 := mk_cs c (zin 744 (by decide +kernel) (by decide +kernel)) (zin 745 (by decide +kernel) (by decide +kernel)) (zin 58 (by decide +kernel) (by decide +kernel)) kz_S_sumFrom ⟨rfl, by decide, by decide, by decide +kernel⟩
theorem kg_S_71 (c : Cond) : zCV (c :: zT) "TreeCounts$Sets" "TreeCounts$Parts" 71 ky_P_areOne kb_P_areOne 3 (some FieldType.boolean) (kh_P_areOne :: zT) 2 := mk_cv c (zin 747 (by decide +kernel) (by decide +kernel)) (zin 497 (by decide +kernel) (by decide +kernel)) (zin 498 (by decide +kernel) (by decide +kernel)) (zin 52 (by decide +kernel) (by decide +kernel)) kz_P_areOne ⟨rfl, by decide, by decide, by decide +kernel⟩
theorem kg_S_75 (c : Cond) : zCV (c :: zT) "TreeCounts$Sets" "TreeCounts$Parts" 75 ky_P_become kb_P_become 2 none (kh_P_become :: zT) 1 := mk_cv c (zin 748 (by decide +kernel) (by decide +kernel)) (zin 749 (by decide +kernel) (by decide +kernel)) (zin 750 (by decide +kernel) (by decide +kernel)) (zin 52 (by decide +kernel) (by decide +kernel)) kz_P_become ⟨rfl, by decide, by decide, by decide +kernel⟩
theorem kg_S_79 (c : Cond) : zCV (c :: zT) "TreeCounts$Sets" "TreeCounts$Parts" 79 ky_P_unite kb_P_unite 6 (some FieldType.boolean) (kh_P_unite :: zT) 2 := mk_cv c (zin 755 (by decide +kernel) (by decide +kernel)) (zin 409 (by decide +kernel) (by decide +kernel)) (zin 410 (by decide +kernel) (by decide +kernel)) (zin 52 (by decide +kernel) (by decide +kernel)) kz_P_unite ⟨rfl, by decide, by decide, by decide +kernel⟩
theorem kg_T_29 (c : Cond) : zCV (c :: zT) "TreeCounts$Trees" "TreeCounts$Parts" 29 ky_P_split kb_P_split 3 none (kh_P_split :: zT) 1 := mk_cv c (zin 353 (by decide +kernel) (by decide +kernel)) (zin 354 (by decide +kernel) (by decide +kernel)) (zin 355 (by decide +kernel) (by decide +kernel)) (zin 52 (by decide +kernel) (by decide +kernel)) kz_P_split ⟨rfl, by decide, by decide, by decide +kernel⟩
theorem kg_T_35 (c : Cond) : zCV (c :: zT) "TreeCounts$Trees" "TreeCounts$Trees" 35 ky_T_sumOverParts kb_T_sumOverParts 3 (some FieldType.long) (kh_T_sumOverParts :: zT) 1 := mk_cv c (zin 357 (by decide +kernel) (by decide +kernel)) (zin 359 (by decide +kernel) (by decide +kernel)) (zin 0 (by decide +kernel) (by decide +kernel)) (zin 54 (by decide +kernel) (by decide +kernel)) kz_T_sumOverParts ⟨rfl, by decide, by decide, by decide +kernel⟩
theorem kg_T_42 (c : Cond) : zCV (c :: zT) "TreeCounts$Trees" "TreeCounts$Grid" 42 ky_G_blank kb_G_blank 4 none (kh_G_blank :: zT) 1 := mk_cv c (zin 361 (by decide +kernel) (by decide +kernel)) (zin 362 (by decide +kernel) (by decide +kernel)) (zin 363 (by decide +kernel) (by decide +kernel)) (zin 53 (by decide +kernel) (by decide +kernel)) kz_G_blank ⟨rfl, by decide, by decide, by decide +kernel⟩
theorem kg_T_63 (c : Cond) : zCV (c :: zT) "TreeCounts$Trees" "TreeCounts$Grid" 63 ky_G_addBothWays kb_G_addBothWays 4 none (kh_G_addBothWays :: zT) 3 := mk_cv c (zin 365 (by decide +kernel) (by decide +kernel)) (zin 366 (by decide +kernel) (by decide +kernel)) (zin 367 (by decide +kernel) (by decide +kernel)) (zin 53 (by decide +kernel) (by decide +kernel)) kz_G_addBothWays ⟨rfl, by decide, by decide, by decide +kernel⟩
theorem kg_T_67 (c : Cond) : zCV (c :: zT) "TreeCounts$Trees" "TreeCounts$Grid" 67 ky_G_strike kb_G_strike 3 none (kh_G_strike :: zT) 1 := mk_cv c (zin 373 (by decide +kernel) (by decide +kernel)) (zin 374 (by decide +kernel) (by decide +kernel)) (zin 375 (by decide +kernel) (by decide +kernel)) (zin 53 (by decide +kernel) (by decide +kernel)) kz_G_strike ⟨rfl, by decide, by decide, by decide +kernel⟩
theorem kg_T_70 (c : Cond) : zCV (c :: zT) "TreeCounts$Trees" "TreeCounts$Grid" 70 ky_G_determinant kb_G_determinant 5 (some FieldType.long) (kh_G_determinant :: zT) 0 := mk_cv c (zin 377 (by decide +kernel) (by decide +kernel)) (zin 378 (by decide +kernel) (by decide +kernel)) (zin 379 (by decide +kernel) (by decide +kernel)) (zin 53 (by decide +kernel) (by decide +kernel)) kz_G_determinant ⟨rfl, by decide, by decide, by decide +kernel⟩
theorem kg_T_74 (c : Cond) : zCV (c :: zT) "TreeCounts$Trees" "TreeCounts$Parts" 74 ky_P_unite kb_P_unite 6 (some FieldType.boolean) (kh_P_unite :: zT) 2 := mk_cv c (zin 408 (by decide +kernel) (by decide +kernel)) (zin 409 (by decide +kernel) (by decide +kernel)) (zin 410 (by decide +kernel) (by decide +kernel)) (zin 52 (by decide +kernel) (by decide +kernel)) kz_P_unite ⟨rfl, by decide, by decide, by decide +kernel⟩
theorem kg_T_78 (c : Cond) : zCV (c :: zT) "TreeCounts$Trees" "TreeCounts$Grid" 78 ky_G_fillOneWay kb_G_fillOneWay 3 none (kh_G_fillOneWay :: zT) 1 := mk_cv c (zin 427 (by decide +kernel) (by decide +kernel)) (zin 428 (by decide +kernel) (by decide +kernel)) (zin 429 (by decide +kernel) (by decide +kernel)) (zin 53 (by decide +kernel) (by decide +kernel)) kz_G_fillOneWay ⟨rfl, by decide, by decide, by decide +kernel⟩
theorem kg_T_82 (c : Cond) : zCV (c :: zT) "TreeCounts$Trees" "TreeCounts$Grid" 82 ky_G_fillBothWays kb_G_fillBothWays 3 none (kh_G_fillBothWays :: zT) 1 := mk_cv c (zin 440 (by decide +kernel) (by decide +kernel)) (zin 441 (by decide +kernel) (by decide +kernel)) (zin 442 (by decide +kernel) (by decide +kernel)) (zin 53 (by decide +kernel) (by decide +kernel)) kz_G_fillBothWays ⟨rfl, by decide, by decide, by decide +kernel⟩
theorem kg_T_89 (c : Cond) : zCV (c :: zT) "TreeCounts$Trees" "TreeCounts$Net" 89 ky_N_weightOutOf kb_N_weightOutOf 4 (some FieldType.int) (kh_N_weightOutOf :: zT) 1 := mk_cv c (zin 469 (by decide +kernel) (by decide +kernel)) (zin 470 (by decide +kernel) (by decide +kernel)) (zin 471 (by decide +kernel) (by decide +kernel)) (zin 51 (by decide +kernel) (by decide +kernel)) kz_N_weightOutOf ⟨rfl, by decide, by decide, by decide +kernel⟩
theorem kg_T_93 (c : Cond) : zCV (c :: zT) "TreeCounts$Trees" "TreeCounts$Net" 93 ky_N_weightInto kb_N_weightInto 4 (some FieldType.int) (kh_N_weightInto :: zT) 1 := mk_cv c (zin 473 (by decide +kernel) (by decide +kernel)) (zin 474 (by decide +kernel) (by decide +kernel)) (zin 475 (by decide +kernel) (by decide +kernel)) (zin 51 (by decide +kernel) (by decide +kernel)) kz_N_weightInto ⟨rfl, by decide, by decide, by decide +kernel⟩
theorem kg_T_96 (c : Cond) : zCS (c :: zT) "TreeCounts$Trees" 96 ky_T_factorial kb_T_factorial 4 (some FieldType.long) (kh_T_factorial :: zT) 1 := mk_cs c (zin 477 (by decide +kernel) (by decide +kernel)) (zin 478 (by decide +kernel) (by decide +kernel)) (zin 54 (by decide +kernel) (by decide +kernel)) kz_T_factorial ⟨rfl, by decide, by decide, by decide +kernel⟩
theorem kg_T_99 (c : Cond) : zCV (c :: zT) "TreeCounts$Trees" "TreeCounts$Trees" 99 ky_T_beginChoice kb_T_beginChoice 1 none (kh_T_beginChoice :: zT) 0 := mk_cv c (zin 488 (by decide +kernel) (by decide +kernel)) (zin 490 (by decide +kernel) (by decide +kernel)) (zin 3 (by decide +kernel) (by decide +kernel)) (zin 54 (by decide +kernel) (by decide +kernel)) kz_T_beginChoice ⟨rfl, by decide, by decide, by decide +kernel⟩
theorem kg_T_106 (c : Cond) : zCV (c :: zT) "TreeCounts$Trees" "TreeCounts$Trees" 106 ky_T_sumIfTaken kb_T_sumIfTaken 2 (some FieldType.long) (kh_T_sumIfTaken :: zT) 1 := mk_cv c (zin 492 (by decide +kernel) (by decide +kernel)) (zin 494 (by decide +kernel) (by decide +kernel)) (zin 4 (by decide +kernel) (by decide +kernel)) (zin 54 (by decide +kernel) (by decide +kernel)) kz_T_sumIfTaken ⟨rfl, by decide, by decide, by decide +kernel⟩
theorem kg_T_109 (c : Cond) : zCV (c :: zT) "TreeCounts$Trees" "TreeCounts$Trees" 109 ky_T_take kb_T_take 4 none (kh_T_take :: zT) 2 := mk_cv c (zin 500 (by decide +kernel) (by decide +kernel)) (zin 502 (by decide +kernel) (by decide +kernel)) (zin 5 (by decide +kernel) (by decide +kernel)) (zin 54 (by decide +kernel) (by decide +kernel)) kz_T_take ⟨rfl, by decide, by decide, by decide +kernel⟩
theorem kg_T_116 (c : Cond) : zCV (c :: zT) "TreeCounts$Trees" "TreeCounts$Parts" 116 ky_P_areOne kb_P_areOne 3 (some FieldType.boolean) (kh_P_areOne :: zT) 2 := mk_cv c (zin 496 (by decide +kernel) (by decide +kernel)) (zin 497 (by decide +kernel) (by decide +kernel)) (zin 498 (by decide +kernel) (by decide +kernel)) (zin 52 (by decide +kernel) (by decide +kernel)) kz_P_areOne ⟨rfl, by decide, by decide, by decide +kernel⟩
theorem kg_W_7 (c : Cond) : zCV (c :: zT) "TreeCountsLaw" "TreeCounts" 7 ky_C_point kb_C_point 5 (some FieldType.long) (kh_C_point :: zT) 2 := mk_cv c (zin 665 (by decide +kernel) (by decide +kernel)) (zin 666 (by decide +kernel) (by decide +kernel)) (zin 667 (by decide +kernel) (by decide +kernel)) (zin 50 (by decide +kernel) (by decide +kernel)) kz_C_point ⟨rfl, by decide, by decide, by decide +kernel⟩
theorem kg_W_15 (c : Cond) : zCI (c :: zT) "TreeCountsLaw" 15 ky_C_init kb_C_init 3 (kh_C_init :: zT) 0 := mk_ci c kz_C_init (zin 50 (by decide +kernel) (by decide +kernel)) (zin 69 (by decide +kernel) (by decide +kernel)) (zin 70 (by decide +kernel) (by decide +kernel)) rfl ⟨by decide, by decide, by decide +kernel⟩
theorem kg_W_18 (c : Cond) : zCI (c :: zT) "TreeCountsLaw" 18 ky_M_init kb_M_init 1 (kh_M_init :: zT) 0 := mk_ci c kz_M_init (zin 59 (by decide +kernel) (by decide +kernel)) (zin 758 (by decide +kernel) (by decide +kernel)) (zin 759 (by decide +kernel) (by decide +kernel)) rfl ⟨by decide, by decide, by decide +kernel⟩
theorem kg_W_19 (c : Cond) : zCV (c :: zT) "TreeCountsLaw" "TreeCounts" 19 ky_C_node kb_C_node 1 (some FieldType.int) (kh_C_node :: zT) 0 := mk_cv c (zin 318 (by decide +kernel) (by decide +kernel)) (zin 319 (by decide +kernel) (by decide +kernel)) (zin 320 (by decide +kernel) (by decide +kernel)) (zin 50 (by decide +kernel) (by decide +kernel)) kz_C_node ⟨rfl, by decide, by decide, by decide +kernel⟩
theorem kg_W_23 (c : Cond) : zCV (c :: zT) "TreeCountsLaw" "TreeCountsModel" 23 ky_M_node kb_M_node 1 (some FieldType.int) (kh_M_node :: zT) 0 := mk_cv c (zin 843 (by decide +kernel) (by decide +kernel)) (zin 844 (by decide +kernel) (by decide +kernel)) (zin 845 (by decide +kernel) (by decide +kernel)) (zin 59 (by decide +kernel) (by decide +kernel)) kz_M_node ⟨rfl, by decide, by decide, by decide +kernel⟩
theorem kg_W_24 (c : Cond) : zCV (c :: zT) "TreeCountsLaw" "TreeCounts" 24 ky_C_arc kb_C_arc 4 (some FieldType.int) (kh_C_arc :: zT) 3 := mk_cv c (zin 322 (by decide +kernel) (by decide +kernel)) (zin 323 (by decide +kernel) (by decide +kernel)) (zin 324 (by decide +kernel) (by decide +kernel)) (zin 50 (by decide +kernel) (by decide +kernel)) kz_C_arc ⟨rfl, by decide, by decide, by decide +kernel⟩
theorem kg_W_28 (c : Cond) : zCV (c :: zT) "TreeCountsLaw" "TreeCountsModel" 28 ky_M_arc kb_M_arc 4 (some FieldType.int) (kh_M_arc :: zT) 3 := mk_cv c (zin 847 (by decide +kernel) (by decide +kernel)) (zin 848 (by decide +kernel) (by decide +kernel)) (zin 849 (by decide +kernel) (by decide +kernel)) (zin 59 (by decide +kernel) (by decide +kernel)) kz_M_arc ⟨rfl, by decide, by decide, by decide +kernel⟩
theorem kg_W_29 (c : Cond) : zCV (c :: zT) "TreeCountsLaw" "TreeCounts" 29 ky_C_weigh kb_C_weigh 4 (some FieldType.int) (kh_C_weigh :: zT) 2 := mk_cv c (zin 333 (by decide +kernel) (by decide +kernel)) (zin 334 (by decide +kernel) (by decide +kernel)) (zin 335 (by decide +kernel) (by decide +kernel)) (zin 50 (by decide +kernel) (by decide +kernel)) kz_C_weigh ⟨rfl, by decide, by decide, by decide +kernel⟩
theorem kg_W_33 (c : Cond) : zCV (c :: zT) "TreeCountsLaw" "TreeCountsModel" 33 ky_M_weigh kb_M_weigh 4 (some FieldType.int) (kh_M_weigh :: zT) 2 := mk_cv c (zin 855 (by decide +kernel) (by decide +kernel)) (zin 856 (by decide +kernel) (by decide +kernel)) (zin 857 (by decide +kernel) (by decide +kernel)) (zin 59 (by decide +kernel) (by decide +kernel)) kz_M_weigh ⟨rfl, by decide, by decide, by decide +kernel⟩
theorem kg_W_34 (c : Cond) : zCV (c :: zT) "TreeCountsLaw" "TreeCounts" 34 ky_C_drop kb_C_drop 1 (some FieldType.boolean) (kh_C_drop :: zT) 0 := mk_cv c (zin 341 (by decide +kernel) (by decide +kernel)) (zin 342 (by decide +kernel) (by decide +kernel)) (zin 343 (by decide +kernel) (by decide +kernel)) (zin 50 (by decide +kernel) (by decide +kernel)) kz_C_drop ⟨rfl, by decide, by decide, by decide +kernel⟩
theorem kg_W_38 (c : Cond) : zCV (c :: zT) "TreeCountsLaw" "TreeCountsModel" 38 ky_M_drop kb_M_drop 1 (some FieldType.boolean) (kh_M_drop :: zT) 0 := mk_cv c (zin 859 (by decide +kernel) (by decide +kernel)) (zin 860 (by decide +kernel) (by decide +kernel)) (zin 861 (by decide +kernel) (by decide +kernel)) (zin 59 (by decide +kernel) (by decide +kernel)) kz_M_drop ⟨rfl, by decide, by decide, by decide +kernel⟩
theorem kg_W_39 (c : Cond) : zCV (c :: zT) "TreeCountsLaw" "TreeCounts" 39 ky_C_trees kb_C_trees 1 (some FieldType.long) (kh_C_trees :: zT) 0 := mk_cv c (zin 345 (by decide +kernel) (by decide +kernel)) (zin 346 (by decide +kernel) (by decide +kernel)) (zin 347 (by decide +kernel) (by decide +kernel)) (zin 50 (by decide +kernel) (by decide +kernel)) kz_C_trees ⟨rfl, by decide, by decide, by decide +kernel⟩
theorem kg_W_43 (c : Cond) : zCV (c :: zT) "TreeCountsLaw" "TreeCountsModel" 43 ky_M_trees kb_M_trees 1 (some FieldType.long) (kh_M_trees :: zT) 0 := mk_cv c (zin 863 (by decide +kernel) (by decide +kernel)) (zin 864 (by decide +kernel) (by decide +kernel)) (zin 865 (by decide +kernel) (by decide +kernel)) (zin 59 (by decide +kernel) (by decide +kernel)) kz_M_trees ⟨rfl, by decide, by decide, by decide +kernel⟩
theorem kg_W_44 (c : Cond) : zCV (c :: zT) "TreeCountsLaw" "TreeCounts" 44 ky_C_through kb_C_through 2 (some FieldType.long) (kh_C_through :: zT) 1 := mk_cv c (zin 400 (by decide +kernel) (by decide +kernel)) (zin 401 (by decide +kernel) (by decide +kernel)) (zin 402 (by decide +kernel) (by decide +kernel)) (zin 50 (by decide +kernel) (by decide +kernel)) kz_C_through ⟨rfl, by decide, by decide, by decide +kernel⟩
theorem kg_W_48 (c : Cond) : zCV (c :: zT) "TreeCountsLaw" "TreeCountsModel" 48 ky_M_through kb_M_through 4 (some FieldType.long) (kh_M_through :: zT) 1 := mk_cv c (zin 914 (by decide +kernel) (by decide +kernel)) (zin 915 (by decide +kernel) (by decide +kernel)) (zin 916 (by decide +kernel) (by decide +kernel)) (zin 59 (by decide +kernel) (by decide +kernel)) kz_M_through ⟨rfl, by decide, by decide, by decide +kernel⟩
theorem kg_W_49 (c : Cond) : zCV (c :: zT) "TreeCountsLaw" "TreeCounts" 49 ky_C_rooted kb_C_rooted 2 (some FieldType.long) (kh_C_rooted :: zT) 1 := mk_cv c (zin 419 (by decide +kernel) (by decide +kernel)) (zin 420 (by decide +kernel) (by decide +kernel)) (zin 421 (by decide +kernel) (by decide +kernel)) (zin 50 (by decide +kernel) (by decide +kernel)) kz_C_rooted ⟨rfl, by decide, by decide, by decide +kernel⟩
theorem kg_W_52 (c : Cond) : zCV (c :: zT) "TreeCountsLaw" "TreeCountsModel" 52 ky_M_rooted kb_M_rooted 4 (some FieldType.long) (kh_M_rooted :: zT) 1 := mk_cv c (zin 920 (by decide +kernel) (by decide +kernel)) (zin 921 (by decide +kernel) (by decide +kernel)) (zin 922 (by decide +kernel) (by decide +kernel)) (zin 59 (by decide +kernel) (by decide +kernel)) kz_M_rooted ⟨rfl, by decide, by decide, by decide +kernel⟩
theorem kg_W_53 (c : Cond) : zCV (c :: zT) "TreeCountsLaw" "TreeCounts" 53 ky_C_forests kb_C_forests 1 (some FieldType.long) (kh_C_forests :: zT) 0 := mk_cv c (zin 432 (by decide +kernel) (by decide +kernel)) (zin 433 (by decide +kernel) (by decide +kernel)) (zin 434 (by decide +kernel) (by decide +kernel)) (zin 50 (by decide +kernel) (by decide +kernel)) kz_C_forests ⟨rfl, by decide, by decide, by decide +kernel⟩
theorem kg_W_56 (c : Cond) : zCV (c :: zT) "TreeCountsLaw" "TreeCountsModel" 56 ky_M_forests kb_M_forests 2 (some FieldType.long) (kh_M_forests :: zT) 0 := mk_cv c (zin 924 (by decide +kernel) (by decide +kernel)) (zin 925 (by decide +kernel) (by decide +kernel)) (zin 926 (by decide +kernel) (by decide +kernel)) (zin 59 (by decide +kernel) (by decide +kernel)) kz_M_forests ⟨rfl, by decide, by decide, by decide +kernel⟩
theorem kg_W_57 (c : Cond) : zCV (c :: zT) "TreeCountsLaw" "TreeCounts" 57 ky_C_apart kb_C_apart 3 (some FieldType.long) (kh_C_apart :: zT) 2 := mk_cv c (zin 445 (by decide +kernel) (by decide +kernel)) (zin 446 (by decide +kernel) (by decide +kernel)) (zin 447 (by decide +kernel) (by decide +kernel)) (zin 50 (by decide +kernel) (by decide +kernel)) kz_C_apart ⟨rfl, by decide, by decide, by decide +kernel⟩
theorem kg_W_61 (c : Cond) : zCV (c :: zT) "TreeCountsLaw" "TreeCountsModel" 61 ky_M_apart kb_M_apart 4 (some FieldType.long) (kh_M_apart :: zT) 2 := mk_cv c (zin 928 (by decide +kernel) (by decide +kernel)) (zin 929 (by decide +kernel) (by decide +kernel)) (zin 930 (by decide +kernel) (by decide +kernel)) (zin 59 (by decide +kernel) (by decide +kernel)) kz_M_apart ⟨rfl, by decide, by decide, by decide +kernel⟩
theorem kg_W_62 (c : Cond) : zCV (c :: zT) "TreeCountsLaw" "TreeCounts" 62 ky_C_resistance kb_C_resistance 10 (some FieldType.long) (kh_C_resistance :: zT) 3 := mk_cv c (zin 453 (by decide +kernel) (by decide +kernel)) (zin 454 (by decide +kernel) (by decide +kernel)) (zin 455 (by decide +kernel) (by decide +kernel)) (zin 50 (by decide +kernel) (by decide +kernel)) kz_C_resistance ⟨rfl, by decide, by decide, by decide +kernel⟩
theorem kg_W_66 (c : Cond) : zCV (c :: zT) "TreeCountsLaw" "TreeCountsModel" 66 ky_M_resistance kb_M_resistance 10 (some FieldType.long) (kh_M_resistance :: zT) 3 := mk_cv c (zin 932 (by decide +kernel) (by decide +kernel)) (zin 933 (by decide +kernel) (by decide +kernel)) (zin 934 (by decide +kernel) (by decide +kernel)) (zin 59 (by decide +kernel) (by decide +kernel)) kz_M_resistance ⟨rfl, by decide, by decide, by decide +kernel⟩
theorem kg_W_67 (c : Cond) : zCV (c :: zT) "TreeCountsLaw" "TreeCounts" 67 ky_C_tours kb_C_tours 1 (some FieldType.long) (kh_C_tours :: zT) 0 := mk_cv c (zin 461 (by decide +kernel) (by decide +kernel)) (zin 462 (by decide +kernel) (by decide +kernel)) (zin 463 (by decide +kernel) (by decide +kernel)) (zin 50 (by decide +kernel) (by decide +kernel)) kz_C_tours ⟨rfl, by decide, by decide, by decide +kernel⟩
theorem kg_W_70 (c : Cond) : zCV (c :: zT) "TreeCountsLaw" "TreeCountsModel" 70 ky_M_tours kb_M_tours 9 (some FieldType.long) (kh_M_tours :: zT) 0 := mk_cv c (zin 940 (by decide +kernel) (by decide +kernel)) (zin 941 (by decide +kernel) (by decide +kernel)) (zin 942 (by decide +kernel) (by decide +kernel)) (zin 59 (by decide +kernel) (by decide +kernel)) kz_M_tours ⟨rfl, by decide, by decide, by decide +kernel⟩
theorem kg_W_73 (c : Cond) : zCV (c :: zT) "TreeCountsLaw" "TreeCounts" 73 ky_C_drawn kb_C_drawn 3 (some FieldType.int) (kh_C_drawn :: zT) 1 := mk_cv c (zin 480 (by decide +kernel) (by decide +kernel)) (zin 481 (by decide +kernel) (by decide +kernel)) (zin 482 (by decide +kernel) (by decide +kernel)) (zin 50 (by decide +kernel) (by decide +kernel)) kz_C_drawn ⟨rfl, by decide, by decide, by decide +kernel⟩
theorem kg_W_77 (c : Cond) : zCV (c :: zT) "TreeCountsLaw" "TreeCountsModel" 77 ky_M_drawn kb_M_drawn 10 (some FieldType.int) (kh_M_drawn :: zT) 1 := mk_cv c (zin 948 (by decide +kernel) (by decide +kernel)) (zin 949 (by decide +kernel) (by decide +kernel)) (zin 950 (by decide +kernel) (by decide +kernel)) (zin 59 (by decide +kernel) (by decide +kernel)) kz_M_drawn ⟨rfl, by decide, by decide, by decide +kernel⟩
theorem kg_W_78 (c : Cond) : zCV (c :: zT) "TreeCountsLaw" "TreeCounts" 78 ky_C_place kb_C_place 2 (some FieldType.long) (kh_C_place :: zT) 1 := mk_cv c (zin 504 (by decide +kernel) (by decide +kernel)) (zin 505 (by decide +kernel) (by decide +kernel)) (zin 506 (by decide +kernel) (by decide +kernel)) (zin 50 (by decide +kernel) (by decide +kernel)) kz_C_place ⟨rfl, by decide, by decide, by decide +kernel⟩
theorem kg_W_81 (c : Cond) : zCV (c :: zT) "TreeCountsLaw" "TreeCountsModel" 81 ky_M_place kb_M_place 11 (some FieldType.long) (kh_M_place :: zT) 1 := mk_cv c (zin 956 (by decide +kernel) (by decide +kernel)) (zin 957 (by decide +kernel) (by decide +kernel)) (zin 958 (by decide +kernel) (by decide +kernel)) (zin 59 (by decide +kernel) (by decide +kernel)) kz_M_place ⟨rfl, by decide, by decide, by decide +kernel⟩
theorem kg_W_82 (c : Cond) : zCV (c :: zT) "TreeCountsLaw" "TreeCounts" 82 ky_C_ring kb_C_ring 3 (some FieldType.int) (kh_C_ring :: zT) 2 := mk_cv c (zin 516 (by decide +kernel) (by decide +kernel)) (zin 517 (by decide +kernel) (by decide +kernel)) (zin 518 (by decide +kernel) (by decide +kernel)) (zin 50 (by decide +kernel) (by decide +kernel)) kz_C_ring ⟨rfl, by decide, by decide, by decide +kernel⟩
theorem kg_W_85 (c : Cond) : zCV (c :: zT) "TreeCountsLaw" "TreeCountsModel" 85 ky_M_ring kb_M_ring 3 (some FieldType.int) (kh_M_ring :: zT) 2 := mk_cv c (zin 960 (by decide +kernel) (by decide +kernel)) (zin 961 (by decide +kernel) (by decide +kernel)) (zin 962 (by decide +kernel) (by decide +kernel)) (zin 59 (by decide +kernel) (by decide +kernel)) kz_M_ring ⟨rfl, by decide, by decide, by decide +kernel⟩
theorem kg_W_86 (c : Cond) : zCV (c :: zT) "TreeCountsLaw" "TreeCounts" 86 ky_C_group kb_C_group 2 (some FieldType.long) (kh_C_group :: zT) 1 := mk_cv c (zin 542 (by decide +kernel) (by decide +kernel)) (zin 543 (by decide +kernel) (by decide +kernel)) (zin 544 (by decide +kernel) (by decide +kernel)) (zin 50 (by decide +kernel) (by decide +kernel)) kz_C_group ⟨rfl, by decide, by decide, by decide +kernel⟩
theorem kg_W_89 (c : Cond) : zCV (c :: zT) "TreeCountsLaw" "TreeCountsModel" 89 ky_M_group kb_M_group 2 (some FieldType.long) (kh_M_group :: zT) 1 := mk_cv c (zin 972 (by decide +kernel) (by decide +kernel)) (zin 973 (by decide +kernel) (by decide +kernel)) (zin 974 (by decide +kernel) (by decide +kernel)) (zin 59 (by decide +kernel) (by decide +kernel)) kz_M_group ⟨rfl, by decide, by decide, by decide +kernel⟩
theorem kg_W_90 (c : Cond) : zCV (c :: zT) "TreeCountsLaw" "TreeCounts" 90 ky_C_chips kb_C_chips 5 (some FieldType.long) (kh_C_chips :: zT) 2 := mk_cv c (zin 597 (by decide +kernel) (by decide +kernel)) (zin 598 (by decide +kernel) (by decide +kernel)) (zin 599 (by decide +kernel) (by decide +kernel)) (zin 50 (by decide +kernel) (by decide +kernel)) kz_C_chips ⟨rfl, by decide, by decide, by decide +kernel⟩
theorem kg_W_93 (c : Cond) : zCV (c :: zT) "TreeCountsLaw" "TreeCountsModel" 93 ky_M_chips kb_M_chips 5 (some FieldType.long) (kh_M_chips :: zT) 2 := mk_cv c (zin 1011 (by decide +kernel) (by decide +kernel)) (zin 1012 (by decide +kernel) (by decide +kernel)) (zin 1013 (by decide +kernel) (by decide +kernel)) (zin 59 (by decide +kernel) (by decide +kernel)) kz_M_chips ⟨rfl, by decide, by decide, by decide +kernel⟩
theorem kg_W_94 (c : Cond) : zCV (c :: zT) "TreeCountsLaw" "TreeCounts" 94 ky_C_level kb_C_level 2 (some FieldType.long) (kh_C_level :: zT) 1 := mk_cv c (zin 601 (by decide +kernel) (by decide +kernel)) (zin 602 (by decide +kernel) (by decide +kernel)) (zin 603 (by decide +kernel) (by decide +kernel)) (zin 50 (by decide +kernel) (by decide +kernel)) kz_C_level ⟨rfl, by decide, by decide, by decide +kernel⟩
theorem kg_W_97 (c : Cond) : zCV (c :: zT) "TreeCountsLaw" "TreeCountsModel" 97 ky_M_level kb_M_level 2 (some FieldType.long) (kh_M_level :: zT) 1 := mk_cv c (zin 1015 (by decide +kernel) (by decide +kernel)) (zin 1016 (by decide +kernel) (by decide +kernel)) (zin 1017 (by decide +kernel) (by decide +kernel)) (zin 59 (by decide +kernel) (by decide +kernel)) kz_M_level ⟨rfl, by decide, by decide, by decide +kernel⟩
theorem kg_W_98 (c : Cond) : zCV (c :: zT) "TreeCountsLaw" "TreeCounts" 98 ky_C_settle kb_C_settle 2 (some FieldType.long) (kh_C_settle :: zT) 1 := mk_cv c (zin 605 (by decide +kernel) (by decide +kernel)) (zin 606 (by decide +kernel) (by decide +kernel)) (zin 607 (by decide +kernel) (by decide +kernel)) (zin 50 (by decide +kernel) (by decide +kernel)) kz_C_settle ⟨rfl, by decide, by decide, by decide +kernel⟩
theorem kg_W_101 (c : Cond) : zCV (c :: zT) "TreeCountsLaw" "TreeCountsModel" 101 ky_M_settle kb_M_settle 5 (some FieldType.long) (kh_M_settle :: zT) 1 := mk_cv c (zin 1019 (by decide +kernel) (by decide +kernel)) (zin 1020 (by decide +kernel) (by decide +kernel)) (zin 1021 (by decide +kernel) (by decide +kernel)) (zin 59 (by decide +kernel) (by decide +kernel)) kz_M_settle ⟨rfl, by decide, by decide, by decide +kernel⟩
theorem kg_W_102 (c : Cond) : zCV (c :: zT) "TreeCountsLaw" "TreeCounts" 102 ky_C_fired kb_C_fired 2 (some FieldType.long) (kh_C_fired :: zT) 1 := mk_cv c (zin 627 (by decide +kernel) (by decide +kernel)) (zin 628 (by decide +kernel) (by decide +kernel)) (zin 629 (by decide +kernel) (by decide +kernel)) (zin 50 (by decide +kernel) (by decide +kernel)) kz_C_fired ⟨rfl, by decide, by decide, by decide +kernel⟩
theorem kg_W_105 (c : Cond) : zCV (c :: zT) "TreeCountsLaw" "TreeCountsModel" 105 ky_M_fired kb_M_fired 2 (some FieldType.long) (kh_M_fired :: zT) 1 := mk_cv c (zin 1039 (by decide +kernel) (by decide +kernel)) (zin 1040 (by decide +kernel) (by decide +kernel)) (zin 1041 (by decide +kernel) (by decide +kernel)) (zin 59 (by decide +kernel) (by decide +kernel)) kz_M_fired ⟨rfl, by decide, by decide, by decide +kernel⟩
theorem kg_W_106 (c : Cond) : zCV (c :: zT) "TreeCountsLaw" "TreeCounts" 106 ky_C_recurrent kb_C_recurrent 2 (some FieldType.int) (kh_C_recurrent :: zT) 1 := mk_cv c (zin 631 (by decide +kernel) (by decide +kernel)) (zin 632 (by decide +kernel) (by decide +kernel)) (zin 633 (by decide +kernel) (by decide +kernel)) (zin 50 (by decide +kernel) (by decide +kernel)) kz_C_recurrent ⟨rfl, by decide, by decide, by decide +kernel⟩
theorem kg_W_110 (c : Cond) : zCV (c :: zT) "TreeCountsLaw" "TreeCountsModel" 110 ky_M_recurrent kb_M_recurrent 6 (some FieldType.int) (kh_M_recurrent :: zT) 1 := mk_cv c (zin 1043 (by decide +kernel) (by decide +kernel)) (zin 1044 (by decide +kernel) (by decide +kernel)) (zin 1045 (by decide +kernel) (by decide +kernel)) (zin 59 (by decide +kernel) (by decide +kernel)) kz_M_recurrent ⟨rfl, by decide, by decide, by decide +kernel⟩
theorem kg_W_116 (c : Cond) : zCV (c :: zT) "TreeCountsLaw" "TreeCountsModel" 116 ky_M_point kb_M_point 11 (some FieldType.long) (kh_M_point :: zT) 2 := mk_cv c (zin 1047 (by decide +kernel) (by decide +kernel)) (zin 1048 (by decide +kernel) (by decide +kernel)) (zin 1049 (by decide +kernel) (by decide +kernel)) (zin 59 (by decide +kernel) (by decide +kernel)) kz_M_point ⟨rfl, by decide, by decide, by decide +kernel⟩
theorem kg_W_117 (c : Cond) : zCV (c :: zT) "TreeCountsLaw" "TreeCountsModel" 117 ky_M_thrown kb_M_thrown 1 (some FieldType.int) (kh_M_thrown :: zT) 0 := mk_cv c (zin 839 (by decide +kernel) (by decide +kernel)) (zin 840 (by decide +kernel) (by decide +kernel)) (zin 841 (by decide +kernel) (by decide +kernel)) (zin 59 (by decide +kernel) (by decide +kernel)) kz_M_thrown ⟨rfl, by decide, by decide, by decide +kernel⟩
theorem kg_W_120 (c : Cond) : zCV (c :: zT) "TreeCountsLaw" "TreeCounts" 120 ky_C_told kb_C_told 2 (some FieldType.int) (kh_C_told :: zT) 1 := mk_cv c (zin 639 (by decide +kernel) (by decide +kernel)) (zin 640 (by decide +kernel) (by decide +kernel)) (zin 641 (by decide +kernel) (by decide +kernel)) (zin 50 (by decide +kernel) (by decide +kernel)) kz_C_told ⟨rfl, by decide, by decide, by decide +kernel⟩
theorem kg_W_123 (c : Cond) : zCV (c :: zT) "TreeCountsLaw" "TreeCountsModel" 123 ky_M_told kb_M_told 2 (some FieldType.int) (kh_M_told :: zT) 1 := mk_cv c (zin 1058 (by decide +kernel) (by decide +kernel)) (zin 1059 (by decide +kernel) (by decide +kernel)) (zin 1060 (by decide +kernel) (by decide +kernel)) (zin 59 (by decide +kernel) (by decide +kernel)) kz_M_told ⟨rfl, by decide, by decide, by decide +kernel⟩
theorem kg_W_124 (c : Cond) : zCV (c :: zT) "TreeCountsLaw" "TreeCounts" 124 ky_C_clear kb_C_clear 1 none (kh_C_clear :: zT) 0 := mk_cv c (zin 653 (by decide +kernel) (by decide +kernel)) (zin 654 (by decide +kernel) (by decide +kernel)) (zin 655 (by decide +kernel) (by decide +kernel)) (zin 50 (by decide +kernel) (by decide +kernel)) kz_C_clear ⟨rfl, by decide, by decide, by decide +kernel⟩
theorem kg_W_127 (c : Cond) : zCV (c :: zT) "TreeCountsLaw" "TreeCountsModel" 127 ky_M_clear kb_M_clear 1 none (kh_M_clear :: zT) 0 := mk_cv c (zin 1062 (by decide +kernel) (by decide +kernel)) (zin 1063 (by decide +kernel) (by decide +kernel)) (zin 1064 (by decide +kernel) (by decide +kernel)) (zin 59 (by decide +kernel) (by decide +kernel)) kz_M_clear ⟨rfl, by decide, by decide, by decide +kernel⟩
theorem kg_M_76 (c : Cond) : zCV (c :: zT) "TreeCountsModel" "TreeCountsModel" 76 ky_M_isNode kb_M_isNode 2 (some FieldType.boolean) (kh_M_isNode :: zT) 1 := mk_cv c (zin 851 (by decide +kernel) (by decide +kernel)) (zin 853 (by decide +kernel) (by decide +kernel)) (zin 21 (by decide +kernel) (by decide +kernel)) (zin 59 (by decide +kernel) (by decide +kernel)) kz_M_isNode ⟨rfl, by decide, by decide, by decide +kernel⟩
theorem kg_M_85 (c : Cond) : zCS (c :: zT) "TreeCountsModel" 85 ky_M_power kb_M_power 12 (some FieldType.long) (kh_M_power :: zT) 3 := mk_cs c (zin 909 (by decide +kernel) (by decide +kernel)) (zin 910 (by decide +kernel) (by decide +kernel)) (zin 59 (by decide +kernel) (by decide +kernel)) kz_M_power ⟨rfl, by decide, by decide, by decide +kernel⟩
theorem kg_M_91 (c : Cond) : zCV (c :: zT) "TreeCountsModel" "TreeCountsModel" 91 ky_M_modulo kb_M_modulo 14 (some FieldType.long) (kh_M_modulo :: zT) 2 := mk_cv c (zin 904 (by decide +kernel) (by decide +kernel)) (zin 906 (by decide +kernel) (by decide +kernel)) (zin 31 (by decide +kernel) (by decide +kernel)) (zin 59 (by decide +kernel) (by decide +kernel)) kz_M_modulo ⟨rfl, by decide, by decide, by decide +kernel⟩
theorem kg_M_99 (c : Cond) : zCV (c :: zT) "TreeCountsModel" "TreeCountsModel" 99 ky_M_isFirst kb_M_isFirst 4 (some FieldType.boolean) (kh_M_isFirst :: zT) 1 := mk_cv c (zin 883 (by decide +kernel) (by decide +kernel)) (zin 885 (by decide +kernel) (by decide +kernel)) (zin 26 (by decide +kernel) (by decide +kernel)) (zin 59 (by decide +kernel) (by decide +kernel)) kz_M_isFirst ⟨rfl, by decide, by decide, by decide +kernel⟩
theorem kg_M_102 (c : Cond) : zCV (c :: zT) "TreeCountsModel" "TreeCountsModel" 102 ky_M_clearRows kb_M_clearRows 2 none (kh_M_clearRows :: zT) 0 := mk_cv c (zin 891 (by decide +kernel) (by decide +kernel)) (zin 893 (by decide +kernel) (by decide +kernel)) (zin 28 (by decide +kernel) (by decide +kernel)) (zin 59 (by decide +kernel) (by decide +kernel)) kz_M_clearRows ⟨rfl, by decide, by decide, by decide +kernel⟩
theorem kg_M_105 (c : Cond) : zCV (c :: zT) "TreeCountsModel" "TreeCountsModel" 105 ky_M_addTo kb_M_addTo 5 none (kh_M_addTo :: zT) 3 := mk_cv c (zin 895 (by decide +kernel) (by decide +kernel)) (zin 897 (by decide +kernel) (by decide +kernel)) (zin 29 (by decide +kernel) (by decide +kernel)) (zin 59 (by decide +kernel) (by decide +kernel)) kz_M_addTo ⟨rfl, by decide, by decide, by decide +kernel⟩
theorem kg_M_109 (c : Cond) : zCV (c :: zT) "TreeCountsModel" "TreeCountsModel" 109 ky_M_number kb_M_number 7 (some FieldType.int) (kh_M_number :: zT) 2 := mk_cv c (zin 879 (by decide +kernel) (by decide +kernel)) (zin 881 (by decide +kernel) (by decide +kernel)) (zin 25 (by decide +kernel) (by decide +kernel)) (zin 59 (by decide +kernel) (by decide +kernel)) kz_M_number ⟨rfl, by decide, by decide, by decide +kernel⟩
theorem kg_M_113 (c : Cond) : zCV (c :: zT) "TreeCountsModel" "TreeCountsModel" 113 ky_M_rows kb_M_rows 6 none (kh_M_rows :: zT) 1 := mk_cv c (zin 887 (by decide +kernel) (by decide +kernel)) (zin 889 (by decide +kernel) (by decide +kernel)) (zin 27 (by decide +kernel) (by decide +kernel)) (zin 59 (by decide +kernel) (by decide +kernel)) kz_M_rows ⟨rfl, by decide, by decide, by decide +kernel⟩
theorem kg_M_117 (c : Cond) : zCV (c :: zT) "TreeCountsModel" "TreeCountsModel" 117 ky_M_determinant kb_M_determinant 8 (some FieldType.long) (kh_M_determinant :: zT) 1 := mk_cv c (zin 899 (by decide +kernel) (by decide +kernel)) (zin 901 (by decide +kernel) (by decide +kernel)) (zin 30 (by decide +kernel) (by decide +kernel)) (zin 59 (by decide +kernel) (by decide +kernel)) kz_M_determinant ⟨rfl, by decide, by decide, by decide +kernel⟩
theorem kg_M_121 (c : Cond) : zCV (c :: zT) "TreeCountsModel" "TreeCountsModel" 121 ky_M_apartAll kb_M_apartAll 2 none (kh_M_apartAll :: zT) 0 := mk_cv c (zin 867 (by decide +kernel) (by decide +kernel)) (zin 869 (by decide +kernel) (by decide +kernel)) (zin 22 (by decide +kernel) (by decide +kernel)) (zin 59 (by decide +kernel) (by decide +kernel)) kz_M_apartAll ⟨rfl, by decide, by decide, by decide +kernel⟩
theorem kg_M_124 (c : Cond) : zCV (c :: zT) "TreeCountsModel" "TreeCountsModel" 124 ky_M_noneOut kb_M_noneOut 2 none (kh_M_noneOut :: zT) 0 := mk_cv c (zin 871 (by decide +kernel) (by decide +kernel)) (zin 873 (by decide +kernel) (by decide +kernel)) (zin 23 (by decide +kernel) (by decide +kernel)) (zin 59 (by decide +kernel) (by decide +kernel)) kz_M_noneOut ⟨rfl, by decide, by decide, by decide +kernel⟩
theorem kg_M_127 (c : Cond) : zCV (c :: zT) "TreeCountsModel" "TreeCountsModel" 127 ky_M_count kb_M_count 2 (some FieldType.long) (kh_M_count :: zT) 0 := mk_cv c (zin 875 (by decide +kernel) (by decide +kernel)) (zin 877 (by decide +kernel) (by decide +kernel)) (zin 24 (by decide +kernel) (by decide +kernel)) (zin 59 (by decide +kernel) (by decide +kernel)) kz_M_count ⟨rfl, by decide, by decide, by decide +kernel⟩
theorem kg_M_133 (c : Cond) : zCV (c :: zT) "TreeCountsModel" "TreeCountsModel" 133 ky_M_trees kb_M_trees 1 (some FieldType.long) (kh_M_trees :: zT) 0 := mk_cv c (zin 919 (by decide +kernel) (by decide +kernel)) (zin 864 (by decide +kernel) (by decide +kernel)) (zin 865 (by decide +kernel) (by decide +kernel)) (zin 59 (by decide +kernel) (by decide +kernel)) kz_M_trees ⟨rfl, by decide, by decide, by decide +kernel⟩
theorem kg_M_136 (c : Cond) : zCV (c :: zT) "TreeCountsModel" "TreeCountsModel" 136 ky_M_apart kb_M_apart 4 (some FieldType.long) (kh_M_apart :: zT) 2 := mk_cv c (zin 936 (by decide +kernel) (by decide +kernel)) (zin 929 (by decide +kernel) (by decide +kernel)) (zin 930 (by decide +kernel) (by decide +kernel)) (zin 59 (by decide +kernel) (by decide +kernel)) kz_M_apart ⟨rfl, by decide, by decide, by decide +kernel⟩
theorem kg_M_140 (c : Cond) : zCS (c :: zT) "TreeCountsModel" 140 ky_M_gcd kb_M_gcd 10 (some FieldType.long) (kh_M_gcd :: zT) 2 := mk_cs c (zin 937 (by decide +kernel) (by decide +kernel)) (zin 938 (by decide +kernel) (by decide +kernel)) (zin 59 (by decide +kernel) (by decide +kernel)) kz_M_gcd ⟨rfl, by decide, by decide, by decide +kernel⟩
theorem kg_M_144 (c : Cond) : zCV (c :: zT) "TreeCountsModel" "TreeCountsModel" 144 ky_M_join kb_M_join 6 (some FieldType.boolean) (kh_M_join :: zT) 2 := mk_cv c (zin 944 (by decide +kernel) (by decide +kernel)) (zin 946 (by decide +kernel) (by decide +kernel)) (zin 32 (by decide +kernel) (by decide +kernel)) (zin 59 (by decide +kernel) (by decide +kernel)) kz_M_join ⟨rfl, by decide, by decide, by decide +kernel⟩
theorem kg_M_152 (c : Cond) : zCV (c :: zT) "TreeCountsModel" "TreeCountsModel" 152 ky_M_with kb_M_with 6 (some FieldType.long) (kh_M_with :: zT) 1 := mk_cv c (zin 952 (by decide +kernel) (by decide +kernel)) (zin 954 (by decide +kernel) (by decide +kernel)) (zin 33 (by decide +kernel) (by decide +kernel)) (zin 59 (by decide +kernel) (by decide +kernel)) kz_M_with ⟨rfl, by decide, by decide, by decide +kernel⟩
theorem kg_M_158 (c : Cond) : zCV (c :: zT) "TreeCountsModel" "TreeCountsModel" 158 ky_M_takeTrees kb_M_takeTrees 3 (some FieldType.int) (kh_M_takeTrees :: zT) 0 := mk_cv c (zin 964 (by decide +kernel) (by decide +kernel)) (zin 966 (by decide +kernel) (by decide +kernel)) (zin 34 (by decide +kernel) (by decide +kernel)) (zin 59 (by decide +kernel) (by decide +kernel)) kz_M_takeTrees ⟨rfl, by decide, by decide, by decide +kernel⟩
theorem kg_M_162 (c : Cond) : zCV (c :: zT) "TreeCountsModel" "TreeCountsModel" 162 ky_M_ringOf kb_M_ringOf 8 none (kh_M_ringOf :: zT) 1 := mk_cv c (zin 968 (by decide +kernel) (by decide +kernel)) (zin 970 (by decide +kernel) (by decide +kernel)) (zin 35 (by decide +kernel) (by decide +kernel)) (zin 59 (by decide +kernel) (by decide +kernel)) kz_M_ringOf ⟨rfl, by decide, by decide, by decide +kernel⟩
theorem kg_M_166 (c : Cond) : zCS (c :: zT) "TreeCountsModel" 166 ky_M_times kb_M_times 12 (some FieldType.long) (kh_M_times :: zT) 3 := mk_cs c (zin 992 (by decide +kernel) (by decide +kernel)) (zin 993 (by decide +kernel) (by decide +kernel)) (zin 59 (by decide +kernel) (by decide +kernel)) kz_M_times ⟨rfl, by decide, by decide, by decide +kernel⟩
theorem kg_M_169 (c : Cond) : zCV (c :: zT) "TreeCountsModel" "TreeCountsModel" 169 ky_M_lessRow kb_M_lessRow 9 none (kh_M_lessRow :: zT) 5 := mk_cv c (zin 988 (by decide +kernel) (by decide +kernel)) (zin 990 (by decide +kernel) (by decide +kernel)) (zin 39 (by decide +kernel) (by decide +kernel)) (zin 59 (by decide +kernel) (by decide +kernel)) kz_M_lessRow ⟨rfl, by decide, by decide, by decide +kernel⟩
theorem kg_M_173 (c : Cond) : zCV (c :: zT) "TreeCountsModel" "TreeCountsModel" 173 ky_M_swapRows kb_M_swapRows 7 none (kh_M_swapRows :: zT) 3 := mk_cv c (zin 995 (by decide +kernel) (by decide +kernel)) (zin 997 (by decide +kernel) (by decide +kernel)) (zin 40 (by decide +kernel) (by decide +kernel)) (zin 59 (by decide +kernel) (by decide +kernel)) kz_M_swapRows ⟨rfl, by decide, by decide, by decide +kernel⟩
theorem kg_M_177 (c : Cond) : zCV (c :: zT) "TreeCountsModel" "TreeCountsModel" 177 ky_M_lessColumn kb_M_lessColumn 9 none (kh_M_lessColumn :: zT) 5 := mk_cv c (zin 999 (by decide +kernel) (by decide +kernel)) (zin 1001 (by decide +kernel) (by decide +kernel)) (zin 41 (by decide +kernel) (by decide +kernel)) (zin 59 (by decide +kernel) (by decide +kernel)) kz_M_lessColumn ⟨rfl, by decide, by decide, by decide +kernel⟩
theorem kg_M_180 (c : Cond) : zCV (c :: zT) "TreeCountsModel" "TreeCountsModel" 180 ky_M_swapColumns kb_M_swapColumns 7 none (kh_M_swapColumns :: zT) 3 := mk_cv c (zin 1003 (by decide +kernel) (by decide +kernel)) (zin 1005 (by decide +kernel) (by decide +kernel)) (zin 42 (by decide +kernel) (by decide +kernel)) (zin 59 (by decide +kernel) (by decide +kernel)) kz_M_swapColumns ⟨rfl, by decide, by decide, by decide +kernel⟩
theorem kg_M_186 (c : Cond) : zCV (c :: zT) "TreeCountsModel" "TreeCountsModel" 186 ky_M_commonFrom kb_M_commonFrom 9 (some FieldType.long) (kh_M_commonFrom :: zT) 3 := mk_cv c (zin 980 (by decide +kernel) (by decide +kernel)) (zin 982 (by decide +kernel) (by decide +kernel)) (zin 37 (by decide +kernel) (by decide +kernel)) (zin 59 (by decide +kernel) (by decide +kernel)) kz_M_commonFrom ⟨rfl, by decide, by decide, by decide +kernel⟩
theorem kg_M_190 (c : Cond) : zCV (c :: zT) "TreeCountsModel" "TreeCountsModel" 190 ky_M_clearCross kb_M_clearCross 7 none (kh_M_clearCross :: zT) 3 := mk_cv c (zin 984 (by decide +kernel) (by decide +kernel)) (zin 986 (by decide +kernel) (by decide +kernel)) (zin 38 (by decide +kernel) (by decide +kernel)) (zin 59 (by decide +kernel) (by decide +kernel)) kz_M_clearCross ⟨rfl, by decide, by decide, by decide +kernel⟩
theorem kg_M_193 (c : Cond) : zCV (c :: zT) "TreeCountsModel" "TreeCountsModel" 193 ky_M_isOther kb_M_isOther 10 (some FieldType.boolean) (kh_M_isOther :: zT) 4 := mk_cv c (zin 1007 (by decide +kernel) (by decide +kernel)) (zin 1009 (by decide +kernel) (by decide +kernel)) (zin 43 (by decide +kernel) (by decide +kernel)) (zin 59 (by decide +kernel) (by decide +kernel)) kz_M_isOther ⟨rfl, by decide, by decide, by decide +kernel⟩
theorem kg_M_197 (c : Cond) : zCV (c :: zT) "TreeCountsModel" "TreeCountsModel" 197 ky_M_findRounds kb_M_findRounds 10 (some FieldType.boolean) (kh_M_findRounds :: zT) 0 := mk_cv c (zin 976 (by decide +kernel) (by decide +kernel)) (zin 978 (by decide +kernel) (by decide +kernel)) (zin 36 (by decide +kernel) (by decide +kernel)) (zin 59 (by decide +kernel) (by decide +kernel)) kz_M_findRounds ⟨rfl, by decide, by decide, by decide +kernel⟩
theorem kg_M_201 (c : Cond) : zCV (c :: zT) "TreeCountsModel" "TreeCountsModel" 201 ky_M_degree kb_M_degree 5 (some FieldType.long) (kh_M_degree :: zT) 1 := mk_cv c (zin 1031 (by decide +kernel) (by decide +kernel)) (zin 1033 (by decide +kernel) (by decide +kernel)) (zin 46 (by decide +kernel) (by decide +kernel)) (zin 59 (by decide +kernel) (by decide +kernel)) kz_M_degree ⟨rfl, by decide, by decide, by decide +kernel⟩
theorem kg_M_204 (c : Cond) : zCV (c :: zT) "TreeCountsModel" "TreeCountsModel" 204 ky_M_fireNode kb_M_fireNode 6 none (kh_M_fireNode :: zT) 2 := mk_cv c (zin 1035 (by decide +kernel) (by decide +kernel)) (zin 1037 (by decide +kernel) (by decide +kernel)) (zin 47 (by decide +kernel) (by decide +kernel)) (zin 59 (by decide +kernel) (by decide +kernel)) kz_M_fireNode ⟨rfl, by decide, by decide, by decide +kernel⟩
theorem kg_M_208 (c : Cond) : zCV (c :: zT) "TreeCountsModel" "TreeCountsModel" 208 ky_M_beginPile kb_M_beginPile 2 none (kh_M_beginPile :: zT) 0 := mk_cv c (zin 1023 (by decide +kernel) (by decide +kernel)) (zin 1025 (by decide +kernel) (by decide +kernel)) (zin 44 (by decide +kernel) (by decide +kernel)) (zin 59 (by decide +kernel) (by decide +kernel)) kz_M_beginPile ⟨rfl, by decide, by decide, by decide +kernel⟩
theorem kg_M_211 (c : Cond) : zCV (c :: zT) "TreeCountsModel" "TreeCountsModel" 211 ky_M_settlePile kb_M_settlePile 8 (some FieldType.long) (kh_M_settlePile :: zT) 1 := mk_cv c (zin 1027 (by decide +kernel) (by decide +kernel)) (zin 1029 (by decide +kernel) (by decide +kernel)) (zin 45 (by decide +kernel) (by decide +kernel)) (zin 59 (by decide +kernel) (by decide +kernel)) kz_M_settlePile ⟨rfl, by decide, by decide, by decide +kernel⟩
theorem kg_M_214 (c : Cond) : zCV (c :: zT) "TreeCountsModel" "TreeCountsModel" 214 ky_M_rank kb_M_rank 4 (some FieldType.int) (kh_M_rank :: zT) 1 := mk_cv c (zin 1051 (by decide +kernel) (by decide +kernel)) (zin 1053 (by decide +kernel) (by decide +kernel)) (zin 48 (by decide +kernel) (by decide +kernel)) (zin 59 (by decide +kernel) (by decide +kernel)) kz_M_rank ⟨rfl, by decide, by decide, by decide +kernel⟩
theorem kg_M_218 (c : Cond) : zCS (c :: zT) "TreeCountsModel" 218 ky_M_powerOf kb_M_powerOf 6 (some FieldType.long) (kh_M_powerOf :: zT) 2 := mk_cs c (zin 1055 (by decide +kernel) (by decide +kernel)) (zin 1056 (by decide +kernel) (by decide +kernel)) (zin 59 (by decide +kernel) (by decide +kernel)) kz_M_powerOf ⟨rfl, by decide, by decide, by decide +kernel⟩
end
