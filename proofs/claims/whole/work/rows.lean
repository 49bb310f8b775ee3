section
-- ===== PART A: goes FIRST, ahead of the names: the tables' words, and 'selects' of the private methods out of them =====
/-- a private method of a class that the tables say can be made, by its rows of tables_1 -/
def lw_okq (q : MethodName × Nat) : Prop := (q.1.cls ≠ "java/lang/invoke/MethodHandle" ∧ q.1.cls ≠ "java/lang/invoke/VarHandle") ∧ Cond.instantiable q.1.cls q.2 ∈ tables_1 ∧ Cond.privateMethod q.1 ∈ tables_1 ∧ Cond.instanceMethod q.1 ∈ tables_1
theorem lw_p0 : lw_okq (⟨"TreeCounts$Trees", "sumOverParts", "(I)J"⟩, 5) := ⟨⟨by decide +kernel, by decide +kernel⟩, List.mem_of_getElem? (i := 115) (by decide +kernel), List.mem_of_getElem? (i := 309) (by decide +kernel), List.mem_of_getElem? (i := 310) (by decide +kernel)⟩
theorem lw_p1 : lw_okq (⟨"TreeCounts$Grid", "rowWithLowestBit", "(I)I"⟩, 2) := ⟨⟨by decide +kernel, by decide +kernel⟩, List.mem_of_getElem? (i := 95) (by decide +kernel), List.mem_of_getElem? (i := 333) (by decide +kernel), List.mem_of_getElem? (i := 334) (by decide +kernel)⟩
theorem lw_p2 : lw_okq (⟨"TreeCounts$Grid", "clearBelow", "(I)V"⟩, 2) := ⟨⟨by decide +kernel, by decide +kernel⟩, List.mem_of_getElem? (i := 95) (by decide +kernel), List.mem_of_getElem? (i := 344) (by decide +kernel), List.mem_of_getElem? (i := 345) (by decide +kernel)⟩
theorem lw_p3 : lw_okq (⟨"TreeCounts$Trees", "beginChoice", "()V"⟩, 5) := ⟨⟨by decide +kernel, by decide +kernel⟩, List.mem_of_getElem? (i := 115) (by decide +kernel), List.mem_of_getElem? (i := 440) (by decide +kernel), List.mem_of_getElem? (i := 441) (by decide +kernel)⟩
theorem lw_p4 : lw_okq (⟨"TreeCounts$Trees", "sumIfTaken", "(I)J"⟩, 5) := ⟨⟨by decide +kernel, by decide +kernel⟩, List.mem_of_getElem? (i := 115) (by decide +kernel), List.mem_of_getElem? (i := 444) (by decide +kernel), List.mem_of_getElem? (i := 445) (by decide +kernel)⟩
theorem lw_p5 : lw_okq (⟨"TreeCounts$Trees", "take", "(IJ)V"⟩, 5) := ⟨⟨by decide +kernel, by decide +kernel⟩, List.mem_of_getElem? (i := 115) (by decide +kernel), List.mem_of_getElem? (i := 452) (by decide +kernel), List.mem_of_getElem? (i := 453) (by decide +kernel)⟩
theorem lw_p6 : lw_okq (⟨"TreeCounts$Rings", "untaken", "(II)I"⟩, 5) := ⟨⟨by decide +kernel, by decide +kernel⟩, List.mem_of_getElem? (i := 137) (by decide +kernel), List.mem_of_getElem? (i := 482) (by decide +kernel), List.mem_of_getElem? (i := 483) (by decide +kernel)⟩
theorem lw_p7 : lw_okq (⟨"TreeCounts$Rings", "findWaysBack", "(II)V"⟩, 5) := ⟨⟨by decide +kernel, by decide +kernel⟩, List.mem_of_getElem? (i := 137) (by decide +kernel), List.mem_of_getElem? (i := 486) (by decide +kernel), List.mem_of_getElem? (i := 487) (by decide +kernel)⟩
theorem lw_p8 : lw_okq (⟨"TreeCounts$Rings", "reach", "(II)I"⟩, 5) := ⟨⟨by decide +kernel, by decide +kernel⟩, List.mem_of_getElem? (i := 137) (by decide +kernel), List.mem_of_getElem? (i := 490) (by decide +kernel), List.mem_of_getElem? (i := 491) (by decide +kernel)⟩
theorem lw_p9 : lw_okq (⟨"TreeCounts$Group", "reduceAll", "()V"⟩, 9) := ⟨⟨by decide +kernel, by decide +kernel⟩, List.mem_of_getElem? (i := 161) (by decide +kernel), List.mem_of_getElem? (i := 506) (by decide +kernel), List.mem_of_getElem? (i := 507) (by decide +kernel)⟩
theorem lw_p10 : lw_okq (⟨"TreeCounts$Group", "reduced", "(J)J"⟩, 9) := ⟨⟨by decide +kernel, by decide +kernel⟩, List.mem_of_getElem? (i := 161) (by decide +kernel), List.mem_of_getElem? (i := 510) (by decide +kernel), List.mem_of_getElem? (i := 511) (by decide +kernel)⟩
theorem lw_p11 : lw_okq (⟨"TreeCounts$Group", "clearLine", "(I)V"⟩, 9) := ⟨⟨by decide +kernel, by decide +kernel⟩, List.mem_of_getElem? (i := 161) (by decide +kernel), List.mem_of_getElem? (i := 514) (by decide +kernel), List.mem_of_getElem? (i := 515) (by decide +kernel)⟩
theorem lw_p12 : lw_okq (⟨"TreeCounts$Group", "mixRows", "(II)V"⟩, 9) := ⟨⟨by decide +kernel, by decide +kernel⟩, List.mem_of_getElem? (i := 161) (by decide +kernel), List.mem_of_getElem? (i := 518) (by decide +kernel), List.mem_of_getElem? (i := 519) (by decide +kernel)⟩
theorem lw_p13 : lw_okq (⟨"TreeCounts$Group", "measure", "(JJ)V"⟩, 9) := ⟨⟨by decide +kernel, by decide +kernel⟩, List.mem_of_getElem? (i := 161) (by decide +kernel), List.mem_of_getElem? (i := 522) (by decide +kernel), List.mem_of_getElem? (i := 523) (by decide +kernel)⟩
theorem lw_p14 : lw_okq (⟨"TreeCounts$Group", "times", "(JJ)J"⟩, 9) := ⟨⟨by decide +kernel, by decide +kernel⟩, List.mem_of_getElem? (i := 161) (by decide +kernel), List.mem_of_getElem? (i := 526) (by decide +kernel), List.mem_of_getElem? (i := 527) (by decide +kernel)⟩
theorem lw_p15 : lw_okq (⟨"TreeCounts$Group", "isRowClear", "(I)Z"⟩, 9) := ⟨⟨by decide +kernel, by decide +kernel⟩, List.mem_of_getElem? (i := 161) (by decide +kernel), List.mem_of_getElem? (i := 532) (by decide +kernel), List.mem_of_getElem? (i := 533) (by decide +kernel)⟩
def lw_privs_1 : List (MethodName × Nat) := [(⟨"TreeCounts$Trees", "sumOverParts", "(I)J"⟩, 5), (⟨"TreeCounts$Grid", "rowWithLowestBit", "(I)I"⟩, 2), (⟨"TreeCounts$Grid", "clearBelow", "(I)V"⟩, 2), (⟨"TreeCounts$Trees", "beginChoice", "()V"⟩, 5), (⟨"TreeCounts$Trees", "sumIfTaken", "(I)J"⟩, 5), (⟨"TreeCounts$Trees", "take", "(IJ)V"⟩, 5), (⟨"TreeCounts$Rings", "untaken", "(II)I"⟩, 5), (⟨"TreeCounts$Rings", "findWaysBack", "(II)V"⟩, 5), (⟨"TreeCounts$Rings", "reach", "(II)I"⟩, 5), (⟨"TreeCounts$Group", "reduceAll", "()V"⟩, 9), (⟨"TreeCounts$Group", "reduced", "(J)J"⟩, 9), (⟨"TreeCounts$Group", "clearLine", "(I)V"⟩, 9), (⟨"TreeCounts$Group", "mixRows", "(II)V"⟩, 9), (⟨"TreeCounts$Group", "measure", "(JJ)V"⟩, 9), (⟨"TreeCounts$Group", "times", "(JJ)J"⟩, 9), (⟨"TreeCounts$Group", "isRowClear", "(I)Z"⟩, 9)]
theorem lw_r1 : ∀ q ∈ lw_privs_1, lw_okq q := List.forall_mem_cons.mpr ⟨lw_p0, List.forall_mem_cons.mpr ⟨lw_p1, List.forall_mem_cons.mpr ⟨lw_p2, List.forall_mem_cons.mpr ⟨lw_p3, List.forall_mem_cons.mpr ⟨lw_p4, List.forall_mem_cons.mpr ⟨lw_p5, List.forall_mem_cons.mpr ⟨lw_p6, List.forall_mem_cons.mpr ⟨lw_p7, List.forall_mem_cons.mpr ⟨lw_p8, List.forall_mem_cons.mpr ⟨lw_p9, List.forall_mem_cons.mpr ⟨lw_p10, List.forall_mem_cons.mpr ⟨lw_p11, List.forall_mem_cons.mpr ⟨lw_p12, List.forall_mem_cons.mpr ⟨lw_p13, List.forall_mem_cons.mpr ⟨lw_p14, List.forall_mem_cons.mpr ⟨lw_p15, fun _ h => absurd h List.not_mem_nil⟩⟩⟩⟩⟩⟩⟩⟩⟩⟩⟩⟩⟩⟩⟩⟩
theorem lw_p16 : lw_okq (⟨"TreeCounts$Group", "transpose", "(I)V"⟩, 9) := ⟨⟨by decide +kernel, by decide +kernel⟩, List.mem_of_getElem? (i := 161) (by decide +kernel), List.mem_of_getElem? (i := 536) (by decide +kernel), List.mem_of_getElem? (i := 537) (by decide +kernel)⟩
theorem lw_p17 : lw_okq (⟨"TreeCounts$Group", "makeChain", "()V"⟩, 9) := ⟨⟨by decide +kernel, by decide +kernel⟩, List.mem_of_getElem? (i := 161) (by decide +kernel), List.mem_of_getElem? (i := 541) (by decide +kernel), List.mem_of_getElem? (i := 542) (by decide +kernel)⟩
theorem lw_p18 : lw_okq (⟨"TreeCounts$Piles", "run", "([J[JI)V"⟩, 6) := ⟨⟨by decide +kernel, by decide +kernel⟩, List.mem_of_getElem? (i := 196) (by decide +kernel), List.mem_of_getElem? (i := 570) (by decide +kernel), List.mem_of_getElem? (i := 571) (by decide +kernel)⟩
theorem lw_p19 : lw_okq (⟨"TreeCounts$Piles", "fire", "([JIJ)V"⟩, 6) := ⟨⟨by decide +kernel, by decide +kernel⟩, List.mem_of_getElem? (i := 196) (by decide +kernel), List.mem_of_getElem? (i := 575) (by decide +kernel), List.mem_of_getElem? (i := 576) (by decide +kernel)⟩
theorem lw_p20 : lw_okq (⟨"java/lang/Throwable", "fillInStackTrace", "(I)Ljava/lang/Throwable;"⟩, 6) := ⟨⟨by decide +kernel, by decide +kernel⟩, List.mem_of_getElem? (i := 657) (by decide +kernel), List.mem_of_getElem? (i := 655) (by decide +kernel), List.mem_of_getElem? (i := 656) (by decide +kernel)⟩
theorem lw_p21 : lw_okq (⟨"TreeCountsModel", "isNode", "(I)Z"⟩, 25) := ⟨⟨by decide +kernel, by decide +kernel⟩, List.mem_of_getElem? (i := 708) (by decide +kernel), List.mem_of_getElem? (i := 803) (by decide +kernel), List.mem_of_getElem? (i := 804) (by decide +kernel)⟩
theorem lw_p22 : lw_okq (⟨"TreeCountsModel", "apartAll", "()V"⟩, 25) := ⟨⟨by decide +kernel, by decide +kernel⟩, List.mem_of_getElem? (i := 708) (by decide +kernel), List.mem_of_getElem? (i := 819) (by decide +kernel), List.mem_of_getElem? (i := 820) (by decide +kernel)⟩
theorem lw_p23 : lw_okq (⟨"TreeCountsModel", "noneOut", "()V"⟩, 25) := ⟨⟨by decide +kernel, by decide +kernel⟩, List.mem_of_getElem? (i := 708) (by decide +kernel), List.mem_of_getElem? (i := 823) (by decide +kernel), List.mem_of_getElem? (i := 824) (by decide +kernel)⟩
theorem lw_p24 : lw_okq (⟨"TreeCountsModel", "count", "()J"⟩, 25) := ⟨⟨by decide +kernel, by decide +kernel⟩, List.mem_of_getElem? (i := 708) (by decide +kernel), List.mem_of_getElem? (i := 827) (by decide +kernel), List.mem_of_getElem? (i := 828) (by decide +kernel)⟩
theorem lw_p25 : lw_okq (⟨"TreeCountsModel", "number", "(II)I"⟩, 25) := ⟨⟨by decide +kernel, by decide +kernel⟩, List.mem_of_getElem? (i := 708) (by decide +kernel), List.mem_of_getElem? (i := 831) (by decide +kernel), List.mem_of_getElem? (i := 832) (by decide +kernel)⟩
theorem lw_p26 : lw_okq (⟨"TreeCountsModel", "isFirst", "(I)Z"⟩, 25) := ⟨⟨by decide +kernel, by decide +kernel⟩, List.mem_of_getElem? (i := 708) (by decide +kernel), List.mem_of_getElem? (i := 835) (by decide +kernel), List.mem_of_getElem? (i := 836) (by decide +kernel)⟩
theorem lw_p27 : lw_okq (⟨"TreeCountsModel", "rows", "(J)V"⟩, 25) := ⟨⟨by decide +kernel, by decide +kernel⟩, List.mem_of_getElem? (i := 708) (by decide +kernel), List.mem_of_getElem? (i := 839) (by decide +kernel), List.mem_of_getElem? (i := 840) (by decide +kernel)⟩
theorem lw_p28 : lw_okq (⟨"TreeCountsModel", "clearRows", "()V"⟩, 25) := ⟨⟨by decide +kernel, by decide +kernel⟩, List.mem_of_getElem? (i := 708) (by decide +kernel), List.mem_of_getElem? (i := 843) (by decide +kernel), List.mem_of_getElem? (i := 844) (by decide +kernel)⟩
theorem lw_p29 : lw_okq (⟨"TreeCountsModel", "addTo", "(IIJ)V"⟩, 25) := ⟨⟨by decide +kernel, by decide +kernel⟩, List.mem_of_getElem? (i := 708) (by decide +kernel), List.mem_of_getElem? (i := 847) (by decide +kernel), List.mem_of_getElem? (i := 848) (by decide +kernel)⟩
theorem lw_p30 : lw_okq (⟨"TreeCountsModel", "determinant", "(I)J"⟩, 25) := ⟨⟨by decide +kernel, by decide +kernel⟩, List.mem_of_getElem? (i := 708) (by decide +kernel), List.mem_of_getElem? (i := 851) (by decide +kernel), List.mem_of_getElem? (i := 852) (by decide +kernel)⟩
theorem lw_p31 : lw_okq (⟨"TreeCountsModel", "modulo", "(IJ)J"⟩, 25) := ⟨⟨by decide +kernel, by decide +kernel⟩, List.mem_of_getElem? (i := 708) (by decide +kernel), List.mem_of_getElem? (i := 856) (by decide +kernel), List.mem_of_getElem? (i := 857) (by decide +kernel)⟩
def lw_privs_2 : List (MethodName × Nat) := [(⟨"TreeCounts$Group", "transpose", "(I)V"⟩, 9), (⟨"TreeCounts$Group", "makeChain", "()V"⟩, 9), (⟨"TreeCounts$Piles", "run", "([J[JI)V"⟩, 6), (⟨"TreeCounts$Piles", "fire", "([JIJ)V"⟩, 6), (⟨"java/lang/Throwable", "fillInStackTrace", "(I)Ljava/lang/Throwable;"⟩, 6), (⟨"TreeCountsModel", "isNode", "(I)Z"⟩, 25), (⟨"TreeCountsModel", "apartAll", "()V"⟩, 25), (⟨"TreeCountsModel", "noneOut", "()V"⟩, 25), (⟨"TreeCountsModel", "count", "()J"⟩, 25), (⟨"TreeCountsModel", "number", "(II)I"⟩, 25), (⟨"TreeCountsModel", "isFirst", "(I)Z"⟩, 25), (⟨"TreeCountsModel", "rows", "(J)V"⟩, 25), (⟨"TreeCountsModel", "clearRows", "()V"⟩, 25), (⟨"TreeCountsModel", "addTo", "(IIJ)V"⟩, 25), (⟨"TreeCountsModel", "determinant", "(I)J"⟩, 25), (⟨"TreeCountsModel", "modulo", "(IJ)J"⟩, 25)]
theorem lw_r2 : ∀ q ∈ lw_privs_2, lw_okq q := List.forall_mem_cons.mpr ⟨lw_p16, List.forall_mem_cons.mpr ⟨lw_p17, List.forall_mem_cons.mpr ⟨lw_p18, List.forall_mem_cons.mpr ⟨lw_p19, List.forall_mem_cons.mpr ⟨lw_p20, List.forall_mem_cons.mpr ⟨lw_p21, List.forall_mem_cons.mpr ⟨lw_p22, List.forall_mem_cons.mpr ⟨lw_p23, List.forall_mem_cons.mpr ⟨lw_p24, List.forall_mem_cons.mpr ⟨lw_p25, List.forall_mem_cons.mpr ⟨lw_p26, List.forall_mem_cons.mpr ⟨lw_p27, List.forall_mem_cons.mpr ⟨lw_p28, List.forall_mem_cons.mpr ⟨lw_p29, List.forall_mem_cons.mpr ⟨lw_p30, List.forall_mem_cons.mpr ⟨lw_p31, fun _ h => absurd h List.not_mem_nil⟩⟩⟩⟩⟩⟩⟩⟩⟩⟩⟩⟩⟩⟩⟩⟩
theorem lw_p32 : lw_okq (⟨"TreeCountsModel", "join", "(II)Z"⟩, 25) := ⟨⟨by decide +kernel, by decide +kernel⟩, List.mem_of_getElem? (i := 708) (by decide +kernel), List.mem_of_getElem? (i := 896) (by decide +kernel), List.mem_of_getElem? (i := 897) (by decide +kernel)⟩
theorem lw_p33 : lw_okq (⟨"TreeCountsModel", "with", "(I)J"⟩, 25) := ⟨⟨by decide +kernel, by decide +kernel⟩, List.mem_of_getElem? (i := 708) (by decide +kernel), List.mem_of_getElem? (i := 904) (by decide +kernel), List.mem_of_getElem? (i := 905) (by decide +kernel)⟩
theorem lw_p34 : lw_okq (⟨"TreeCountsModel", "takeTrees", "()I"⟩, 25) := ⟨⟨by decide +kernel, by decide +kernel⟩, List.mem_of_getElem? (i := 708) (by decide +kernel), List.mem_of_getElem? (i := 916) (by decide +kernel), List.mem_of_getElem? (i := 917) (by decide +kernel)⟩
theorem lw_p35 : lw_okq (⟨"TreeCountsModel", "ringOf", "(I)V"⟩, 25) := ⟨⟨by decide +kernel, by decide +kernel⟩, List.mem_of_getElem? (i := 708) (by decide +kernel), List.mem_of_getElem? (i := 920) (by decide +kernel), List.mem_of_getElem? (i := 921) (by decide +kernel)⟩
theorem lw_p36 : lw_okq (⟨"TreeCountsModel", "findRounds", "()Z"⟩, 25) := ⟨⟨by decide +kernel, by decide +kernel⟩, List.mem_of_getElem? (i := 708) (by decide +kernel), List.mem_of_getElem? (i := 928) (by decide +kernel), List.mem_of_getElem? (i := 929) (by decide +kernel)⟩
theorem lw_p37 : lw_okq (⟨"TreeCountsModel", "commonFrom", "(IIJ)J"⟩, 25) := ⟨⟨by decide +kernel, by decide +kernel⟩, List.mem_of_getElem? (i := 708) (by decide +kernel), List.mem_of_getElem? (i := 932) (by decide +kernel), List.mem_of_getElem? (i := 933) (by decide +kernel)⟩
theorem lw_p38 : lw_okq (⟨"TreeCountsModel", "clearCross", "(IIJ)V"⟩, 25) := ⟨⟨by decide +kernel, by decide +kernel⟩, List.mem_of_getElem? (i := 708) (by decide +kernel), List.mem_of_getElem? (i := 936) (by decide +kernel), List.mem_of_getElem? (i := 937) (by decide +kernel)⟩
theorem lw_p39 : lw_okq (⟨"TreeCountsModel", "lessRow", "(IIJIJ)V"⟩, 25) := ⟨⟨by decide +kernel, by decide +kernel⟩, List.mem_of_getElem? (i := 708) (by decide +kernel), List.mem_of_getElem? (i := 940) (by decide +kernel), List.mem_of_getElem? (i := 941) (by decide +kernel)⟩
theorem lw_p40 : lw_okq (⟨"TreeCountsModel", "swapRows", "(III)V"⟩, 25) := ⟨⟨by decide +kernel, by decide +kernel⟩, List.mem_of_getElem? (i := 708) (by decide +kernel), List.mem_of_getElem? (i := 947) (by decide +kernel), List.mem_of_getElem? (i := 948) (by decide +kernel)⟩
theorem lw_p41 : lw_okq (⟨"TreeCountsModel", "lessColumn", "(IIJIJ)V"⟩, 25) := ⟨⟨by decide +kernel, by decide +kernel⟩, List.mem_of_getElem? (i := 708) (by decide +kernel), List.mem_of_getElem? (i := 951) (by decide +kernel), List.mem_of_getElem? (i := 952) (by decide +kernel)⟩
theorem lw_p42 : lw_okq (⟨"TreeCountsModel", "swapColumns", "(III)V"⟩, 25) := ⟨⟨by decide +kernel, by decide +kernel⟩, List.mem_of_getElem? (i := 708) (by decide +kernel), List.mem_of_getElem? (i := 955) (by decide +kernel), List.mem_of_getElem? (i := 956) (by decide +kernel)⟩
theorem lw_p43 : lw_okq (⟨"TreeCountsModel", "isOther", "(IIIJ)Z"⟩, 25) := ⟨⟨by decide +kernel, by decide +kernel⟩, List.mem_of_getElem? (i := 708) (by decide +kernel), List.mem_of_getElem? (i := 959) (by decide +kernel), List.mem_of_getElem? (i := 960) (by decide +kernel)⟩
theorem lw_p44 : lw_okq (⟨"TreeCountsModel", "beginPile", "()V"⟩, 25) := ⟨⟨by decide +kernel, by decide +kernel⟩, List.mem_of_getElem? (i := 708) (by decide +kernel), List.mem_of_getElem? (i := 975) (by decide +kernel), List.mem_of_getElem? (i := 976) (by decide +kernel)⟩
theorem lw_p45 : lw_okq (⟨"TreeCountsModel", "settlePile", "(I)J"⟩, 25) := ⟨⟨by decide +kernel, by decide +kernel⟩, List.mem_of_getElem? (i := 708) (by decide +kernel), List.mem_of_getElem? (i := 979) (by decide +kernel), List.mem_of_getElem? (i := 980) (by decide +kernel)⟩
theorem lw_p46 : lw_okq (⟨"TreeCountsModel", "degree", "(I)J"⟩, 25) := ⟨⟨by decide +kernel, by decide +kernel⟩, List.mem_of_getElem? (i := 708) (by decide +kernel), List.mem_of_getElem? (i := 983) (by decide +kernel), List.mem_of_getElem? (i := 984) (by decide +kernel)⟩
theorem lw_p47 : lw_okq (⟨"TreeCountsModel", "fireNode", "(IJ)V"⟩, 25) := ⟨⟨by decide +kernel, by decide +kernel⟩, List.mem_of_getElem? (i := 708) (by decide +kernel), List.mem_of_getElem? (i := 987) (by decide +kernel), List.mem_of_getElem? (i := 988) (by decide +kernel)⟩
def lw_privs_3 : List (MethodName × Nat) := [(⟨"TreeCountsModel", "join", "(II)Z"⟩, 25), (⟨"TreeCountsModel", "with", "(I)J"⟩, 25), (⟨"TreeCountsModel", "takeTrees", "()I"⟩, 25), (⟨"TreeCountsModel", "ringOf", "(I)V"⟩, 25), (⟨"TreeCountsModel", "findRounds", "()Z"⟩, 25), (⟨"TreeCountsModel", "commonFrom", "(IIJ)J"⟩, 25), (⟨"TreeCountsModel", "clearCross", "(IIJ)V"⟩, 25), (⟨"TreeCountsModel", "lessRow", "(IIJIJ)V"⟩, 25), (⟨"TreeCountsModel", "swapRows", "(III)V"⟩, 25), (⟨"TreeCountsModel", "lessColumn", "(IIJIJ)V"⟩, 25), (⟨"TreeCountsModel", "swapColumns", "(III)V"⟩, 25), (⟨"TreeCountsModel", "isOther", "(IIIJ)Z"⟩, 25), (⟨"TreeCountsModel", "beginPile", "()V"⟩, 25), (⟨"TreeCountsModel", "settlePile", "(I)J"⟩, 25), (⟨"TreeCountsModel", "degree", "(I)J"⟩, 25), (⟨"TreeCountsModel", "fireNode", "(IJ)V"⟩, 25)]
theorem lw_r3 : ∀ q ∈ lw_privs_3, lw_okq q := List.forall_mem_cons.mpr ⟨lw_p32, List.forall_mem_cons.mpr ⟨lw_p33, List.forall_mem_cons.mpr ⟨lw_p34, List.forall_mem_cons.mpr ⟨lw_p35, List.forall_mem_cons.mpr ⟨lw_p36, List.forall_mem_cons.mpr ⟨lw_p37, List.forall_mem_cons.mpr ⟨lw_p38, List.forall_mem_cons.mpr ⟨lw_p39, List.forall_mem_cons.mpr ⟨lw_p40, List.forall_mem_cons.mpr ⟨lw_p41, List.forall_mem_cons.mpr ⟨lw_p42, List.forall_mem_cons.mpr ⟨lw_p43, List.forall_mem_cons.mpr ⟨lw_p44, List.forall_mem_cons.mpr ⟨lw_p45, List.forall_mem_cons.mpr ⟨lw_p46, List.forall_mem_cons.mpr ⟨lw_p47, fun _ h => absurd h List.not_mem_nil⟩⟩⟩⟩⟩⟩⟩⟩⟩⟩⟩⟩⟩⟩⟩⟩
theorem lw_p48 : lw_okq (⟨"TreeCountsModel", "rank", "(I)I"⟩, 25) := ⟨⟨by decide +kernel, by decide +kernel⟩, List.mem_of_getElem? (i := 708) (by decide +kernel), List.mem_of_getElem? (i := 1003) (by decide +kernel), List.mem_of_getElem? (i := 1004) (by decide +kernel)⟩
def lw_privs_4 : List (MethodName × Nat) := [(⟨"TreeCountsModel", "rank", "(I)I"⟩, 25)]
theorem lw_r4 : ∀ q ∈ lw_privs_4, lw_okq q := List.forall_mem_cons.mpr ⟨lw_p48, fun _ h => absurd h List.not_mem_nil⟩
def lw_privs : List (MethodName × Nat) := lw_privs_1 ++ (lw_privs_2 ++ (lw_privs_3 ++ (lw_privs_4)))
def lw_tbl : List Cond := k2_sels lw_privs ++ tables_1
theorem lw_privs_ok : ∀ q ∈ lw_privs, lw_okq q := by
  show ∀ q ∈ lw_privs_1 ++ (lw_privs_2 ++ (lw_privs_3 ++ (lw_privs_4))), lw_okq q
  exact List.forall_mem_append.mpr ⟨lw_r1, List.forall_mem_append.mpr ⟨lw_r2, List.forall_mem_append.mpr ⟨lw_r3, lw_r4⟩⟩⟩
end
section
/-! Z: a walk of one method, with the machine's fixed things put away. The heap from address b on is a map of cells: the cell k lies at b + k; N cells are there. A contract zM says what a method makes of the whole map. -/
def zUp (σ : Nat → Option va_E) (k : Nat) (x : va_E) : Nat → Option va_E := fun j => if j = k then some x else σ j
def zP (D : va_G) (cl : List vw_C) (b N : Nat) (σ : Nat → Option va_E) (H : Heap) : Prop := H.size = b + N ∧ ∀ (k : Nat) (x : va_E), σ k = some x → va_at D cl (b + k, x) H
def zIsN (w : Cond) : Bool := match w with
  | .fieldLinkNest _ _ _ _ _ _ => true
  | .methodLinkNest _ _ _ _ => true
  | _ => false
def zN (Nw : List Cond) (U : State) : Prop := ∀ w ∈ Nw, va_Nw w U ∧ zIsN w = true
def zF (D : va_G) (cl : List vw_C) (tys : List (ClassId × FieldType)) (Ts Nw : List Cond) (own nm : String) (cc : ByteArray) (nL : Nat) (ret : Option FieldType) (b : Nat) (p : Program) (s : State) (m : MethodId) (args : Array Value) (meth : Method) (c : Code) : Prop :=
  p.tables.exec = Jvm.exec ∧ c.code = cc ∧ c.maxLocals = nL ∧ meth.sig.returnType = ret ∧ meth.locks = false ∧ s.vm.findClass own = some m.cls ∧ (∀ w ∈ Ts, w.before args s = true) ∧ va_K D cl tys s ∧ zN Nw s ∧ meth.name = nm ∧ b ≤ s.heap.size
def Z (l : Launch) (D : va_G) (cl : List vw_C) (tys : List (ClassId × FieldType)) (Ts Nw : List Cond) (own nm : String) (cc : ByteArray) (nL : Nat) (ret : Option FieldType) (R : Room) (b : Nat) (Fi : List Frame → Array Value → State → State → Prop) (k n N : Nat) (σ : Nat → Option va_E) (pc : Nat) (lv : List (Nat × Value)) (st : List Value) : Prop :=
  ∀ (p : Program) (e : Env) (s : State) (m : MethodId) (args : Array Value) (below : List Frame) (meth : Method) (c : Code) (H : Heap) (locs : List Loc) (ls : Array Slot),
    zF D cl tys Ts Nw own nm cc nL ret b p s m args meth c → zP D cl b N σ H → va_S (fun q => b ≤ q) s.heap H locs → lv_has ls nL lv →
    W p l e R s m args below meth c H locs k n (Fi below args s) (F0 m pc ls st)
/-- a method's end -/
def zQ (D : va_G) (cl : List vw_C) (b : Nat) (Q : Outcome → Nat → (Nat → Option va_E) → Prop) : Array Value → State → Outcome → State → Prop := fun _ st oc t =>
  (∃ (N : Nat) (σ : Nat → Option va_E), Q oc N σ ∧ zP D cl b N σ t.heap) ∧ va_F (fun q => b ≤ q) st t
def zFi (D : va_G) (cl : List vw_C) (b mc ms : Nat) (Q : Outcome → Nat → (Nat → Option va_E) → Prop) : List Frame → Array Value → State → State → Prop := fun below args s => MQ below (zQ D cl b Q) args s mc ms (fun q => b ≤ q)
/-- a contract -/
def zM (l : Launch) (D : va_G) (cl : List vw_C) (tys : List (ClassId × FieldType)) (Nw : List Cond) (b : Nat) (y : MethodName) (ws : List Cond) (fr lo mc ms : Nat) (av : List Value) (N : Nat) (σ : Nat → Option va_E) (Q : Outcome → Nat → (Nat → Option va_E) → Prop) : Prop :=
  Met l y ws { frames := fr, cells := mc, slots := ms, locals := lo } (va_Pc av (fun U => zP D cl b N σ U.heap ∧ va_K D cl tys U ∧ zN Nw U)) (zQ D cl b Q) mc ms (fun q => b ≤ q)
/-- one answer, one heap -/
def zD (v : Option Value) (N : Nat) (σ : Nat → Option va_E) : Outcome → Nat → (Nat → Option va_E) → Prop := fun oc N' σ' => oc = .returned v ∧ N' = N ∧ σ' = σ
theorem zUp_s (σ : Nat → Option va_E) (k : Nat) (x : va_E) : zUp σ k x k = some x := if_pos rfl
theorem zUp_n {σ : Nat → Option va_E} {k j : Nat} {x : va_E} (h : j ≠ k) : zUp σ k x j = σ j := if_neg h
theorem zP.set {D : va_G} {cl : List vw_C} {b N k : Nat} {σ : Nat → Option va_E} {x0 x : va_E} {H H1 : Heap} (h : zP D cl b N σ H) (z : H1.size = H.size) (oq : ∀ q : Nat, q ≠ b + k → H1[q]? = H[q]?) (hx : va_at D cl (b + k, x) H1) : zP D cl b N (zUp σ k x) H1 := by
  refine ⟨z.trans h.1, fun j y hy => ?_⟩
  by_cases hj : j = k
  · subst hj
    rw [zUp_s] at hy
    cases hy
    exact hx
  · rw [zUp_n hj] at hy
    exact (h.2 j y hy).kept (oq (b + j) (by omega))
theorem zP.push {D : va_G} {cl : List vw_C} {b N : Nat} {σ : Nat → Option va_E} {x : va_E} {H H1 : Heap} (h : zP D cl b N σ H) (z : H1.size = b + N + 1) (oq : ∀ q : Nat, q < b + N → H1[q]? = H[q]?) (hx : va_at D cl (b + N, x) H1) : zP D cl b (N + 1) (zUp σ N x) H1 := by
  refine ⟨z, fun j y hy => ?_⟩
  by_cases hj : j = N
  · subst hj
    rw [zUp_s] at hy
    cases hy
    exact hx
  · rw [zUp_n hj] at hy
    have h1 := h.2 j y hy
    have h2 := h1.lt
    rw [h.1] at h2
    exact h1.kept (oq (b + j) h2)
theorem zP.one {D : va_G} {cl : List vw_C} {b N k : Nat} {σ : Nat → Option va_E} {x : va_E} {H : Heap} (h : zP D cl b N σ H) (hk : σ k = some x) : va_P D cl [(b + k, x)] H := by
  intro j q hq
  match j, hq with
  | 0, hq => cases hq; exact h.2 k x hk
  | j + 1, hq => simp at hq
theorem zN.same {Nw : List Cond} {u U : State} (h : u.vm = U.vm) (hN : zN Nw u) : zN Nw U := by
  intro w hw
  obtain ⟨h1, h2⟩ := hN w hw
  refine ⟨?_, h2⟩
  cases w <;> simp [zIsN] at h2
  · exact h1.same rfl h
  · exact h1.same rfl h
theorem zN.warm {Nw : List Cond} {u U : State} (h : u.WarmedH U.vm) (hN : zN Nw u) : zN Nw U := by
  intro w hw
  obtain ⟨h1, h2⟩ := hN w hw
  refine ⟨?_, h2⟩
  cases w <;> simp [zIsN] at h2
  · first | exact h1.warmF h | exact h1.warmM h
  · first | exact h1.warmM h | exact h1.warmF h
section ZR
variable {l : Launch} {D : va_G} {cl : List vw_C} {tys : List (ClassId × FieldType)} {Ts Nw : List Cond} {own nm : String} {cc : ByteArray} {nL : Nat} {ret : Option FieldType} {R : Room} {b : Nat} {Fi : List Frame → Array Value → State → State → Prop} {k n N : Nat} {σ : Nat → Option va_E} {pc : Nat} {lv : List (Nat × Value)} {st : List Value}
theorem z_iconst {i : Int} {v : Int32} (hd : decode cc pc = .ok (.iconst i, 1)) (hv : Int32.ofInt i = v) (kk : Z l D cl tys Ts Nw own nm cc nL ret R b Fi k n N σ (pc + 1) lv (.int v :: st)) : Z l D cl tys Ts Nw own nm cc nL ret R b Fi k n N σ pc lv (st) := fun p e s m args below meth c H locs ls hF hP hS hl => lv_iconst hF.1 hF.2.1 hd hv (kk p e s m args below meth c H locs ls hF hP hS hl)
theorem z_bipush {i : Int} {v : Int32} (hd : decode cc pc = .ok (.bipush i, 2)) (hv : (Int8.ofInt i).toInt32 = v) (kk : Z l D cl tys Ts Nw own nm cc nL ret R b Fi k n N σ (pc + 2) lv (.int v :: st)) : Z l D cl tys Ts Nw own nm cc nL ret R b Fi k n N σ pc lv (st) := fun p e s m args below meth c H locs ls hF hP hS hl => lv_bipush hF.1 hF.2.1 hd hv (kk p e s m args below meth c H locs ls hF hP hS hl)
theorem z_sipush {i : Int} {v : Int32} (hd : decode cc pc = .ok (.sipush i, 3)) (hv : (Int16.ofInt i).toInt32 = v) (kk : Z l D cl tys Ts Nw own nm cc nL ret R b Fi k n N σ (pc + 3) lv (.int v :: st)) : Z l D cl tys Ts Nw own nm cc nL ret R b Fi k n N σ pc lv (st) := fun p e s m args below meth c H locs ls hF hP hS hl => lv_sipush hF.1 hF.2.1 hd hv (kk p e s m args below meth c H locs ls hF hP hS hl)
theorem z_lconst {i : Fin 2} {v : Int64} (hd : decode cc pc = .ok (.lconst i, 1)) (hv : Int64.ofNat (i : Nat) = v) (kk : Z l D cl tys Ts Nw own nm cc nL ret R b Fi k n N σ (pc + 1) lv (.long v :: st)) : Z l D cl tys Ts Nw own nm cc nL ret R b Fi k n N σ pc lv (st) := fun p e s m args below meth c H locs ls hF hP hS hl => lv_lconst hF.1 hF.2.1 hd hv (kk p e s m args below meth c H locs ls hF hP hS hl)
theorem z_ldc {index : Nat} {v : Int32} (hd : decode cc pc = .ok (.ldc index, 2)) (hw : Jvm.Cond.constant own index v ∈ Ts) (kk : Z l D cl tys Ts Nw own nm cc nL ret R b Fi k n N σ (pc + 2) lv (.int v :: st)) : Z l D cl tys Ts Nw own nm cc nL ret R b Fi k n N σ pc lv (st) := fun p e s m args below meth c H locs ls hF hP hS hl => lv_ldc hF.1 hF.2.1 hF.2.2.2.2.2.1 (hF.2.2.2.2.2.2.1 _ hw) hd (kk p e s m args below meth c H locs ls hF hP hS hl)
theorem z_ldc2 {index : Nat} {v : Int64} (hd : decode cc pc = .ok (.ldc2_w index, 3)) (hw : Jvm.Cond.constantLong own index v ∈ Ts) (kk : Z l D cl tys Ts Nw own nm cc nL ret R b Fi k n N σ (pc + 3) lv (.long v :: st)) : Z l D cl tys Ts Nw own nm cc nL ret R b Fi k n N σ pc lv (st) := fun p e s m args below meth c H locs ls hF hP hS hl => lv_ldc2 hF.1 hF.2.1 hF.2.2.2.2.2.1 (hF.2.2.2.2.2.2.1 _ hw) hd (kk p e s m args below meth c H locs ls hF hP hS hl)
theorem z_iload_n {i : Fin 4} {v : Int32} (hd : decode cc pc = .ok (.iload_n i, 1)) (j : Nat) (hj : lv[j]? = some ((i : Nat), .int v)) (kk : Z l D cl tys Ts Nw own nm cc nL ret R b Fi k n N σ (pc + 1) lv (.int v :: st)) : Z l D cl tys Ts Nw own nm cc nL ret R b Fi k n N σ pc lv (st) := fun p e s m args below meth c H locs ls hF hP hS hl => lv_iload_n hF.1 hF.2.1 hd rfl (lv_at hl j hj) (kk p e s m args below meth c H locs ls hF hP hS hl)
theorem z_iload {i : Nat} {v : Int32} (hd : decode cc pc = .ok (.iload i, 2)) (j : Nat) (hj : lv[j]? = some (i, .int v)) (kk : Z l D cl tys Ts Nw own nm cc nL ret R b Fi k n N σ (pc + 2) lv (.int v :: st)) : Z l D cl tys Ts Nw own nm cc nL ret R b Fi k n N σ pc lv (st) := fun p e s m args below meth c H locs ls hF hP hS hl => lv_iload hF.1 hF.2.1 hd (lv_at hl j hj) (kk p e s m args below meth c H locs ls hF hP hS hl)
theorem z_lload_n {i : Fin 4} {v : Int64} (hd : decode cc pc = .ok (.lload_n i, 1)) (j : Nat) (hj : lv[j]? = some ((i : Nat), .long v)) (kk : Z l D cl tys Ts Nw own nm cc nL ret R b Fi k n N σ (pc + 1) lv (.long v :: st)) : Z l D cl tys Ts Nw own nm cc nL ret R b Fi k n N σ pc lv (st) := fun p e s m args below meth c H locs ls hF hP hS hl => lv_lload_n hF.1 hF.2.1 hd rfl (lv_at hl j hj) (kk p e s m args below meth c H locs ls hF hP hS hl)
theorem z_lload {i : Nat} {v : Int64} (hd : decode cc pc = .ok (.lload i, 2)) (j : Nat) (hj : lv[j]? = some (i, .long v)) (kk : Z l D cl tys Ts Nw own nm cc nL ret R b Fi k n N σ (pc + 2) lv (.long v :: st)) : Z l D cl tys Ts Nw own nm cc nL ret R b Fi k n N σ pc lv (st) := fun p e s m args below meth c H locs ls hF hP hS hl => lv_lload hF.1 hF.2.1 hd (lv_at hl j hj) (kk p e s m args below meth c H locs ls hF hP hS hl)
theorem z_aload_n {i : Fin 4} {v : Nat} (hd : decode cc pc = .ok (.aload_n i, 1)) (j : Nat) (hj : lv[j]? = some ((i : Nat), .ref v)) (kk : Z l D cl tys Ts Nw own nm cc nL ret R b Fi k n N σ (pc + 1) lv (.ref v :: st)) : Z l D cl tys Ts Nw own nm cc nL ret R b Fi k n N σ pc lv (st) := fun p e s m args below meth c H locs ls hF hP hS hl => lv_aload_n hF.1 hF.2.1 hd rfl (lv_at hl j hj) (kk p e s m args below meth c H locs ls hF hP hS hl)
theorem z_aload {i : Nat} {v : Nat} (hd : decode cc pc = .ok (.aload i, 2)) (j : Nat) (hj : lv[j]? = some (i, .ref v)) (kk : Z l D cl tys Ts Nw own nm cc nL ret R b Fi k n N σ (pc + 2) lv (.ref v :: st)) : Z l D cl tys Ts Nw own nm cc nL ret R b Fi k n N σ pc lv (st) := fun p e s m args below meth c H locs ls hF hP hS hl => lv_aload hF.1 hF.2.1 hd (lv_at hl j hj) (kk p e s m args below meth c H locs ls hF hP hS hl)
theorem z_istore_n {i : Fin 4} {v : Int32} {lv' : List (Nat × Value)} (hd : decode cc pc = .ok (.istore_n i, 1)) (hn : (i : Nat) < nL) (hl' : ((i : Nat), Value.int v) :: lv.filter (fun q => !(q.1 == (i : Nat)) && !(q.1 + 1 == (i : Nat) && q.2.category == 2)) = lv') (kk : Z l D cl tys Ts Nw own nm cc nL ret R b Fi k n N σ (pc + 1) lv' st) : Z l D cl tys Ts Nw own nm cc nL ret R b Fi k n N σ pc lv (.int v :: st) := fun p e s m args below meth c H locs ls hF hP hS hl => lv_istore_n hF.1 hF.2.1 hd rfl hl hn hl' (fun ls2 hl2 => kk p e s m args below meth c H locs ls2 hF hP hS hl2)
theorem z_istore {i : Nat} {v : Int32} {lv' : List (Nat × Value)} (hd : decode cc pc = .ok (.istore i, 2)) (hn : i < nL) (hl' : (i, Value.int v) :: lv.filter (fun q => !(q.1 == i) && !(q.1 + 1 == i && q.2.category == 2)) = lv') (kk : Z l D cl tys Ts Nw own nm cc nL ret R b Fi k n N σ (pc + 2) lv' st) : Z l D cl tys Ts Nw own nm cc nL ret R b Fi k n N σ pc lv (.int v :: st) := fun p e s m args below meth c H locs ls hF hP hS hl => lv_istore hF.1 hF.2.1 hd hl hn hl' (fun ls2 hl2 => kk p e s m args below meth c H locs ls2 hF hP hS hl2)
theorem z_lstore_n {i : Fin 4} {v : Int64} {lv' : List (Nat × Value)} (hd : decode cc pc = .ok (.lstore_n i, 1)) (hn : (i : Nat) + 1 < nL) (hl' : ((i : Nat), Value.long v) :: lv.filter (fun q => !(q.1 == (i : Nat)) && (!(q.1 == (i : Nat) + 1) && !(q.1 + 1 == (i : Nat) && q.2.category == 2))) = lv') (kk : Z l D cl tys Ts Nw own nm cc nL ret R b Fi k n N σ (pc + 1) lv' st) : Z l D cl tys Ts Nw own nm cc nL ret R b Fi k n N σ pc lv (.long v :: st) := fun p e s m args below meth c H locs ls hF hP hS hl => lv_lstore_n hF.1 hF.2.1 hd rfl hl hn hl' (fun ls2 hl2 => kk p e s m args below meth c H locs ls2 hF hP hS hl2)
theorem z_lstore {i : Nat} {v : Int64} {lv' : List (Nat × Value)} (hd : decode cc pc = .ok (.lstore i, 2)) (hn : i + 1 < nL) (hl' : (i, Value.long v) :: lv.filter (fun q => !(q.1 == i) && (!(q.1 == i + 1) && !(q.1 + 1 == i && q.2.category == 2))) = lv') (kk : Z l D cl tys Ts Nw own nm cc nL ret R b Fi k n N σ (pc + 2) lv' st) : Z l D cl tys Ts Nw own nm cc nL ret R b Fi k n N σ pc lv (.long v :: st) := fun p e s m args below meth c H locs ls hF hP hS hl => lv_lstore hF.1 hF.2.1 hd hl hn hl' (fun ls2 hl2 => kk p e s m args below meth c H locs ls2 hF hP hS hl2)
theorem z_astore_n {i : Fin 4} {v : Nat} {lv' : List (Nat × Value)} (hd : decode cc pc = .ok (.astore_n i, 1)) (hn : (i : Nat) < nL) (hl' : ((i : Nat), Value.ref v) :: lv.filter (fun q => !(q.1 == (i : Nat)) && !(q.1 + 1 == (i : Nat) && q.2.category == 2)) = lv') (kk : Z l D cl tys Ts Nw own nm cc nL ret R b Fi k n N σ (pc + 1) lv' st) : Z l D cl tys Ts Nw own nm cc nL ret R b Fi k n N σ pc lv (.ref v :: st) := fun p e s m args below meth c H locs ls hF hP hS hl => lv_astore_n hF.1 hF.2.1 hd rfl hl hn hl' (fun ls2 hl2 => kk p e s m args below meth c H locs ls2 hF hP hS hl2)
theorem z_astore {i : Nat} {v : Nat} {lv' : List (Nat × Value)} (hd : decode cc pc = .ok (.astore i, 2)) (hn : i < nL) (hl' : (i, Value.ref v) :: lv.filter (fun q => !(q.1 == i) && !(q.1 + 1 == i && q.2.category == 2)) = lv') (kk : Z l D cl tys Ts Nw own nm cc nL ret R b Fi k n N σ (pc + 2) lv' st) : Z l D cl tys Ts Nw own nm cc nL ret R b Fi k n N σ pc lv (.ref v :: st) := fun p e s m args below meth c H locs ls hF hP hS hl => lv_astore hF.1 hF.2.1 hd hl hn hl' (fun ls2 hl2 => kk p e s m args below meth c H locs ls2 hF hP hS hl2)
theorem z_iinc {i : Nat} {d : Int} {x v : Int32} {lv' : List (Nat × Value)} (hd : decode cc pc = .ok (.iinc i d, 3)) (j : Nat) (hj : lv[j]? = some (i, .int x)) (hv : x + Int32.ofInt d = v) (hn : i < nL) (hl' : (i, Value.int v) :: lv.filter (fun q => !(q.1 == i) && !(q.1 + 1 == i && q.2.category == 2)) = lv') (kk : Z l D cl tys Ts Nw own nm cc nL ret R b Fi k n N σ (pc + 3) lv' st) : Z l D cl tys Ts Nw own nm cc nL ret R b Fi k n N σ pc lv st := fun p e s m args below meth c H locs ls hF hP hS hl => lv_iinc hF.1 hF.2.1 hd hl (k := j) hj hv hn hl' (fun ls2 hl2 => kk p e s m args below meth c H locs ls2 hF hP hS hl2)
theorem z_iadd {x y : Int32} (hd : decode cc pc = .ok (.iadd, 1)) (kk : Z l D cl tys Ts Nw own nm cc nL ret R b Fi k n N σ (pc + 1) lv (.int (x + y) :: st)) : Z l D cl tys Ts Nw own nm cc nL ret R b Fi k n N σ pc lv (.int y :: .int x :: st) := fun p e s m args below meth c H locs ls hF hP hS hl => lv_iadd hF.1 hF.2.1 hd (kk p e s m args below meth c H locs ls hF hP hS hl)
theorem z_isub {x y : Int32} (hd : decode cc pc = .ok (.isub, 1)) (kk : Z l D cl tys Ts Nw own nm cc nL ret R b Fi k n N σ (pc + 1) lv (.int (x - y) :: st)) : Z l D cl tys Ts Nw own nm cc nL ret R b Fi k n N σ pc lv (.int y :: .int x :: st) := fun p e s m args below meth c H locs ls hF hP hS hl => lv_isub hF.1 hF.2.1 hd (kk p e s m args below meth c H locs ls hF hP hS hl)
theorem z_imul {x y : Int32} (hd : decode cc pc = .ok (.imul, 1)) (kk : Z l D cl tys Ts Nw own nm cc nL ret R b Fi k n N σ (pc + 1) lv (.int (x * y) :: st)) : Z l D cl tys Ts Nw own nm cc nL ret R b Fi k n N σ pc lv (.int y :: .int x :: st) := fun p e s m args below meth c H locs ls hF hP hS hl => lv_imul hF.1 hF.2.1 hd (kk p e s m args below meth c H locs ls hF hP hS hl)
theorem z_iand {x y : Int32} (hd : decode cc pc = .ok (.iand, 1)) (kk : Z l D cl tys Ts Nw own nm cc nL ret R b Fi k n N σ (pc + 1) lv (.int (x &&& y) :: st)) : Z l D cl tys Ts Nw own nm cc nL ret R b Fi k n N σ pc lv (.int y :: .int x :: st) := fun p e s m args below meth c H locs ls hF hP hS hl => lv_iand hF.1 hF.2.1 hd (kk p e s m args below meth c H locs ls hF hP hS hl)
theorem z_ior {x y : Int32} (hd : decode cc pc = .ok (.ior, 1)) (kk : Z l D cl tys Ts Nw own nm cc nL ret R b Fi k n N σ (pc + 1) lv (.int (x ||| y) :: st)) : Z l D cl tys Ts Nw own nm cc nL ret R b Fi k n N σ pc lv (.int y :: .int x :: st) := fun p e s m args below meth c H locs ls hF hP hS hl => lv_ior hF.1 hF.2.1 hd (kk p e s m args below meth c H locs ls hF hP hS hl)
theorem z_ixor {x y : Int32} (hd : decode cc pc = .ok (.ixor, 1)) (kk : Z l D cl tys Ts Nw own nm cc nL ret R b Fi k n N σ (pc + 1) lv (.int (x ^^^ y) :: st)) : Z l D cl tys Ts Nw own nm cc nL ret R b Fi k n N σ pc lv (.int y :: .int x :: st) := fun p e s m args below meth c H locs ls hF hP hS hl => lv_ixor hF.1 hF.2.1 hd (kk p e s m args below meth c H locs ls hF hP hS hl)
theorem z_ishl {x y : Int32} (hd : decode cc pc = .ok (.ishl, 1)) (kk : Z l D cl tys Ts Nw own nm cc nL ret R b Fi k n N σ (pc + 1) lv (.int (x <<< (y &&& 31)) :: st)) : Z l D cl tys Ts Nw own nm cc nL ret R b Fi k n N σ pc lv (.int y :: .int x :: st) := fun p e s m args below meth c H locs ls hF hP hS hl => lv_ishl hF.1 hF.2.1 hd (kk p e s m args below meth c H locs ls hF hP hS hl)
theorem z_ishr {x y : Int32} (hd : decode cc pc = .ok (.ishr, 1)) (kk : Z l D cl tys Ts Nw own nm cc nL ret R b Fi k n N σ (pc + 1) lv (.int (x >>> (y &&& 31)) :: st)) : Z l D cl tys Ts Nw own nm cc nL ret R b Fi k n N σ pc lv (.int y :: .int x :: st) := fun p e s m args below meth c H locs ls hF hP hS hl => lv_ishr hF.1 hF.2.1 hd (kk p e s m args below meth c H locs ls hF hP hS hl)
theorem z_idiv {x y : Int32} (hd : decode cc pc = .ok (.idiv, 1)) (hne : ¬ y = 0) (kk : Z l D cl tys Ts Nw own nm cc nL ret R b Fi k n N σ (pc + 1) lv (.int (x / y) :: st)) : Z l D cl tys Ts Nw own nm cc nL ret R b Fi k n N σ pc lv (.int y :: .int x :: st) := fun p e s m args below meth c H locs ls hF hP hS hl => lv_idiv hF.1 hF.2.1 hd hne (kk p e s m args below meth c H locs ls hF hP hS hl)
theorem z_irem {x y : Int32} (hd : decode cc pc = .ok (.irem, 1)) (hne : ¬ y = 0) (kk : Z l D cl tys Ts Nw own nm cc nL ret R b Fi k n N σ (pc + 1) lv (.int (x - x / y * y) :: st)) : Z l D cl tys Ts Nw own nm cc nL ret R b Fi k n N σ pc lv (.int y :: .int x :: st) := fun p e s m args below meth c H locs ls hF hP hS hl => lv_irem hF.1 hF.2.1 hd hne (kk p e s m args below meth c H locs ls hF hP hS hl)
theorem z_iushr {x y : Int32} (hd : decode cc pc = .ok (.iushr, 1)) (kk : Z l D cl tys Ts Nw own nm cc nL ret R b Fi k n N σ (pc + 1) lv (.int ((x.toUInt32 >>> (y.toUInt32 &&& Int32.toUInt32 31)).toInt32) :: st)) : Z l D cl tys Ts Nw own nm cc nL ret R b Fi k n N σ pc lv (.int y :: .int x :: st) := fun p e s m args below meth c H locs ls hF hP hS hl => lv_iushr hF.1 hF.2.1 hd rfl (kk p e s m args below meth c H locs ls hF hP hS hl)
theorem z_ineg {x : Int32} (hd : decode cc pc = .ok (.ineg, 1)) (kk : Z l D cl tys Ts Nw own nm cc nL ret R b Fi k n N σ (pc + 1) lv (.int (-x) :: st)) : Z l D cl tys Ts Nw own nm cc nL ret R b Fi k n N σ pc lv (.int x :: st) := fun p e s m args below meth c H locs ls hF hP hS hl => lv_ineg hF.1 hF.2.1 hd (kk p e s m args below meth c H locs ls hF hP hS hl)
theorem z_ladd {x y : Int64} (hd : decode cc pc = .ok (.ladd, 1)) (kk : Z l D cl tys Ts Nw own nm cc nL ret R b Fi k n N σ (pc + 1) lv (.long (x + y) :: st)) : Z l D cl tys Ts Nw own nm cc nL ret R b Fi k n N σ pc lv (.long y :: .long x :: st) := fun p e s m args below meth c H locs ls hF hP hS hl => lv_ladd hF.1 hF.2.1 hd (kk p e s m args below meth c H locs ls hF hP hS hl)
theorem z_lsub {x y : Int64} (hd : decode cc pc = .ok (.lsub, 1)) (kk : Z l D cl tys Ts Nw own nm cc nL ret R b Fi k n N σ (pc + 1) lv (.long (x - y) :: st)) : Z l D cl tys Ts Nw own nm cc nL ret R b Fi k n N σ pc lv (.long y :: .long x :: st) := fun p e s m args below meth c H locs ls hF hP hS hl => lv_lsub hF.1 hF.2.1 hd (kk p e s m args below meth c H locs ls hF hP hS hl)
theorem z_lmul {x y : Int64} (hd : decode cc pc = .ok (.lmul, 1)) (kk : Z l D cl tys Ts Nw own nm cc nL ret R b Fi k n N σ (pc + 1) lv (.long (x * y) :: st)) : Z l D cl tys Ts Nw own nm cc nL ret R b Fi k n N σ pc lv (.long y :: .long x :: st) := fun p e s m args below meth c H locs ls hF hP hS hl => lv_lmul hF.1 hF.2.1 hd (kk p e s m args below meth c H locs ls hF hP hS hl)
theorem z_land {x y : Int64} (hd : decode cc pc = .ok (.land, 1)) (kk : Z l D cl tys Ts Nw own nm cc nL ret R b Fi k n N σ (pc + 1) lv (.long (x &&& y) :: st)) : Z l D cl tys Ts Nw own nm cc nL ret R b Fi k n N σ pc lv (.long y :: .long x :: st) := fun p e s m args below meth c H locs ls hF hP hS hl => lv_land hF.1 hF.2.1 hd (kk p e s m args below meth c H locs ls hF hP hS hl)
theorem z_lor {x y : Int64} (hd : decode cc pc = .ok (.lor, 1)) (kk : Z l D cl tys Ts Nw own nm cc nL ret R b Fi k n N σ (pc + 1) lv (.long (x ||| y) :: st)) : Z l D cl tys Ts Nw own nm cc nL ret R b Fi k n N σ pc lv (.long y :: .long x :: st) := fun p e s m args below meth c H locs ls hF hP hS hl => lv_lor hF.1 hF.2.1 hd (kk p e s m args below meth c H locs ls hF hP hS hl)
theorem z_lxor {x y : Int64} (hd : decode cc pc = .ok (.lxor, 1)) (kk : Z l D cl tys Ts Nw own nm cc nL ret R b Fi k n N σ (pc + 1) lv (.long (x ^^^ y) :: st)) : Z l D cl tys Ts Nw own nm cc nL ret R b Fi k n N σ pc lv (.long y :: .long x :: st) := fun p e s m args below meth c H locs ls hF hP hS hl => lv_lxor hF.1 hF.2.1 hd (kk p e s m args below meth c H locs ls hF hP hS hl)
theorem z_ldiv {x y : Int64} (hd : decode cc pc = .ok (.ldiv, 1)) (hne : ¬ y = 0) (kk : Z l D cl tys Ts Nw own nm cc nL ret R b Fi k n N σ (pc + 1) lv (.long (x / y) :: st)) : Z l D cl tys Ts Nw own nm cc nL ret R b Fi k n N σ pc lv (.long y :: .long x :: st) := fun p e s m args below meth c H locs ls hF hP hS hl => lv_ldiv hF.1 hF.2.1 hd hne (kk p e s m args below meth c H locs ls hF hP hS hl)
theorem z_lrem {x y : Int64} (hd : decode cc pc = .ok (.lrem, 1)) (hne : ¬ y = 0) (kk : Z l D cl tys Ts Nw own nm cc nL ret R b Fi k n N σ (pc + 1) lv (.long (x - x / y * y) :: st)) : Z l D cl tys Ts Nw own nm cc nL ret R b Fi k n N σ pc lv (.long y :: .long x :: st) := fun p e s m args below meth c H locs ls hF hP hS hl => lv_lrem hF.1 hF.2.1 hd hne (kk p e s m args below meth c H locs ls hF hP hS hl)
theorem z_lneg {x : Int64} (hd : decode cc pc = .ok (.lneg, 1)) (kk : Z l D cl tys Ts Nw own nm cc nL ret R b Fi k n N σ (pc + 1) lv (.long (-x) :: st)) : Z l D cl tys Ts Nw own nm cc nL ret R b Fi k n N σ pc lv (.long x :: st) := fun p e s m args below meth c H locs ls hF hP hS hl => lv_lneg hF.1 hF.2.1 hd (kk p e s m args below meth c H locs ls hF hP hS hl)
theorem z_lshl {x : Int64} {y : Int32} (hd : decode cc pc = .ok (.lshl, 1)) (kk : Z l D cl tys Ts Nw own nm cc nL ret R b Fi k n N σ (pc + 1) lv (.long (x <<< (y.toInt64 &&& 63)) :: st)) : Z l D cl tys Ts Nw own nm cc nL ret R b Fi k n N σ pc lv (.int y :: .long x :: st) := fun p e s m args below meth c H locs ls hF hP hS hl => lv_lshl hF.1 hF.2.1 hd rfl (kk p e s m args below meth c H locs ls hF hP hS hl)
theorem z_lshr {x : Int64} {y : Int32} (hd : decode cc pc = .ok (.lshr, 1)) (kk : Z l D cl tys Ts Nw own nm cc nL ret R b Fi k n N σ (pc + 1) lv (.long (x >>> (y.toInt64 &&& 63)) :: st)) : Z l D cl tys Ts Nw own nm cc nL ret R b Fi k n N σ pc lv (.int y :: .long x :: st) := fun p e s m args below meth c H locs ls hF hP hS hl => lv_lshr hF.1 hF.2.1 hd rfl (kk p e s m args below meth c H locs ls hF hP hS hl)
theorem z_lushr {x : Int64} {y : Int32} (hd : decode cc pc = .ok (.lushr, 1)) (kk : Z l D cl tys Ts Nw own nm cc nL ret R b Fi k n N σ (pc + 1) lv (.long ((x.toUInt64 >>> (y.toInt64.toUInt64 &&& Int64.toUInt64 63)).toInt64) :: st)) : Z l D cl tys Ts Nw own nm cc nL ret R b Fi k n N σ pc lv (.int y :: .long x :: st) := fun p e s m args below meth c H locs ls hF hP hS hl => lv_lushr hF.1 hF.2.1 hd rfl (kk p e s m args below meth c H locs ls hF hP hS hl)
theorem z_i2l {x : Int32} (hd : decode cc pc = .ok (.i2l, 1)) (kk : Z l D cl tys Ts Nw own nm cc nL ret R b Fi k n N σ (pc + 1) lv (.long x.toInt64 :: st)) : Z l D cl tys Ts Nw own nm cc nL ret R b Fi k n N σ pc lv (.int x :: st) := fun p e s m args below meth c H locs ls hF hP hS hl => lv_i2l hF.1 hF.2.1 hd rfl (kk p e s m args below meth c H locs ls hF hP hS hl)
theorem z_l2i {x : Int64} (hd : decode cc pc = .ok (.l2i, 1)) (kk : Z l D cl tys Ts Nw own nm cc nL ret R b Fi k n N σ (pc + 1) lv (.int x.toInt32 :: st)) : Z l D cl tys Ts Nw own nm cc nL ret R b Fi k n N σ pc lv (.long x :: st) := fun p e s m args below meth c H locs ls hF hP hS hl => lv_l2i hF.1 hF.2.1 hd rfl (kk p e s m args below meth c H locs ls hF hP hS hl)
theorem z_lcmp {x y : Int64} (hd : decode cc pc = .ok (.lcmp, 1)) (kk : Z l D cl tys Ts Nw own nm cc nL ret R b Fi k n N σ (pc + 1) lv (.int (lg_cmp x y) :: st)) : Z l D cl tys Ts Nw own nm cc nL ret R b Fi k n N σ pc lv (.long y :: .long x :: st) := fun p e s m args below meth c H locs ls hF hP hS hl => W.lcmp hF.1 hF.2.1 hd (kk p e s m args below meth c H locs ls hF hP hS hl)
theorem z_dup {va : Value} (hd : decode cc pc = .ok (.dup, 1)) (hva : va.category = 1) (kk : Z l D cl tys Ts Nw own nm cc nL ret R b Fi k n N σ (pc + 1) lv (va :: va :: st)) : Z l D cl tys Ts Nw own nm cc nL ret R b Fi k n N σ pc lv (va :: st) := fun p e s m args below meth c H locs ls hF hP hS hl => lv_dup hF.1 hF.2.1 hd hva (kk p e s m args below meth c H locs ls hF hP hS hl)
theorem z_pop {va : Value} (hd : decode cc pc = .ok (.pop, 1)) (hva : va.category = 1) (kk : Z l D cl tys Ts Nw own nm cc nL ret R b Fi k n N σ (pc + 1) lv (st)) : Z l D cl tys Ts Nw own nm cc nL ret R b Fi k n N σ pc lv (va :: st) := fun p e s m args below meth c H locs ls hF hP hS hl => lv_pop hF.1 hF.2.1 hd hva (kk p e s m args below meth c H locs ls hF hP hS hl)
theorem z_dup_x1 {va : Value} {vb : Value} (hd : decode cc pc = .ok (.dup_x1, 1)) (hva : va.category = 1) (hvb : vb.category = 1) (kk : Z l D cl tys Ts Nw own nm cc nL ret R b Fi k n N σ (pc + 1) lv (va :: vb :: va :: st)) : Z l D cl tys Ts Nw own nm cc nL ret R b Fi k n N σ pc lv (va :: vb :: st) := fun p e s m args below meth c H locs ls hF hP hS hl => lv_dup_x1 hF.1 hF.2.1 hd hva hvb (kk p e s m args below meth c H locs ls hF hP hS hl)
theorem z_dup_x2 {va : Value} {vb : Value} {vd : Value} (hd : decode cc pc = .ok (.dup_x2, 1)) (hva : va.category = 1) (hvb : vb.category = 1) (hvd : vd.category = 1) (kk : Z l D cl tys Ts Nw own nm cc nL ret R b Fi k n N σ (pc + 1) lv (va :: vb :: vd :: va :: st)) : Z l D cl tys Ts Nw own nm cc nL ret R b Fi k n N σ pc lv (va :: vb :: vd :: st) := fun p e s m args below meth c H locs ls hF hP hS hl => lv_dup_x2 hF.1 hF.2.1 hd hva hvb hvd (kk p e s m args below meth c H locs ls hF hP hS hl)
theorem z_dup2_11 {va : Value} {vb : Value} (hd : decode cc pc = .ok (.dup2, 1)) (hva : va.category = 1) (hvb : vb.category = 1) (kk : Z l D cl tys Ts Nw own nm cc nL ret R b Fi k n N σ (pc + 1) lv (va :: vb :: va :: vb :: st)) : Z l D cl tys Ts Nw own nm cc nL ret R b Fi k n N σ pc lv (va :: vb :: st) := fun p e s m args below meth c H locs ls hF hP hS hl => lv_dup2_11 hF.1 hF.2.1 hd hva hvb (kk p e s m args below meth c H locs ls hF hP hS hl)
theorem z_dup2_2 {va : Value} (hd : decode cc pc = .ok (.dup2, 1)) (hva : va.category = 2) (kk : Z l D cl tys Ts Nw own nm cc nL ret R b Fi k n N σ (pc + 1) lv (va :: va :: st)) : Z l D cl tys Ts Nw own nm cc nL ret R b Fi k n N σ pc lv (va :: st) := fun p e s m args below meth c H locs ls hF hP hS hl => lv_dup2_2 hF.1 hF.2.1 hd hva (kk p e s m args below meth c H locs ls hF hP hS hl)
theorem z_pop2_2 {va : Value} (hd : decode cc pc = .ok (.pop2, 1)) (hva : va.category = 2) (kk : Z l D cl tys Ts Nw own nm cc nL ret R b Fi k n N σ (pc + 1) lv (st)) : Z l D cl tys Ts Nw own nm cc nL ret R b Fi k n N σ pc lv (va :: st) := fun p e s m args below meth c H locs ls hF hP hS hl => lv_pop2_2 hF.1 hF.2.1 hd hva (kk p e s m args below meth c H locs ls hF hP hS hl)
theorem z_dup2_x1_2 {va : Value} {vb : Value} (hd : decode cc pc = .ok (.dup2_x1, 1)) (hva : va.category = 2) (hvb : vb.category = 1) (kk : Z l D cl tys Ts Nw own nm cc nL ret R b Fi k n N σ (pc + 1) lv (va :: vb :: va :: st)) : Z l D cl tys Ts Nw own nm cc nL ret R b Fi k n N σ pc lv (va :: vb :: st) := fun p e s m args below meth c H locs ls hF hP hS hl => lv_dup2_x1_2 hF.1 hF.2.1 hd hva hvb (kk p e s m args below meth c H locs ls hF hP hS hl)
theorem z_dup2_x2_2 {va : Value} {vb : Value} {vd : Value} (hd : decode cc pc = .ok (.dup2_x2, 1)) (hva : va.category = 2) (hvb : vb.category = 1) (hvd : vd.category = 1) (kk : Z l D cl tys Ts Nw own nm cc nL ret R b Fi k n N σ (pc + 1) lv (va :: vb :: vd :: va :: st)) : Z l D cl tys Ts Nw own nm cc nL ret R b Fi k n N σ pc lv (va :: vb :: vd :: st) := fun p e s m args below meth c H locs ls hF hP hS hl => lv_dup2_x2_2 hF.1 hF.2.1 hd hva hvb hvd (kk p e s m args below meth c H locs ls hF hP hS hl)
theorem z_if_eq {x : Int32} {off : Int} {tgt : Nat} (hd : decode cc pc = .ok (.ifCond .eq off, 3)) (ht : (pc : Int) + off = (tgt : Int)) (kt : x = 0 → Z l D cl tys Ts Nw own nm cc nL ret R b Fi k n N σ tgt lv st) (kf : ¬ x = 0 → Z l D cl tys Ts Nw own nm cc nL ret R b Fi k n N σ (pc + 3) lv st) : Z l D cl tys Ts Nw own nm cc nL ret R b Fi k n N σ pc lv (.int x :: st) := fun p e s m args below meth c H locs ls hF hP hS hl => lv_if_eq hF.1 hF.2.1 hd ht (fun q => kt q p e s m args below meth c H locs ls hF hP hS hl) (fun q => kf q p e s m args below meth c H locs ls hF hP hS hl)
theorem z_if_ne {x : Int32} {off : Int} {tgt : Nat} (hd : decode cc pc = .ok (.ifCond .ne off, 3)) (ht : (pc : Int) + off = (tgt : Int)) (kt : ¬ x = 0 → Z l D cl tys Ts Nw own nm cc nL ret R b Fi k n N σ tgt lv st) (kf : x = 0 → Z l D cl tys Ts Nw own nm cc nL ret R b Fi k n N σ (pc + 3) lv st) : Z l D cl tys Ts Nw own nm cc nL ret R b Fi k n N σ pc lv (.int x :: st) := fun p e s m args below meth c H locs ls hF hP hS hl => lv_if_ne hF.1 hF.2.1 hd ht (fun q => kt q p e s m args below meth c H locs ls hF hP hS hl) (fun q => kf q p e s m args below meth c H locs ls hF hP hS hl)
theorem z_if_lt {x : Int32} {off : Int} {tgt : Nat} (hd : decode cc pc = .ok (.ifCond .lt off, 3)) (ht : (pc : Int) + off = (tgt : Int)) (kt : x < 0 → Z l D cl tys Ts Nw own nm cc nL ret R b Fi k n N σ tgt lv st) (kf : ¬ x < 0 → Z l D cl tys Ts Nw own nm cc nL ret R b Fi k n N σ (pc + 3) lv st) : Z l D cl tys Ts Nw own nm cc nL ret R b Fi k n N σ pc lv (.int x :: st) := fun p e s m args below meth c H locs ls hF hP hS hl => lv_if_lt hF.1 hF.2.1 hd ht (fun q => kt q p e s m args below meth c H locs ls hF hP hS hl) (fun q => kf q p e s m args below meth c H locs ls hF hP hS hl)
theorem z_if_ge {x : Int32} {off : Int} {tgt : Nat} (hd : decode cc pc = .ok (.ifCond .ge off, 3)) (ht : (pc : Int) + off = (tgt : Int)) (kt : 0 ≤ x → Z l D cl tys Ts Nw own nm cc nL ret R b Fi k n N σ tgt lv st) (kf : ¬ 0 ≤ x → Z l D cl tys Ts Nw own nm cc nL ret R b Fi k n N σ (pc + 3) lv st) : Z l D cl tys Ts Nw own nm cc nL ret R b Fi k n N σ pc lv (.int x :: st) := fun p e s m args below meth c H locs ls hF hP hS hl => lv_if_ge hF.1 hF.2.1 hd ht (fun q => kt q p e s m args below meth c H locs ls hF hP hS hl) (fun q => kf q p e s m args below meth c H locs ls hF hP hS hl)
theorem z_if_gt {x : Int32} {off : Int} {tgt : Nat} (hd : decode cc pc = .ok (.ifCond .gt off, 3)) (ht : (pc : Int) + off = (tgt : Int)) (kt : 0 < x → Z l D cl tys Ts Nw own nm cc nL ret R b Fi k n N σ tgt lv st) (kf : ¬ 0 < x → Z l D cl tys Ts Nw own nm cc nL ret R b Fi k n N σ (pc + 3) lv st) : Z l D cl tys Ts Nw own nm cc nL ret R b Fi k n N σ pc lv (.int x :: st) := fun p e s m args below meth c H locs ls hF hP hS hl => lv_if_gt hF.1 hF.2.1 hd ht (fun q => kt q p e s m args below meth c H locs ls hF hP hS hl) (fun q => kf q p e s m args below meth c H locs ls hF hP hS hl)
theorem z_if_le {x : Int32} {off : Int} {tgt : Nat} (hd : decode cc pc = .ok (.ifCond .le off, 3)) (ht : (pc : Int) + off = (tgt : Int)) (kt : x ≤ 0 → Z l D cl tys Ts Nw own nm cc nL ret R b Fi k n N σ tgt lv st) (kf : ¬ x ≤ 0 → Z l D cl tys Ts Nw own nm cc nL ret R b Fi k n N σ (pc + 3) lv st) : Z l D cl tys Ts Nw own nm cc nL ret R b Fi k n N σ pc lv (.int x :: st) := fun p e s m args below meth c H locs ls hF hP hS hl => lv_if_le hF.1 hF.2.1 hd ht (fun q => kt q p e s m args below meth c H locs ls hF hP hS hl) (fun q => kf q p e s m args below meth c H locs ls hF hP hS hl)
theorem z_icmp_eq {x y : Int32} {off : Int} {tgt : Nat} (hd : decode cc pc = .ok (.if_icmp .eq off, 3)) (ht : (pc : Int) + off = (tgt : Int)) (kt : x = y → Z l D cl tys Ts Nw own nm cc nL ret R b Fi k n N σ tgt lv st) (kf : ¬ x = y → Z l D cl tys Ts Nw own nm cc nL ret R b Fi k n N σ (pc + 3) lv st) : Z l D cl tys Ts Nw own nm cc nL ret R b Fi k n N σ pc lv (.int y :: .int x :: st) := fun p e s m args below meth c H locs ls hF hP hS hl => lv_icmp_eq hF.1 hF.2.1 hd ht (fun q => kt q p e s m args below meth c H locs ls hF hP hS hl) (fun q => kf q p e s m args below meth c H locs ls hF hP hS hl)
theorem z_icmp_ne {x y : Int32} {off : Int} {tgt : Nat} (hd : decode cc pc = .ok (.if_icmp .ne off, 3)) (ht : (pc : Int) + off = (tgt : Int)) (kt : ¬ x = y → Z l D cl tys Ts Nw own nm cc nL ret R b Fi k n N σ tgt lv st) (kf : x = y → Z l D cl tys Ts Nw own nm cc nL ret R b Fi k n N σ (pc + 3) lv st) : Z l D cl tys Ts Nw own nm cc nL ret R b Fi k n N σ pc lv (.int y :: .int x :: st) := fun p e s m args below meth c H locs ls hF hP hS hl => lv_icmp_ne hF.1 hF.2.1 hd ht (fun q => kt q p e s m args below meth c H locs ls hF hP hS hl) (fun q => kf q p e s m args below meth c H locs ls hF hP hS hl)
theorem z_icmp_lt {x y : Int32} {off : Int} {tgt : Nat} (hd : decode cc pc = .ok (.if_icmp .lt off, 3)) (ht : (pc : Int) + off = (tgt : Int)) (kt : x < y → Z l D cl tys Ts Nw own nm cc nL ret R b Fi k n N σ tgt lv st) (kf : ¬ x < y → Z l D cl tys Ts Nw own nm cc nL ret R b Fi k n N σ (pc + 3) lv st) : Z l D cl tys Ts Nw own nm cc nL ret R b Fi k n N σ pc lv (.int y :: .int x :: st) := fun p e s m args below meth c H locs ls hF hP hS hl => lv_icmp_lt hF.1 hF.2.1 hd ht (fun q => kt q p e s m args below meth c H locs ls hF hP hS hl) (fun q => kf q p e s m args below meth c H locs ls hF hP hS hl)
theorem z_icmp_ge {x y : Int32} {off : Int} {tgt : Nat} (hd : decode cc pc = .ok (.if_icmp .ge off, 3)) (ht : (pc : Int) + off = (tgt : Int)) (kt : y ≤ x → Z l D cl tys Ts Nw own nm cc nL ret R b Fi k n N σ tgt lv st) (kf : ¬ y ≤ x → Z l D cl tys Ts Nw own nm cc nL ret R b Fi k n N σ (pc + 3) lv st) : Z l D cl tys Ts Nw own nm cc nL ret R b Fi k n N σ pc lv (.int y :: .int x :: st) := fun p e s m args below meth c H locs ls hF hP hS hl => lv_icmp_ge hF.1 hF.2.1 hd ht (fun q => kt q p e s m args below meth c H locs ls hF hP hS hl) (fun q => kf q p e s m args below meth c H locs ls hF hP hS hl)
theorem z_icmp_gt {x y : Int32} {off : Int} {tgt : Nat} (hd : decode cc pc = .ok (.if_icmp .gt off, 3)) (ht : (pc : Int) + off = (tgt : Int)) (kt : y < x → Z l D cl tys Ts Nw own nm cc nL ret R b Fi k n N σ tgt lv st) (kf : ¬ y < x → Z l D cl tys Ts Nw own nm cc nL ret R b Fi k n N σ (pc + 3) lv st) : Z l D cl tys Ts Nw own nm cc nL ret R b Fi k n N σ pc lv (.int y :: .int x :: st) := fun p e s m args below meth c H locs ls hF hP hS hl => lv_icmp_gt hF.1 hF.2.1 hd ht (fun q => kt q p e s m args below meth c H locs ls hF hP hS hl) (fun q => kf q p e s m args below meth c H locs ls hF hP hS hl)
theorem z_icmp_le {x y : Int32} {off : Int} {tgt : Nat} (hd : decode cc pc = .ok (.if_icmp .le off, 3)) (ht : (pc : Int) + off = (tgt : Int)) (kt : x ≤ y → Z l D cl tys Ts Nw own nm cc nL ret R b Fi k n N σ tgt lv st) (kf : ¬ x ≤ y → Z l D cl tys Ts Nw own nm cc nL ret R b Fi k n N σ (pc + 3) lv st) : Z l D cl tys Ts Nw own nm cc nL ret R b Fi k n N σ pc lv (.int y :: .int x :: st) := fun p e s m args below meth c H locs ls hF hP hS hl => lv_icmp_le hF.1 hF.2.1 hd ht (fun q => kt q p e s m args below meth c H locs ls hF hP hS hl) (fun q => kf q p e s m args below meth c H locs ls hF hP hS hl)
theorem z_goto {off : Int} {tgt : Nat} (hd : decode cc pc = .ok (.goto off, 3)) (ht : (pc : Int) + off = (tgt : Int)) (kk : Z l D cl tys Ts Nw own nm cc nL ret R b Fi k n N σ tgt lv st) : Z l D cl tys Ts Nw own nm cc nL ret R b Fi k n N σ pc lv st := fun p e s m args below meth c H locs ls hF hP hS hl => lv_goto hF.1 hF.2.1 hd ht (kk p e s m args below meth c H locs ls hF hP hS hl)
theorem z_tableOut {dflt lo hi : Int} {offs : Array Int} {len : Nat} {x : Int32} {tgt : Nat} (hd : decode cc pc = .ok (.tableswitch dflt lo hi offs, len)) (h : x.toInt < lo ∨ hi < x.toInt) (ht : (pc : Int) + dflt = (tgt : Int)) (kk : Z l D cl tys Ts Nw own nm cc nL ret R b Fi k n N σ tgt lv st) : Z l D cl tys Ts Nw own nm cc nL ret R b Fi k n N σ pc lv (.int x :: st) := fun p e s m args below meth c H locs ls hF hP hS hl => lv_tableOut hF.1 hF.2.1 hd h ht (kk p e s m args below meth c H locs ls hF hP hS hl)
theorem z_tableIn {dflt lo hi : Int} {offs : Array Int} {len : Nat} {x : Int32} {off : Int} {tgt : Nat} (hd : decode cc pc = .ok (.tableswitch dflt lo hi offs, len)) (h1 : ¬ x.toInt < lo) (h2 : ¬ hi < x.toInt) (ho : offs[(x.toInt - lo).toNat]? = some off) (ht : (pc : Int) + off = (tgt : Int)) (kk : Z l D cl tys Ts Nw own nm cc nL ret R b Fi k n N σ tgt lv st) : Z l D cl tys Ts Nw own nm cc nL ret R b Fi k n N σ pc lv (.int x :: st) := fun p e s m args below meth c H locs ls hF hP hS hl => lv_tableIn hF.1 hF.2.1 hd h1 h2 ho ht (kk p e s m args below meth c H locs ls hF hP hS hl)
theorem z_eq {σ' : Nat → Option va_E} {pc' : Nat} {lv' : List (Nat × Value)} {st' : List Value} (h1 : σ = σ') (h2 : pc = pc') (h3 : lv = lv') (h4 : st = st') (kk : Z l D cl tys Ts Nw own nm cc nL ret R b Fi k n N σ' pc' lv' st') : Z l D cl tys Ts Nw own nm cc nL ret R b Fi k n N σ pc lv st := by
  subst h1; subst h2; subst h3; subst h4; exact kk
theorem z_widen {k' n' : Nat} (h1 : k ≤ k') (h2 : n ≤ n') (kk : Z l D cl tys Ts Nw own nm cc nL ret R b Fi k' n' N σ pc lv st) : Z l D cl tys Ts Nw own nm cc nL ret R b Fi k n N σ pc lv st := fun p e s m args below meth c H locs ls hF hP hS hl => W.widen h1 h2 (kk p e s m args below meth c H locs ls hF hP hS hl)
/-- fewer listed locals, in any order -/
theorem z_pick {lv' : List (Nat × Value)} (ks : List Nat) (h : lv_pick lv ks = lv') (kk : Z l D cl tys Ts Nw own nm cc nL ret R b Fi k n N σ pc lv' st) : Z l D cl tys Ts Nw own nm cc nL ret R b Fi k n N σ pc lv st := fun p e s m args below meth c H locs ls hF hP hS hl => kk p e s m args below meth c H locs ls hF hP hS (lv_sub hl ks h)
/-- the field k of the class ci, by the pool index of a method of own -/
def zFd (cl : List vw_C) (Ts : List Cond) (own : String) (index ci k : Nat) : Prop := ∃ (C : String) (T : u_T) (N : Nat), cl[ci]? = some (C, T, N) ∧ (∀ w ∈ u_ws C T N, w ∈ Ts) ∧ Cond.fieldLink own index (T k).1 (T k).2.1 (T k).2.2.1 ∈ Ts ∧ k < N
theorem z_get {index ci i a : Nat} {fs : List Value} {v : Value} (hd : decode cc pc = .ok (.getfield index, 3)) (f : zFd cl Ts own index ci i) (hσ : σ a = some (.inr (ci, fs))) (hv : fs[i]? = some v) (kk : Z l D cl tys Ts Nw own nm cc nL ret R b Fi k n N σ (pc + 3) lv (v :: st)) : Z l D cl tys Ts Nw own nm cc nL ret R b Fi k n N σ pc lv (.ref (b + a) :: st) := by
  intro p e s m args below meth c H locs ls hF hP hS hl
  obtain ⟨C, T, N0, hc, hin, hlink, hk⟩ := f
  exact va_get hF.1 hF.2.1 hF.2.2.2.2.2.2.1 hin hF.2.2.2.2.2.1 hF.2.2.2.2.2.2.2.1 (hP.one hσ) 0 rfl hc i hk (hF.2.2.2.2.2.2.1 _ hlink) (fun _ h => h) hv hd (kk p e s m args below meth c H locs ls hF hP hS hl)
/-- the same field, when it may be written: not final, of the type ty -/
def zPd (cl : List vw_C) (Ts : List Cond) (own : String) (index ci k : Nat) (ty : FieldType) : Prop := ∃ (C : String) (T : u_T) (N : Nat) (ty0 : Nat → FieldType), cl[ci]? = some (C, T, N) ∧ (∀ w ∈ u_ws C T N, w ∈ Ts) ∧ Cond.fieldLink own index (T k).1 (T k).2.1 (T k).2.2.1 ∈ Ts ∧ k < N ∧ (∀ k, k < N → parseFieldDescriptor (T k).2.2.1 = some (ty0 k)) ∧ (∀ a, a < N → ∀ b, b < N → a ≠ b → (T a).2.1 ≠ (T b).2.1) ∧ (T k).2.2.2 = false ∧ parseFieldDescriptor (T k).2.2.1 = some ty
theorem z_put {index ci i a : Nat} {fs : List Value} {v : Value} {ty : FieldType} (hd : decode cc pc = .ok (.putfield index, 3)) (f : zPd cl Ts own index ci i ty) (hσ : σ a = some (.inr (ci, fs))) (hl' : i < fs.length) (hn : narrow ty v = v) (hfit : fits ty v = true) (kk : Z l D cl tys Ts Nw own nm cc nL ret R b Fi k n N (zUp σ a (.inr (ci, fs.set i v))) (pc + 3) lv st) : Z l D cl tys Ts Nw own nm cc nL ret R b Fi k n N σ pc lv (v :: .ref (b + a) :: st) := by
  intro p e s m args below meth c H locs ls hF hP hS hl
  obtain ⟨C, T, N0, ty0, hc, hin, hlink, hk, hty, hnm, hfin, hpd⟩ := f
  obtain ⟨hx, hb, hml, hr, hlocks, hown, hts, hK, hNw, hname, hbs⟩ := id hF
  have hap := va_apart (own := own) hts hin ty0 hty hnm hK hc
  obtain ⟨r, h1, cell, q1, q2, q3, q4⟩ := hP.2 a _ hσ
  have hr' : r = (C, T, N0) := Option.some.inj (h1.symm.trans hc)
  subst hr'
  obtain ⟨hS', hfc, kC, hkC, hkind⟩ := hK.1 ci _ hc
  obtain ⟨cf, kf, fi, fd, hi, hsl⟩ := hS' i hk
  have hlay := hts _ (hin _ (u_in_lay hk))
  unfold u_lay at hlay
  rw [if_neg (by rw [hfin]; decide)] at hlay
  have hst := (u_facts hfc hkC (u_lays hts hin hk) hi).1
  have h6 := u_store hfc hkC hkind hlay hi hpd hn hfit
  refine W.putK hx hb (f := fd) ⟨hown, hts _ hlink, ⟨_, _, _, hi⟩, hst⟩ (by rw [q2]; exact h6) q1 q3 (by rw [hsl]; exact k2_hasslot (q4 i hk)) rfl rfl hd fun H' e1 e2 e3 => ?_
  rw [hsl] at e1 ⊢
  exact kk p e s m args below meth c H' _ ls hF (hP.set (x0 := .inr (ci, fs)) e2 e3 ⟨_, hc, t_OB.to (V := updV (vp_V fs) i v) ⟨_, e1, q2, q3, t_set q4 hap hk v⟩ (fun j _ => vp_updV_set hl' v j)⟩) (hS.put e2 e3 (Nat.le_add_right b a)) hl
/-- a final field, in its own class's constructor -/
def zFn (cl : List vw_C) (Ts : List Cond) (own : String) (index ci k : Nat) (ty : FieldType) : Prop := ∃ (C : String) (T : u_T) (N : Nat) (ty0 : Nat → FieldType), cl[ci]? = some (C, T, N) ∧ (∀ w ∈ u_ws C T N, w ∈ Ts) ∧ Cond.fieldLink own index (T k).1 (T k).2.1 (T k).2.2.1 ∈ Ts ∧ k < N ∧ (∀ k, k < N → parseFieldDescriptor (T k).2.2.1 = some (ty0 k)) ∧ (∀ a, a < N → ∀ b, b < N → a ≠ b → (T a).2.1 ≠ (T b).2.1) ∧ (T k).2.2.2 = true ∧ parseFieldDescriptor (T k).2.2.1 = some ty ∧ (T k).1 = own
theorem z_putF {index ci i a : Nat} {fs : List Value} {v : Value} {ty : FieldType} (hd : decode cc pc = .ok (.putfield index, 3)) (f : zFn cl Ts own index ci i ty) (hin2 : nm = "<init>") (hσ : σ a = some (.inr (ci, fs))) (hl' : i < fs.length) (hn : narrow ty v = v) (hfit : fits ty v = true) (kk : Z l D cl tys Ts Nw own nm cc nL ret R b Fi k n N (zUp σ a (.inr (ci, fs.set i v))) (pc + 3) lv st) : Z l D cl tys Ts Nw own nm cc nL ret R b Fi k n N σ pc lv (v :: .ref (b + a) :: st) := by
  intro p e s m args below meth c H locs ls hF hP hS hl
  obtain ⟨C, T, N0, ty0, hc, hin, hlink, hk, hty, hnm, hfin, hpd, hdecl⟩ := f
  obtain ⟨hx, hb, hml, hr, hlocks, hown, hts, hK, hNw, hname, hbs⟩ := id hF
  have hap := va_apart (own := own) hts hin ty0 hty hnm hK hc
  obtain ⟨r, h1, cell, q1, q2, q3, q4⟩ := hP.2 a _ hσ
  have hr' : r = (C, T, N0) := Option.some.inj (h1.symm.trans hc)
  subst hr'
  obtain ⟨hS', hfc, kC, hkC, hkind⟩ := hK.1 ci _ hc
  obtain ⟨cf, kf, fi, fd, hi, hsl⟩ := hS' i hk
  have hlay := hts _ (hin _ (u_in_lay hk))
  unfold u_lay at hlay
  rw [if_pos hfin] at hlay
  have hst := (u_facts hfc hkC (u_lays hts hin hk) hi).1
  have hcf : m.cls = cf := by
    obtain ⟨_, _, c', _, _, _, -, -, hf', -, -, -, hown2, -⟩ := Cond.laysFinal_spec hlay
    have e1 : c' = cf := by have := hi.symm.trans hf'; simp at this; exact this.1.symm
    rw [hdecl] at hown2
    rw [← e1]; exact Option.some.inj (hown.symm.trans hown2)
  have h6 := u_fits hfc hkC hkind (Or.inr hlay) hi hpd hn hfit
  refine W.putFinK hx hb hown (hts _ hlink) hi hst hcf (hname.trans hin2) (by rw [q2]; exact h6) q1 q3 (by rw [hsl]; exact k2_hasslot (q4 i hk)) rfl rfl hd fun H' e1 e2 e3 => ?_
  rw [hsl] at e1 ⊢
  exact kk p e s m args below meth c H' _ ls hF (hP.set (x0 := .inr (ci, fs)) e2 e3 ⟨_, hc, t_OB.to (V := updV (vp_V fs) i v) ⟨_, e1, q2, q3, t_set q4 hap hk v⟩ (fun j _ => vp_updV_set hl' v j)⟩) (hS.put e2 e3 (Nat.le_add_right b a)) hl
theorem z_iald {t0 a len : Nat} {cA : ClassId} {f : Nat → Int32} {i : Int32} (hd : decode cc pc = .ok (.iaload, 1)) (ht : tys[t0]? = some (cA, .int)) (hσ : σ a = some (.inl (cA, len, .inl f))) (hi : vp_in i len) (kk : Z l D cl tys Ts Nw own nm cc nL ret R b Fi k n N σ (pc + 1) lv (.int (f i.toNatClampNeg) :: st)) : Z l D cl tys Ts Nw own nm cc nL ret R b Fi k n N σ pc lv (.int i :: .ref (b + a) :: st) := fun p e s m args below meth c H locs ls hF hP hS hl => va_iald hF.1 hF.2.1 hF.2.2.2.2.2.2.2.1 (hP.one hσ) 0 t0 rfl ht hi hd (kk p e s m args below meth c H locs ls hF hP hS hl)
theorem z_lald {t0 a len : Nat} {cA : ClassId} {f : Nat → Int64} {i : Int32} (hd : decode cc pc = .ok (.laload, 1)) (ht : tys[t0]? = some (cA, .long)) (hσ : σ a = some (.inl (cA, len, .inr (.inl f)))) (hi : vp_in i len) (kk : Z l D cl tys Ts Nw own nm cc nL ret R b Fi k n N σ (pc + 1) lv (.long (f i.toNatClampNeg) :: st)) : Z l D cl tys Ts Nw own nm cc nL ret R b Fi k n N σ pc lv (.int i :: .ref (b + a) :: st) := fun p e s m args below meth c H locs ls hF hP hS hl => va_lald hF.1 hF.2.1 hF.2.2.2.2.2.2.2.1 (hP.one hσ) 0 t0 rfl ht hi hd (kk p e s m args below meth c H locs ls hF hP hS hl)
theorem z_bald {t0 a len : Nat} {cA : ClassId} {f : Nat → Int32} {i : Int32} (hd : decode cc pc = .ok (.baload, 1)) (ht : tys[t0]? = some (cA, .byte)) (hσ : σ a = some (.inl (cA, len, .inl f))) (hi : vp_in i len) (kk : Z l D cl tys Ts Nw own nm cc nL ret R b Fi k n N σ (pc + 1) lv (.int (f i.toNatClampNeg) :: st)) : Z l D cl tys Ts Nw own nm cc nL ret R b Fi k n N σ pc lv (.int i :: .ref (b + a) :: st) := fun p e s m args below meth c H locs ls hF hP hS hl => va_bald hF.1 hF.2.1 hF.2.2.2.2.2.2.2.1 (hP.one hσ) 0 t0 rfl ht hi hd (kk p e s m args below meth c H locs ls hF hP hS hl)
theorem z_zald {t0 a len : Nat} {cA : ClassId} {f : Nat → Int32} {i : Int32} (hd : decode cc pc = .ok (.baload, 1)) (ht : tys[t0]? = some (cA, .boolean)) (hσ : σ a = some (.inl (cA, len, .inl f))) (hi : vp_in i len) (kk : Z l D cl tys Ts Nw own nm cc nL ret R b Fi k n N σ (pc + 1) lv (.int (f i.toNatClampNeg) :: st)) : Z l D cl tys Ts Nw own nm cc nL ret R b Fi k n N σ pc lv (.int i :: .ref (b + a) :: st) := fun p e s m args below meth c H locs ls hF hP hS hl => va_zald hF.1 hF.2.1 hF.2.2.2.2.2.2.2.1 (hP.one hσ) 0 t0 rfl ht hi hd (kk p e s m args below meth c H locs ls hF hP hS hl)
theorem z_cald {t0 a len : Nat} {cA : ClassId} {f : Nat → Int32} {i : Int32} (hd : decode cc pc = .ok (.caload, 1)) (ht : tys[t0]? = some (cA, .char)) (hσ : σ a = some (.inl (cA, len, .inl f))) (hi : vp_in i len) (kk : Z l D cl tys Ts Nw own nm cc nL ret R b Fi k n N σ (pc + 1) lv (.int (f i.toNatClampNeg) :: st)) : Z l D cl tys Ts Nw own nm cc nL ret R b Fi k n N σ pc lv (.int i :: .ref (b + a) :: st) := fun p e s m args below meth c H locs ls hF hP hS hl => va_cald hF.1 hF.2.1 hF.2.2.2.2.2.2.2.1 (hP.one hσ) 0 t0 rfl ht hi hd (kk p e s m args below meth c H locs ls hF hP hS hl)
theorem z_aald {t0 a len : Nat} {cA : ClassId} {C : String} {f : Nat → Option Nat} {i : Int32} (hd : decode cc pc = .ok (.aaload, 1)) (ht : tys[t0]? = some (cA, .object C)) (hσ : σ a = some (.inl (cA, len, .inr (.inr (.inr (.inr f)))))) (hi : vp_in i len) (kk : Z l D cl tys Ts Nw own nm cc nL ret R b Fi k n N σ (pc + 1) lv (va_rf (f i.toNatClampNeg) :: st)) : Z l D cl tys Ts Nw own nm cc nL ret R b Fi k n N σ pc lv (.int i :: .ref (b + a) :: st) := fun p e s m args below meth c H locs ls hF hP hS hl => va_aldq hF.1 hF.2.1 hF.2.2.2.2.2.2.2.1 (hP.one hσ) 0 t0 rfl ht hi hd (kk p e s m args below meth c H locs ls hF hP hS hl)
theorem z_aaldA {t0 a len : Nat} {cA : ClassId} {ty : FieldType} {f : Nat → Option Nat} {i : Int32} (hd : decode cc pc = .ok (.aaload, 1)) (ht : tys[t0]? = some (cA, .array ty)) (hσ : σ a = some (.inl (cA, len, .inr (.inr (.inr (.inr f)))))) (hi : vp_in i len) (kk : Z l D cl tys Ts Nw own nm cc nL ret R b Fi k n N σ (pc + 1) lv (va_rf (f i.toNatClampNeg) :: st)) : Z l D cl tys Ts Nw own nm cc nL ret R b Fi k n N σ pc lv (.int i :: .ref (b + a) :: st) := by
  intro p e s m args below meth c H locs ls hF hP hS hl
  have hlt : i.toNatClampNeg < len := Nat.not_le.mp fun q => hi (Or.inr q)
  exact W.aald (v := va_rf (f i.toNatClampNeg)) (ty := .array ty) hF.1 hF.2.1 (hP.2 a _ hσ) ((hF.2.2.2.2.2.2.2.1.2 t0 _ ht).1 len (fun j => va_rf (f j))) rfl (fun q => by cases q) (by show ¬ (i < 0 ∨ (arrV _ _ _).slots.size ≤ _); rw [arrV_size]; exact hi) (by show (arrV _ _ _).slots[_]? = _; rw [arrV_read _ _ hlt]) rfl rfl hd (kk p e s m args below meth c H locs ls hF hP hS hl)
theorem z_alen {t0 a : Nat} {cA : ClassId} {x : vp_A} {ty : FieldType} {v : Int32} (hd : decode cc pc = .ok (.arraylength, 1)) (ht : tys[t0]? = some (cA, ty)) (hσ : σ a = some (.inl (cA, x))) (hv : Int32.ofNat x.1 = v) (kk : Z l D cl tys Ts Nw own nm cc nL ret R b Fi k n N σ (pc + 1) lv (.int v :: st)) : Z l D cl tys Ts Nw own nm cc nL ret R b Fi k n N σ pc lv (.ref (b + a) :: st) := fun p e s m args below meth c H locs ls hF hP hS hl => va_alen hF.1 hF.2.1 hF.2.2.2.2.2.2.2.1 (hP.one hσ) 0 t0 rfl ht hv hd (kk p e s m args below meth c H locs ls hF hP hS hl)
theorem z_iast {t0 a len : Nat} {cA : ClassId} {f : Nat → Int32} {i : Int32} {x : Int32} (hd : decode cc pc = .ok (.iastore, 1)) (ht : tys[t0]? = some (cA, .int)) (hσ : σ a = some (.inl (cA, len, .inl f))) (hi : vp_in i len) (kk : Z l D cl tys Ts Nw own nm cc nL ret R b Fi k n N (zUp σ a (.inl (cA, len, .inl (upd f i.toNatClampNeg x)))) (pc + 1) lv st) : Z l D cl tys Ts Nw own nm cc nL ret R b Fi k n N σ pc lv (.int x :: .int i :: .ref (b + a) :: st) := by
  intro p e s m args below meth c H locs ls hF hP hS hl
  refine W.iast hF.1 hF.2.1 (hP.2 a _ hσ) ((hF.2.2.2.2.2.2.2.1.2 t0 _ ht).1 len (fun j => .int (f j))) (fun q => by cases q) (by show ¬ (i < 0 ∨ (arrV _ _ _).slots.size ≤ _); rw [arrV_size]; exact hi) rfl rfl hd fun H1 e1 z oq => ?_
  refine kk p e s m args below meth c H1 _ ls hF (hP.set (x0 := .inl (cA, len, .inl f)) z oq ?_) (hS.put z oq (Nat.le_add_right b a)) hl
  show H1[b + a]? = some (vp_cell _ _)
  rw [e1]
  rw [vp_cell_i, vp_cell_i, arrV_store]
  congr 2
  funext q
  by_cases hq : q = i.toNatClampNeg
  · subst hq
    simp [updV, upd]
  · simp [updV, upd, hq]
theorem z_last {t0 a len : Nat} {cA : ClassId} {f : Nat → Int64} {i : Int32} {x : Int64} (hd : decode cc pc = .ok (.lastore, 1)) (ht : tys[t0]? = some (cA, .long)) (hσ : σ a = some (.inl (cA, len, .inr (.inl f)))) (hi : vp_in i len) (kk : Z l D cl tys Ts Nw own nm cc nL ret R b Fi k n N (zUp σ a (.inl (cA, len, .inr (.inl (vp_updL f i.toNatClampNeg x))))) (pc + 1) lv st) : Z l D cl tys Ts Nw own nm cc nL ret R b Fi k n N σ pc lv (.long x :: .int i :: .ref (b + a) :: st) := by
  intro p e s m args below meth c H locs ls hF hP hS hl
  refine W.last hF.1 hF.2.1 (hP.2 a _ hσ) ((hF.2.2.2.2.2.2.2.1.2 t0 _ ht).1 len (fun j => .long (f j))) (fun q => by cases q) (by show ¬ (i < 0 ∨ (arrV _ _ _).slots.size ≤ _); rw [arrV_size]; exact hi) rfl rfl hd fun H1 e1 z oq => ?_
  refine kk p e s m args below meth c H1 _ ls hF (hP.set (x0 := .inl (cA, len, .inr (.inl f))) z oq ?_) (hS.put z oq (Nat.le_add_right b a)) hl
  show H1[b + a]? = some (vp_cell _ _)
  rw [e1]
  rw [vp_cell_l, vp_cell_l, arrV_store]
  congr 2
  funext q
  by_cases hq : q = i.toNatClampNeg
  · subst hq
    simp [updV, vp_updL]
  · simp [updV, vp_updL, hq]
/-- an array of arrays: a row is put into a place (its class is the component's) -/
theorem z_aastA {t0 t1 a a2 len : Nat} {cA cB : ClassId} {ty : FieldType} {f : Nat → Option Nat} {i : Int32} {x : vp_A} (hd : decode cc pc = .ok (.aastore, 1)) (ht : tys[t0]? = some (cA, .array ty)) (ht1 : tys[t1]? = some (cB, ty)) (hrow : ∀ U : State, va_K D cl tys U → ∃ (kA kB : Class), U.vm.classes[cA]? = some kA ∧ kA.kind = .array cB (.array ty) ∧ U.vm.classes[cB]? = some kB ∧ U.vm.assignable cB cB = true) (hσ : σ a = some (.inl (cA, len, .inr (.inr (.inr (.inr f)))))) (hσ2 : σ a2 = some (.inl (cB, x))) (hi : vp_in i len) (kk : Z l D cl tys Ts Nw own nm cc nL ret R b Fi k n N (zUp σ a (.inl (cA, len, .inr (.inr (.inr (.inr (va_up f i.toNatClampNeg (some (b + a2)))))))))  (pc + 1) lv st) : Z l D cl tys Ts Nw own nm cc nL ret R b Fi k n N σ pc lv (.ref (b + a2) :: .int i :: .ref (b + a) :: st) := by
  intro p e s m args below meth c H locs ls hF hP hS hl
  obtain ⟨kA, kB, k1, k2, k3, k4⟩ := hrow s hF.2.2.2.2.2.2.2.1
  have hlt : i.toNatClampNeg < len := Nat.not_le.mp fun q => hi (Or.inr q)
  have h0 : ¬ i < 0 := fun q => hi (Or.inl q)
  have hcv : ∃ cv : Cell, H[b + a2]? = some cv ∧ cv.cls = cB ∧ cv.vm = .none := by
    obtain ⟨n0, f0 | f0 | f0 | f0 | f0⟩ := x <;> exact ⟨_, hP.2 a2 _ hσ2, rfl, rfl⟩
  obtain ⟨cv, g1, g2, g3⟩ := hcv
  refine W.aast hF.1 hF.2.1 (hP.2 a _ hσ) (fun q h => by cases h) (fun h => by cases h) k1 k2 rfl k3 ⟨h0, by show _ < (arrV _ _ _).slots.size; rw [arrV_size]; exact hlt⟩ g1 (fun q h => by rw [g3] at h; cases h) (by rw [g2]; exact k3) (by rw [g2]; exact k4) rfl rfl hd fun H1 e1 z oq => ?_
  refine kk p e s m args below meth c H1 _ ls hF (hP.set (x0 := .inl (cA, len, .inr (.inr (.inr (.inr f))))) z oq ?_) (hS.put z oq (Nat.le_add_right b a)) hl
  show H1[b + a]? = some (vp_cell _ _)
  rw [e1]
  rw [vp_cell_q, vp_cell_q, arrV_store]
  congr 2
  funext q
  by_cases hq : q = i.toNatClampNeg
  · subst hq
    simp [updV, va_up, va_rf]
  · simp [updV, va_up, hq]
/-- an array of objects: an object is put into a place -/
theorem z_aast {t0 a a2 ci len : Nat} {cA : ClassId} {r : vw_C} {vs : List Value} {f : Nat → Option Nat} {i : Int32} (hd : decode cc pc = .ok (.aastore, 1)) (ht : tys[t0]? = some (cA, .object r.1)) (hc : cl[ci]? = some r) (hσ : σ a = some (.inl (cA, len, .inr (.inr (.inr (.inr f)))))) (hσ2 : σ a2 = some (.inr (ci, vs))) (hi : vp_in i len) (kk : Z l D cl tys Ts Nw own nm cc nL ret R b Fi k n N (zUp σ a (.inl (cA, len, .inr (.inr (.inr (.inr (va_up f i.toNatClampNeg (some (b + a2)))))))))  (pc + 1) lv st) : Z l D cl tys Ts Nw own nm cc nL ret R b Fi k n N σ pc lv (.ref (b + a2) :: .int i :: .ref (b + a) :: st) := by
  intro p e s m args below meth c H locs ls hF hP hS hl
  have hK := hF.2.2.2.2.2.2.2.1
  have hlt : i.toNatClampNeg < len := Nat.not_le.mp fun q => hi (Or.inr q)
  have h0 : ¬ i < 0 := fun q => hi (Or.inl q)
  obtain ⟨r', hr', cellV, g1, g2, g3, -⟩ := hP.2 a2 _ hσ2
  have hcls := (hK.1 ci r hc).2
  obtain ⟨kA, comp, k1, k2, k3, -⟩ := (hK.2 t0 _ ht).2
  have hcomp : comp = D.1 ci := Option.some.inj (k3.symm.trans hcls.1)
  subst hcomp
  obtain ⟨kC, hkC, -⟩ := hcls.2
  refine W.aast hF.1 hF.2.1 (hP.2 a _ hσ) (fun q h => by cases h) (fun h => by cases h) k1 k2 rfl hkC ⟨h0, by show _ < (arrV _ _ _).slots.size; rw [arrV_size]; exact hlt⟩ g1 (fun q h => by rw [g3] at h; cases h) (by rw [g2]; exact hkC) (by rw [g2]; exact va_assign hcls) rfl rfl hd fun H1 e1 z oq => ?_
  refine kk p e s m args below meth c H1 _ ls hF (hP.set (x0 := .inl (cA, len, .inr (.inr (.inr (.inr f))))) z oq ?_) (hS.put z oq (Nat.le_add_right b a)) hl
  show H1[b + a]? = some (vp_cell _ _)
  rw [e1]
  rw [vp_cell_q, vp_cell_q, arrV_store]
  congr 2
  funext q
  by_cases hq : q = i.toNatClampNeg
  · subst hq
    simp [updV, va_up, va_rf]
  · simp [updV, va_up, hq]
theorem z_new {index ci : Nat} {C : String} {T : u_T} {N0 : Nat} {fs : List Value} (hd : decode cc pc = .ok (.new index, 3)) (hc : cl[ci]? = some (C, T, N0)) (hin : ∀ w ∈ u_ws C T N0, w ∈ Ts) (ty : Nat → FieldType) (hty : ∀ k, k < N0 → parseFieldDescriptor (T k).2.2.1 = some (ty k)) (hw1 : Cond.classLink own index C ∈ Ts) (hw2 : Cond.instantiable C N0 ∈ Ts) (hw3 : Cond.initialized C ∈ Ts) (hfs : ∀ j, j < N0 → defaultValue (ty j) = vp_V fs j) (h1 : k + 1 ≤ R.cells) (h2 : n + N0 ≤ R.slots) (kk : Z l D cl tys Ts Nw own nm cc nL ret R b Fi (k + 1) (n + N0) (N + 1) (zUp σ N (.inr (ci, fs))) (pc + 3) lv (.ref (b + N) :: st)) : Z l D cl tys Ts Nw own nm cc nL ret R b Fi k n N σ pc lv st := by
  intro p e s m args below meth c H locs ls hF hP hS hl
  obtain ⟨hx, hb, hml, hr, hlocks, hown, hts, hK, hNw, hname, hbs⟩ := id hF
  have hKn := hK.1 ci _ hc
  refine W.newcK hx hb hown (hts _ hw1) (hts _ hw2) (hts _ hw3) rfl hd h1 h2 hKn.2.1 hP.1 fun H1 kC hkC e1 z1 o1 => ?_
  refine kk p e s m args below meth c H1 locs ls hF (hP.push z1 o1 ⟨_, hc, (u_born ty hts hin hKn hkC e1 hty).to hfs⟩) ⟨?_, fun x g1 g2 => ?_, hS.2.2⟩ hl
  · have := hS.1
    rw [hP.1] at this
    omega
  · have := hS.1
    rw [hP.1] at this
    exact (o1 x (by omega)).trans (hS.2.1 x g1 g2)
theorem z_newa {atype : ArrayType} {t0 len : Nat} {cA : ClassId} {ty : FieldType} {x : Int32} {a0 : vp_A} (hd : decode cc pc = .ok (.newarray atype, 2)) (hty : newarray.typeOf atype = ty) (hw : Cond.arrayClass ty ∈ Ts) (ht : tys[t0]? = some (cA, ty)) (ha : vp_cell cA a0 = arrV cA len (fun _ => defaultValue ty)) (hn : ¬ x < 0) (hN : x.toNatClampNeg = len) (hbytes : len * componentBytes ty ≤ 536870912) (h1 : k + 1 ≤ R.cells) (h2 : n + len ≤ R.slots) (kk : Z l D cl tys Ts Nw own nm cc nL ret R b Fi (k + 1) (n + len) (N + 1) (zUp σ N (.inl (cA, a0))) (pc + 2) lv (.ref (b + N) :: st)) : Z l D cl tys Ts Nw own nm cc nL ret R b Fi k n N σ pc lv (.int x :: st) := by
  intro p e s m args below meth c H locs ls hF hP hS hl
  obtain ⟨hx, hb, hml, hr, hlocks, hown, hts, hK, hNw, hname, hbs⟩ := id hF
  subst hty
  refine va_newaK hx hb (hts _ hw) rfl hd rfl hn hN hbytes h1 h2 hP.1 fun H1 cB e1 z1 o1 hAr hNm => ?_
  have hcA : cB = cA := by
    have h := (hK.2 t0 _ ht).2
    have h' : s.vm.findClass ("[" ++ (newarray.typeOf atype).toString) = some cA := by cases atype <;> exact h
    exact Option.some.inj (hNm.symm.trans h')
  subst hcA
  refine kk p e s m args below meth c H1 locs ls hF (hP.push z1 o1 ?_) ⟨?_, fun x g1 g2 => ?_, hS.2.2⟩ hl
  · show H1[b + N]? = some (vp_cell _ _)
    rw [ha]
    exact e1
  · have := hS.1
    rw [hP.1] at this
    omega
  · have := hS.1
    rw [hP.1] at this
    exact (o1 x (by omega)).trans (hS.2.1 x g1 g2)
theorem z_anew {index t0 len : Nat} {C : String} {cA : ClassId} {x : Int32} (hd : decode cc pc = .ok (.anewarray index, 3)) (hw1 : Cond.classLink own index C ∈ Ts) (hw2 : Cond.arrayOver (.object C) ∈ Ts) (ht : tys[t0]? = some (cA, .object C)) (hn : ¬ x < 0) (hN : x.toNatClampNeg = len) (hbytes : len * 4 ≤ 536870912) (h1 : k + 1 ≤ R.cells) (h2 : n + len ≤ R.slots) (kk : Z l D cl tys Ts Nw own nm cc nL ret R b Fi (k + 1) (n + len) (N + 1) (zUp σ N (.inl (cA, len, .inr (.inr (.inr (.inr (fun _ => none))))))) (pc + 3) lv (.ref (b + N) :: st)) : Z l D cl tys Ts Nw own nm cc nL ret R b Fi k n N σ pc lv (.int x :: st) := by
  intro p e s m args below meth c H locs ls hF hP hS hl
  obtain ⟨hx, hb, hml, hr, hlocks, hown, hts, hK, hNw, hname, hbs⟩ := id hF
  subst hN
  refine W.anew hx hb hown (hts _ hw1) (hts _ hw2) rfl hd rfl hn hbytes h1 h2 fun cB kA comp g1 g2 g3 g4 => ?_
  have hcA : cB = cA := by
    obtain ⟨kA', comp', -, -, -, h⟩ := (hK.2 t0 _ ht).2
    exact Option.some.inj (g1.symm.trans h)
  subst hcA
  rw [hP.1]
  refine kk p e s m args below meth c _ locs ls hF (hP.push ?_ ?_ ?_) ⟨?_, fun x g1 g2 => ?_, hS.2.2⟩ hl
  · rw [Array.size_push, hP.1]
  · intro q hq
    rw [Array.getElem?_push, if_neg (by rw [hP.1]; omega)]
  · show (H.push _)[b + N]? = some (vp_cell _ _)
    rw [vp_cell_q, arrV_new, Array.getElem?_push, if_pos hP.1.symm]
    rfl
  · have := hS.1
    rw [Array.size_push]
    omega
  · have := hS.1
    rw [Array.getElem?_push, if_neg (by omega)]
    exact hS.2.1 x g1 g2
theorem z_iret {v : Int32} {mc ms : Nat} {Q : Outcome → Nat → (Nat → Option va_E) → Prop} (hd : decode cc pc = .ok (.ireturn, 1)) (hret : ret = some .int) (h1 : k ≤ mc) (h2 : n ≤ ms) (hQ : Q (.returned (some (.int v))) N σ) : Z l D cl tys Ts Nw own nm cc nL ret R b (zFi D cl b mc ms Q) k n N σ pc lv [.int v] := by
  intro p e s m args below meth c H locs ls hF hP hS hl
  obtain ⟨hx, hb, hml, hr, hlocks, hown, hts, hK, hNw, hname, hbs⟩ := id hF
  subst hret
  refine W.widen h1 h2 ?_
  exact W.iret hx hb hr (fun t ht hW => ⟨⟨N, σ, hQ, by rw [ht]; exact hP⟩, hS.F ht⟩) hS.2.2 hd
theorem z_lret {v : Int64} {mc ms : Nat} {Q : Outcome → Nat → (Nat → Option va_E) → Prop} (hd : decode cc pc = .ok (.lreturn, 1)) (hret : ret = some .long) (h1 : k ≤ mc) (h2 : n ≤ ms) (hQ : Q (.returned (some (.long v))) N σ) : Z l D cl tys Ts Nw own nm cc nL ret R b (zFi D cl b mc ms Q) k n N σ pc lv [.long v] := by
  intro p e s m args below meth c H locs ls hF hP hS hl
  obtain ⟨hx, hb, hml, hr, hlocks, hown, hts, hK, hNw, hname, hbs⟩ := id hF
  subst hret
  refine W.widen h1 h2 ?_
  exact W.lret hx hb hr (fun t ht hW => ⟨⟨N, σ, hQ, by rw [ht]; exact hP⟩, hS.F ht⟩) hS.2.2 hd
theorem z_vret {mc ms : Nat} {Q : Outcome → Nat → (Nat → Option va_E) → Prop} (hd : decode cc pc = .ok (.return_, 1)) (hret : ret = none) (h1 : k ≤ mc) (h2 : n ≤ ms) (hQ : Q (.returned (none)) N σ) : Z l D cl tys Ts Nw own nm cc nL ret R b (zFi D cl b mc ms Q) k n N σ pc lv [] := by
  intro p e s m args below meth c H locs ls hF hP hS hl
  obtain ⟨hx, hb, hml, hr, hlocks, hown, hts, hK, hNw, hname, hbs⟩ := id hF
  subst hret
  refine W.widen h1 h2 ?_
  exact W.vret hx hb hr (fun t ht hW => ⟨⟨N, σ, hQ, by rw [ht]; exact hP⟩, hS.F ht⟩) hS.2.2 hd
theorem z_zret {v : Int32} {mc ms : Nat} {Q : Outcome → Nat → (Nat → Option va_E) → Prop} (hd : decode cc pc = .ok (.ireturn, 1)) (hret : ret = some .boolean) (hv : narrow .boolean (.int v) = .int v) (h1 : k ≤ mc) (h2 : n ≤ ms) (hQ : Q (.returned (some (.int v))) N σ) : Z l D cl tys Ts Nw own nm cc nL ret R b (zFi D cl b mc ms Q) k n N σ pc lv [.int v] := by
  intro p e s m args below meth c H locs ls hF hP hS hl
  obtain ⟨hx, hb, hml, hr, hlocks, hown, hts, hK, hNw, hname, hbs⟩ := id hF
  subst hret
  refine W.widen h1 h2 ?_
  exact W.zret hx hb hr hv (fun t ht hW => ⟨⟨N, σ, hQ, by rw [ht]; exact hP⟩, hS.F ht⟩) hS.2.2 hd
theorem z_objInit {idx a : Nat} (hd : decode cc pc = .ok (.invokespecial idx, 3)) (hw1 : Cond.methodLink own idx objectInit ∈ Ts) (hw2 : Cond.instanceMethod objectInit ∈ Ts) (hw3 : Cond.code objectInit ⟨#[0xb1]⟩ 1 none ∈ Ts) (hf : 1 ≤ R.frames) (hlo : (st.map fun v => v.category).sum + 12 ≤ R.locals) (kk : Z l D cl tys Ts Nw own nm cc nL ret R b Fi k n N σ (pc + 3) lv st) : Z l D cl tys Ts Nw own nm cc nL ret R b Fi k n N σ pc lv (.ref a :: st) := by
  intro p e s m args below meth c H locs ls hF hP hS hl
  obtain ⟨hx, hb, hml, hr, hlocks, hown, hts, hK, hNw, hname, hbs⟩ := id hF
  refine W.objInit hx hb hown (hts _ hw1) (hts _ hw2) (hts _ hw3) rfl (by rw [hml]; exact hl.1) rfl hd hf (by show 2 * 0 + _ + 12 ≤ _; omega) ?_
  exact kk p e s m args below meth c H locs ls hF hP hS hl
theorem z_pre {y : MethodName} {av : List Value} {s : State} {H : Heap} (hK : va_K D cl tys s) (hN : zN Nw s) (hP : zP D cl b N σ H) : FrameBlind (va_Pc av (fun U => zP D cl b N σ U.heap ∧ va_K D cl tys U ∧ zN Nw U)) ∧ ∀ U : State, U.heap = H → s.WarmedH U.vm → va_Pc av (fun U => zP D cl b N σ U.heap ∧ va_K D cl tys U ∧ zN Nw U) av.toArray U :=
  ⟨fun a U g mk q => ⟨q.1, q.2.1, va_K.moved (u := U) (U := U.calling g mk a) (Vm.Alike.refl U.vm) q.2.2.1, zN.same (u := U) (U := U.calling g mk a) rfl q.2.2.2⟩, fun U hU hW => ⟨rfl, by rw [hU]; exact hP, va_K.moved hW.alike hK, hN.warm hW⟩⟩
/-- behind a call -/
theorem z_behind {p : Program} {e : Env} {s : State} {m : MethodId} {args a2 : Array Value} {below : List Frame} {meth : Method} {c : Code} {H : Heap} {locs : List Loc} {ls : Array Slot} {mc ms : Nat} {st0 rest : List Value} {Q : Outcome → Nat → (Nat → Option va_E) → Prop}
    (hF : zF D cl tys Ts Nw own nm cc nL ret b p s m args meth c) (hS : va_S (fun q => b ≤ q) s.heap H locs) (hl : lv_has ls nL lv)
    (hr : va_Run p l e R s m args below meth c H locs k n mc ms (F0 m pc ls st0) rest (zQ D cl b Q a2) (fun q => b ≤ q))
    (kk : ∀ (v : Option Value) (N' : Nat) (σ' : Nat → Option va_E), Q (.returned v) N' σ' → Z l D cl tys Ts Nw own nm cc nL ret R b Fi (k + mc) (n + ms) N' σ' (pc + 3) lv (v.toList ++ rest)) : W p l e R s m args below meth c H locs k n (Fi below args s) (F0 m pc ls st0) := by
  intro T hT X
  obtain ⟨v, st₀, t, T', L, h0, X', hL, e1, e2, ⟨⟨N', σ', hq, hp⟩, hz, hk⟩, st⟩ := hr T hT X
  rw [h0] at hz hk
  have hS' : va_S (fun q => b ≤ q) s.heap T'.heap (locs ++ L) := by
    refine ⟨Nat.le_trans hS.1 (by rw [e1]; exact hz), fun q h1 h2 => by rw [e1, hk q (Nat.lt_of_lt_of_le h1 hS.1) h2]; exact hS.2.1 q h1 h2, fun q hq' => ?_⟩
    rcases List.mem_append.mp hq' with h | h
    · exact hS.2.2 q h
    · exact hL q h
  obtain ⟨t2, a1, b1⟩ := kk v N' σ' hq p e s m args below meth c T'.heap (locs ++ L) ls hF (by rw [e1]; exact hp) hS' hl T' rfl X'
  exact ⟨t2, st t2 a1, b1⟩
/-- what stands fixed of a call of y from a method of own -/
def zCV (Ts : List Cond) (own C : String) (index : Nat) (y : MethodName) (bytes : ByteArray) (maxL : Nat) (ret : Option FieldType) (ws : List Cond) (n : Nat) : Prop := GoodIn Ts (wsV own index C y ws) ∧ (∃ ws', ws = Cond.code y bytes maxL ret :: ws') ∧ (y.cls = C ∧ y.cls ≠ "java/lang/invoke/MethodHandle" ∧ y.cls ≠ "java/lang/invoke/VarHandle" ∧ (parseMethodDescriptor y.desc).map (fun d => d.parameters.length) = some n)
theorem z_callV {y : MethodName} {ws : List Cond} {fr lo mc ms index maxL i ci a : Nat} {C : String} {bytes : ByteArray} {ret' : Option FieldType} {As rest fs : List Value} {Q : Outcome → Nat → (Nat → Option va_E) → Prop} {T : u_T} {N0 : Nat}
    (hd : decode cc pc = .ok (.invokevirtual index, 3)) (cw : zCV Ts own C index y bytes maxL ret' ws i) (hσ : σ a = some (.inr (ci, fs))) (hc : cl[ci]? = some (C, T, N0)) (hM : zM l D cl tys Nw b y ws fr lo mc ms (.ref (b + a) :: As) N σ Q) (hst : st = As.reverse ++ .ref (b + a) :: rest) (hn : As.length = i) (hW : (rest.map fun v => v.category).sum ≤ 8) (hR : fr + 1 ≤ R.frames ∧ 8 + (maxL + 11) + lo ≤ R.locals) (hf : k + mc ≤ R.cells ∧ n + ms ≤ R.slots)
    (kk : ∀ (v : Option Value) (N' : Nat) (σ' : Nat → Option va_E), Q (.returned v) N' σ' → Z l D cl tys Ts Nw own nm cc nL ret R b Fi (k + mc) (n + ms) N' σ' (pc + 3) lv (v.toList ++ rest)) : Z l D cl tys Ts Nw own nm cc nL ret R b Fi k n N σ pc lv st := by
  intro p e s m args below meth c H locs ls hF hP hS hl
  obtain ⟨hx, hb, hml, hr, hlocks, hown, hts, hK, hNw, hname, hbs⟩ := id hF
  obtain ⟨hG, ⟨ws', hw⟩, hd4⟩ := cw
  have hpre := z_pre (y := y) (av := .ref (b + a) :: As) hK hNw hP
  refine z_behind (mc := mc) (ms := ms) (Q := Q) (rest := rest) hF hS hl (va_runV (n := i) (As := As) (rest := rest) (g := F0 m pc ls st) ⟨hx, hb, hml, hown, hts⟩ hM (cwV i hts hG hw rfl rfl hd4 hR) ⟨hpre.1, va_recv hK (hP.one hσ) hc (q0 := 0) rfl, hpre.2⟩ rfl hn hl.1 hst (lv_room hW) hd hf) kk
def zCS (Ts : List Cond) (own : String) (index : Nat) (y : MethodName) (bytes : ByteArray) (maxL : Nat) (ret : Option FieldType) (ws : List Cond) (n : Nat) : Prop := GoodIn Ts (wsS own index y ws) ∧ (∃ ws', ws = Cond.code y bytes maxL ret :: ws') ∧ (y.cls = own ∧ y.cls ≠ "java/lang/invoke/MethodHandle" ∧ y.cls ≠ "java/lang/invoke/VarHandle" ∧ (parseMethodDescriptor y.desc).map (fun d => d.parameters.length) = some n)
theorem z_callS {y : MethodName} {ws : List Cond} {fr lo mc ms index maxL i : Nat} {bytes : ByteArray} {ret' : Option FieldType} {As rest : List Value} {Q : Outcome → Nat → (Nat → Option va_E) → Prop}
    (hd : decode cc pc = .ok (.invokestatic index, 3)) (cw : zCS Ts own index y bytes maxL ret' ws i) (hM : zM l D cl tys Nw b y ws fr lo mc ms As N σ Q) (hst : st = As.reverse ++ rest) (hn : As.length = i) (hW : (rest.map fun v => v.category).sum ≤ 8) (hR : fr + 1 ≤ R.frames ∧ 8 + (maxL + 11) + lo ≤ R.locals) (hf : k + mc ≤ R.cells ∧ n + ms ≤ R.slots)
    (kk : ∀ (v : Option Value) (N' : Nat) (σ' : Nat → Option va_E), Q (.returned v) N' σ' → Z l D cl tys Ts Nw own nm cc nL ret R b Fi (k + mc) (n + ms) N' σ' (pc + 3) lv (v.toList ++ rest)) : Z l D cl tys Ts Nw own nm cc nL ret R b Fi k n N σ pc lv st := by
  intro p e s m args below meth c H locs ls hF hP hS hl
  obtain ⟨hx, hb, hml, hr, hlocks, hown, hts, hK, hNw, hname, hbs⟩ := id hF
  obtain ⟨hG, ⟨ws', hw⟩, hd4⟩ := cw
  have hpre := z_pre (y := y) (av := As) hK hNw hP
  refine z_behind (mc := mc) (ms := ms) (Q := Q) (rest := rest) hF hS hl (va_runS (n := i) (As := As) (rest := rest) (g := F0 m pc ls st) ⟨hx, hb, hml, hown, hts⟩ hM (cwS i hts hG hw rfl rfl hd4 hR) ⟨hpre.1, hpre.2⟩ rfl hn hl.1 hst (lv_room hW) hd hf) kk
def zCI (Ts : List Cond) (own : String) (index : Nat) (y : MethodName) (bytes : ByteArray) (maxL : Nat) (ws : List Cond) (n : Nat) : Prop := GoodIn Ts ws ∧ (∃ ws', ws = Cond.code y bytes maxL none :: ws') ∧ Cond.initialized y.cls ∈ Ts ∧ Cond.methodLink own index y ∈ Ts ∧ Cond.instanceMethod y ∈ Ts ∧ y.name = "<init>" ∧ (y.cls ≠ "java/lang/invoke/MethodHandle" ∧ y.cls ≠ "java/lang/invoke/VarHandle" ∧ (parseMethodDescriptor y.desc).map (fun d => d.parameters.length) = some n)
theorem z_callI {y : MethodName} {ws : List Cond} {fr lo mc ms index maxL i a : Nat} {bytes : ByteArray} {As rest : List Value} {Q : Outcome → Nat → (Nat → Option va_E) → Prop}
    (hd : decode cc pc = .ok (.invokespecial index, 3)) (cw : zCI Ts own index y bytes maxL ws i) (hM : zM l D cl tys Nw b y ws fr lo mc ms (.ref a :: As) N σ Q) (hst : st = As.reverse ++ .ref a :: rest) (hn : As.length = i) (hW : (rest.map fun v => v.category).sum ≤ 8) (hR : fr + 1 ≤ R.frames ∧ 8 + (maxL + 11) + lo ≤ R.locals) (hf : k + mc ≤ R.cells ∧ n + ms ≤ R.slots)
    (kk : ∀ (v : Option Value) (N' : Nat) (σ' : Nat → Option va_E), Q (.returned v) N' σ' → Z l D cl tys Ts Nw own nm cc nL ret R b Fi (k + mc) (n + ms) N' σ' (pc + 3) lv (v.toList ++ rest)) : Z l D cl tys Ts Nw own nm cc nL ret R b Fi k n N σ pc lv st := by
  intro p e s m args below meth c H locs ls hF hP hS hl
  obtain ⟨hx, hb, hml, hr, hlocks, hown, hts, hK, hNw, hname, hbs⟩ := id hF
  obtain ⟨hG, ⟨ws', hw⟩, h1, h2, h3, h4, hd4⟩ := cw
  have hpre := z_pre (y := y) (av := .ref a :: As) hK hNw hP
  refine z_behind (mc := mc) (ms := ms) (Q := Q) (rest := rest) hF hS hl (va_runI (n := i) (As := As) (rest := rest) (g := F0 m pc ls st) ⟨hx, hb, hml, hown, hts⟩ hM (cwI i hts hG hw rfl rfl (hts _ h1) (hts _ h2) (hts _ h3) h4 hd4 hR) ⟨hpre.1, hpre.2⟩ rfl hn hl.1 hst (lv_room hW) hd hf) kk
/-- calls of private members of a nest mate -/
def zCN (Ts Nw : List Cond) (own : String) (index : Nat) (y : MethodName) (host : String) (bytes : ByteArray) (maxL : Nat) (ret : Option FieldType) (ws : List Cond) (n : Nat) : Prop := GoodIn Ts ws ∧ (∃ ws', ws = Cond.code y bytes maxL ret :: ws') ∧ Cond.methodLinkNest own index y host ∈ Nw ∧ Cond.initialized y.cls ∈ Ts ∧ (y.cls ≠ "java/lang/invoke/MethodHandle" ∧ y.cls ≠ "java/lang/invoke/VarHandle" ∧ (parseMethodDescriptor y.desc).map (fun d => d.parameters.length) = some n)
theorem z_callIN {y : MethodName} {ws : List Cond} {fr lo mc ms index maxL i a : Nat} {host : String} {bytes : ByteArray} {As rest : List Value} {Q : Outcome → Nat → (Nat → Option va_E) → Prop}
    (hd : decode cc pc = .ok (.invokespecial index, 3)) (cw : zCN Ts Nw own index y host bytes maxL none ws i) (h4 : y.name = "<init>") (h3 : Cond.instanceMethod y ∈ Ts) (hM : zM l D cl tys Nw b y ws fr lo mc ms (.ref a :: As) N σ Q) (hst : st = As.reverse ++ .ref a :: rest) (hn : As.length = i) (hW : (rest.map fun v => v.category).sum ≤ 8) (hR : fr + 1 ≤ R.frames ∧ 8 + (maxL + 11) + lo ≤ R.locals) (hf : k + mc ≤ R.cells ∧ n + ms ≤ R.slots)
    (kk : ∀ (v : Option Value) (N' : Nat) (σ' : Nat → Option va_E), Q (.returned v) N' σ' → Z l D cl tys Ts Nw own nm cc nL ret R b Fi (k + mc) (n + ms) N' σ' (pc + 3) lv (v.toList ++ rest)) : Z l D cl tys Ts Nw own nm cc nL ret R b Fi k n N σ pc lv st := by
  intro p e s m args below meth c H locs ls hF hP hS hl
  obtain ⟨hx, hb, hml, hr, hlocks, hown, hts, hK, hNw, hname, hbs⟩ := id hF
  obtain ⟨hG, ⟨ws', hw⟩, h1, h2, hd4⟩ := cw
  have hpre := z_pre (y := y) (av := .ref a :: As) hK hNw hP
  refine z_behind (mc := mc) (ms := ms) (Q := Q) (rest := rest) hF hS hl (va_runIN (n := i) (As := As) (rest := rest) (g := F0 m pc ls st) ⟨hx, hb, hml, hown, hts⟩ hM ⟨va_cnB i hts hG hw rfl rfl (hNw _ h1).1 (hts _ h2) hd4 hR, h4, hts _ h3⟩ ⟨hpre.1, hpre.2⟩ rfl hn hl.1 hst (lv_room hW) hd hf) kk
theorem z_callSN {y : MethodName} {ws : List Cond} {fr lo mc ms index maxL i : Nat} {host : String} {bytes : ByteArray} {ret' : Option FieldType} {As rest : List Value} {Q : Outcome → Nat → (Nat → Option va_E) → Prop}
    (hd : decode cc pc = .ok (.invokestatic index, 3)) (cw : zCN Ts Nw own index y host bytes maxL ret' ws i) (h3 : Cond.static y ∈ Ts) (hM : zM l D cl tys Nw b y ws fr lo mc ms As N σ Q) (hst : st = As.reverse ++ rest) (hn : As.length = i) (hW : (rest.map fun v => v.category).sum ≤ 8) (hR : fr + 1 ≤ R.frames ∧ 8 + (maxL + 11) + lo ≤ R.locals) (hf : k + mc ≤ R.cells ∧ n + ms ≤ R.slots)
    (kk : ∀ (v : Option Value) (N' : Nat) (σ' : Nat → Option va_E), Q (.returned v) N' σ' → Z l D cl tys Ts Nw own nm cc nL ret R b Fi (k + mc) (n + ms) N' σ' (pc + 3) lv (v.toList ++ rest)) : Z l D cl tys Ts Nw own nm cc nL ret R b Fi k n N σ pc lv st := by
  intro p e s m args below meth c H locs ls hF hP hS hl
  obtain ⟨hx, hb, hml, hr, hlocks, hown, hts, hK, hNw, hname, hbs⟩ := id hF
  obtain ⟨hG, ⟨ws', hw⟩, h1, h2, hd4⟩ := cw
  have hpre := z_pre (y := y) (av := As) hK hNw hP
  refine z_behind (mc := mc) (ms := ms) (Q := Q) (rest := rest) hF hS hl (va_runSN (n := i) (As := As) (rest := rest) (g := F0 m pc ls st) ⟨hx, hb, hml, hown, hts⟩ hM ⟨va_cnB i hts hG hw rfl rfl (hNw _ h1).1 (hts _ h2) hd4 hR, hts _ h3, trivial⟩ ⟨hpre.1, hpre.2⟩ rfl hn hl.1 hst (lv_room hW) hd hf) kk
end ZR
/-- a contract out of a walk -/
theorem zM.of {l : Launch} {D : va_G} {cl : List vw_C} {tys : List (ClassId × FieldType)} {ws ws' Nw : List Cond} {b : Nat} {y : MethodName} {cc : ByteArray} {nL : Nat} {ret : Option FieldType} {fr lo mc ms : Nat} {av : List Value} {N : Nat} {σ : Nat → Option va_E} {Q : Outcome → Nat → (Nat → Option va_E) → Prop} (hy : plainName y.cls = true) (hw : ws = Cond.code y cc nL ret :: ws') (hlen : (lg_sl av).length ≤ nL)
    (kk : Z l D cl tys ws Nw y.cls y.name cc nL ret { frames := fr, cells := mc, slots := ms, locals := lo } b (zFi D cl b mc ms Q) 0 0 N σ 0 (lv_args 0 av) []) : zM l D cl tys Nw b y ws fr lo mc ms av N σ Q := by
  refine Met.ofW (cc := cc) (maxL := nL) (ret := ret) hy hw ?_
  intro p e s m args below meth c s₁ B hml hv
  obtain ⟨rfl, hP, hK, hN⟩ := hv
  have hx := B.exec
  have hb := B.bytes
  have hr := B.returns
  have hts := atoms_spec (ws := ws) B.pre
  have hown : s.vm.findClass y.cls = some m.cls := findClass_of_methodNamed B.named
  have hlocks := B.notSynchronized
  have hname : meth.name = y.name := (name_of_methodNamed B.named B.method).1
  have hl := lv_entry av (n := nL) hlen
  rw [lg_entry_eq]
  generalize (lg_sl av ++ List.replicate (nL - (lg_sl av).length) Slot.unset).toArray = ls at hl ⊢
  exact kk p e s m av.toArray below meth c s.heap [] ls ⟨hx, hb, hml, hr, hlocks, hown, hts, hK, hN, hname, by rw [hP.1]; exact Nat.le_add_right b N⟩ hP va_S.rf hl
end
section
/-- what of the tables' words a contract may carry on -/
def zT : List Cond := lw_tbl.filter goodWord
theorem zin {w : Cond} (i : Nat) (h : lw_tbl[i]? = some w) (hg : goodWord w = true) : w ∈ zT := List.mem_filter.mpr ⟨List.mem_of_getElem? h, hg⟩
theorem zT_tbl {w : Cond} (h : w ∈ zT) : w ∈ lw_tbl := (List.mem_filter.mp h).1
theorem mk_good {c c2 : Cond} (h : c2 ∈ zT) : GoodIn (c :: zT) (c2 :: zT) := fun w hw => (List.mem_cons.mp hw).elim (fun e => ⟨List.mem_cons_of_mem _ (e ▸ h), good_of_word (List.mem_filter.mp (e ▸ h)).2⟩) (fun h => ⟨List.mem_cons_of_mem _ h, good_of_word (List.mem_filter.mp h).2⟩)
theorem mk_cons {c w : Cond} {ws : List Cond} (h : w ∈ zT) (hg : GoodIn (c :: zT) ws) : GoodIn (c :: zT) (w :: ws) := fun v hv => (List.mem_cons.mp hv).elim (fun e => ⟨List.mem_cons_of_mem _ (e ▸ h), good_of_word (List.mem_filter.mp (e ▸ h)).2⟩) (hg v)
theorem mk_goodL {c2 : Cond} (h : c2 ∈ zT) : GoodIn lw_tbl (c2 :: zT) := fun w hw => (List.mem_cons.mp hw).elim (fun e => ⟨zT_tbl (e ▸ h), good_of_word (List.mem_filter.mp (e ▸ h)).2⟩) (fun h => ⟨zT_tbl h, good_of_word (List.mem_filter.mp h).2⟩)
def kR_C : String := "TreeCounts"
def kF_C : u_T := fun k => match k with
  | 0 => ("TreeCounts", "net", "LTreeCounts$Net;", true)
  | 1 => ("TreeCounts", "sums", "LTreeCounts$Trees;", true)
  | 2 => ("TreeCounts", "rings", "LTreeCounts$Rings;", true)
  | 3 => ("TreeCounts", "rounds", "LTreeCounts$Group;", true)
  | 4 => ("TreeCounts", "piles", "LTreeCounts$Piles;", true)
  | _ => ("TreeCounts", "sets", "LTreeCounts$Sets;", true)
def kT_C : Nat → FieldType := fun k => match k with
  | 0 => .object "TreeCounts$Net"
  | 1 => .object "TreeCounts$Trees"
  | 2 => .object "TreeCounts$Rings"
  | 3 => .object "TreeCounts$Group"
  | 4 => .object "TreeCounts$Piles"
  | _ => .object "TreeCounts$Sets"
theorem kn_C : ∀ a, a < 6 → ∀ b, b < 6 → a ≠ b → (kF_C a).2.1 ≠ (kF_C b).2.1 := by decide +kernel
theorem kt_C : ∀ k, k < 6 → parseFieldDescriptor (kF_C k).2.2.1 = some (kT_C k) := by decide +kernel
theorem ki_C : ∀ w ∈ u_ws kR_C kF_C 6, w ∈ zT := by
  have h : ∀ j, j < 6 → u_lay kR_C kF_C j ∈ zT := by
    intro j hj
    match j, hj with
    | 0, _ => exact (zin 305 (by decide +kernel) (by decide +kernel))
    | 1, _ => exact (zin 307 (by decide +kernel) (by decide +kernel))
    | 2, _ => exact (zin 309 (by decide +kernel) (by decide +kernel))
    | 3, _ => exact (zin 311 (by decide +kernel) (by decide +kernel))
    | 4, _ => exact (zin 313 (by decide +kernel) (by decide +kernel))
    | 5, _ => exact (zin 315 (by decide +kernel) (by decide +kernel))
    | j + 6, h => omega
  intro w hw
  obtain ⟨j, hj, rfl⟩ := List.mem_map.mp hw
  exact h j (List.mem_range.mp hj)
def kR_N : String := "TreeCounts$Net"
def kF_N : u_T := fun k => match k with
  | 0 => ("TreeCounts$Net", "nodes", "I", false)
  | 1 => ("TreeCounts$Net", "arcs", "I", false)
  | 2 => ("TreeCounts$Net", "from", "[I", true)
  | 3 => ("TreeCounts$Net", "to", "[I", true)
  | _ => ("TreeCounts$Net", "weight", "[I", true)
def kT_N : Nat → FieldType := fun k => match k with
  | 0 => .int
  | 1 => .int
  | 2 => .array .int
  | 3 => .array .int
  | _ => .array .int
theorem kn_N : ∀ a, a < 5 → ∀ b, b < 5 → a ≠ b → (kF_N a).2.1 ≠ (kF_N b).2.1 := by decide +kernel
theorem kt_N : ∀ k, k < 5 → parseFieldDescriptor (kF_N k).2.2.1 = some (kT_N k) := by decide +kernel
theorem ki_N : ∀ w ∈ u_ws kR_N kF_N 5, w ∈ zT := by
  have h : ∀ j, j < 5 → u_lay kR_N kF_N j ∈ zT := by
    intro j hj
    match j, hj with
    | 0, _ => exact (zin 111 (by decide +kernel) (by decide +kernel))
    | 1, _ => exact (zin 113 (by decide +kernel) (by decide +kernel))
    | 2, _ => exact (zin 115 (by decide +kernel) (by decide +kernel))
    | 3, _ => exact (zin 117 (by decide +kernel) (by decide +kernel))
    | 4, _ => exact (zin 119 (by decide +kernel) (by decide +kernel))
    | j + 5, h => omega
  intro w hw
  obtain ⟨j, hj, rfl⟩ := List.mem_map.mp hw
  exact h j (List.mem_range.mp hj)
def kR_P : String := "TreeCounts$Parts"
def kF_P : u_T := fun k => match k with
  | 0 => ("TreeCounts$Parts", "size", "I", false)
  | 1 => ("TreeCounts$Parts", "count", "I", false)
  | _ => ("TreeCounts$Parts", "part", "[I", true)
def kT_P : Nat → FieldType := fun k => match k with
  | 0 => .int
  | 1 => .int
  | _ => .array .int
theorem kn_P : ∀ a, a < 3 → ∀ b, b < 3 → a ≠ b → (kF_P a).2.1 ≠ (kF_P b).2.1 := by decide +kernel
theorem kt_P : ∀ k, k < 3 → parseFieldDescriptor (kF_P k).2.2.1 = some (kT_P k) := by decide +kernel
theorem ki_P : ∀ w ∈ u_ws kR_P kF_P 3, w ∈ zT := by
  have h : ∀ j, j < 3 → u_lay kR_P kF_P j ∈ zT := by
    intro j hj
    match j, hj with
    | 0, _ => exact (zin 136 (by decide +kernel) (by decide +kernel))
    | 1, _ => exact (zin 138 (by decide +kernel) (by decide +kernel))
    | 2, _ => exact (zin 140 (by decide +kernel) (by decide +kernel))
    | j + 3, h => omega
  intro w hw
  obtain ⟨j, hj, rfl⟩ := List.mem_map.mp hw
  exact h j (List.mem_range.mp hj)
def kR_G : String := "TreeCounts$Grid"
def kF_G : u_T := fun k => match k with
  | 0 => ("TreeCounts$Grid", "size", "I", false)
  | _ => ("TreeCounts$Grid", "cell", "[[J", true)
def kT_G : Nat → FieldType := fun k => match k with
  | 0 => .int
  | _ => .array (.array .long)
theorem kn_G : ∀ a, a < 2 → ∀ b, b < 2 → a ≠ b → (kF_G a).2.1 ≠ (kF_G b).2.1 := by decide +kernel
theorem kt_G : ∀ k, k < 2 → parseFieldDescriptor (kF_G k).2.2.1 = some (kT_G k) := by decide +kernel
theorem ki_G : ∀ w ∈ u_ws kR_G kF_G 2, w ∈ zT := by
  have h : ∀ j, j < 2 → u_lay kR_G kF_G j ∈ zT := by
    intro j hj
    match j, hj with
    | 0, _ => exact (zin 157 (by decide +kernel) (by decide +kernel))
    | 1, _ => exact (zin 159 (by decide +kernel) (by decide +kernel))
    | j + 2, h => omega
  intro w hw
  obtain ⟨j, hj, rfl⟩ := List.mem_map.mp hw
  exact h j (List.mem_range.mp hj)
def kR_T : String := "TreeCounts$Trees"
def kF_T : u_T := fun k => match k with
  | 0 => ("TreeCounts$Trees", "net", "LTreeCounts$Net;", true)
  | 1 => ("TreeCounts$Trees", "parts", "LTreeCounts$Parts;", true)
  | 2 => ("TreeCounts$Trees", "grid", "LTreeCounts$Grid;", true)
  | 3 => ("TreeCounts$Trees", "chosenSum", "J", false)
  | _ => ("TreeCounts$Trees", "chosenProduct", "J", false)
def kT_T : Nat → FieldType := fun k => match k with
  | 0 => .object "TreeCounts$Net"
  | 1 => .object "TreeCounts$Parts"
  | 2 => .object "TreeCounts$Grid"
  | 3 => .long
  | _ => .long
theorem kn_T : ∀ a, a < 5 → ∀ b, b < 5 → a ≠ b → (kF_T a).2.1 ≠ (kF_T b).2.1 := by decide +kernel
theorem kt_T : ∀ k, k < 5 → parseFieldDescriptor (kF_T k).2.2.1 = some (kT_T k) := by decide +kernel
theorem ki_T : ∀ w ∈ u_ws kR_T kF_T 5, w ∈ zT := by
  have h : ∀ j, j < 5 → u_lay kR_T kF_T j ∈ zT := by
    intro j hj
    match j, hj with
    | 0, _ => exact (zin 174 (by decide +kernel) (by decide +kernel))
    | 1, _ => exact (zin 176 (by decide +kernel) (by decide +kernel))
    | 2, _ => exact (zin 178 (by decide +kernel) (by decide +kernel))
    | 3, _ => exact (zin 180 (by decide +kernel) (by decide +kernel))
    | 4, _ => exact (zin 182 (by decide +kernel) (by decide +kernel))
    | j + 5, h => omega
  intro w hw
  obtain ⟨j, hj, rfl⟩ := List.mem_map.mp hw
  exact h j (List.mem_range.mp hj)
def kR_R : String := "TreeCounts$Rings"
def kF_R : u_T := fun k => match k with
  | 0 => ("TreeCounts$Rings", "length", "I", false)
  | 1 => ("TreeCounts$Rings", "row", "[I", true)
  | 2 => ("TreeCounts$Rings", "back", "[I", true)
  | 3 => ("TreeCounts$Rings", "net", "LTreeCounts$Net;", true)
  | _ => ("TreeCounts$Rings", "parts", "LTreeCounts$Parts;", true)
def kT_R : Nat → FieldType := fun k => match k with
  | 0 => .int
  | 1 => .array .int
  | 2 => .array .int
  | 3 => .object "TreeCounts$Net"
  | _ => .object "TreeCounts$Parts"
theorem kn_R : ∀ a, a < 5 → ∀ b, b < 5 → a ≠ b → (kF_R a).2.1 ≠ (kF_R b).2.1 := by decide +kernel
theorem kt_R : ∀ k, k < 5 → parseFieldDescriptor (kF_R k).2.2.1 = some (kT_R k) := by decide +kernel
theorem ki_R : ∀ w ∈ u_ws kR_R kF_R 5, w ∈ zT := by
  have h : ∀ j, j < 5 → u_lay kR_R kF_R j ∈ zT := by
    intro j hj
    match j, hj with
    | 0, _ => exact (zin 198 (by decide +kernel) (by decide +kernel))
    | 1, _ => exact (zin 200 (by decide +kernel) (by decide +kernel))
    | 2, _ => exact (zin 202 (by decide +kernel) (by decide +kernel))
    | 3, _ => exact (zin 204 (by decide +kernel) (by decide +kernel))
    | 4, _ => exact (zin 206 (by decide +kernel) (by decide +kernel))
    | j + 5, h => omega
  intro w hw
  obtain ⟨j, hj, rfl⟩ := List.mem_map.mp hw
  exact h j (List.mem_range.mp hj)
def kR_U : String := "TreeCounts$Group"
def kF_U : u_T := fun k => match k with
  | 0 => ("TreeCounts$Group", "count", "I", false)
  | 1 => ("TreeCounts$Group", "rounds", "[J", true)
  | 2 => ("TreeCounts$Group", "net", "LTreeCounts$Net;", true)
  | 3 => ("TreeCounts$Group", "sums", "LTreeCounts$Trees;", true)
  | 4 => ("TreeCounts$Group", "grid", "LTreeCounts$Grid;", true)
  | 5 => ("TreeCounts$Group", "order", "J", false)
  | 6 => ("TreeCounts$Group", "common", "J", false)
  | 7 => ("TreeCounts$Group", "timesPivot", "J", false)
  | _ => ("TreeCounts$Group", "timesOther", "J", false)
def kT_U : Nat → FieldType := fun k => match k with
  | 0 => .int
  | 1 => .array .long
  | 2 => .object "TreeCounts$Net"
  | 3 => .object "TreeCounts$Trees"
  | 4 => .object "TreeCounts$Grid"
  | 5 => .long
  | 6 => .long
  | 7 => .long
  | _ => .long
theorem kn_U : ∀ a, a < 9 → ∀ b, b < 9 → a ≠ b → (kF_U a).2.1 ≠ (kF_U b).2.1 := by decide +kernel
theorem kt_U : ∀ k, k < 9 → parseFieldDescriptor (kF_U k).2.2.1 = some (kT_U k) := by decide +kernel
theorem ki_U : ∀ w ∈ u_ws kR_U kF_U 9, w ∈ zT := by
  have h : ∀ j, j < 9 → u_lay kR_U kF_U j ∈ zT := by
    intro j hj
    match j, hj with
    | 0, _ => exact (zin 225 (by decide +kernel) (by decide +kernel))
    | 1, _ => exact (zin 227 (by decide +kernel) (by decide +kernel))
    | 2, _ => exact (zin 229 (by decide +kernel) (by decide +kernel))
    | 3, _ => exact (zin 231 (by decide +kernel) (by decide +kernel))
    | 4, _ => exact (zin 233 (by decide +kernel) (by decide +kernel))
    | 5, _ => exact (zin 235 (by decide +kernel) (by decide +kernel))
    | 6, _ => exact (zin 237 (by decide +kernel) (by decide +kernel))
    | 7, _ => exact (zin 239 (by decide +kernel) (by decide +kernel))
    | 8, _ => exact (zin 241 (by decide +kernel) (by decide +kernel))
    | j + 9, h => omega
  intro w hw
  obtain ⟨j, hj, rfl⟩ := List.mem_map.mp hw
  exact h j (List.mem_range.mp hj)
def kR_L : String := "TreeCounts$Piles"
def kF_L : u_T := fun k => match k with
  | 0 => ("TreeCounts$Piles", "held", "[J", true)
  | 1 => ("TreeCounts$Piles", "firings", "[J", true)
  | 2 => ("TreeCounts$Piles", "trialHeld", "[J", true)
  | 3 => ("TreeCounts$Piles", "trialFirings", "[J", true)
  | 4 => ("TreeCounts$Piles", "net", "LTreeCounts$Net;", true)
  | _ => ("TreeCounts$Piles", "grid", "LTreeCounts$Grid;", true)
def kT_L : Nat → FieldType := fun k => match k with
  | 0 => .array .long
  | 1 => .array .long
  | 2 => .array .long
  | 3 => .array .long
  | 4 => .object "TreeCounts$Net"
  | _ => .object "TreeCounts$Grid"
theorem kn_L : ∀ a, a < 6 → ∀ b, b < 6 → a ≠ b → (kF_L a).2.1 ≠ (kF_L b).2.1 := by decide +kernel
theorem kt_L : ∀ k, k < 6 → parseFieldDescriptor (kF_L k).2.2.1 = some (kT_L k) := by decide +kernel
theorem ki_L : ∀ w ∈ u_ws kR_L kF_L 6, w ∈ zT := by
  have h : ∀ j, j < 6 → u_lay kR_L kF_L j ∈ zT := by
    intro j hj
    match j, hj with
    | 0, _ => exact (zin 258 (by decide +kernel) (by decide +kernel))
    | 1, _ => exact (zin 260 (by decide +kernel) (by decide +kernel))
    | 2, _ => exact (zin 262 (by decide +kernel) (by decide +kernel))
    | 3, _ => exact (zin 264 (by decide +kernel) (by decide +kernel))
    | 4, _ => exact (zin 266 (by decide +kernel) (by decide +kernel))
    | 5, _ => exact (zin 268 (by decide +kernel) (by decide +kernel))
    | j + 6, h => omega
  intro w hw
  obtain ⟨j, hj, rfl⟩ := List.mem_map.mp hw
  exact h j (List.mem_range.mp hj)
def kR_S : String := "TreeCounts$Sets"
def kF_S : u_T := fun k => match k with
  | 0 => ("TreeCounts$Sets", "net", "LTreeCounts$Net;", true)
  | 1 => ("TreeCounts$Sets", "parts", "LTreeCounts$Parts;", true)
  | 2 => ("TreeCounts$Sets", "joined", "[LTreeCounts$Parts;", true)
  | 3 => ("TreeCounts$Sets", "lifts", "[J", true)
  | 4 => ("TreeCounts$Sets", "turns", "[J", true)
  | _ => ("TreeCounts$Sets", "fewestParts", "I", false)
def kT_S : Nat → FieldType := fun k => match k with
  | 0 => .object "TreeCounts$Net"
  | 1 => .object "TreeCounts$Parts"
  | 2 => .array (.object "TreeCounts$Parts")
  | 3 => .array .long
  | 4 => .array .long
  | _ => .int
theorem kn_S : ∀ a, a < 6 → ∀ b, b < 6 → a ≠ b → (kF_S a).2.1 ≠ (kF_S b).2.1 := by decide +kernel
theorem kt_S : ∀ k, k < 6 → parseFieldDescriptor (kF_S k).2.2.1 = some (kT_S k) := by decide +kernel
theorem ki_S : ∀ w ∈ u_ws kR_S kF_S 6, w ∈ zT := by
  have h : ∀ j, j < 6 → u_lay kR_S kF_S j ∈ zT := by
    intro j hj
    match j, hj with
    | 0, _ => exact (zin 286 (by decide +kernel) (by decide +kernel))
    | 1, _ => exact (zin 288 (by decide +kernel) (by decide +kernel))
    | 2, _ => exact (zin 290 (by decide +kernel) (by decide +kernel))
    | 3, _ => exact (zin 292 (by decide +kernel) (by decide +kernel))
    | 4, _ => exact (zin 294 (by decide +kernel) (by decide +kernel))
    | 5, _ => exact (zin 296 (by decide +kernel) (by decide +kernel))
    | j + 6, h => omega
  intro w hw
  obtain ⟨j, hj, rfl⟩ := List.mem_map.mp hw
  exact h j (List.mem_range.mp hj)
def kR_M : String := "TreeCountsModel"
def kF_M : u_T := fun k => match k with
  | 0 => ("TreeCountsModel", "thrown", "I", false)
  | 1 => ("TreeCountsModel", "nodes", "I", false)
  | 2 => ("TreeCountsModel", "arcs", "I", false)
  | 3 => ("TreeCountsModel", "from", "[I", true)
  | 4 => ("TreeCountsModel", "to", "[I", true)
  | 5 => ("TreeCountsModel", "weight", "[I", true)
  | 6 => ("TreeCountsModel", "chip", "[J", true)
  | 7 => ("TreeCountsModel", "fire", "[J", true)
  | 8 => ("TreeCountsModel", "a", "[J", true)
  | 9 => ("TreeCountsModel", "work", "[J", true)
  | 10 => ("TreeCountsModel", "part", "[I", true)
  | 11 => ("TreeCountsModel", "isOut", "[Z", true)
  | 12 => ("TreeCountsModel", "index", "[I", true)
  | 13 => ("TreeCountsModel", "kept", "[I", true)
  | 14 => ("TreeCountsModel", "factor", "J", false)
  | 15 => ("TreeCountsModel", "isTaken", "[Z", true)
  | 16 => ("TreeCountsModel", "line", "[I", true)
  | 17 => ("TreeCountsModel", "lineSize", "I", false)
  | 18 => ("TreeCountsModel", "by", "[I", true)
  | 19 => ("TreeCountsModel", "seen", "[Z", true)
  | 20 => ("TreeCountsModel", "queue", "[I", true)
  | 21 => ("TreeCountsModel", "rounds", "[J", true)
  | 22 => ("TreeCountsModel", "roundMany", "I", false)
  | 23 => ("TreeCountsModel", "pile", "[J", true)
  | _ => ("TreeCountsModel", "fires", "[J", true)
def kT_M : Nat → FieldType := fun k => match k with
  | 0 => .int
  | 1 => .int
  | 2 => .int
  | 3 => .array .int
  | 4 => .array .int
  | 5 => .array .int
  | 6 => .array .long
  | 7 => .array .long
  | 8 => .array .long
  | 9 => .array .long
  | 10 => .array .int
  | 11 => .array .boolean
  | 12 => .array .int
  | 13 => .array .int
  | 14 => .long
  | 15 => .array .boolean
  | 16 => .array .int
  | 17 => .int
  | 18 => .array .int
  | 19 => .array .boolean
  | 20 => .array .int
  | 21 => .array .long
  | 22 => .int
  | 23 => .array .long
  | _ => .array .long
theorem kn_M : ∀ a, a < 25 → ∀ b, b < 25 → a ≠ b → (kF_M a).2.1 ≠ (kF_M b).2.1 := by decide +kernel
theorem kt_M : ∀ k, k < 25 → parseFieldDescriptor (kF_M k).2.2.1 = some (kT_M k) := by decide +kernel
theorem ki_M : ∀ w ∈ u_ws kR_M kF_M 25, w ∈ zT := by
  have h : ∀ j, j < 25 → u_lay kR_M kF_M j ∈ zT := by
    intro j hj
    match j, hj with
    | 0, _ => exact (zin 787 (by decide +kernel) (by decide +kernel))
    | 1, _ => exact (zin 789 (by decide +kernel) (by decide +kernel))
    | 2, _ => exact (zin 791 (by decide +kernel) (by decide +kernel))
    | 3, _ => exact (zin 793 (by decide +kernel) (by decide +kernel))
    | 4, _ => exact (zin 795 (by decide +kernel) (by decide +kernel))
    | 5, _ => exact (zin 797 (by decide +kernel) (by decide +kernel))
    | 6, _ => exact (zin 799 (by decide +kernel) (by decide +kernel))
    | 7, _ => exact (zin 801 (by decide +kernel) (by decide +kernel))
    | 8, _ => exact (zin 803 (by decide +kernel) (by decide +kernel))
    | 9, _ => exact (zin 805 (by decide +kernel) (by decide +kernel))
    | 10, _ => exact (zin 807 (by decide +kernel) (by decide +kernel))
    | 11, _ => exact (zin 809 (by decide +kernel) (by decide +kernel))
    | 12, _ => exact (zin 811 (by decide +kernel) (by decide +kernel))
    | 13, _ => exact (zin 813 (by decide +kernel) (by decide +kernel))
    | 14, _ => exact (zin 815 (by decide +kernel) (by decide +kernel))
    | 15, _ => exact (zin 817 (by decide +kernel) (by decide +kernel))
    | 16, _ => exact (zin 819 (by decide +kernel) (by decide +kernel))
    | 17, _ => exact (zin 821 (by decide +kernel) (by decide +kernel))
    | 18, _ => exact (zin 823 (by decide +kernel) (by decide +kernel))
    | 19, _ => exact (zin 825 (by decide +kernel) (by decide +kernel))
    | 20, _ => exact (zin 827 (by decide +kernel) (by decide +kernel))
    | 21, _ => exact (zin 829 (by decide +kernel) (by decide +kernel))
    | 22, _ => exact (zin 831 (by decide +kernel) (by decide +kernel))
    | 23, _ => exact (zin 833 (by decide +kernel) (by decide +kernel))
    | 24, _ => exact (zin 835 (by decide +kernel) (by decide +kernel))
    | j + 25, h => omega
  intro w hw
  obtain ⟨j, hj, rfl⟩ := List.mem_map.mp hw
  exact h j (List.mem_range.mp hj)
abbrev kCl : List vw_C := [(kR_C, kF_C, 6), (kR_N, kF_N, 5), (kR_P, kF_P, 3), (kR_G, kF_G, 2), (kR_T, kF_T, 5), (kR_R, kF_R, 5), (kR_U, kF_U, 9), (kR_L, kF_L, 6), (kR_S, kF_S, 6), (kR_M, kF_M, 25)]
abbrev kA_C : Nat := 0
theorem kc_C : kCl[0]? = some (kR_C, kF_C, 6) := rfl
abbrev kA_N : Nat := 1
theorem kc_N : kCl[1]? = some (kR_N, kF_N, 5) := rfl
abbrev kA_P : Nat := 2
theorem kc_P : kCl[2]? = some (kR_P, kF_P, 3) := rfl
abbrev kA_G : Nat := 3
theorem kc_G : kCl[3]? = some (kR_G, kF_G, 2) := rfl
abbrev kA_T : Nat := 4
theorem kc_T : kCl[4]? = some (kR_T, kF_T, 5) := rfl
abbrev kA_R : Nat := 5
theorem kc_R : kCl[5]? = some (kR_R, kF_R, 5) := rfl
abbrev kA_U : Nat := 6
theorem kc_U : kCl[6]? = some (kR_U, kF_U, 9) := rfl
abbrev kA_L : Nat := 7
theorem kc_L : kCl[7]? = some (kR_L, kF_L, 6) := rfl
abbrev kA_S : Nat := 8
theorem kc_S : kCl[8]? = some (kR_S, kF_S, 6) := rfl
abbrev kA_M : Nat := 9
theorem kc_M : kCl[9]? = some (kR_M, kF_M, 25) := rfl
abbrev kb_C_init : ByteArray := prog_1_method_1_code
abbrev ky_C_init : MethodName := ⟨"TreeCounts", "<init>", "()V"⟩
abbrev kh_C_init : Cond := .code ky_C_init kb_C_init 3 none
theorem kz_C_init : kh_C_init ∈ zT := zin 71 (by decide +kernel) (by decide +kernel)
abbrev kb_C_node : ByteArray := prog_1_method_2_code
abbrev ky_C_node : MethodName := ⟨"TreeCounts", "node", "()I"⟩
abbrev kh_C_node : Cond := .code ky_C_node kb_C_node 1 (some FieldType.int)
theorem kz_C_node : kh_C_node ∈ zT := zin 321 (by decide +kernel) (by decide +kernel)
abbrev kb_C_arc : ByteArray := prog_1_method_3_code
abbrev ky_C_arc : MethodName := ⟨"TreeCounts", "arc", "(III)I"⟩
abbrev kh_C_arc : Cond := .code ky_C_arc kb_C_arc 4 (some FieldType.int)
theorem kz_C_arc : kh_C_arc ∈ zT := zin 325 (by decide +kernel) (by decide +kernel)
abbrev kb_C_weigh : ByteArray := prog_1_method_4_code
abbrev ky_C_weigh : MethodName := ⟨"TreeCounts", "weigh", "(II)I"⟩
abbrev kh_C_weigh : Cond := .code ky_C_weigh kb_C_weigh 4 (some FieldType.int)
theorem kz_C_weigh : kh_C_weigh ∈ zT := zin 336 (by decide +kernel) (by decide +kernel)
abbrev kb_C_drop : ByteArray := prog_1_method_5_code
abbrev ky_C_drop : MethodName := ⟨"TreeCounts", "drop", "()Z"⟩
abbrev kh_C_drop : Cond := .code ky_C_drop kb_C_drop 1 (some FieldType.boolean)
theorem kz_C_drop : kh_C_drop ∈ zT := zin 344 (by decide +kernel) (by decide +kernel)
abbrev kb_C_trees : ByteArray := prog_1_method_6_code
abbrev ky_C_trees : MethodName := ⟨"TreeCounts", "trees", "()J"⟩
abbrev kh_C_trees : Cond := .code ky_C_trees kb_C_trees 1 (some FieldType.long)
theorem kz_C_trees : kh_C_trees ∈ zT := zin 348 (by decide +kernel) (by decide +kernel)
abbrev kb_C_through : ByteArray := prog_1_method_7_code
abbrev ky_C_through : MethodName := ⟨"TreeCounts", "through", "(I)J"⟩
abbrev kh_C_through : Cond := .code ky_C_through kb_C_through 2 (some FieldType.long)
theorem kz_C_through : kh_C_through ∈ zT := zin 403 (by decide +kernel) (by decide +kernel)
abbrev kb_C_rooted : ByteArray := prog_1_method_8_code
abbrev ky_C_rooted : MethodName := ⟨"TreeCounts", "rooted", "(I)J"⟩
abbrev kh_C_rooted : Cond := .code ky_C_rooted kb_C_rooted 2 (some FieldType.long)
theorem kz_C_rooted : kh_C_rooted ∈ zT := zin 422 (by decide +kernel) (by decide +kernel)
abbrev kb_C_forests : ByteArray := prog_1_method_9_code
abbrev ky_C_forests : MethodName := ⟨"TreeCounts", "forests", "()J"⟩
abbrev kh_C_forests : Cond := .code ky_C_forests kb_C_forests 1 (some FieldType.long)
theorem kz_C_forests : kh_C_forests ∈ zT := zin 435 (by decide +kernel) (by decide +kernel)
abbrev kb_C_apart : ByteArray := prog_1_method_10_code
abbrev ky_C_apart : MethodName := ⟨"TreeCounts", "apart", "(II)J"⟩
abbrev kh_C_apart : Cond := .code ky_C_apart kb_C_apart 3 (some FieldType.long)
theorem kz_C_apart : kh_C_apart ∈ zT := zin 448 (by decide +kernel) (by decide +kernel)
abbrev kb_C_resistance : ByteArray := prog_1_method_11_code
abbrev ky_C_resistance : MethodName := ⟨"TreeCounts", "resistance", "(III)J"⟩
abbrev kh_C_resistance : Cond := .code ky_C_resistance kb_C_resistance 10 (some FieldType.long)
theorem kz_C_resistance : kh_C_resistance ∈ zT := zin 456 (by decide +kernel) (by decide +kernel)
abbrev kb_C_tours : ByteArray := prog_1_method_12_code
abbrev ky_C_tours : MethodName := ⟨"TreeCounts", "tours", "()J"⟩
abbrev kh_C_tours : Cond := .code ky_C_tours kb_C_tours 1 (some FieldType.long)
theorem kz_C_tours : kh_C_tours ∈ zT := zin 464 (by decide +kernel) (by decide +kernel)
abbrev kb_C_drawn : ByteArray := prog_1_method_13_code
abbrev ky_C_drawn : MethodName := ⟨"TreeCounts", "drawn", "(J)I"⟩
abbrev kh_C_drawn : Cond := .code ky_C_drawn kb_C_drawn 3 (some FieldType.int)
theorem kz_C_drawn : kh_C_drawn ∈ zT := zin 483 (by decide +kernel) (by decide +kernel)
abbrev kb_C_place : ByteArray := prog_1_method_14_code
abbrev ky_C_place : MethodName := ⟨"TreeCounts", "place", "(I)J"⟩
abbrev kh_C_place : Cond := .code ky_C_place kb_C_place 2 (some FieldType.long)
theorem kz_C_place : kh_C_place ∈ zT := zin 507 (by decide +kernel) (by decide +kernel)
abbrev kb_C_ring : ByteArray := prog_1_method_15_code
abbrev ky_C_ring : MethodName := ⟨"TreeCounts", "ring", "(II)I"⟩
abbrev kh_C_ring : Cond := .code ky_C_ring kb_C_ring 3 (some FieldType.int)
theorem kz_C_ring : kh_C_ring ∈ zT := zin 519 (by decide +kernel) (by decide +kernel)
abbrev kb_C_group : ByteArray := prog_1_method_16_code
abbrev ky_C_group : MethodName := ⟨"TreeCounts", "group", "(I)J"⟩
abbrev kh_C_group : Cond := .code ky_C_group kb_C_group 2 (some FieldType.long)
theorem kz_C_group : kh_C_group ∈ zT := zin 545 (by decide +kernel) (by decide +kernel)
abbrev kb_C_chips : ByteArray := prog_1_method_17_code
abbrev ky_C_chips : MethodName := ⟨"TreeCounts", "chips", "(II)J"⟩
abbrev kh_C_chips : Cond := .code ky_C_chips kb_C_chips 5 (some FieldType.long)
theorem kz_C_chips : kh_C_chips ∈ zT := zin 600 (by decide +kernel) (by decide +kernel)
abbrev kb_C_level : ByteArray := prog_1_method_18_code
abbrev ky_C_level : MethodName := ⟨"TreeCounts", "level", "(I)J"⟩
abbrev kh_C_level : Cond := .code ky_C_level kb_C_level 2 (some FieldType.long)
theorem kz_C_level : kh_C_level ∈ zT := zin 604 (by decide +kernel) (by decide +kernel)
abbrev kb_C_settle : ByteArray := prog_1_method_19_code
abbrev ky_C_settle : MethodName := ⟨"TreeCounts", "settle", "(I)J"⟩
abbrev kh_C_settle : Cond := .code ky_C_settle kb_C_settle 2 (some FieldType.long)
theorem kz_C_settle : kh_C_settle ∈ zT := zin 608 (by decide +kernel) (by decide +kernel)
abbrev kb_C_fired : ByteArray := prog_1_method_20_code
abbrev ky_C_fired : MethodName := ⟨"TreeCounts", "fired", "(I)J"⟩
abbrev kh_C_fired : Cond := .code ky_C_fired kb_C_fired 2 (some FieldType.long)
theorem kz_C_fired : kh_C_fired ∈ zT := zin 630 (by decide +kernel) (by decide +kernel)
abbrev kb_C_recurrent : ByteArray := prog_1_method_21_code
abbrev ky_C_recurrent : MethodName := ⟨"TreeCounts", "recurrent", "(I)I"⟩
abbrev kh_C_recurrent : Cond := .code ky_C_recurrent kb_C_recurrent 2 (some FieldType.int)
theorem kz_C_recurrent : kh_C_recurrent ∈ zT := zin 634 (by decide +kernel) (by decide +kernel)
abbrev kb_C_point : ByteArray := prog_1_method_22_code
abbrev ky_C_point : MethodName := ⟨"TreeCounts", "point", "(JJ)J"⟩
abbrev kh_C_point : Cond := .code ky_C_point kb_C_point 5 (some FieldType.long)
theorem kz_C_point : kh_C_point ∈ zT := zin 668 (by decide +kernel) (by decide +kernel)
abbrev kb_C_told : ByteArray := prog_1_method_23_code
abbrev ky_C_told : MethodName := ⟨"TreeCounts", "told", "(I)I"⟩
abbrev kh_C_told : Cond := .code ky_C_told kb_C_told 2 (some FieldType.int)
theorem kz_C_told : kh_C_told ∈ zT := zin 642 (by decide +kernel) (by decide +kernel)
abbrev kb_C_clear : ByteArray := prog_1_method_24_code
abbrev ky_C_clear : MethodName := ⟨"TreeCounts", "clear", "()V"⟩
abbrev kh_C_clear : Cond := .code ky_C_clear kb_C_clear 1 none
theorem kz_C_clear : kh_C_clear ∈ zT := zin 656 (by decide +kernel) (by decide +kernel)
abbrev kb_C_isWeight : ByteArray := prog_1_method_25_code
abbrev ky_C_isWeight : MethodName := ⟨"TreeCounts", "isWeight", "(I)Z"⟩
abbrev kh_C_isWeight : Cond := .code ky_C_isWeight kb_C_isWeight 1 (some FieldType.boolean)
theorem kz_C_isWeight : kh_C_isWeight ∈ zT := zin 332 (by decide +kernel) (by decide +kernel)
abbrev kb_C_commonDivisor : ByteArray := prog_1_method_26_code
abbrev ky_C_commonDivisor : MethodName := ⟨"TreeCounts", "commonDivisor", "(JJ)J"⟩
abbrev kh_C_commonDivisor : Cond := .code ky_C_commonDivisor kb_C_commonDivisor 11 (some FieldType.long)
theorem kz_C_commonDivisor : kh_C_commonDivisor ∈ zT := zin 460 (by decide +kernel) (by decide +kernel)
abbrev kb_N_init : ByteArray := prog_4_method_1_code
abbrev ky_N_init : MethodName := ⟨"TreeCounts$Net", "<init>", "()V"⟩
abbrev kh_N_init : Cond := .code ky_N_init kb_N_init 1 none
theorem kz_N_init : kh_N_init ∈ zT := zin 79 (by decide +kernel) (by decide +kernel)
abbrev kb_N_hasNode : ByteArray := prog_4_method_2_code
abbrev ky_N_hasNode : MethodName := ⟨"TreeCounts$Net", "hasNode", "(I)Z"⟩
abbrev kh_N_hasNode : Cond := .code ky_N_hasNode kb_N_hasNode 2 (some FieldType.boolean)
theorem kz_N_hasNode : kh_N_hasNode ∈ zT := zin 329 (by decide +kernel) (by decide +kernel)
abbrev kb_N_hasArc : ByteArray := prog_4_method_3_code
abbrev ky_N_hasArc : MethodName := ⟨"TreeCounts$Net", "hasArc", "(I)Z"⟩
abbrev kh_N_hasArc : Cond := .code ky_N_hasArc kb_N_hasArc 2 (some FieldType.boolean)
theorem kz_N_hasArc : kh_N_hasArc ∈ zT := zin 340 (by decide +kernel) (by decide +kernel)
abbrev kb_N_weightOutOf : ByteArray := prog_4_method_4_code
abbrev ky_N_weightOutOf : MethodName := ⟨"TreeCounts$Net", "weightOutOf", "(I)I"⟩
abbrev kh_N_weightOutOf : Cond := .code ky_N_weightOutOf kb_N_weightOutOf 4 (some FieldType.int)
theorem kz_N_weightOutOf : kh_N_weightOutOf ∈ zT := zin 472 (by decide +kernel) (by decide +kernel)
abbrev kb_N_weightInto : ByteArray := prog_4_method_5_code
abbrev ky_N_weightInto : MethodName := ⟨"TreeCounts$Net", "weightInto", "(I)I"⟩
abbrev kh_N_weightInto : Cond := .code ky_N_weightInto kb_N_weightInto 4 (some FieldType.int)
theorem kz_N_weightInto : kh_N_weightInto ∈ zT := zin 476 (by decide +kernel) (by decide +kernel)
abbrev kb_N_firstTrees : ByteArray := prog_4_method_6_code
abbrev ky_N_firstTrees : MethodName := ⟨"TreeCounts$Net", "firstTrees", "(LTreeCounts$Parts;)I"⟩
abbrev kh_N_firstTrees : Cond := .code ky_N_firstTrees kb_N_firstTrees 4 (some FieldType.int)
theorem kz_N_firstTrees : kh_N_firstTrees ∈ zT := zin 527 (by decide +kernel) (by decide +kernel)
abbrev kb_P_init : ByteArray := prog_5_method_1_code
abbrev ky_P_init : MethodName := ⟨"TreeCounts$Parts", "<init>", "()V"⟩
abbrev kh_P_init : Cond := .code ky_P_init kb_P_init 1 none
theorem kz_P_init : kh_P_init ∈ zT := zin 127 (by decide +kernel) (by decide +kernel)
abbrev kb_P_split : ByteArray := prog_5_method_2_code
abbrev ky_P_split : MethodName := ⟨"TreeCounts$Parts", "split", "(I)V"⟩
abbrev kh_P_split : Cond := .code ky_P_split kb_P_split 3 none
theorem kz_P_split : kh_P_split ∈ zT := zin 356 (by decide +kernel) (by decide +kernel)
abbrev kb_P_become : ByteArray := prog_5_method_3_code
abbrev ky_P_become : MethodName := ⟨"TreeCounts$Parts", "become", "(LTreeCounts$Parts;)V"⟩
abbrev kh_P_become : Cond := .code ky_P_become kb_P_become 2 none
theorem kz_P_become : kh_P_become ∈ zT := zin 751 (by decide +kernel) (by decide +kernel)
abbrev kb_P_areOne : ByteArray := prog_5_method_4_code
abbrev ky_P_areOne : MethodName := ⟨"TreeCounts$Parts", "areOne", "(II)Z"⟩
abbrev kh_P_areOne : Cond := .code ky_P_areOne kb_P_areOne 3 (some FieldType.boolean)
theorem kz_P_areOne : kh_P_areOne ∈ zT := zin 499 (by decide +kernel) (by decide +kernel)
abbrev kb_P_unite : ByteArray := prog_5_method_5_code
abbrev ky_P_unite : MethodName := ⟨"TreeCounts$Parts", "unite", "(II)Z"⟩
abbrev kh_P_unite : Cond := .code ky_P_unite kb_P_unite 6 (some FieldType.boolean)
theorem kz_P_unite : kh_P_unite ∈ zT := zin 411 (by decide +kernel) (by decide +kernel)
abbrev kb_G_init : ByteArray := prog_2_method_1_code
abbrev ky_G_init : MethodName := ⟨"TreeCounts$Grid", "<init>", "()V"⟩
abbrev kh_G_init : Cond := .code ky_G_init kb_G_init 1 none
theorem kz_G_init : kh_G_init ∈ zT := zin 147 (by decide +kernel) (by decide +kernel)
abbrev kb_G_blank : ByteArray := prog_2_method_2_code
abbrev ky_G_blank : MethodName := ⟨"TreeCounts$Grid", "blank", "(I)V"⟩
abbrev kh_G_blank : Cond := .code ky_G_blank kb_G_blank 4 none
theorem kz_G_blank : kh_G_blank ∈ zT := zin 364 (by decide +kernel) (by decide +kernel)
abbrev kb_G_addOneWay : ByteArray := prog_2_method_3_code
abbrev ky_G_addOneWay : MethodName := ⟨"TreeCounts$Grid", "addOneWay", "(III)V"⟩
abbrev kh_G_addOneWay : Cond := .code ky_G_addOneWay kb_G_addOneWay 4 none
theorem kz_G_addOneWay : kh_G_addOneWay ∈ zT := zin 372 (by decide +kernel) (by decide +kernel)
abbrev kb_G_addBothWays : ByteArray := prog_2_method_4_code
abbrev ky_G_addBothWays : MethodName := ⟨"TreeCounts$Grid", "addBothWays", "(III)V"⟩
abbrev kh_G_addBothWays : Cond := .code ky_G_addBothWays kb_G_addBothWays 4 none
theorem kz_G_addBothWays : kh_G_addBothWays ∈ zT := zin 368 (by decide +kernel) (by decide +kernel)
abbrev kb_G_fillBothWays : ByteArray := prog_2_method_5_code
abbrev ky_G_fillBothWays : MethodName := ⟨"TreeCounts$Grid", "fillBothWays", "(LTreeCounts$Net;)V"⟩
abbrev kh_G_fillBothWays : Cond := .code ky_G_fillBothWays kb_G_fillBothWays 3 none
theorem kz_G_fillBothWays : kh_G_fillBothWays ∈ zT := zin 443 (by decide +kernel) (by decide +kernel)
abbrev kb_G_fillOneWay : ByteArray := prog_2_method_6_code
abbrev ky_G_fillOneWay : MethodName := ⟨"TreeCounts$Grid", "fillOneWay", "(LTreeCounts$Net;)V"⟩
abbrev kh_G_fillOneWay : Cond := .code ky_G_fillOneWay kb_G_fillOneWay 3 none
theorem kz_G_fillOneWay : kh_G_fillOneWay ∈ zT := zin 430 (by decide +kernel) (by decide +kernel)
abbrev kb_G_strike : ByteArray := prog_2_method_7_code
abbrev ky_G_strike : MethodName := ⟨"TreeCounts$Grid", "strike", "(I)V"⟩
abbrev kh_G_strike : Cond := .code ky_G_strike kb_G_strike 3 none
theorem kz_G_strike : kh_G_strike ∈ zT := zin 376 (by decide +kernel) (by decide +kernel)
abbrev kb_G_swapRows : ByteArray := prog_2_method_8_code
abbrev ky_G_swapRows : MethodName := ⟨"TreeCounts$Grid", "swapRows", "(II)V"⟩
abbrev kh_G_swapRows : Cond := .code ky_G_swapRows kb_G_swapRows 4 none
theorem kz_G_swapRows : kh_G_swapRows ∈ zT := zin 391 (by decide +kernel) (by decide +kernel)
abbrev kb_G_determinant : ByteArray := prog_2_method_9_code
abbrev ky_G_determinant : MethodName := ⟨"TreeCounts$Grid", "determinant", "()J"⟩
abbrev kh_G_determinant : Cond := .code ky_G_determinant kb_G_determinant 5 (some FieldType.long)
theorem kz_G_determinant : kh_G_determinant ∈ zT := zin 380 (by decide +kernel) (by decide +kernel)
abbrev kb_G_rowWithLowestBit : ByteArray := prog_2_method_10_code
abbrev ky_G_rowWithLowestBit : MethodName := ⟨"TreeCounts$Grid", "rowWithLowestBit", "(I)I"⟩
abbrev kh_G_rowWithLowestBit : Cond := .code ky_G_rowWithLowestBit kb_G_rowWithLowestBit 6 (some FieldType.int)
theorem kz_G_rowWithLowestBit : kh_G_rowWithLowestBit ∈ zT := zin 384 (by decide +kernel) (by decide +kernel)
abbrev kb_G_clearBelow : ByteArray := prog_2_method_11_code
abbrev ky_G_clearBelow : MethodName := ⟨"TreeCounts$Grid", "clearBelow", "(I)V"⟩
abbrev kh_G_clearBelow : Cond := .code ky_G_clearBelow kb_G_clearBelow 9 none
theorem kz_G_clearBelow : kh_G_clearBelow ∈ zT := zin 395 (by decide +kernel) (by decide +kernel)
abbrev kb_G_twos : ByteArray := prog_2_method_12_code
abbrev ky_G_twos : MethodName := ⟨"TreeCounts$Grid", "twos", "(J)I"⟩
abbrev kh_G_twos : Cond := .code ky_G_twos kb_G_twos 3 (some FieldType.int)
theorem kz_G_twos : kh_G_twos ∈ zT := zin 387 (by decide +kernel) (by decide +kernel)
abbrev kb_G_inverseOfOdd : ByteArray := prog_2_method_13_code
abbrev ky_G_inverseOfOdd : MethodName := ⟨"TreeCounts$Grid", "inverseOfOdd", "(J)J"⟩
abbrev kh_G_inverseOfOdd : Cond := .code ky_G_inverseOfOdd kb_G_inverseOfOdd 5 (some FieldType.long)
theorem kz_G_inverseOfOdd : kh_G_inverseOfOdd ∈ zT := zin 398 (by decide +kernel) (by decide +kernel)
abbrev kb_T_init : ByteArray := prog_9_method_1_code
abbrev ky_T_init : MethodName := ⟨"TreeCounts$Trees", "<init>", "(LTreeCounts$Net;LTreeCounts$Parts;LTreeCounts$Grid;)V"⟩
abbrev kh_T_init : Cond := .code ky_T_init kb_T_init 4 none
theorem kz_T_init : kh_T_init ∈ zT := zin 167 (by decide +kernel) (by decide +kernel)
abbrev kb_T_sumOfAll : ByteArray := prog_9_method_2_code
abbrev ky_T_sumOfAll : MethodName := ⟨"TreeCounts$Trees", "sumOfAll", "()J"⟩
abbrev kh_T_sumOfAll : Cond := .code ky_T_sumOfAll kb_T_sumOfAll 1 (some FieldType.long)
theorem kz_T_sumOfAll : kh_T_sumOfAll ∈ zT := zin 352 (by decide +kernel) (by decide +kernel)
abbrev kb_T_sumOverParts : ByteArray := prog_9_method_3_code
abbrev ky_T_sumOverParts : MethodName := ⟨"TreeCounts$Trees", "sumOverParts", "(I)J"⟩
abbrev kh_T_sumOverParts : Cond := .code ky_T_sumOverParts kb_T_sumOverParts 3 (some FieldType.long)
theorem kz_T_sumOverParts : kh_T_sumOverParts ∈ zT := zin 360 (by decide +kernel) (by decide +kernel)
abbrev kb_T_sumWith : ByteArray := prog_9_method_4_code
abbrev ky_T_sumWith : MethodName := ⟨"TreeCounts$Trees", "sumWith", "(I)J"⟩
abbrev kh_T_sumWith : Cond := .code ky_T_sumWith kb_T_sumWith 2 (some FieldType.long)
theorem kz_T_sumWith : kh_T_sumWith ∈ zT := zin 407 (by decide +kernel) (by decide +kernel)
abbrev kb_T_sumTowards : ByteArray := prog_9_method_5_code
abbrev ky_T_sumTowards : MethodName := ⟨"TreeCounts$Trees", "sumTowards", "(I)J"⟩
abbrev kh_T_sumTowards : Cond := .code ky_T_sumTowards kb_T_sumTowards 2 (some FieldType.long)
theorem kz_T_sumTowards : kh_T_sumTowards ∈ zT := zin 426 (by decide +kernel) (by decide +kernel)
abbrev kb_T_sumOfMarked : ByteArray := prog_9_method_6_code
abbrev ky_T_sumOfMarked : MethodName := ⟨"TreeCounts$Trees", "sumOfMarked", "()J"⟩
abbrev kh_T_sumOfMarked : Cond := .code ky_T_sumOfMarked kb_T_sumOfMarked 2 (some FieldType.long)
theorem kz_T_sumOfMarked : kh_T_sumOfMarked ∈ zT := zin 439 (by decide +kernel) (by decide +kernel)
abbrev kb_T_sumOfPairs : ByteArray := prog_9_method_7_code
abbrev ky_T_sumOfPairs : MethodName := ⟨"TreeCounts$Trees", "sumOfPairs", "(II)J"⟩
abbrev kh_T_sumOfPairs : Cond := .code ky_T_sumOfPairs kb_T_sumOfPairs 3 (some FieldType.long)
theorem kz_T_sumOfPairs : kh_T_sumOfPairs ∈ zT := zin 452 (by decide +kernel) (by decide +kernel)
abbrev kb_T_toursAlongAll : ByteArray := prog_9_method_8_code
abbrev ky_T_toursAlongAll : MethodName := ⟨"TreeCounts$Trees", "toursAlongAll", "()J"⟩
abbrev kh_T_toursAlongAll : Cond := .code ky_T_toursAlongAll kb_T_toursAlongAll 5 (some FieldType.long)
theorem kz_T_toursAlongAll : kh_T_toursAlongAll ∈ zT := zin 468 (by decide +kernel) (by decide +kernel)
abbrev kb_T_factorial : ByteArray := prog_9_method_9_code
abbrev ky_T_factorial : MethodName := ⟨"TreeCounts$Trees", "factorial", "(I)J"⟩
abbrev kh_T_factorial : Cond := .code ky_T_factorial kb_T_factorial 4 (some FieldType.long)
theorem kz_T_factorial : kh_T_factorial ∈ zT := zin 479 (by decide +kernel) (by decide +kernel)
abbrev kb_T_treeAt : ByteArray := prog_9_method_10_code
abbrev ky_T_treeAt : MethodName := ⟨"TreeCounts$Trees", "treeAt", "(J)I"⟩
abbrev kh_T_treeAt : Cond := .code ky_T_treeAt kb_T_treeAt 9 (some FieldType.int)
theorem kz_T_treeAt : kh_T_treeAt ∈ zT := zin 487 (by decide +kernel) (by decide +kernel)
abbrev kb_T_sumBefore : ByteArray := prog_9_method_11_code
abbrev ky_T_sumBefore : MethodName := ⟨"TreeCounts$Trees", "sumBefore", "(I)J"⟩
abbrev kh_T_sumBefore : Cond := .code ky_T_sumBefore kb_T_sumBefore 7 (some FieldType.long)
theorem kz_T_sumBefore : kh_T_sumBefore ∈ zT := zin 515 (by decide +kernel) (by decide +kernel)
abbrev kb_T_beginChoice : ByteArray := prog_9_method_12_code
abbrev ky_T_beginChoice : MethodName := ⟨"TreeCounts$Trees", "beginChoice", "()V"⟩
abbrev kh_T_beginChoice : Cond := .code ky_T_beginChoice kb_T_beginChoice 1 none
theorem kz_T_beginChoice : kh_T_beginChoice ∈ zT := zin 491 (by decide +kernel) (by decide +kernel)
abbrev kb_T_sumIfTaken : ByteArray := prog_9_method_13_code
abbrev ky_T_sumIfTaken : MethodName := ⟨"TreeCounts$Trees", "sumIfTaken", "(I)J"⟩
abbrev kh_T_sumIfTaken : Cond := .code ky_T_sumIfTaken kb_T_sumIfTaken 2 (some FieldType.long)
theorem kz_T_sumIfTaken : kh_T_sumIfTaken ∈ zT := zin 495 (by decide +kernel) (by decide +kernel)
abbrev kb_T_take : ByteArray := prog_9_method_14_code
abbrev ky_T_take : MethodName := ⟨"TreeCounts$Trees", "take", "(IJ)V"⟩
abbrev kh_T_take : Cond := .code ky_T_take kb_T_take 4 none
theorem kz_T_take : kh_T_take ∈ zT := zin 503 (by decide +kernel) (by decide +kernel)
abbrev kb_T_isTree : ByteArray := prog_9_method_15_code
abbrev ky_T_isTree : MethodName := ⟨"TreeCounts$Trees", "isTree", "(I)Z"⟩
abbrev kh_T_isTree : Cond := .code ky_T_isTree kb_T_isTree 4 (some FieldType.boolean)
theorem kz_T_isTree : kh_T_isTree ∈ zT := zin 511 (by decide +kernel) (by decide +kernel)
abbrev kb_R_init : ByteArray := prog_7_method_1_code
abbrev ky_R_init : MethodName := ⟨"TreeCounts$Rings", "<init>", "(LTreeCounts$Net;LTreeCounts$Parts;)V"⟩
abbrev kh_R_init : Cond := .code ky_R_init kb_R_init 3 none
theorem kz_R_init : kh_R_init ∈ zT := zin 189 (by decide +kernel) (by decide +kernel)
abbrev kb_R_partsOfNet : ByteArray := prog_7_method_2_code
abbrev ky_R_partsOfNet : MethodName := ⟨"TreeCounts$Rings", "partsOfNet", "()I"⟩
abbrev kh_R_partsOfNet : Cond := .code ky_R_partsOfNet kb_R_partsOfNet 1 (some FieldType.int)
theorem kz_R_partsOfNet : kh_R_partsOfNet ∈ zT := zin 612 (by decide +kernel) (by decide +kernel)
abbrev kb_R_count : ByteArray := prog_7_method_3_code
abbrev ky_R_count : MethodName := ⟨"TreeCounts$Rings", "count", "()I"⟩
abbrev kh_R_count : Cond := .code ky_R_count kb_R_count 1 (some FieldType.int)
theorem kz_R_count : kh_R_count ∈ zT := zin 646 (by decide +kernel) (by decide +kernel)
abbrev kb_R_lay : ByteArray := prog_7_method_4_code
abbrev ky_R_lay : MethodName := ⟨"TreeCounts$Rings", "lay", "(I)V"⟩
abbrev kh_R_lay : Cond := .code ky_R_lay kb_R_lay 7 none
theorem kz_R_lay : kh_R_lay ∈ zT := zin 523 (by decide +kernel) (by decide +kernel)
abbrev kb_R_untaken : ByteArray := prog_7_method_5_code
abbrev ky_R_untaken : MethodName := ⟨"TreeCounts$Rings", "untaken", "(II)I"⟩
abbrev kh_R_untaken : Cond := .code ky_R_untaken kb_R_untaken 5 (some FieldType.int)
theorem kz_R_untaken : kh_R_untaken ∈ zT := zin 533 (by decide +kernel) (by decide +kernel)
abbrev kb_R_findWaysBack : ByteArray := prog_7_method_6_code
abbrev ky_R_findWaysBack : MethodName := ⟨"TreeCounts$Rings", "findWaysBack", "(II)V"⟩
abbrev kh_R_findWaysBack : Cond := .code ky_R_findWaysBack kb_R_findWaysBack 6 none
theorem kz_R_findWaysBack : kh_R_findWaysBack ∈ zT := zin 537 (by decide +kernel) (by decide +kernel)
abbrev kb_R_reach : ByteArray := prog_7_method_7_code
abbrev ky_R_reach : MethodName := ⟨"TreeCounts$Rings", "reach", "(II)I"⟩
abbrev kh_R_reach : Cond := .code ky_R_reach kb_R_reach 6 (some FieldType.int)
theorem kz_R_reach : kh_R_reach ∈ zT := zin 541 (by decide +kernel) (by decide +kernel)
abbrev kb_U_init : ByteArray := prog_3_method_1_code
abbrev ky_U_init : MethodName := ⟨"TreeCounts$Group", "<init>", "(LTreeCounts$Net;LTreeCounts$Trees;LTreeCounts$Grid;)V"⟩
abbrev kh_U_init : Cond := .code ky_U_init kb_U_init 4 none
theorem kz_U_init : kh_U_init ∈ zT := zin 213 (by decide +kernel) (by decide +kernel)
abbrev kb_U_round : ByteArray := prog_3_method_2_code
abbrev ky_U_round : MethodName := ⟨"TreeCounts$Group", "round", "(I)J"⟩
abbrev kh_U_round : Cond := .code ky_U_round kb_U_round 2 (some FieldType.long)
theorem kz_U_round : kh_U_round ∈ zT := zin 596 (by decide +kernel) (by decide +kernel)
abbrev kb_U_find : ByteArray := prog_3_method_3_code
abbrev ky_U_find : MethodName := ⟨"TreeCounts$Group", "find", "()V"⟩
abbrev kh_U_find : Cond := .code ky_U_find kb_U_find 2 none
theorem kz_U_find : kh_U_find ∈ zT := zin 549 (by decide +kernel) (by decide +kernel)
abbrev kb_U_reduceAll : ByteArray := prog_3_method_4_code
abbrev ky_U_reduceAll : MethodName := ⟨"TreeCounts$Group", "reduceAll", "()V"⟩
abbrev kh_U_reduceAll : Cond := .code ky_U_reduceAll kb_U_reduceAll 3 none
theorem kz_U_reduceAll : kh_U_reduceAll ∈ zT := zin 557 (by decide +kernel) (by decide +kernel)
abbrev kb_U_reduced : ByteArray := prog_3_method_5_code
abbrev ky_U_reduced : MethodName := ⟨"TreeCounts$Group", "reduced", "(J)J"⟩
abbrev kh_U_reduced : Cond := .code ky_U_reduced kb_U_reduced 5 (some FieldType.long)
theorem kz_U_reduced : kh_U_reduced ∈ zT := zin 561 (by decide +kernel) (by decide +kernel)
abbrev kb_U_clearLine : ByteArray := prog_3_method_6_code
abbrev ky_U_clearLine : MethodName := ⟨"TreeCounts$Group", "clearLine", "(I)V"⟩
abbrev kh_U_clearLine : Cond := .code ky_U_clearLine kb_U_clearLine 4 none
theorem kz_U_clearLine : kh_U_clearLine ∈ zT := zin 565 (by decide +kernel) (by decide +kernel)
abbrev kb_U_isRowClear : ByteArray := prog_3_method_7_code
abbrev ky_U_isRowClear : MethodName := ⟨"TreeCounts$Group", "isRowClear", "(I)Z"⟩
abbrev kh_U_isRowClear : Cond := .code ky_U_isRowClear kb_U_isRowClear 3 (some FieldType.boolean)
theorem kz_U_isRowClear : kh_U_isRowClear ∈ zT := zin 583 (by decide +kernel) (by decide +kernel)
abbrev kb_U_transpose : ByteArray := prog_3_method_8_code
abbrev ky_U_transpose : MethodName := ⟨"TreeCounts$Group", "transpose", "(I)V"⟩
abbrev kh_U_transpose : Cond := .code ky_U_transpose kb_U_transpose 6 none
theorem kz_U_transpose : kh_U_transpose ∈ zT := zin 587 (by decide +kernel) (by decide +kernel)
abbrev kb_U_mixRows : ByteArray := prog_3_method_9_code
abbrev ky_U_mixRows : MethodName := ⟨"TreeCounts$Group", "mixRows", "(II)V"⟩
abbrev kh_U_mixRows : Cond := .code ky_U_mixRows kb_U_mixRows 16 none
theorem kz_U_mixRows : kh_U_mixRows ∈ zT := zin 569 (by decide +kernel) (by decide +kernel)
abbrev kb_U_measure : ByteArray := prog_3_method_10_code
abbrev ky_U_measure : MethodName := ⟨"TreeCounts$Group", "measure", "(JJ)V"⟩
abbrev kh_U_measure : Cond := .code ky_U_measure kb_U_measure 20 none
theorem kz_U_measure : kh_U_measure ∈ zT := zin 573 (by decide +kernel) (by decide +kernel)
abbrev kb_U_times : ByteArray := prog_3_method_11_code
abbrev ky_U_times : MethodName := ⟨"TreeCounts$Group", "times", "(JJ)J"⟩
abbrev kh_U_times : Cond := .code ky_U_times kb_U_times 8 (some FieldType.long)
theorem kz_U_times : kh_U_times ∈ zT := zin 577 (by decide +kernel) (by decide +kernel)
abbrev kb_U_makeChain : ByteArray := prog_3_method_12_code
abbrev ky_U_makeChain : MethodName := ⟨"TreeCounts$Group", "makeChain", "()V"⟩
abbrev kh_U_makeChain : Cond := .code ky_U_makeChain kb_U_makeChain 5 none
theorem kz_U_makeChain : kh_U_makeChain ∈ zT := zin 592 (by decide +kernel) (by decide +kernel)
abbrev kb_L_init : ByteArray := prog_6_method_1_code
abbrev ky_L_init : MethodName := ⟨"TreeCounts$Piles", "<init>", "(LTreeCounts$Net;LTreeCounts$Grid;)V"⟩
abbrev kh_L_init : Cond := .code ky_L_init kb_L_init 3 none
theorem kz_L_init : kh_L_init ∈ zT := zin 248 (by decide +kernel) (by decide +kernel)
abbrev kb_L_empty : ByteArray := prog_6_method_2_code
abbrev ky_L_empty : MethodName := ⟨"TreeCounts$Piles", "empty", "()V"⟩
abbrev kh_L_empty : Cond := .code ky_L_empty kb_L_empty 2 none
theorem kz_L_empty : kh_L_empty ∈ zT := zin 660 (by decide +kernel) (by decide +kernel)
abbrev kb_L_settleAll : ByteArray := prog_6_method_3_code
abbrev ky_L_settleAll : MethodName := ⟨"TreeCounts$Piles", "settleAll", "(I)J"⟩
abbrev kh_L_settleAll : Cond := .code ky_L_settleAll kb_L_settleAll 5 (some FieldType.long)
theorem kz_L_settleAll : kh_L_settleAll ∈ zT := zin 616 (by decide +kernel) (by decide +kernel)
abbrev kb_L_comeBack : ByteArray := prog_6_method_4_code
abbrev ky_L_comeBack : MethodName := ⟨"TreeCounts$Piles", "comeBack", "(I)Z"⟩
abbrev kh_L_comeBack : Cond := .code ky_L_comeBack kb_L_comeBack 3 (some FieldType.boolean)
theorem kz_L_comeBack : kh_L_comeBack ∈ zT := zin 638 (by decide +kernel) (by decide +kernel)
abbrev kb_L_run : ByteArray := prog_6_method_5_code
abbrev ky_L_run : MethodName := ⟨"TreeCounts$Piles", "run", "([J[JI)V"⟩
abbrev kh_L_run : Cond := .code ky_L_run kb_L_run 11 none
theorem kz_L_run : kh_L_run ∈ zT := zin 621 (by decide +kernel) (by decide +kernel)
abbrev kb_L_fire : ByteArray := prog_6_method_6_code
abbrev ky_L_fire : MethodName := ⟨"TreeCounts$Piles", "fire", "([JIJ)V"⟩
abbrev kh_L_fire : Cond := .code ky_L_fire kb_L_fire 6 none
theorem kz_L_fire : kh_L_fire ∈ zT := zin 626 (by decide +kernel) (by decide +kernel)
abbrev kb_S_init : ByteArray := prog_8_method_1_code
abbrev ky_S_init : MethodName := ⟨"TreeCounts$Sets", "<init>", "(LTreeCounts$Net;LTreeCounts$Parts;)V"⟩
abbrev kh_S_init : Cond := .code ky_S_init kb_S_init 4 none
theorem kz_S_init : kh_S_init ∈ zT := zin 275 (by decide +kernel) (by decide +kernel)
abbrev kb_S_sumAt : ByteArray := prog_8_method_2_code
abbrev ky_S_sumAt : MethodName := ⟨"TreeCounts$Sets", "sumAt", "(JJ)J"⟩
abbrev kh_S_sumAt : Cond := .code ky_S_sumAt kb_S_sumAt 5 (some FieldType.long)
theorem kz_S_sumAt : kh_S_sumAt ∈ zT := zin 738 (by decide +kernel) (by decide +kernel)
abbrev kb_S_fillPowers : ByteArray := prog_8_method_3_code
abbrev ky_S_fillPowers : MethodName := ⟨"TreeCounts$Sets", "fillPowers", "([JJ)V"⟩
abbrev kh_S_fillPowers : Cond := .code ky_S_fillPowers kb_S_fillPowers 6 none
theorem kz_S_fillPowers : kh_S_fillPowers ∈ zT := zin 741 (by decide +kernel) (by decide +kernel)
abbrev kb_S_sumFrom : ByteArray := prog_8_method_4_code
abbrev ky_S_sumFrom : MethodName := ⟨"TreeCounts$Sets", "sumFrom", "(LTreeCounts$Sets;II)J"⟩
abbrev kh_S_sumFrom : Cond := .code ky_S_sumFrom kb_S_sumFrom 11 (some FieldType.long)
theorem kz_S_sumFrom : kh_S_sumFrom ∈ zT := zin 746 (by decide +kernel) (by decide +kernel)
abbrev kb_M_init : ByteArray := prog_11_method_1_code
abbrev ky_M_init : MethodName := ⟨"TreeCountsModel", "<init>", "()V"⟩
abbrev kh_M_init : Cond := .code ky_M_init kb_M_init 1 none
theorem kz_M_init : kh_M_init ∈ zT := zin 760 (by decide +kernel) (by decide +kernel)
abbrev kb_M_thrown : ByteArray := prog_11_method_2_code
abbrev ky_M_thrown : MethodName := ⟨"TreeCountsModel", "thrown", "()I"⟩
abbrev kh_M_thrown : Cond := .code ky_M_thrown kb_M_thrown 1 (some FieldType.int)
theorem kz_M_thrown : kh_M_thrown ∈ zT := zin 842 (by decide +kernel) (by decide +kernel)
abbrev kb_M_isNode : ByteArray := prog_11_method_3_code
abbrev ky_M_isNode : MethodName := ⟨"TreeCountsModel", "isNode", "(I)Z"⟩
abbrev kh_M_isNode : Cond := .code ky_M_isNode kb_M_isNode 2 (some FieldType.boolean)
theorem kz_M_isNode : kh_M_isNode ∈ zT := zin 854 (by decide +kernel) (by decide +kernel)
abbrev kb_M_node : ByteArray := prog_11_method_4_code
abbrev ky_M_node : MethodName := ⟨"TreeCountsModel", "node", "()I"⟩
abbrev kh_M_node : Cond := .code ky_M_node kb_M_node 1 (some FieldType.int)
theorem kz_M_node : kh_M_node ∈ zT := zin 846 (by decide +kernel) (by decide +kernel)
abbrev kb_M_arc : ByteArray := prog_11_method_5_code
abbrev ky_M_arc : MethodName := ⟨"TreeCountsModel", "arc", "(III)I"⟩
abbrev kh_M_arc : Cond := .code ky_M_arc kb_M_arc 4 (some FieldType.int)
theorem kz_M_arc : kh_M_arc ∈ zT := zin 850 (by decide +kernel) (by decide +kernel)
abbrev kb_M_weigh : ByteArray := prog_11_method_6_code
abbrev ky_M_weigh : MethodName := ⟨"TreeCountsModel", "weigh", "(II)I"⟩
abbrev kh_M_weigh : Cond := .code ky_M_weigh kb_M_weigh 4 (some FieldType.int)
theorem kz_M_weigh : kh_M_weigh ∈ zT := zin 858 (by decide +kernel) (by decide +kernel)
abbrev kb_M_drop : ByteArray := prog_11_method_7_code
abbrev ky_M_drop : MethodName := ⟨"TreeCountsModel", "drop", "()Z"⟩
abbrev kh_M_drop : Cond := .code ky_M_drop kb_M_drop 1 (some FieldType.boolean)
theorem kz_M_drop : kh_M_drop ∈ zT := zin 862 (by decide +kernel) (by decide +kernel)
abbrev kb_M_power : ByteArray := prog_11_method_8_code
abbrev ky_M_power : MethodName := ⟨"TreeCountsModel", "power", "(JJJ)J"⟩
abbrev kh_M_power : Cond := .code ky_M_power kb_M_power 12 (some FieldType.long)
theorem kz_M_power : kh_M_power ∈ zT := zin 911 (by decide +kernel) (by decide +kernel)
abbrev kb_M_modulo : ByteArray := prog_11_method_9_code
abbrev ky_M_modulo : MethodName := ⟨"TreeCountsModel", "modulo", "(IJ)J"⟩
abbrev kh_M_modulo : Cond := .code ky_M_modulo kb_M_modulo 14 (some FieldType.long)
theorem kz_M_modulo : kh_M_modulo ∈ zT := zin 907 (by decide +kernel) (by decide +kernel)
abbrev kb_M_determinant : ByteArray := prog_11_method_10_code
abbrev ky_M_determinant : MethodName := ⟨"TreeCountsModel", "determinant", "(I)J"⟩
abbrev kh_M_determinant : Cond := .code ky_M_determinant kb_M_determinant 8 (some FieldType.long)
theorem kz_M_determinant : kh_M_determinant ∈ zT := zin 902 (by decide +kernel) (by decide +kernel)
abbrev kb_M_clearRows : ByteArray := prog_11_method_11_code
abbrev ky_M_clearRows : MethodName := ⟨"TreeCountsModel", "clearRows", "()V"⟩
abbrev kh_M_clearRows : Cond := .code ky_M_clearRows kb_M_clearRows 2 none
theorem kz_M_clearRows : kh_M_clearRows ∈ zT := zin 894 (by decide +kernel) (by decide +kernel)
abbrev kb_M_apartAll : ByteArray := prog_11_method_12_code
abbrev ky_M_apartAll : MethodName := ⟨"TreeCountsModel", "apartAll", "()V"⟩
abbrev kh_M_apartAll : Cond := .code ky_M_apartAll kb_M_apartAll 2 none
theorem kz_M_apartAll : kh_M_apartAll ∈ zT := zin 870 (by decide +kernel) (by decide +kernel)
abbrev kb_M_join : ByteArray := prog_11_method_13_code
abbrev ky_M_join : MethodName := ⟨"TreeCountsModel", "join", "(II)Z"⟩
abbrev kh_M_join : Cond := .code ky_M_join kb_M_join 6 (some FieldType.boolean)
theorem kz_M_join : kh_M_join ∈ zT := zin 947 (by decide +kernel) (by decide +kernel)
abbrev kb_M_noneOut : ByteArray := prog_11_method_14_code
abbrev ky_M_noneOut : MethodName := ⟨"TreeCountsModel", "noneOut", "()V"⟩
abbrev kh_M_noneOut : Cond := .code ky_M_noneOut kb_M_noneOut 2 none
theorem kz_M_noneOut : kh_M_noneOut ∈ zT := zin 874 (by decide +kernel) (by decide +kernel)
abbrev kb_M_number : ByteArray := prog_11_method_15_code
abbrev ky_M_number : MethodName := ⟨"TreeCountsModel", "number", "(II)I"⟩
abbrev kh_M_number : Cond := .code ky_M_number kb_M_number 7 (some FieldType.int)
theorem kz_M_number : kh_M_number ∈ zT := zin 882 (by decide +kernel) (by decide +kernel)
abbrev kb_M_isFirst : ByteArray := prog_11_method_16_code
abbrev ky_M_isFirst : MethodName := ⟨"TreeCountsModel", "isFirst", "(I)Z"⟩
abbrev kh_M_isFirst : Cond := .code ky_M_isFirst kb_M_isFirst 4 (some FieldType.boolean)
theorem kz_M_isFirst : kh_M_isFirst ∈ zT := zin 886 (by decide +kernel) (by decide +kernel)
abbrev kb_M_addTo : ByteArray := prog_11_method_17_code
abbrev ky_M_addTo : MethodName := ⟨"TreeCountsModel", "addTo", "(IIJ)V"⟩
abbrev kh_M_addTo : Cond := .code ky_M_addTo kb_M_addTo 5 none
theorem kz_M_addTo : kh_M_addTo ∈ zT := zin 898 (by decide +kernel) (by decide +kernel)
abbrev kb_M_rows : ByteArray := prog_11_method_18_code
abbrev ky_M_rows : MethodName := ⟨"TreeCountsModel", "rows", "(J)V"⟩
abbrev kh_M_rows : Cond := .code ky_M_rows kb_M_rows 6 none
theorem kz_M_rows : kh_M_rows ∈ zT := zin 890 (by decide +kernel) (by decide +kernel)
abbrev kb_M_count : ByteArray := prog_11_method_19_code
abbrev ky_M_count : MethodName := ⟨"TreeCountsModel", "count", "()J"⟩
abbrev kh_M_count : Cond := .code ky_M_count kb_M_count 2 (some FieldType.long)
theorem kz_M_count : kh_M_count ∈ zT := zin 878 (by decide +kernel) (by decide +kernel)
abbrev kb_M_trees : ByteArray := prog_11_method_20_code
abbrev ky_M_trees : MethodName := ⟨"TreeCountsModel", "trees", "()J"⟩
abbrev kh_M_trees : Cond := .code ky_M_trees kb_M_trees 1 (some FieldType.long)
theorem kz_M_trees : kh_M_trees ∈ zT := zin 866 (by decide +kernel) (by decide +kernel)
abbrev kb_M_through : ByteArray := prog_11_method_21_code
abbrev ky_M_through : MethodName := ⟨"TreeCountsModel", "through", "(I)J"⟩
abbrev kh_M_through : Cond := .code ky_M_through kb_M_through 4 (some FieldType.long)
theorem kz_M_through : kh_M_through ∈ zT := zin 917 (by decide +kernel) (by decide +kernel)
abbrev kb_M_rooted : ByteArray := prog_11_method_22_code
abbrev ky_M_rooted : MethodName := ⟨"TreeCountsModel", "rooted", "(I)J"⟩
abbrev kh_M_rooted : Cond := .code ky_M_rooted kb_M_rooted 4 (some FieldType.long)
theorem kz_M_rooted : kh_M_rooted ∈ zT := zin 923 (by decide +kernel) (by decide +kernel)
abbrev kb_M_forests : ByteArray := prog_11_method_23_code
abbrev ky_M_forests : MethodName := ⟨"TreeCountsModel", "forests", "()J"⟩
abbrev kh_M_forests : Cond := .code ky_M_forests kb_M_forests 2 (some FieldType.long)
theorem kz_M_forests : kh_M_forests ∈ zT := zin 927 (by decide +kernel) (by decide +kernel)
abbrev kb_M_apart : ByteArray := prog_11_method_24_code
abbrev ky_M_apart : MethodName := ⟨"TreeCountsModel", "apart", "(II)J"⟩
abbrev kh_M_apart : Cond := .code ky_M_apart kb_M_apart 4 (some FieldType.long)
theorem kz_M_apart : kh_M_apart ∈ zT := zin 931 (by decide +kernel) (by decide +kernel)
abbrev kb_M_gcd : ByteArray := prog_11_method_25_code
abbrev ky_M_gcd : MethodName := ⟨"TreeCountsModel", "gcd", "(JJ)J"⟩
abbrev kh_M_gcd : Cond := .code ky_M_gcd kb_M_gcd 10 (some FieldType.long)
theorem kz_M_gcd : kh_M_gcd ∈ zT := zin 939 (by decide +kernel) (by decide +kernel)
abbrev kb_M_resistance : ByteArray := prog_11_method_26_code
abbrev ky_M_resistance : MethodName := ⟨"TreeCountsModel", "resistance", "(III)J"⟩
abbrev kh_M_resistance : Cond := .code ky_M_resistance kb_M_resistance 10 (some FieldType.long)
theorem kz_M_resistance : kh_M_resistance ∈ zT := zin 935 (by decide +kernel) (by decide +kernel)
abbrev kb_M_tours : ByteArray := prog_11_method_27_code
abbrev ky_M_tours : MethodName := ⟨"TreeCountsModel", "tours", "()J"⟩
abbrev kh_M_tours : Cond := .code ky_M_tours kb_M_tours 9 (some FieldType.long)
theorem kz_M_tours : kh_M_tours ∈ zT := zin 943 (by decide +kernel) (by decide +kernel)
abbrev kb_M_with : ByteArray := prog_11_method_28_code
abbrev ky_M_with : MethodName := ⟨"TreeCountsModel", "with", "(I)J"⟩
abbrev kh_M_with : Cond := .code ky_M_with kb_M_with 6 (some FieldType.long)
theorem kz_M_with : kh_M_with ∈ zT := zin 955 (by decide +kernel) (by decide +kernel)
abbrev kb_M_drawn : ByteArray := prog_11_method_29_code
abbrev ky_M_drawn : MethodName := ⟨"TreeCountsModel", "drawn", "(J)I"⟩
abbrev kh_M_drawn : Cond := .code ky_M_drawn kb_M_drawn 10 (some FieldType.int)
theorem kz_M_drawn : kh_M_drawn ∈ zT := zin 951 (by decide +kernel) (by decide +kernel)
abbrev kb_M_place : ByteArray := prog_11_method_30_code
abbrev ky_M_place : MethodName := ⟨"TreeCountsModel", "place", "(I)J"⟩
abbrev kh_M_place : Cond := .code ky_M_place kb_M_place 11 (some FieldType.long)
theorem kz_M_place : kh_M_place ∈ zT := zin 959 (by decide +kernel) (by decide +kernel)
abbrev kb_M_takeTrees : ByteArray := prog_11_method_31_code
abbrev ky_M_takeTrees : MethodName := ⟨"TreeCountsModel", "takeTrees", "()I"⟩
abbrev kh_M_takeTrees : Cond := .code ky_M_takeTrees kb_M_takeTrees 3 (some FieldType.int)
theorem kz_M_takeTrees : kh_M_takeTrees ∈ zT := zin 967 (by decide +kernel) (by decide +kernel)
abbrev kb_M_ringOf : ByteArray := prog_11_method_32_code
abbrev ky_M_ringOf : MethodName := ⟨"TreeCountsModel", "ringOf", "(I)V"⟩
abbrev kh_M_ringOf : Cond := .code ky_M_ringOf kb_M_ringOf 8 none
theorem kz_M_ringOf : kh_M_ringOf ∈ zT := zin 971 (by decide +kernel) (by decide +kernel)
abbrev kb_M_ring : ByteArray := prog_11_method_33_code
abbrev ky_M_ring : MethodName := ⟨"TreeCountsModel", "ring", "(II)I"⟩
abbrev kh_M_ring : Cond := .code ky_M_ring kb_M_ring 3 (some FieldType.int)
theorem kz_M_ring : kh_M_ring ∈ zT := zin 963 (by decide +kernel) (by decide +kernel)
abbrev kb_M_times : ByteArray := prog_11_method_34_code
abbrev ky_M_times : MethodName := ⟨"TreeCountsModel", "times", "(JJJ)J"⟩
abbrev kh_M_times : Cond := .code ky_M_times kb_M_times 12 (some FieldType.long)
theorem kz_M_times : kh_M_times ∈ zT := zin 994 (by decide +kernel) (by decide +kernel)
abbrev kb_M_lessRow : ByteArray := prog_11_method_35_code
abbrev ky_M_lessRow : MethodName := ⟨"TreeCountsModel", "lessRow", "(IIJIJ)V"⟩
abbrev kh_M_lessRow : Cond := .code ky_M_lessRow kb_M_lessRow 9 none
theorem kz_M_lessRow : kh_M_lessRow ∈ zT := zin 991 (by decide +kernel) (by decide +kernel)
abbrev kb_M_lessColumn : ByteArray := prog_11_method_36_code
abbrev ky_M_lessColumn : MethodName := ⟨"TreeCountsModel", "lessColumn", "(IIJIJ)V"⟩
abbrev kh_M_lessColumn : Cond := .code ky_M_lessColumn kb_M_lessColumn 9 none
theorem kz_M_lessColumn : kh_M_lessColumn ∈ zT := zin 1002 (by decide +kernel) (by decide +kernel)
abbrev kb_M_swapRows : ByteArray := prog_11_method_37_code
abbrev ky_M_swapRows : MethodName := ⟨"TreeCountsModel", "swapRows", "(III)V"⟩
abbrev kh_M_swapRows : Cond := .code ky_M_swapRows kb_M_swapRows 7 none
theorem kz_M_swapRows : kh_M_swapRows ∈ zT := zin 998 (by decide +kernel) (by decide +kernel)
abbrev kb_M_swapColumns : ByteArray := prog_11_method_38_code
abbrev ky_M_swapColumns : MethodName := ⟨"TreeCountsModel", "swapColumns", "(III)V"⟩
abbrev kh_M_swapColumns : Cond := .code ky_M_swapColumns kb_M_swapColumns 7 none
theorem kz_M_swapColumns : kh_M_swapColumns ∈ zT := zin 1006 (by decide +kernel) (by decide +kernel)
abbrev kb_M_clearCross : ByteArray := prog_11_method_39_code
abbrev ky_M_clearCross : MethodName := ⟨"TreeCountsModel", "clearCross", "(IIJ)V"⟩
abbrev kh_M_clearCross : Cond := .code ky_M_clearCross kb_M_clearCross 7 none
theorem kz_M_clearCross : kh_M_clearCross ∈ zT := zin 987 (by decide +kernel) (by decide +kernel)
abbrev kb_M_commonFrom : ByteArray := prog_11_method_40_code
abbrev ky_M_commonFrom : MethodName := ⟨"TreeCountsModel", "commonFrom", "(IIJ)J"⟩
abbrev kh_M_commonFrom : Cond := .code ky_M_commonFrom kb_M_commonFrom 9 (some FieldType.long)
theorem kz_M_commonFrom : kh_M_commonFrom ∈ zT := zin 983 (by decide +kernel) (by decide +kernel)
abbrev kb_M_findRounds : ByteArray := prog_11_method_41_code
abbrev ky_M_findRounds : MethodName := ⟨"TreeCountsModel", "findRounds", "()Z"⟩
abbrev kh_M_findRounds : Cond := .code ky_M_findRounds kb_M_findRounds 10 (some FieldType.boolean)
theorem kz_M_findRounds : kh_M_findRounds ∈ zT := zin 979 (by decide +kernel) (by decide +kernel)
abbrev kb_M_isOther : ByteArray := prog_11_method_42_code
abbrev ky_M_isOther : MethodName := ⟨"TreeCountsModel", "isOther", "(IIIJ)Z"⟩
abbrev kh_M_isOther : Cond := .code ky_M_isOther kb_M_isOther 10 (some FieldType.boolean)
theorem kz_M_isOther : kh_M_isOther ∈ zT := zin 1010 (by decide +kernel) (by decide +kernel)
abbrev kb_M_group : ByteArray := prog_11_method_43_code
abbrev ky_M_group : MethodName := ⟨"TreeCountsModel", "group", "(I)J"⟩
abbrev kh_M_group : Cond := .code ky_M_group kb_M_group 2 (some FieldType.long)
theorem kz_M_group : kh_M_group ∈ zT := zin 975 (by decide +kernel) (by decide +kernel)
abbrev kb_M_chips : ByteArray := prog_11_method_44_code
abbrev ky_M_chips : MethodName := ⟨"TreeCountsModel", "chips", "(II)J"⟩
abbrev kh_M_chips : Cond := .code ky_M_chips kb_M_chips 5 (some FieldType.long)
theorem kz_M_chips : kh_M_chips ∈ zT := zin 1014 (by decide +kernel) (by decide +kernel)
abbrev kb_M_level : ByteArray := prog_11_method_45_code
abbrev ky_M_level : MethodName := ⟨"TreeCountsModel", "level", "(I)J"⟩
abbrev kh_M_level : Cond := .code ky_M_level kb_M_level 2 (some FieldType.long)
theorem kz_M_level : kh_M_level ∈ zT := zin 1018 (by decide +kernel) (by decide +kernel)
abbrev kb_M_degree : ByteArray := prog_11_method_46_code
abbrev ky_M_degree : MethodName := ⟨"TreeCountsModel", "degree", "(I)J"⟩
abbrev kh_M_degree : Cond := .code ky_M_degree kb_M_degree 5 (some FieldType.long)
theorem kz_M_degree : kh_M_degree ∈ zT := zin 1034 (by decide +kernel) (by decide +kernel)
abbrev kb_M_fireNode : ByteArray := prog_11_method_47_code
abbrev ky_M_fireNode : MethodName := ⟨"TreeCountsModel", "fireNode", "(IJ)V"⟩
abbrev kh_M_fireNode : Cond := .code ky_M_fireNode kb_M_fireNode 6 none
theorem kz_M_fireNode : kh_M_fireNode ∈ zT := zin 1038 (by decide +kernel) (by decide +kernel)
abbrev kb_M_settlePile : ByteArray := prog_11_method_48_code
abbrev ky_M_settlePile : MethodName := ⟨"TreeCountsModel", "settlePile", "(I)J"⟩
abbrev kh_M_settlePile : Cond := .code ky_M_settlePile kb_M_settlePile 8 (some FieldType.long)
theorem kz_M_settlePile : kh_M_settlePile ∈ zT := zin 1030 (by decide +kernel) (by decide +kernel)
abbrev kb_M_beginPile : ByteArray := prog_11_method_49_code
abbrev ky_M_beginPile : MethodName := ⟨"TreeCountsModel", "beginPile", "()V"⟩
abbrev kh_M_beginPile : Cond := .code ky_M_beginPile kb_M_beginPile 2 none
theorem kz_M_beginPile : kh_M_beginPile ∈ zT := zin 1026 (by decide +kernel) (by decide +kernel)
abbrev kb_M_settle : ByteArray := prog_11_method_50_code
abbrev ky_M_settle : MethodName := ⟨"TreeCountsModel", "settle", "(I)J"⟩
abbrev kh_M_settle : Cond := .code ky_M_settle kb_M_settle 5 (some FieldType.long)
theorem kz_M_settle : kh_M_settle ∈ zT := zin 1022 (by decide +kernel) (by decide +kernel)
abbrev kb_M_fired : ByteArray := prog_11_method_51_code
abbrev ky_M_fired : MethodName := ⟨"TreeCountsModel", "fired", "(I)J"⟩
abbrev kh_M_fired : Cond := .code ky_M_fired kb_M_fired 2 (some FieldType.long)
theorem kz_M_fired : kh_M_fired ∈ zT := zin 1042 (by decide +kernel) (by decide +kernel)
abbrev kb_M_recurrent : ByteArray := prog_11_method_52_code
abbrev ky_M_recurrent : MethodName := ⟨"TreeCountsModel", "recurrent", "(I)I"⟩
abbrev kh_M_recurrent : Cond := .code ky_M_recurrent kb_M_recurrent 6 (some FieldType.int)
theorem kz_M_recurrent : kh_M_recurrent ∈ zT := zin 1046 (by decide +kernel) (by decide +kernel)
abbrev kb_M_powerOf : ByteArray := prog_11_method_53_code
abbrev ky_M_powerOf : MethodName := ⟨"TreeCountsModel", "powerOf", "(JI)J"⟩
abbrev kh_M_powerOf : Cond := .code ky_M_powerOf kb_M_powerOf 6 (some FieldType.long)
theorem kz_M_powerOf : kh_M_powerOf ∈ zT := zin 1057 (by decide +kernel) (by decide +kernel)
abbrev kb_M_rank : ByteArray := prog_11_method_54_code
abbrev ky_M_rank : MethodName := ⟨"TreeCountsModel", "rank", "(I)I"⟩
abbrev kh_M_rank : Cond := .code ky_M_rank kb_M_rank 4 (some FieldType.int)
theorem kz_M_rank : kh_M_rank ∈ zT := zin 1054 (by decide +kernel) (by decide +kernel)
abbrev kb_M_point : ByteArray := prog_11_method_55_code
abbrev ky_M_point : MethodName := ⟨"TreeCountsModel", "point", "(JJ)J"⟩
abbrev kh_M_point : Cond := .code ky_M_point kb_M_point 11 (some FieldType.long)
theorem kz_M_point : kh_M_point ∈ zT := zin 1050 (by decide +kernel) (by decide +kernel)
abbrev kb_M_told : ByteArray := prog_11_method_56_code
abbrev ky_M_told : MethodName := ⟨"TreeCountsModel", "told", "(I)I"⟩
abbrev kh_M_told : Cond := .code ky_M_told kb_M_told 2 (some FieldType.int)
theorem kz_M_told : kh_M_told ∈ zT := zin 1061 (by decide +kernel) (by decide +kernel)
abbrev kb_M_clear : ByteArray := prog_11_method_57_code
abbrev ky_M_clear : MethodName := ⟨"TreeCountsModel", "clear", "()V"⟩
abbrev kh_M_clear : Cond := .code ky_M_clear kb_M_clear 1 none
theorem kz_M_clear : kh_M_clear ∈ zT := zin 1065 (by decide +kernel) (by decide +kernel)
theorem mk_fd {own C : String} {T : u_T} {idx ci k N : Nat} (c : Cond) (hc : kCl[ci]? = some (C, T, N)) (hin : ∀ w ∈ u_ws C T N, w ∈ zT) (hl : Cond.fieldLink own idx (T k).1 (T k).2.1 (T k).2.2.1 ∈ zT) (hk : k < N) : zFd kCl (c :: zT) own idx ci k := ⟨C, T, N, hc, fun w h => List.mem_cons_of_mem _ (hin w h), List.mem_cons_of_mem _ hl, hk⟩
theorem mk_pd {own C : String} {T : u_T} {ty0 : Nat → FieldType} {ty : FieldType} {idx ci k N : Nat} (c : Cond) (hc : kCl[ci]? = some (C, T, N)) (hin : ∀ w ∈ u_ws C T N, w ∈ zT) (hl : Cond.fieldLink own idx (T k).1 (T k).2.1 (T k).2.2.1 ∈ zT) (hk : k < N) (hty : ∀ k, k < N → parseFieldDescriptor (T k).2.2.1 = some (ty0 k)) (hnm : ∀ a, a < N → ∀ b, b < N → a ≠ b → (T a).2.1 ≠ (T b).2.1) (hf : (T k).2.2.2 = false) (hp : parseFieldDescriptor (T k).2.2.1 = some ty) : zPd kCl (c :: zT) own idx ci k ty := ⟨C, T, N, ty0, hc, fun w h => List.mem_cons_of_mem _ (hin w h), List.mem_cons_of_mem _ hl, hk, hty, hnm, hf, hp⟩
theorem mk_fn {own C : String} {T : u_T} {ty0 : Nat → FieldType} {ty : FieldType} {idx ci k N : Nat} (c : Cond) (hc : kCl[ci]? = some (C, T, N)) (hin : ∀ w ∈ u_ws C T N, w ∈ zT) (hl : Cond.fieldLink own idx (T k).1 (T k).2.1 (T k).2.2.1 ∈ zT) (hk : k < N) (hty : ∀ k, k < N → parseFieldDescriptor (T k).2.2.1 = some (ty0 k)) (hnm : ∀ a, a < N → ∀ b, b < N → a ≠ b → (T a).2.1 ≠ (T b).2.1) (hf : (T k).2.2.2 = true) (hp : parseFieldDescriptor (T k).2.2.1 = some ty) (ho : (T k).1 = own) : zFn kCl (c :: zT) own idx ci k ty := ⟨C, T, N, ty0, hc, fun w h => List.mem_cons_of_mem _ (hin w h), List.mem_cons_of_mem _ hl, hk, hty, hnm, hf, hp, ho⟩
theorem mk_cv {own C : String} {idx maxL n : Nat} {y : MethodName} {bytes : ByteArray} {ret : Option FieldType} (c : Cond) (h1 : Cond.methodLink own idx y ∈ zT) (h2 : Cond.instanceMethod y ∈ zT) (h3 : Cond.selects C y y ∈ zT) (h4 : Cond.initialized C ∈ zT) (h5 : Cond.code y bytes maxL ret ∈ zT) (hd : y.cls = C ∧ y.cls ≠ "java/lang/invoke/MethodHandle" ∧ y.cls ≠ "java/lang/invoke/VarHandle" ∧ (parseMethodDescriptor y.desc).map (fun d => d.parameters.length) = some n) : zCV (c :: zT) own C idx y bytes maxL ret (Cond.code y bytes maxL ret :: zT) n := ⟨mk_cons h1 (mk_cons h2 (mk_cons h3 (mk_cons h4 (mk_good h5)))), ⟨_, rfl⟩, hd⟩
theorem mk_cs {own : String} {idx maxL n : Nat} {y : MethodName} {bytes : ByteArray} {ret : Option FieldType} (c : Cond) (h1 : Cond.methodLink own idx y ∈ zT) (h2 : Cond.static y ∈ zT) (h4 : Cond.initialized own ∈ zT) (h5 : Cond.code y bytes maxL ret ∈ zT) (hd : y.cls = own ∧ y.cls ≠ "java/lang/invoke/MethodHandle" ∧ y.cls ≠ "java/lang/invoke/VarHandle" ∧ (parseMethodDescriptor y.desc).map (fun d => d.parameters.length) = some n) : zCS (c :: zT) own idx y bytes maxL ret (Cond.code y bytes maxL ret :: zT) n := ⟨mk_cons h1 (mk_cons h2 (mk_cons h4 (mk_good h5))), ⟨_, rfl⟩, hd⟩
theorem mk_ci {own : String} {idx maxL n : Nat} {y : MethodName} {bytes : ByteArray} (c : Cond) (h5 : Cond.code y bytes maxL none ∈ zT) (h1 : Cond.initialized y.cls ∈ zT) (h2 : Cond.methodLink own idx y ∈ zT) (h3 : Cond.instanceMethod y ∈ zT) (h4 : y.name = "<init>") (hd : y.cls ≠ "java/lang/invoke/MethodHandle" ∧ y.cls ≠ "java/lang/invoke/VarHandle" ∧ (parseMethodDescriptor y.desc).map (fun d => d.parameters.length) = some n) : zCI (c :: zT) own idx y bytes maxL (Cond.code y bytes maxL none :: zT) n := ⟨mk_good h5, ⟨_, rfl⟩, List.mem_cons_of_mem _ h1, List.mem_cons_of_mem _ h2, List.mem_cons_of_mem _ h3, h4, hd⟩
def kNw : List Cond := [.methodLinkNest "TreeCounts" 9 ⟨"TreeCounts$Net", "<init>", "()V"⟩ "TreeCounts", .methodLinkNest "TreeCounts" 18 ⟨"TreeCounts$Parts", "<init>", "()V"⟩ "TreeCounts", .methodLinkNest "TreeCounts" 21 ⟨"TreeCounts$Grid", "<init>", "()V"⟩ "TreeCounts", .methodLinkNest "TreeCounts$Sets" 32 ⟨"TreeCounts$Parts", "<init>", "()V"⟩ "TreeCounts", .methodLinkNest "TreeCounts$Group" 71 ⟨"TreeCounts", "commonDivisor", "(JJ)J"⟩ "TreeCounts"]
theorem mk_cn {own host : String} {idx maxL n : Nat} {y : MethodName} {bytes : ByteArray} {ret : Option FieldType} (c : Cond) (h5 : Cond.code y bytes maxL ret ∈ zT) (h2 : Cond.methodLinkNest own idx y host ∈ kNw) (h1 : Cond.initialized y.cls ∈ zT) (hd : y.cls ≠ "java/lang/invoke/MethodHandle" ∧ y.cls ≠ "java/lang/invoke/VarHandle" ∧ (parseMethodDescriptor y.desc).map (fun d => d.parameters.length) = some n) : zCN (c :: zT) kNw own idx y host bytes maxL ret (Cond.code y bytes maxL ret :: zT) n := ⟨mk_good h5, ⟨_, rfl⟩, h2, List.mem_cons_of_mem _ h1, hd⟩
theorem kf_C_10 (c : Cond) : zFd kCl (c :: zT) "TreeCounts" 10 0 0 := mk_fd c kc_C ki_C (zin 299 (by decide +kernel) (by decide +kernel)) (by decide)
theorem kf_C_27 (c : Cond) : zFd kCl (c :: zT) "TreeCounts" 27 0 1 := mk_fd c kc_C ki_C (zin 300 (by decide +kernel) (by decide +kernel)) (by decide)
theorem kf_C_36 (c : Cond) : zFd kCl (c :: zT) "TreeCounts" 36 0 2 := mk_fd c kc_C ki_C (zin 301 (by decide +kernel) (by decide +kernel)) (by decide)
theorem kf_C_45 (c : Cond) : zFd kCl (c :: zT) "TreeCounts" 45 0 3 := mk_fd c kc_C ki_C (zin 302 (by decide +kernel) (by decide +kernel)) (by decide)
theorem kf_C_54 (c : Cond) : zFd kCl (c :: zT) "TreeCounts" 54 0 4 := mk_fd c kc_C ki_C (zin 303 (by decide +kernel) (by decide +kernel)) (by decide)
theorem kf_C_61 (c : Cond) : zFd kCl (c :: zT) "TreeCounts" 61 0 5 := mk_fd c kc_C ki_C (zin 304 (by decide +kernel) (by decide +kernel)) (by decide)
theorem kf_C_65 (c : Cond) : zFd kCl (c :: zT) "TreeCounts" 65 1 0 := mk_fd c kc_N ki_N (zin 81 (by decide +kernel) (by decide +kernel)) (by decide)
theorem kf_C_76 (c : Cond) : zFd kCl (c :: zT) "TreeCounts" 76 1 1 := mk_fd c kc_N ki_N (zin 91 (by decide +kernel) (by decide +kernel)) (by decide)
theorem kf_C_79 (c : Cond) : zFd kCl (c :: zT) "TreeCounts" 79 1 2 := mk_fd c kc_N ki_N (zin 96 (by decide +kernel) (by decide +kernel)) (by decide)
theorem kf_C_83 (c : Cond) : zFd kCl (c :: zT) "TreeCounts" 83 1 3 := mk_fd c kc_N ki_N (zin 102 (by decide +kernel) (by decide +kernel)) (by decide)
theorem kf_C_86 (c : Cond) : zFd kCl (c :: zT) "TreeCounts" 86 1 4 := mk_fd c kc_N ki_N (zin 108 (by decide +kernel) (by decide +kernel)) (by decide)
theorem kf_C_136 (c : Cond) : zFd kCl (c :: zT) "TreeCounts" 136 5 0 := mk_fd c kc_R ki_R (zin 192 (by decide +kernel) (by decide +kernel)) (by decide)
theorem kf_C_139 (c : Cond) : zFd kCl (c :: zT) "TreeCounts" 139 5 1 := mk_fd c kc_R ki_R (zin 194 (by decide +kernel) (by decide +kernel)) (by decide)
theorem kf_C_145 (c : Cond) : zFd kCl (c :: zT) "TreeCounts" 145 6 0 := mk_fd c kc_U ki_U (zin 216 (by decide +kernel) (by decide +kernel)) (by decide)
theorem kf_C_151 (c : Cond) : zFd kCl (c :: zT) "TreeCounts" 151 7 0 := mk_fd c kc_L ki_L (zin 251 (by decide +kernel) (by decide +kernel)) (by decide)
theorem kf_C_162 (c : Cond) : zFd kCl (c :: zT) "TreeCounts" 162 7 1 := mk_fd c kc_L ki_L (zin 253 (by decide +kernel) (by decide +kernel)) (by decide)
theorem kf_G_11 (c : Cond) : zFd kCl (c :: zT) "TreeCounts$Grid" 11 3 1 := mk_fd c kc_G ki_G (zin 153 (by decide +kernel) (by decide +kernel)) (by decide)
theorem kf_G_16 (c : Cond) : zFd kCl (c :: zT) "TreeCounts$Grid" 16 3 0 := mk_fd c kc_G ki_G (zin 151 (by decide +kernel) (by decide +kernel)) (by decide)
theorem kf_G_24 (c : Cond) : zFd kCl (c :: zT) "TreeCounts$Grid" 24 1 0 := mk_fd c kc_N ki_N (zin 87 (by decide +kernel) (by decide +kernel)) (by decide)
theorem kf_G_33 (c : Cond) : zFd kCl (c :: zT) "TreeCounts$Grid" 33 1 1 := mk_fd c kc_N ki_N (zin 94 (by decide +kernel) (by decide +kernel)) (by decide)
theorem kf_G_36 (c : Cond) : zFd kCl (c :: zT) "TreeCounts$Grid" 36 1 2 := mk_fd c kc_N ki_N (zin 100 (by decide +kernel) (by decide +kernel)) (by decide)
theorem kf_G_40 (c : Cond) : zFd kCl (c :: zT) "TreeCounts$Grid" 40 1 3 := mk_fd c kc_N ki_N (zin 106 (by decide +kernel) (by decide +kernel)) (by decide)
theorem kf_G_43 (c : Cond) : zFd kCl (c :: zT) "TreeCounts$Grid" 43 1 4 := mk_fd c kc_N ki_N (zin 110 (by decide +kernel) (by decide +kernel)) (by decide)
theorem kf_U_9 (c : Cond) : zFd kCl (c :: zT) "TreeCounts$Group" 9 6 1 := mk_fd c kc_U ki_U (zin 217 (by decide +kernel) (by decide +kernel)) (by decide)
theorem kf_U_15 (c : Cond) : zFd kCl (c :: zT) "TreeCounts$Group" 15 6 2 := mk_fd c kc_U ki_U (zin 218 (by decide +kernel) (by decide +kernel)) (by decide)
theorem kf_U_19 (c : Cond) : zFd kCl (c :: zT) "TreeCounts$Group" 19 6 3 := mk_fd c kc_U ki_U (zin 219 (by decide +kernel) (by decide +kernel)) (by decide)
theorem kf_U_23 (c : Cond) : zFd kCl (c :: zT) "TreeCounts$Group" 23 6 4 := mk_fd c kc_U ki_U (zin 220 (by decide +kernel) (by decide +kernel)) (by decide)
theorem kf_U_27 (c : Cond) : zFd kCl (c :: zT) "TreeCounts$Group" 27 1 0 := mk_fd c kc_N ki_N (zin 84 (by decide +kernel) (by decide +kernel)) (by decide)
theorem kf_U_33 (c : Cond) : zFd kCl (c :: zT) "TreeCounts$Group" 33 6 0 := mk_fd c kc_U ki_U (zin 215 (by decide +kernel) (by decide +kernel)) (by decide)
theorem kf_U_42 (c : Cond) : zFd kCl (c :: zT) "TreeCounts$Group" 42 6 5 := mk_fd c kc_U ki_U (zin 221 (by decide +kernel) (by decide +kernel)) (by decide)
theorem kf_U_61 (c : Cond) : zFd kCl (c :: zT) "TreeCounts$Group" 61 3 0 := mk_fd c kc_G ki_G (zin 152 (by decide +kernel) (by decide +kernel)) (by decide)
theorem kf_U_67 (c : Cond) : zFd kCl (c :: zT) "TreeCounts$Group" 67 3 1 := mk_fd c kc_G ki_G (zin 154 (by decide +kernel) (by decide +kernel)) (by decide)
theorem kf_U_97 (c : Cond) : zFd kCl (c :: zT) "TreeCounts$Group" 97 6 6 := mk_fd c kc_U ki_U (zin 222 (by decide +kernel) (by decide +kernel)) (by decide)
theorem kf_U_100 (c : Cond) : zFd kCl (c :: zT) "TreeCounts$Group" 100 6 7 := mk_fd c kc_U ki_U (zin 223 (by decide +kernel) (by decide +kernel)) (by decide)
theorem kf_U_106 (c : Cond) : zFd kCl (c :: zT) "TreeCounts$Group" 106 6 8 := mk_fd c kc_U ki_U (zin 224 (by decide +kernel) (by decide +kernel)) (by decide)
theorem kf_N_9 (c : Cond) : zFd kCl (c :: zT) "TreeCounts$Net" 9 1 2 := mk_fd c kc_N ki_N (zin 95 (by decide +kernel) (by decide +kernel)) (by decide)
theorem kf_N_15 (c : Cond) : zFd kCl (c :: zT) "TreeCounts$Net" 15 1 3 := mk_fd c kc_N ki_N (zin 101 (by decide +kernel) (by decide +kernel)) (by decide)
theorem kf_N_18 (c : Cond) : zFd kCl (c :: zT) "TreeCounts$Net" 18 1 4 := mk_fd c kc_N ki_N (zin 107 (by decide +kernel) (by decide +kernel)) (by decide)
theorem kf_N_21 (c : Cond) : zFd kCl (c :: zT) "TreeCounts$Net" 21 1 0 := mk_fd c kc_N ki_N (zin 82 (by decide +kernel) (by decide +kernel)) (by decide)
theorem kf_N_25 (c : Cond) : zFd kCl (c :: zT) "TreeCounts$Net" 25 1 1 := mk_fd c kc_N ki_N (zin 90 (by decide +kernel) (by decide +kernel)) (by decide)
theorem kf_P_9 (c : Cond) : zFd kCl (c :: zT) "TreeCounts$Parts" 9 2 2 := mk_fd c kc_P ki_P (zin 134 (by decide +kernel) (by decide +kernel)) (by decide)
theorem kf_P_15 (c : Cond) : zFd kCl (c :: zT) "TreeCounts$Parts" 15 2 0 := mk_fd c kc_P ki_P (zin 129 (by decide +kernel) (by decide +kernel)) (by decide)
theorem kf_P_19 (c : Cond) : zFd kCl (c :: zT) "TreeCounts$Parts" 19 2 1 := mk_fd c kc_P ki_P (zin 130 (by decide +kernel) (by decide +kernel)) (by decide)
theorem kf_L_9 (c : Cond) : zFd kCl (c :: zT) "TreeCounts$Piles" 9 7 0 := mk_fd c kc_L ki_L (zin 250 (by decide +kernel) (by decide +kernel)) (by decide)
theorem kf_L_15 (c : Cond) : zFd kCl (c :: zT) "TreeCounts$Piles" 15 7 1 := mk_fd c kc_L ki_L (zin 252 (by decide +kernel) (by decide +kernel)) (by decide)
theorem kf_L_18 (c : Cond) : zFd kCl (c :: zT) "TreeCounts$Piles" 18 7 2 := mk_fd c kc_L ki_L (zin 254 (by decide +kernel) (by decide +kernel)) (by decide)
theorem kf_L_21 (c : Cond) : zFd kCl (c :: zT) "TreeCounts$Piles" 21 7 3 := mk_fd c kc_L ki_L (zin 255 (by decide +kernel) (by decide +kernel)) (by decide)
theorem kf_L_24 (c : Cond) : zFd kCl (c :: zT) "TreeCounts$Piles" 24 7 4 := mk_fd c kc_L ki_L (zin 256 (by decide +kernel) (by decide +kernel)) (by decide)
theorem kf_L_28 (c : Cond) : zFd kCl (c :: zT) "TreeCounts$Piles" 28 7 5 := mk_fd c kc_L ki_L (zin 257 (by decide +kernel) (by decide +kernel)) (by decide)
theorem kf_L_42 (c : Cond) : zFd kCl (c :: zT) "TreeCounts$Piles" 42 1 0 := mk_fd c kc_N ki_N (zin 86 (by decide +kernel) (by decide +kernel)) (by decide)
theorem kf_L_48 (c : Cond) : zFd kCl (c :: zT) "TreeCounts$Piles" 48 3 1 := mk_fd c kc_G ki_G (zin 155 (by decide +kernel) (by decide +kernel)) (by decide)
theorem kf_R_9 (c : Cond) : zFd kCl (c :: zT) "TreeCounts$Rings" 9 5 1 := mk_fd c kc_R ki_R (zin 193 (by decide +kernel) (by decide +kernel)) (by decide)
theorem kf_R_15 (c : Cond) : zFd kCl (c :: zT) "TreeCounts$Rings" 15 5 2 := mk_fd c kc_R ki_R (zin 195 (by decide +kernel) (by decide +kernel)) (by decide)
theorem kf_R_18 (c : Cond) : zFd kCl (c :: zT) "TreeCounts$Rings" 18 5 3 := mk_fd c kc_R ki_R (zin 196 (by decide +kernel) (by decide +kernel)) (by decide)
theorem kf_R_22 (c : Cond) : zFd kCl (c :: zT) "TreeCounts$Rings" 22 5 4 := mk_fd c kc_R ki_R (zin 197 (by decide +kernel) (by decide +kernel)) (by decide)
theorem kf_R_32 (c : Cond) : zFd kCl (c :: zT) "TreeCounts$Rings" 32 2 1 := mk_fd c kc_P ki_P (zin 131 (by decide +kernel) (by decide +kernel)) (by decide)
theorem kf_R_38 (c : Cond) : zFd kCl (c :: zT) "TreeCounts$Rings" 38 1 1 := mk_fd c kc_N ki_N (zin 89 (by decide +kernel) (by decide +kernel)) (by decide)
theorem kf_R_47 (c : Cond) : zFd kCl (c :: zT) "TreeCounts$Rings" 47 5 0 := mk_fd c kc_R ki_R (zin 191 (by decide +kernel) (by decide +kernel)) (by decide)
theorem kf_R_54 (c : Cond) : zFd kCl (c :: zT) "TreeCounts$Rings" 54 1 2 := mk_fd c kc_N ki_N (zin 98 (by decide +kernel) (by decide +kernel)) (by decide)
theorem kf_R_61 (c : Cond) : zFd kCl (c :: zT) "TreeCounts$Rings" 61 1 3 := mk_fd c kc_N ki_N (zin 105 (by decide +kernel) (by decide +kernel)) (by decide)
theorem kf_R_64 (c : Cond) : zFd kCl (c :: zT) "TreeCounts$Rings" 64 1 0 := mk_fd c kc_N ki_N (zin 88 (by decide +kernel) (by decide +kernel)) (by decide)
theorem kf_S_11 (c : Cond) : zFd kCl (c :: zT) "TreeCounts$Sets" 11 8 2 := mk_fd c kc_S ki_S (zin 282 (by decide +kernel) (by decide +kernel)) (by decide)
theorem kf_S_17 (c : Cond) : zFd kCl (c :: zT) "TreeCounts$Sets" 17 8 3 := mk_fd c kc_S ki_S (zin 283 (by decide +kernel) (by decide +kernel)) (by decide)
theorem kf_S_21 (c : Cond) : zFd kCl (c :: zT) "TreeCounts$Sets" 21 8 4 := mk_fd c kc_S ki_S (zin 284 (by decide +kernel) (by decide +kernel)) (by decide)
theorem kf_S_24 (c : Cond) : zFd kCl (c :: zT) "TreeCounts$Sets" 24 8 0 := mk_fd c kc_S ki_S (zin 280 (by decide +kernel) (by decide +kernel)) (by decide)
theorem kf_S_28 (c : Cond) : zFd kCl (c :: zT) "TreeCounts$Sets" 28 8 1 := mk_fd c kc_S ki_S (zin 281 (by decide +kernel) (by decide +kernel)) (by decide)
theorem kf_S_43 (c : Cond) : zFd kCl (c :: zT) "TreeCounts$Sets" 43 2 1 := mk_fd c kc_P ki_P (zin 132 (by decide +kernel) (by decide +kernel)) (by decide)
theorem kf_S_47 (c : Cond) : zFd kCl (c :: zT) "TreeCounts$Sets" 47 8 5 := mk_fd c kc_S ki_S (zin 285 (by decide +kernel) (by decide +kernel)) (by decide)
theorem kf_S_50 (c : Cond) : zFd kCl (c :: zT) "TreeCounts$Sets" 50 1 0 := mk_fd c kc_N ki_N (zin 85 (by decide +kernel) (by decide +kernel)) (by decide)
theorem kf_S_61 (c : Cond) : zFd kCl (c :: zT) "TreeCounts$Sets" 61 1 1 := mk_fd c kc_N ki_N (zin 93 (by decide +kernel) (by decide +kernel)) (by decide)
theorem kf_S_64 (c : Cond) : zFd kCl (c :: zT) "TreeCounts$Sets" 64 1 2 := mk_fd c kc_N ki_N (zin 99 (by decide +kernel) (by decide +kernel)) (by decide)
theorem kf_S_68 (c : Cond) : zFd kCl (c :: zT) "TreeCounts$Sets" 68 1 3 := mk_fd c kc_N ki_N (zin 104 (by decide +kernel) (by decide +kernel)) (by decide)
theorem kf_T_9 (c : Cond) : zFd kCl (c :: zT) "TreeCounts$Trees" 9 4 0 := mk_fd c kc_T ki_T (zin 169 (by decide +kernel) (by decide +kernel)) (by decide)
theorem kf_T_15 (c : Cond) : zFd kCl (c :: zT) "TreeCounts$Trees" 15 4 1 := mk_fd c kc_T ki_T (zin 170 (by decide +kernel) (by decide +kernel)) (by decide)
theorem kf_T_19 (c : Cond) : zFd kCl (c :: zT) "TreeCounts$Trees" 19 4 2 := mk_fd c kc_T ki_T (zin 171 (by decide +kernel) (by decide +kernel)) (by decide)
theorem kf_T_23 (c : Cond) : zFd kCl (c :: zT) "TreeCounts$Trees" 23 1 0 := mk_fd c kc_N ki_N (zin 83 (by decide +kernel) (by decide +kernel)) (by decide)
theorem kf_T_39 (c : Cond) : zFd kCl (c :: zT) "TreeCounts$Trees" 39 2 1 := mk_fd c kc_P ki_P (zin 133 (by decide +kernel) (by decide +kernel)) (by decide)
theorem kf_T_47 (c : Cond) : zFd kCl (c :: zT) "TreeCounts$Trees" 47 1 1 := mk_fd c kc_N ki_N (zin 92 (by decide +kernel) (by decide +kernel)) (by decide)
theorem kf_T_50 (c : Cond) : zFd kCl (c :: zT) "TreeCounts$Trees" 50 2 2 := mk_fd c kc_P ki_P (zin 135 (by decide +kernel) (by decide +kernel)) (by decide)
theorem kf_T_54 (c : Cond) : zFd kCl (c :: zT) "TreeCounts$Trees" 54 1 2 := mk_fd c kc_N ki_N (zin 97 (by decide +kernel) (by decide +kernel)) (by decide)
theorem kf_T_57 (c : Cond) : zFd kCl (c :: zT) "TreeCounts$Trees" 57 1 3 := mk_fd c kc_N ki_N (zin 103 (by decide +kernel) (by decide +kernel)) (by decide)
theorem kf_T_60 (c : Cond) : zFd kCl (c :: zT) "TreeCounts$Trees" 60 1 4 := mk_fd c kc_N ki_N (zin 109 (by decide +kernel) (by decide +kernel)) (by decide)
theorem kf_T_85 (c : Cond) : zFd kCl (c :: zT) "TreeCounts$Trees" 85 3 1 := mk_fd c kc_G ki_G (zin 156 (by decide +kernel) (by decide +kernel)) (by decide)
theorem kf_T_102 (c : Cond) : zFd kCl (c :: zT) "TreeCounts$Trees" 102 4 3 := mk_fd c kc_T ki_T (zin 172 (by decide +kernel) (by decide +kernel)) (by decide)
theorem kf_T_113 (c : Cond) : zFd kCl (c :: zT) "TreeCounts$Trees" 113 4 4 := mk_fd c kc_T ki_T (zin 173 (by decide +kernel) (by decide +kernel)) (by decide)
theorem kf_M_7 (c : Cond) : zFd kCl (c :: zT) "TreeCountsModel" 7 9 3 := mk_fd c kc_M ki_M (zin 765 (by decide +kernel) (by decide +kernel)) (by decide)
theorem kf_M_13 (c : Cond) : zFd kCl (c :: zT) "TreeCountsModel" 13 9 4 := mk_fd c kc_M ki_M (zin 766 (by decide +kernel) (by decide +kernel)) (by decide)
theorem kf_M_16 (c : Cond) : zFd kCl (c :: zT) "TreeCountsModel" 16 9 5 := mk_fd c kc_M ki_M (zin 767 (by decide +kernel) (by decide +kernel)) (by decide)
theorem kf_M_19 (c : Cond) : zFd kCl (c :: zT) "TreeCountsModel" 19 9 6 := mk_fd c kc_M ki_M (zin 768 (by decide +kernel) (by decide +kernel)) (by decide)
theorem kf_M_23 (c : Cond) : zFd kCl (c :: zT) "TreeCountsModel" 23 9 7 := mk_fd c kc_M ki_M (zin 769 (by decide +kernel) (by decide +kernel)) (by decide)
theorem kf_M_26 (c : Cond) : zFd kCl (c :: zT) "TreeCountsModel" 26 9 8 := mk_fd c kc_M ki_M (zin 770 (by decide +kernel) (by decide +kernel)) (by decide)
theorem kf_M_29 (c : Cond) : zFd kCl (c :: zT) "TreeCountsModel" 29 9 9 := mk_fd c kc_M ki_M (zin 771 (by decide +kernel) (by decide +kernel)) (by decide)
theorem kf_M_32 (c : Cond) : zFd kCl (c :: zT) "TreeCountsModel" 32 9 10 := mk_fd c kc_M ki_M (zin 772 (by decide +kernel) (by decide +kernel)) (by decide)
theorem kf_M_35 (c : Cond) : zFd kCl (c :: zT) "TreeCountsModel" 35 9 11 := mk_fd c kc_M ki_M (zin 773 (by decide +kernel) (by decide +kernel)) (by decide)
theorem kf_M_39 (c : Cond) : zFd kCl (c :: zT) "TreeCountsModel" 39 9 12 := mk_fd c kc_M ki_M (zin 774 (by decide +kernel) (by decide +kernel)) (by decide)
theorem kf_M_42 (c : Cond) : zFd kCl (c :: zT) "TreeCountsModel" 42 9 13 := mk_fd c kc_M ki_M (zin 775 (by decide +kernel) (by decide +kernel)) (by decide)
theorem kf_M_45 (c : Cond) : zFd kCl (c :: zT) "TreeCountsModel" 45 9 15 := mk_fd c kc_M ki_M (zin 777 (by decide +kernel) (by decide +kernel)) (by decide)
theorem kf_M_48 (c : Cond) : zFd kCl (c :: zT) "TreeCountsModel" 48 9 16 := mk_fd c kc_M ki_M (zin 778 (by decide +kernel) (by decide +kernel)) (by decide)
theorem kf_M_51 (c : Cond) : zFd kCl (c :: zT) "TreeCountsModel" 51 9 18 := mk_fd c kc_M ki_M (zin 780 (by decide +kernel) (by decide +kernel)) (by decide)
theorem kf_M_54 (c : Cond) : zFd kCl (c :: zT) "TreeCountsModel" 54 9 19 := mk_fd c kc_M ki_M (zin 781 (by decide +kernel) (by decide +kernel)) (by decide)
theorem kf_M_57 (c : Cond) : zFd kCl (c :: zT) "TreeCountsModel" 57 9 20 := mk_fd c kc_M ki_M (zin 782 (by decide +kernel) (by decide +kernel)) (by decide)
theorem kf_M_60 (c : Cond) : zFd kCl (c :: zT) "TreeCountsModel" 60 9 21 := mk_fd c kc_M ki_M (zin 783 (by decide +kernel) (by decide +kernel)) (by decide)
theorem kf_M_63 (c : Cond) : zFd kCl (c :: zT) "TreeCountsModel" 63 9 23 := mk_fd c kc_M ki_M (zin 785 (by decide +kernel) (by decide +kernel)) (by decide)
theorem kf_M_66 (c : Cond) : zFd kCl (c :: zT) "TreeCountsModel" 66 9 24 := mk_fd c kc_M ki_M (zin 786 (by decide +kernel) (by decide +kernel)) (by decide)
theorem kf_M_69 (c : Cond) : zFd kCl (c :: zT) "TreeCountsModel" 69 9 0 := mk_fd c kc_M ki_M (zin 762 (by decide +kernel) (by decide +kernel)) (by decide)
theorem kf_M_73 (c : Cond) : zFd kCl (c :: zT) "TreeCountsModel" 73 9 1 := mk_fd c kc_M ki_M (zin 763 (by decide +kernel) (by decide +kernel)) (by decide)
theorem kf_M_80 (c : Cond) : zFd kCl (c :: zT) "TreeCountsModel" 80 9 2 := mk_fd c kc_M ki_M (zin 764 (by decide +kernel) (by decide +kernel)) (by decide)
theorem kf_M_148 (c : Cond) : zFd kCl (c :: zT) "TreeCountsModel" 148 9 14 := mk_fd c kc_M ki_M (zin 776 (by decide +kernel) (by decide +kernel)) (by decide)
theorem kf_M_155 (c : Cond) : zFd kCl (c :: zT) "TreeCountsModel" 155 9 17 := mk_fd c kc_M ki_M (zin 779 (by decide +kernel) (by decide +kernel)) (by decide)
theorem kf_M_183 (c : Cond) : zFd kCl (c :: zT) "TreeCountsModel" 183 9 22 := mk_fd c kc_M ki_M (zin 784 (by decide +kernel) (by decide +kernel)) (by decide)
theorem kp_C_10 (c : Cond) : zFn kCl (c :: zT) "TreeCounts" 10 0 0 (.object "TreeCounts$Net") := mk_fn c kc_C ki_C (zin 299 (by decide +kernel) (by decide +kernel)) (by decide) kt_C kn_C rfl (by decide +kernel) rfl
theorem kp_C_27 (c : Cond) : zFn kCl (c :: zT) "TreeCounts" 27 0 1 (.object "TreeCounts$Trees") := mk_fn c kc_C ki_C (zin 300 (by decide +kernel) (by decide +kernel)) (by decide) kt_C kn_C rfl (by decide +kernel) rfl
theorem kp_C_36 (c : Cond) : zFn kCl (c :: zT) "TreeCounts" 36 0 2 (.object "TreeCounts$Rings") := mk_fn c kc_C ki_C (zin 301 (by decide +kernel) (by decide +kernel)) (by decide) kt_C kn_C rfl (by decide +kernel) rfl
theorem kp_C_45 (c : Cond) : zFn kCl (c :: zT) "TreeCounts" 45 0 3 (.object "TreeCounts$Group") := mk_fn c kc_C ki_C (zin 302 (by decide +kernel) (by decide +kernel)) (by decide) kt_C kn_C rfl (by decide +kernel) rfl
theorem kp_C_54 (c : Cond) : zFn kCl (c :: zT) "TreeCounts" 54 0 4 (.object "TreeCounts$Piles") := mk_fn c kc_C ki_C (zin 303 (by decide +kernel) (by decide +kernel)) (by decide) kt_C kn_C rfl (by decide +kernel) rfl
theorem kp_C_61 (c : Cond) : zFn kCl (c :: zT) "TreeCounts" 61 0 5 (.object "TreeCounts$Sets") := mk_fn c kc_C ki_C (zin 304 (by decide +kernel) (by decide +kernel)) (by decide) kt_C kn_C rfl (by decide +kernel) rfl
theorem kp_C_65 (c : Cond) : zPd kCl (c :: zT) "TreeCounts" 65 1 0 (.int) := mk_pd c kc_N ki_N (zin 81 (by decide +kernel) (by decide +kernel)) (by decide) kt_N kn_N rfl (by decide +kernel)
theorem kp_C_76 (c : Cond) : zPd kCl (c :: zT) "TreeCounts" 76 1 1 (.int) := mk_pd c kc_N ki_N (zin 91 (by decide +kernel) (by decide +kernel)) (by decide) kt_N kn_N rfl (by decide +kernel)
theorem kp_G_11 (c : Cond) : zFn kCl (c :: zT) "TreeCounts$Grid" 11 3 1 (.array (.array .long)) := mk_fn c kc_G ki_G (zin 153 (by decide +kernel) (by decide +kernel)) (by decide) kt_G kn_G rfl (by decide +kernel) rfl
theorem kp_G_16 (c : Cond) : zPd kCl (c :: zT) "TreeCounts$Grid" 16 3 0 (.int) := mk_pd c kc_G ki_G (zin 151 (by decide +kernel) (by decide +kernel)) (by decide) kt_G kn_G rfl (by decide +kernel)
theorem kp_U_9 (c : Cond) : zFn kCl (c :: zT) "TreeCounts$Group" 9 6 1 (.array .long) := mk_fn c kc_U ki_U (zin 217 (by decide +kernel) (by decide +kernel)) (by decide) kt_U kn_U rfl (by decide +kernel) rfl
theorem kp_U_15 (c : Cond) : zFn kCl (c :: zT) "TreeCounts$Group" 15 6 2 (.object "TreeCounts$Net") := mk_fn c kc_U ki_U (zin 218 (by decide +kernel) (by decide +kernel)) (by decide) kt_U kn_U rfl (by decide +kernel) rfl
theorem kp_U_19 (c : Cond) : zFn kCl (c :: zT) "TreeCounts$Group" 19 6 3 (.object "TreeCounts$Trees") := mk_fn c kc_U ki_U (zin 219 (by decide +kernel) (by decide +kernel)) (by decide) kt_U kn_U rfl (by decide +kernel) rfl
theorem kp_U_23 (c : Cond) : zFn kCl (c :: zT) "TreeCounts$Group" 23 6 4 (.object "TreeCounts$Grid") := mk_fn c kc_U ki_U (zin 220 (by decide +kernel) (by decide +kernel)) (by decide) kt_U kn_U rfl (by decide +kernel) rfl
theorem kp_U_33 (c : Cond) : zPd kCl (c :: zT) "TreeCounts$Group" 33 6 0 (.int) := mk_pd c kc_U ki_U (zin 215 (by decide +kernel) (by decide +kernel)) (by decide) kt_U kn_U rfl (by decide +kernel)
theorem kp_U_42 (c : Cond) : zPd kCl (c :: zT) "TreeCounts$Group" 42 6 5 (.long) := mk_pd c kc_U ki_U (zin 221 (by decide +kernel) (by decide +kernel)) (by decide) kt_U kn_U rfl (by decide +kernel)
theorem kp_U_97 (c : Cond) : zPd kCl (c :: zT) "TreeCounts$Group" 97 6 6 (.long) := mk_pd c kc_U ki_U (zin 222 (by decide +kernel) (by decide +kernel)) (by decide) kt_U kn_U rfl (by decide +kernel)
theorem kp_U_100 (c : Cond) : zPd kCl (c :: zT) "TreeCounts$Group" 100 6 7 (.long) := mk_pd c kc_U ki_U (zin 223 (by decide +kernel) (by decide +kernel)) (by decide) kt_U kn_U rfl (by decide +kernel)
theorem kp_U_106 (c : Cond) : zPd kCl (c :: zT) "TreeCounts$Group" 106 6 8 (.long) := mk_pd c kc_U ki_U (zin 224 (by decide +kernel) (by decide +kernel)) (by decide) kt_U kn_U rfl (by decide +kernel)
theorem kp_N_9 (c : Cond) : zFn kCl (c :: zT) "TreeCounts$Net" 9 1 2 (.array .int) := mk_fn c kc_N ki_N (zin 95 (by decide +kernel) (by decide +kernel)) (by decide) kt_N kn_N rfl (by decide +kernel) rfl
theorem kp_N_15 (c : Cond) : zFn kCl (c :: zT) "TreeCounts$Net" 15 1 3 (.array .int) := mk_fn c kc_N ki_N (zin 101 (by decide +kernel) (by decide +kernel)) (by decide) kt_N kn_N rfl (by decide +kernel) rfl
theorem kp_N_18 (c : Cond) : zFn kCl (c :: zT) "TreeCounts$Net" 18 1 4 (.array .int) := mk_fn c kc_N ki_N (zin 107 (by decide +kernel) (by decide +kernel)) (by decide) kt_N kn_N rfl (by decide +kernel) rfl
theorem kp_P_9 (c : Cond) : zFn kCl (c :: zT) "TreeCounts$Parts" 9 2 2 (.array .int) := mk_fn c kc_P ki_P (zin 134 (by decide +kernel) (by decide +kernel)) (by decide) kt_P kn_P rfl (by decide +kernel) rfl
theorem kp_P_15 (c : Cond) : zPd kCl (c :: zT) "TreeCounts$Parts" 15 2 0 (.int) := mk_pd c kc_P ki_P (zin 129 (by decide +kernel) (by decide +kernel)) (by decide) kt_P kn_P rfl (by decide +kernel)
theorem kp_P_19 (c : Cond) : zPd kCl (c :: zT) "TreeCounts$Parts" 19 2 1 (.int) := mk_pd c kc_P ki_P (zin 130 (by decide +kernel) (by decide +kernel)) (by decide) kt_P kn_P rfl (by decide +kernel)
theorem kp_L_9 (c : Cond) : zFn kCl (c :: zT) "TreeCounts$Piles" 9 7 0 (.array .long) := mk_fn c kc_L ki_L (zin 250 (by decide +kernel) (by decide +kernel)) (by decide) kt_L kn_L rfl (by decide +kernel) rfl
theorem kp_L_15 (c : Cond) : zFn kCl (c :: zT) "TreeCounts$Piles" 15 7 1 (.array .long) := mk_fn c kc_L ki_L (zin 252 (by decide +kernel) (by decide +kernel)) (by decide) kt_L kn_L rfl (by decide +kernel) rfl
theorem kp_L_18 (c : Cond) : zFn kCl (c :: zT) "TreeCounts$Piles" 18 7 2 (.array .long) := mk_fn c kc_L ki_L (zin 254 (by decide +kernel) (by decide +kernel)) (by decide) kt_L kn_L rfl (by decide +kernel) rfl
theorem kp_L_21 (c : Cond) : zFn kCl (c :: zT) "TreeCounts$Piles" 21 7 3 (.array .long) := mk_fn c kc_L ki_L (zin 255 (by decide +kernel) (by decide +kernel)) (by decide) kt_L kn_L rfl (by decide +kernel) rfl
theorem kp_L_24 (c : Cond) : zFn kCl (c :: zT) "TreeCounts$Piles" 24 7 4 (.object "TreeCounts$Net") := mk_fn c kc_L ki_L (zin 256 (by decide +kernel) (by decide +kernel)) (by decide) kt_L kn_L rfl (by decide +kernel) rfl
theorem kp_L_28 (c : Cond) : zFn kCl (c :: zT) "TreeCounts$Piles" 28 7 5 (.object "TreeCounts$Grid") := mk_fn c kc_L ki_L (zin 257 (by decide +kernel) (by decide +kernel)) (by decide) kt_L kn_L rfl (by decide +kernel) rfl
theorem kp_R_9 (c : Cond) : zFn kCl (c :: zT) "TreeCounts$Rings" 9 5 1 (.array .int) := mk_fn c kc_R ki_R (zin 193 (by decide +kernel) (by decide +kernel)) (by decide) kt_R kn_R rfl (by decide +kernel) rfl
theorem kp_R_15 (c : Cond) : zFn kCl (c :: zT) "TreeCounts$Rings" 15 5 2 (.array .int) := mk_fn c kc_R ki_R (zin 195 (by decide +kernel) (by decide +kernel)) (by decide) kt_R kn_R rfl (by decide +kernel) rfl
theorem kp_R_18 (c : Cond) : zFn kCl (c :: zT) "TreeCounts$Rings" 18 5 3 (.object "TreeCounts$Net") := mk_fn c kc_R ki_R (zin 196 (by decide +kernel) (by decide +kernel)) (by decide) kt_R kn_R rfl (by decide +kernel) rfl
theorem kp_R_22 (c : Cond) : zFn kCl (c :: zT) "TreeCounts$Rings" 22 5 4 (.object "TreeCounts$Parts") := mk_fn c kc_R ki_R (zin 197 (by decide +kernel) (by decide +kernel)) (by decide) kt_R kn_R rfl (by decide +kernel) rfl
theorem kp_R_47 (c : Cond) : zPd kCl (c :: zT) "TreeCounts$Rings" 47 5 0 (.int) := mk_pd c kc_R ki_R (zin 191 (by decide +kernel) (by decide +kernel)) (by decide) kt_R kn_R rfl (by decide +kernel)
theorem kp_S_11 (c : Cond) : zFn kCl (c :: zT) "TreeCounts$Sets" 11 8 2 (.array (.object "TreeCounts$Parts")) := mk_fn c kc_S ki_S (zin 282 (by decide +kernel) (by decide +kernel)) (by decide) kt_S kn_S rfl (by decide +kernel) rfl
theorem kp_S_17 (c : Cond) : zFn kCl (c :: zT) "TreeCounts$Sets" 17 8 3 (.array .long) := mk_fn c kc_S ki_S (zin 283 (by decide +kernel) (by decide +kernel)) (by decide) kt_S kn_S rfl (by decide +kernel) rfl
theorem kp_S_21 (c : Cond) : zFn kCl (c :: zT) "TreeCounts$Sets" 21 8 4 (.array .long) := mk_fn c kc_S ki_S (zin 284 (by decide +kernel) (by decide +kernel)) (by decide) kt_S kn_S rfl (by decide +kernel) rfl
theorem kp_S_24 (c : Cond) : zFn kCl (c :: zT) "TreeCounts$Sets" 24 8 0 (.object "TreeCounts$Net") := mk_fn c kc_S ki_S (zin 280 (by decide +kernel) (by decide +kernel)) (by decide) kt_S kn_S rfl (by decide +kernel) rfl
theorem kp_S_28 (c : Cond) : zFn kCl (c :: zT) "TreeCounts$Sets" 28 8 1 (.object "TreeCounts$Parts") := mk_fn c kc_S ki_S (zin 281 (by decide +kernel) (by decide +kernel)) (by decide) kt_S kn_S rfl (by decide +kernel) rfl
theorem kp_S_47 (c : Cond) : zPd kCl (c :: zT) "TreeCounts$Sets" 47 8 5 (.int) := mk_pd c kc_S ki_S (zin 285 (by decide +kernel) (by decide +kernel)) (by decide) kt_S kn_S rfl (by decide +kernel)
theorem kp_T_9 (c : Cond) : zFn kCl (c :: zT) "TreeCounts$Trees" 9 4 0 (.object "TreeCounts$Net") := mk_fn c kc_T ki_T (zin 169 (by decide +kernel) (by decide +kernel)) (by decide) kt_T kn_T rfl (by decide +kernel) rfl
theorem kp_T_15 (c : Cond) : zFn kCl (c :: zT) "TreeCounts$Trees" 15 4 1 (.object "TreeCounts$Parts") := mk_fn c kc_T ki_T (zin 170 (by decide +kernel) (by decide +kernel)) (by decide) kt_T kn_T rfl (by decide +kernel) rfl
theorem kp_T_19 (c : Cond) : zFn kCl (c :: zT) "TreeCounts$Trees" 19 4 2 (.object "TreeCounts$Grid") := mk_fn c kc_T ki_T (zin 171 (by decide +kernel) (by decide +kernel)) (by decide) kt_T kn_T rfl (by decide +kernel) rfl
theorem kp_T_102 (c : Cond) : zPd kCl (c :: zT) "TreeCounts$Trees" 102 4 3 (.long) := mk_pd c kc_T ki_T (zin 172 (by decide +kernel) (by decide +kernel)) (by decide) kt_T kn_T rfl (by decide +kernel)
theorem kp_T_113 (c : Cond) : zPd kCl (c :: zT) "TreeCounts$Trees" 113 4 4 (.long) := mk_pd c kc_T ki_T (zin 173 (by decide +kernel) (by decide +kernel)) (by decide) kt_T kn_T rfl (by decide +kernel)
theorem kp_M_7 (c : Cond) : zFn kCl (c :: zT) "TreeCountsModel" 7 9 3 (.array .int) := mk_fn c kc_M ki_M (zin 765 (by decide +kernel) (by decide +kernel)) (by decide) kt_M kn_M rfl (by decide +kernel) rfl
theorem kp_M_13 (c : Cond) : zFn kCl (c :: zT) "TreeCountsModel" 13 9 4 (.array .int) := mk_fn c kc_M ki_M (zin 766 (by decide +kernel) (by decide +kernel)) (by decide) kt_M kn_M rfl (by decide +kernel) rfl
theorem kp_M_16 (c : Cond) : zFn kCl (c :: zT) "TreeCountsModel" 16 9 5 (.array .int) := mk_fn c kc_M ki_M (zin 767 (by decide +kernel) (by decide +kernel)) (by decide) kt_M kn_M rfl (by decide +kernel) rfl
theorem kp_M_19 (c : Cond) : zFn kCl (c :: zT) "TreeCountsModel" 19 9 6 (.array .long) := mk_fn c kc_M ki_M (zin 768 (by decide +kernel) (by decide +kernel)) (by decide) kt_M kn_M rfl (by decide +kernel) rfl
theorem kp_M_23 (c : Cond) : zFn kCl (c :: zT) "TreeCountsModel" 23 9 7 (.array .long) := mk_fn c kc_M ki_M (zin 769 (by decide +kernel) (by decide +kernel)) (by decide) kt_M kn_M rfl (by decide +kernel) rfl
theorem kp_M_26 (c : Cond) : zFn kCl (c :: zT) "TreeCountsModel" 26 9 8 (.array .long) := mk_fn c kc_M ki_M (zin 770 (by decide +kernel) (by decide +kernel)) (by decide) kt_M kn_M rfl (by decide +kernel) rfl
theorem kp_M_29 (c : Cond) : zFn kCl (c :: zT) "TreeCountsModel" 29 9 9 (.array .long) := mk_fn c kc_M ki_M (zin 771 (by decide +kernel) (by decide +kernel)) (by decide) kt_M kn_M rfl (by decide +kernel) rfl
theorem kp_M_32 (c : Cond) : zFn kCl (c :: zT) "TreeCountsModel" 32 9 10 (.array .int) := mk_fn c kc_M ki_M (zin 772 (by decide +kernel) (by decide +kernel)) (by decide) kt_M kn_M rfl (by decide +kernel) rfl
theorem kp_M_35 (c : Cond) : zFn kCl (c :: zT) "TreeCountsModel" 35 9 11 (.array .boolean) := mk_fn c kc_M ki_M (zin 773 (by decide +kernel) (by decide +kernel)) (by decide) kt_M kn_M rfl (by decide +kernel) rfl
theorem kp_M_39 (c : Cond) : zFn kCl (c :: zT) "TreeCountsModel" 39 9 12 (.array .int) := mk_fn c kc_M ki_M (zin 774 (by decide +kernel) (by decide +kernel)) (by decide) kt_M kn_M rfl (by decide +kernel) rfl
theorem kp_M_42 (c : Cond) : zFn kCl (c :: zT) "TreeCountsModel" 42 9 13 (.array .int) := mk_fn c kc_M ki_M (zin 775 (by decide +kernel) (by decide +kernel)) (by decide) kt_M kn_M rfl (by decide +kernel) rfl
theorem kp_M_45 (c : Cond) : zFn kCl (c :: zT) "TreeCountsModel" 45 9 15 (.array .boolean) := mk_fn c kc_M ki_M (zin 777 (by decide +kernel) (by decide +kernel)) (by decide) kt_M kn_M rfl (by decide +kernel) rfl
theorem kp_M_48 (c : Cond) : zFn kCl (c :: zT) "TreeCountsModel" 48 9 16 (.array .int) := mk_fn c kc_M ki_M (zin 778 (by decide +kernel) (by decide +kernel)) (by decide) kt_M kn_M rfl (by decide +kernel) rfl
theorem kp_M_51 (c : Cond) : zFn kCl (c :: zT) "TreeCountsModel" 51 9 18 (.array .int) := mk_fn c kc_M ki_M (zin 780 (by decide +kernel) (by decide +kernel)) (by decide) kt_M kn_M rfl (by decide +kernel) rfl
theorem kp_M_54 (c : Cond) : zFn kCl (c :: zT) "TreeCountsModel" 54 9 19 (.array .boolean) := mk_fn c kc_M ki_M (zin 781 (by decide +kernel) (by decide +kernel)) (by decide) kt_M kn_M rfl (by decide +kernel) rfl
theorem kp_M_57 (c : Cond) : zFn kCl (c :: zT) "TreeCountsModel" 57 9 20 (.array .int) := mk_fn c kc_M ki_M (zin 782 (by decide +kernel) (by decide +kernel)) (by decide) kt_M kn_M rfl (by decide +kernel) rfl
theorem kp_M_60 (c : Cond) : zFn kCl (c :: zT) "TreeCountsModel" 60 9 21 (.array .long) := mk_fn c kc_M ki_M (zin 783 (by decide +kernel) (by decide +kernel)) (by decide) kt_M kn_M rfl (by decide +kernel) rfl
theorem kp_M_63 (c : Cond) : zFn kCl (c :: zT) "TreeCountsModel" 63 9 23 (.array .long) := mk_fn c kc_M ki_M (zin 785 (by decide +kernel) (by decide +kernel)) (by decide) kt_M kn_M rfl (by decide +kernel) rfl
theorem kp_M_66 (c : Cond) : zFn kCl (c :: zT) "TreeCountsModel" 66 9 24 (.array .long) := mk_fn c kc_M ki_M (zin 786 (by decide +kernel) (by decide +kernel)) (by decide) kt_M kn_M rfl (by decide +kernel) rfl
theorem kp_M_69 (c : Cond) : zPd kCl (c :: zT) "TreeCountsModel" 69 9 0 (.int) := mk_pd c kc_M ki_M (zin 762 (by decide +kernel) (by decide +kernel)) (by decide) kt_M kn_M rfl (by decide +kernel)
theorem kp_M_73 (c : Cond) : zPd kCl (c :: zT) "TreeCountsModel" 73 9 1 (.int) := mk_pd c kc_M ki_M (zin 763 (by decide +kernel) (by decide +kernel)) (by decide) kt_M kn_M rfl (by decide +kernel)
theorem kp_M_80 (c : Cond) : zPd kCl (c :: zT) "TreeCountsModel" 80 9 2 (.int) := mk_pd c kc_M ki_M (zin 764 (by decide +kernel) (by decide +kernel)) (by decide) kt_M kn_M rfl (by decide +kernel)
theorem kp_M_148 (c : Cond) : zPd kCl (c :: zT) "TreeCountsModel" 148 9 14 (.long) := mk_pd c kc_M ki_M (zin 776 (by decide +kernel) (by decide +kernel)) (by decide) kt_M kn_M rfl (by decide +kernel)
theorem kp_M_155 (c : Cond) : zPd kCl (c :: zT) "TreeCountsModel" 155 9 17 (.int) := mk_pd c kc_M ki_M (zin 779 (by decide +kernel) (by decide +kernel)) (by decide) kt_M kn_M rfl (by decide +kernel)
theorem kp_M_183 (c : Cond) : zPd kCl (c :: zT) "TreeCountsModel" 183 9 22 (.int) := mk_pd c kc_M ki_M (zin 784 (by decide +kernel) (by decide +kernel)) (by decide) kt_M kn_M rfl (by decide +kernel)
theorem kg_C_9 (c : Cond) : zCN (c :: zT) kNw "TreeCounts" 9 ky_N_init "TreeCounts" kb_N_init 1 none (kh_N_init :: zT) 0 := mk_cn c kz_N_init (by decide +kernel) (zin 51 (by decide +kernel) (by decide +kernel)) ⟨by decide, by decide, by decide +kernel⟩
theorem kg_C_18 (c : Cond) : zCN (c :: zT) kNw "TreeCounts" 18 ky_P_init "TreeCounts" kb_P_init 1 none (kh_P_init :: zT) 0 := mk_cn c kz_P_init (by decide +kernel) (zin 52 (by decide +kernel) (by decide +kernel)) ⟨by decide, by decide, by decide +kernel⟩
theorem kg_C_21 (c : Cond) : zCN (c :: zT) kNw "TreeCounts" 21 ky_G_init "TreeCounts" kb_G_init 1 none (kh_G_init :: zT) 0 := mk_cn c kz_G_init (by decide +kernel) (zin 53 (by decide +kernel) (by decide +kernel)) ⟨by decide, by decide, by decide +kernel⟩
theorem kg_C_24 (c : Cond) : zCI (c :: zT) "TreeCounts" 24 ky_T_init kb_T_init 4 (kh_T_init :: zT) 3 := mk_ci c kz_T_init (zin 54 (by decide +kernel) (by decide +kernel)) (zin 165 (by decide +kernel) (by decide +kernel)) (zin 166 (by decide +kernel) (by decide +kernel)) rfl ⟨by decide, by decide, by decide +kernel⟩
theorem kg_C_33 (c : Cond) : zCI (c :: zT) "TreeCounts" 33 ky_R_init kb_R_init 3 (kh_R_init :: zT) 2 := mk_ci c kz_R_init (zin 55 (by decide +kernel) (by decide +kernel)) (zin 187 (by decide +kernel) (by decide +kernel)) (zin 188 (by decide +kernel) (by decide +kernel)) rfl ⟨by decide, by decide, by decide +kernel⟩
theorem kg_C_42 (c : Cond) : zCI (c :: zT) "TreeCounts" 42 ky_U_init kb_U_init 4 (kh_U_init :: zT) 3 := mk_ci c kz_U_init (zin 56 (by decide +kernel) (by decide +kernel)) (zin 211 (by decide +kernel) (by decide +kernel)) (zin 212 (by decide +kernel) (by decide +kernel)) rfl ⟨by decide, by decide, by decide +kernel⟩
theorem kg_C_51 (c : Cond) : zCI (c :: zT) "TreeCounts" 51 ky_L_init kb_L_init 3 (kh_L_init :: zT) 2 := mk_ci c kz_L_init (zin 57 (by decide +kernel) (by decide +kernel)) (zin 246 (by decide +kernel) (by decide +kernel)) (zin 247 (by decide +kernel) (by decide +kernel)) rfl ⟨by decide, by decide, by decide +kernel⟩
theorem kg_C_60 (c : Cond) : zCI (c :: zT) "TreeCounts" 60 ky_S_init kb_S_init 4 (kh_S_init :: zT) 2 := mk_ci c kz_S_init (zin 58 (by decide +kernel) (by decide +kernel)) (zin 273 (by decide +kernel) (by decide +kernel)) (zin 274 (by decide +kernel) (by decide +kernel)) rfl ⟨by decide, by decide, by decide +kernel⟩
theorem kg_C_69 (c : Cond) : zCV (c :: zT) "TreeCounts" "TreeCounts$Net" 69 ky_N_hasNode kb_N_hasNode 2 (some FieldType.boolean) (kh_N_hasNode :: zT) 1 := mk_cv c (zin 326 (by decide +kernel) (by decide +kernel)) (zin 327 (by decide +kernel) (by decide +kernel)) (zin 328 (by decide +kernel) (by decide +kernel)) (zin 51 (by decide +kernel) (by decide +kernel)) kz_N_hasNode ⟨rfl, by decide, by decide, by decide +kernel⟩
theorem kg_C_73 (c : Cond) : zCS (c :: zT) "TreeCounts" 73 ky_C_isWeight kb_C_isWeight 1 (some FieldType.boolean) (kh_C_isWeight :: zT) 1 := mk_cs c (zin 330 (by decide +kernel) (by decide +kernel)) (zin 331 (by decide +kernel) (by decide +kernel)) (zin 50 (by decide +kernel) (by decide +kernel)) kz_C_isWeight ⟨rfl, by decide, by decide, by decide +kernel⟩
theorem kg_C_89 (c : Cond) : zCV (c :: zT) "TreeCounts" "TreeCounts$Net" 89 ky_N_hasArc kb_N_hasArc 2 (some FieldType.boolean) (kh_N_hasArc :: zT) 1 := mk_cv c (zin 337 (by decide +kernel) (by decide +kernel)) (zin 338 (by decide +kernel) (by decide +kernel)) (zin 339 (by decide +kernel) (by decide +kernel)) (zin 51 (by decide +kernel) (by decide +kernel)) kz_N_hasArc ⟨rfl, by decide, by decide, by decide +kernel⟩
theorem kg_C_92 (c : Cond) : zCV (c :: zT) "TreeCounts" "TreeCounts$Trees" 92 ky_T_sumOfAll kb_T_sumOfAll 1 (some FieldType.long) (kh_T_sumOfAll :: zT) 0 := mk_cv c (zin 349 (by decide +kernel) (by decide +kernel)) (zin 350 (by decide +kernel) (by decide +kernel)) (zin 351 (by decide +kernel) (by decide +kernel)) (zin 54 (by decide +kernel) (by decide +kernel)) kz_T_sumOfAll ⟨rfl, by decide, by decide, by decide +kernel⟩
theorem kg_C_96 (c : Cond) : zCV (c :: zT) "TreeCounts" "TreeCounts$Trees" 96 ky_T_sumWith kb_T_sumWith 2 (some FieldType.long) (kh_T_sumWith :: zT) 1 := mk_cv c (zin 404 (by decide +kernel) (by decide +kernel)) (zin 405 (by decide +kernel) (by decide +kernel)) (zin 406 (by decide +kernel) (by decide +kernel)) (zin 54 (by decide +kernel) (by decide +kernel)) kz_T_sumWith ⟨rfl, by decide, by decide, by decide +kernel⟩
theorem kg_C_102 (c : Cond) : zCV (c :: zT) "TreeCounts" "TreeCounts$Trees" 102 ky_T_sumTowards kb_T_sumTowards 2 (some FieldType.long) (kh_T_sumTowards :: zT) 1 := mk_cv c (zin 423 (by decide +kernel) (by decide +kernel)) (zin 424 (by decide +kernel) (by decide +kernel)) (zin 425 (by decide +kernel) (by decide +kernel)) (zin 54 (by decide +kernel) (by decide +kernel)) kz_T_sumTowards ⟨rfl, by decide, by decide, by decide +kernel⟩
theorem kg_C_105 (c : Cond) : zCV (c :: zT) "TreeCounts" "TreeCounts$Trees" 105 ky_T_sumOfMarked kb_T_sumOfMarked 2 (some FieldType.long) (kh_T_sumOfMarked :: zT) 0 := mk_cv c (zin 436 (by decide +kernel) (by decide +kernel)) (zin 437 (by decide +kernel) (by decide +kernel)) (zin 438 (by decide +kernel) (by decide +kernel)) (zin 54 (by decide +kernel) (by decide +kernel)) kz_T_sumOfMarked ⟨rfl, by decide, by decide, by decide +kernel⟩
theorem kg_C_108 (c : Cond) : zCV (c :: zT) "TreeCounts" "TreeCounts$Trees" 108 ky_T_sumOfPairs kb_T_sumOfPairs 3 (some FieldType.long) (kh_T_sumOfPairs :: zT) 2 := mk_cv c (zin 449 (by decide +kernel) (by decide +kernel)) (zin 450 (by decide +kernel) (by decide +kernel)) (zin 451 (by decide +kernel) (by decide +kernel)) (zin 54 (by decide +kernel) (by decide +kernel)) kz_T_sumOfPairs ⟨rfl, by decide, by decide, by decide +kernel⟩
theorem kg_C_112 (c : Cond) : zCV (c :: zT) "TreeCounts" "TreeCounts" 112 ky_C_apart kb_C_apart 3 (some FieldType.long) (kh_C_apart :: zT) 2 := mk_cv c (zin 457 (by decide +kernel) (by decide +kernel)) (zin 446 (by decide +kernel) (by decide +kernel)) (zin 447 (by decide +kernel) (by decide +kernel)) (zin 50 (by decide +kernel) (by decide +kernel)) kz_C_apart ⟨rfl, by decide, by decide, by decide +kernel⟩
theorem kg_C_115 (c : Cond) : zCS (c :: zT) "TreeCounts" 115 ky_C_commonDivisor kb_C_commonDivisor 11 (some FieldType.long) (kh_C_commonDivisor :: zT) 2 := mk_cs c (zin 458 (by decide +kernel) (by decide +kernel)) (zin 459 (by decide +kernel) (by decide +kernel)) (zin 50 (by decide +kernel) (by decide +kernel)) kz_C_commonDivisor ⟨rfl, by decide, by decide, by decide +kernel⟩
theorem kg_C_119 (c : Cond) : zCV (c :: zT) "TreeCounts" "TreeCounts$Trees" 119 ky_T_toursAlongAll kb_T_toursAlongAll 5 (some FieldType.long) (kh_T_toursAlongAll :: zT) 0 := mk_cv c (zin 465 (by decide +kernel) (by decide +kernel)) (zin 466 (by decide +kernel) (by decide +kernel)) (zin 467 (by decide +kernel) (by decide +kernel)) (zin 54 (by decide +kernel) (by decide +kernel)) kz_T_toursAlongAll ⟨rfl, by decide, by decide, by decide +kernel⟩
theorem kg_C_122 (c : Cond) : zCV (c :: zT) "TreeCounts" "TreeCounts$Trees" 122 ky_T_treeAt kb_T_treeAt 9 (some FieldType.int) (kh_T_treeAt :: zT) 1 := mk_cv c (zin 484 (by decide +kernel) (by decide +kernel)) (zin 485 (by decide +kernel) (by decide +kernel)) (zin 486 (by decide +kernel) (by decide +kernel)) (zin 54 (by decide +kernel) (by decide +kernel)) kz_T_treeAt ⟨rfl, by decide, by decide, by decide +kernel⟩
theorem kg_C_126 (c : Cond) : zCV (c :: zT) "TreeCounts" "TreeCounts$Trees" 126 ky_T_isTree kb_T_isTree 4 (some FieldType.boolean) (kh_T_isTree :: zT) 1 := mk_cv c (zin 508 (by decide +kernel) (by decide +kernel)) (zin 509 (by decide +kernel) (by decide +kernel)) (zin 510 (by decide +kernel) (by decide +kernel)) (zin 54 (by decide +kernel) (by decide +kernel)) kz_T_isTree ⟨rfl, by decide, by decide, by decide +kernel⟩
theorem kg_C_129 (c : Cond) : zCV (c :: zT) "TreeCounts" "TreeCounts$Trees" 129 ky_T_sumBefore kb_T_sumBefore 7 (some FieldType.long) (kh_T_sumBefore :: zT) 1 := mk_cv c (zin 512 (by decide +kernel) (by decide +kernel)) (zin 513 (by decide +kernel) (by decide +kernel)) (zin 514 (by decide +kernel) (by decide +kernel)) (zin 54 (by decide +kernel) (by decide +kernel)) kz_T_sumBefore ⟨rfl, by decide, by decide, by decide +kernel⟩
theorem kg_C_132 (c : Cond) : zCV (c :: zT) "TreeCounts" "TreeCounts$Rings" 132 ky_R_lay kb_R_lay 7 none (kh_R_lay :: zT) 1 := mk_cv c (zin 520 (by decide +kernel) (by decide +kernel)) (zin 521 (by decide +kernel) (by decide +kernel)) (zin 522 (by decide +kernel) (by decide +kernel)) (zin 55 (by decide +kernel) (by decide +kernel)) kz_R_lay ⟨rfl, by decide, by decide, by decide +kernel⟩
theorem kg_C_142 (c : Cond) : zCV (c :: zT) "TreeCounts" "TreeCounts$Group" 142 ky_U_find kb_U_find 2 none (kh_U_find :: zT) 0 := mk_cv c (zin 546 (by decide +kernel) (by decide +kernel)) (zin 547 (by decide +kernel) (by decide +kernel)) (zin 548 (by decide +kernel) (by decide +kernel)) (zin 56 (by decide +kernel) (by decide +kernel)) kz_U_find ⟨rfl, by decide, by decide, by decide +kernel⟩
theorem kg_C_148 (c : Cond) : zCV (c :: zT) "TreeCounts" "TreeCounts$Group" 148 ky_U_round kb_U_round 2 (some FieldType.long) (kh_U_round :: zT) 1 := mk_cv c (zin 593 (by decide +kernel) (by decide +kernel)) (zin 594 (by decide +kernel) (by decide +kernel)) (zin 595 (by decide +kernel) (by decide +kernel)) (zin 56 (by decide +kernel) (by decide +kernel)) kz_U_round ⟨rfl, by decide, by decide, by decide +kernel⟩
theorem kg_C_155 (c : Cond) : zCV (c :: zT) "TreeCounts" "TreeCounts$Rings" 155 ky_R_partsOfNet kb_R_partsOfNet 1 (some FieldType.int) (kh_R_partsOfNet :: zT) 0 := mk_cv c (zin 609 (by decide +kernel) (by decide +kernel)) (zin 610 (by decide +kernel) (by decide +kernel)) (zin 611 (by decide +kernel) (by decide +kernel)) (zin 55 (by decide +kernel) (by decide +kernel)) kz_R_partsOfNet ⟨rfl, by decide, by decide, by decide +kernel⟩
theorem kg_C_159 (c : Cond) : zCV (c :: zT) "TreeCounts" "TreeCounts$Piles" 159 ky_L_settleAll kb_L_settleAll 5 (some FieldType.long) (kh_L_settleAll :: zT) 1 := mk_cv c (zin 613 (by decide +kernel) (by decide +kernel)) (zin 614 (by decide +kernel) (by decide +kernel)) (zin 615 (by decide +kernel) (by decide +kernel)) (zin 57 (by decide +kernel) (by decide +kernel)) kz_L_settleAll ⟨rfl, by decide, by decide, by decide +kernel⟩
theorem kg_C_165 (c : Cond) : zCV (c :: zT) "TreeCounts" "TreeCounts$Piles" 165 ky_L_comeBack kb_L_comeBack 3 (some FieldType.boolean) (kh_L_comeBack :: zT) 1 := mk_cv c (zin 635 (by decide +kernel) (by decide +kernel)) (zin 636 (by decide +kernel) (by decide +kernel)) (zin 637 (by decide +kernel) (by decide +kernel)) (zin 57 (by decide +kernel) (by decide +kernel)) kz_L_comeBack ⟨rfl, by decide, by decide, by decide +kernel⟩
theorem kg_C_175 (c : Cond) : zCV (c :: zT) "TreeCounts" "TreeCounts$Sets" 175 ky_S_sumAt kb_S_sumAt 5 (some FieldType.long) (kh_S_sumAt :: zT) 2 := mk_cv c (zin 735 (by decide +kernel) (by decide +kernel)) (zin 736 (by decide +kernel) (by decide +kernel)) (zin 737 (by decide +kernel) (by decide +kernel)) (zin 58 (by decide +kernel) (by decide +kernel)) kz_S_sumAt ⟨rfl, by decide, by decide, by decide +kernel⟩
theorem kg_C_178 (c : Cond) : zCV (c :: zT) "TreeCounts" "TreeCounts$Rings" 178 ky_R_count kb_R_count 1 (some FieldType.int) (kh_R_count :: zT) 0 := mk_cv c (zin 643 (by decide +kernel) (by decide +kernel)) (zin 644 (by decide +kernel) (by decide +kernel)) (zin 645 (by decide +kernel) (by decide +kernel)) (zin 55 (by decide +kernel) (by decide +kernel)) kz_R_count ⟨rfl, by decide, by decide, by decide +kernel⟩
theorem kg_C_180 (c : Cond) : zCV (c :: zT) "TreeCounts" "TreeCounts$Piles" 180 ky_L_empty kb_L_empty 2 none (kh_L_empty :: zT) 0 := mk_cv c (zin 657 (by decide +kernel) (by decide +kernel)) (zin 658 (by decide +kernel) (by decide +kernel)) (zin 659 (by decide +kernel) (by decide +kernel)) (zin 57 (by decide +kernel) (by decide +kernel)) kz_L_empty ⟨rfl, by decide, by decide, by decide +kernel⟩
theorem kg_G_20 (c : Cond) : zCV (c :: zT) "TreeCounts$Grid" "TreeCounts$Grid" 20 ky_G_addOneWay kb_G_addOneWay 4 none (kh_G_addOneWay :: zT) 3 := mk_cv c (zin 369 (by decide +kernel) (by decide +kernel)) (zin 370 (by decide +kernel) (by decide +kernel)) (zin 371 (by decide +kernel) (by decide +kernel)) (zin 53 (by decide +kernel) (by decide +kernel)) kz_G_addOneWay ⟨rfl, by decide, by decide, by decide +kernel⟩
theorem kg_G_29 (c : Cond) : zCV (c :: zT) "TreeCounts$Grid" "TreeCounts$Grid" 29 ky_G_blank kb_G_blank 4 none (kh_G_blank :: zT) 1 := mk_cv c (zin 431 (by decide +kernel) (by decide +kernel)) (zin 362 (by decide +kernel) (by decide +kernel)) (zin 363 (by decide +kernel) (by decide +kernel)) (zin 53 (by decide +kernel) (by decide +kernel)) kz_G_blank ⟨rfl, by decide, by decide, by decide +kernel⟩
theorem kg_G_46 (c : Cond) : zCV (c :: zT) "TreeCounts$Grid" "TreeCounts$Grid" 46 ky_G_addBothWays kb_G_addBothWays 4 none (kh_G_addBothWays :: zT) 3 := mk_cv c (zin 444 (by decide +kernel) (by decide +kernel)) (zin 366 (by decide +kernel) (by decide +kernel)) (zin 367 (by decide +kernel) (by decide +kernel)) (zin 53 (by decide +kernel) (by decide +kernel)) kz_G_addBothWays ⟨rfl, by decide, by decide, by decide +kernel⟩
theorem kg_G_49 (c : Cond) : zCV (c :: zT) "TreeCounts$Grid" "TreeCounts$Grid" 49 ky_G_rowWithLowestBit kb_G_rowWithLowestBit 6 (some FieldType.int) (kh_G_rowWithLowestBit :: zT) 1 := mk_cv c (zin 381 (by decide +kernel) (by decide +kernel)) (zin 383 (by decide +kernel) (by decide +kernel)) (zin 1 (by decide +kernel) (by decide +kernel)) (zin 53 (by decide +kernel) (by decide +kernel)) kz_G_rowWithLowestBit ⟨rfl, by decide, by decide, by decide +kernel⟩
theorem kg_G_53 (c : Cond) : zCV (c :: zT) "TreeCounts$Grid" "TreeCounts$Grid" 53 ky_G_swapRows kb_G_swapRows 4 none (kh_G_swapRows :: zT) 2 := mk_cv c (zin 388 (by decide +kernel) (by decide +kernel)) (zin 389 (by decide +kernel) (by decide +kernel)) (zin 390 (by decide +kernel) (by decide +kernel)) (zin 53 (by decide +kernel) (by decide +kernel)) kz_G_swapRows ⟨rfl, by decide, by decide, by decide +kernel⟩
theorem kg_G_57 (c : Cond) : zCV (c :: zT) "TreeCounts$Grid" "TreeCounts$Grid" 57 ky_G_clearBelow kb_G_clearBelow 9 none (kh_G_clearBelow :: zT) 1 := mk_cv c (zin 392 (by decide +kernel) (by decide +kernel)) (zin 394 (by decide +kernel) (by decide +kernel)) (zin 2 (by decide +kernel) (by decide +kernel)) (zin 53 (by decide +kernel) (by decide +kernel)) kz_G_clearBelow ⟨rfl, by decide, by decide, by decide +kernel⟩
theorem kg_G_60 (c : Cond) : zCS (c :: zT) "TreeCounts$Grid" 60 ky_G_twos kb_G_twos 3 (some FieldType.int) (kh_G_twos :: zT) 1 := mk_cs c (zin 385 (by decide +kernel) (by decide +kernel)) (zin 386 (by decide +kernel) (by decide +kernel)) (zin 53 (by decide +kernel) (by decide +kernel)) kz_G_twos ⟨rfl, by decide, by decide, by decide +kernel⟩
theorem kg_G_64 (c : Cond) : zCS (c :: zT) "TreeCounts$Grid" 64 ky_G_inverseOfOdd kb_G_inverseOfOdd 5 (some FieldType.long) (kh_G_inverseOfOdd :: zT) 1 := mk_cs c (zin 396 (by decide +kernel) (by decide +kernel)) (zin 397 (by decide +kernel) (by decide +kernel)) (zin 53 (by decide +kernel) (by decide +kernel)) kz_G_inverseOfOdd ⟨rfl, by decide, by decide, by decide +kernel⟩
theorem kg_U_36 (c : Cond) : zCV (c :: zT) "TreeCounts$Group" "TreeCounts$Trees" 36 ky_T_sumOfAll kb_T_sumOfAll 1 (some FieldType.long) (kh_T_sumOfAll :: zT) 0 := mk_cv c (zin 550 (by decide +kernel) (by decide +kernel)) (zin 350 (by decide +kernel) (by decide +kernel)) (zin 351 (by decide +kernel) (by decide +kernel)) (zin 54 (by decide +kernel) (by decide +kernel)) kz_T_sumOfAll ⟨rfl, by decide, by decide, by decide +kernel⟩
theorem kg_U_48 (c : Cond) : zCV (c :: zT) "TreeCounts$Group" "TreeCounts$Grid" 48 ky_G_fillBothWays kb_G_fillBothWays 3 none (kh_G_fillBothWays :: zT) 1 := mk_cv c (zin 552 (by decide +kernel) (by decide +kernel)) (zin 441 (by decide +kernel) (by decide +kernel)) (zin 442 (by decide +kernel) (by decide +kernel)) (zin 53 (by decide +kernel) (by decide +kernel)) kz_G_fillBothWays ⟨rfl, by decide, by decide, by decide +kernel⟩
theorem kg_U_54 (c : Cond) : zCV (c :: zT) "TreeCounts$Group" "TreeCounts$Grid" 54 ky_G_strike kb_G_strike 3 none (kh_G_strike :: zT) 1 := mk_cv c (zin 553 (by decide +kernel) (by decide +kernel)) (zin 374 (by decide +kernel) (by decide +kernel)) (zin 375 (by decide +kernel) (by decide +kernel)) (zin 53 (by decide +kernel) (by decide +kernel)) kz_G_strike ⟨rfl, by decide, by decide, by decide +kernel⟩
theorem kg_U_58 (c : Cond) : zCV (c :: zT) "TreeCounts$Group" "TreeCounts$Group" 58 ky_U_reduceAll kb_U_reduceAll 3 none (kh_U_reduceAll :: zT) 0 := mk_cv c (zin 554 (by decide +kernel) (by decide +kernel)) (zin 556 (by decide +kernel) (by decide +kernel)) (zin 9 (by decide +kernel) (by decide +kernel)) (zin 56 (by decide +kernel) (by decide +kernel)) kz_U_reduceAll ⟨rfl, by decide, by decide, by decide +kernel⟩
theorem kg_U_64 (c : Cond) : zCV (c :: zT) "TreeCounts$Group" "TreeCounts$Group" 64 ky_U_clearLine kb_U_clearLine 4 none (kh_U_clearLine :: zT) 1 := mk_cv c (zin 562 (by decide +kernel) (by decide +kernel)) (zin 564 (by decide +kernel) (by decide +kernel)) (zin 11 (by decide +kernel) (by decide +kernel)) (zin 56 (by decide +kernel) (by decide +kernel)) kz_U_clearLine ⟨rfl, by decide, by decide, by decide +kernel⟩
theorem kg_U_71 (c : Cond) : zCN (c :: zT) kNw "TreeCounts$Group" 71 ky_C_commonDivisor "TreeCounts" kb_C_commonDivisor 11 (some FieldType.long) (kh_C_commonDivisor :: zT) 2 := mk_cn c kz_C_commonDivisor (by decide +kernel) (zin 50 (by decide +kernel) (by decide +kernel)) ⟨by decide, by decide, by decide +kernel⟩
theorem kg_U_75 (c : Cond) : zCV (c :: zT) "TreeCounts$Group" "TreeCounts$Group" 75 ky_U_makeChain kb_U_makeChain 5 none (kh_U_makeChain :: zT) 0 := mk_cv c (zin 589 (by decide +kernel) (by decide +kernel)) (zin 591 (by decide +kernel) (by decide +kernel)) (zin 17 (by decide +kernel) (by decide +kernel)) (zin 56 (by decide +kernel) (by decide +kernel)) kz_U_makeChain ⟨rfl, by decide, by decide, by decide +kernel⟩
theorem kg_U_78 (c : Cond) : zCV (c :: zT) "TreeCounts$Group" "TreeCounts$Group" 78 ky_U_reduced kb_U_reduced 5 (some FieldType.long) (kh_U_reduced :: zT) 1 := mk_cv c (zin 558 (by decide +kernel) (by decide +kernel)) (zin 560 (by decide +kernel) (by decide +kernel)) (zin 10 (by decide +kernel) (by decide +kernel)) (zin 56 (by decide +kernel) (by decide +kernel)) kz_U_reduced ⟨rfl, by decide, by decide, by decide +kernel⟩
theorem kg_U_82 (c : Cond) : zCV (c :: zT) "TreeCounts$Group" "TreeCounts$Group" 82 ky_U_mixRows kb_U_mixRows 16 none (kh_U_mixRows :: zT) 2 := mk_cv c (zin 566 (by decide +kernel) (by decide +kernel)) (zin 568 (by decide +kernel) (by decide +kernel)) (zin 12 (by decide +kernel) (by decide +kernel)) (zin 56 (by decide +kernel) (by decide +kernel)) kz_U_mixRows ⟨rfl, by decide, by decide, by decide +kernel⟩
theorem kg_U_86 (c : Cond) : zCV (c :: zT) "TreeCounts$Group" "TreeCounts$Group" 86 ky_U_isRowClear kb_U_isRowClear 3 (some FieldType.boolean) (kh_U_isRowClear :: zT) 1 := mk_cv c (zin 580 (by decide +kernel) (by decide +kernel)) (zin 582 (by decide +kernel) (by decide +kernel)) (zin 15 (by decide +kernel) (by decide +kernel)) (zin 56 (by decide +kernel) (by decide +kernel)) kz_U_isRowClear ⟨rfl, by decide, by decide, by decide +kernel⟩
theorem kg_U_90 (c : Cond) : zCV (c :: zT) "TreeCounts$Group" "TreeCounts$Group" 90 ky_U_transpose kb_U_transpose 6 none (kh_U_transpose :: zT) 1 := mk_cv c (zin 584 (by decide +kernel) (by decide +kernel)) (zin 586 (by decide +kernel) (by decide +kernel)) (zin 16 (by decide +kernel) (by decide +kernel)) (zin 56 (by decide +kernel) (by decide +kernel)) kz_U_transpose ⟨rfl, by decide, by decide, by decide +kernel⟩
theorem kg_U_93 (c : Cond) : zCV (c :: zT) "TreeCounts$Group" "TreeCounts$Group" 93 ky_U_measure kb_U_measure 20 none (kh_U_measure :: zT) 2 := mk_cv c (zin 570 (by decide +kernel) (by decide +kernel)) (zin 572 (by decide +kernel) (by decide +kernel)) (zin 13 (by decide +kernel) (by decide +kernel)) (zin 56 (by decide +kernel) (by decide +kernel)) kz_U_measure ⟨rfl, by decide, by decide, by decide +kernel⟩
theorem kg_U_103 (c : Cond) : zCV (c :: zT) "TreeCounts$Group" "TreeCounts$Group" 103 ky_U_times kb_U_times 8 (some FieldType.long) (kh_U_times :: zT) 2 := mk_cv c (zin 574 (by decide +kernel) (by decide +kernel)) (zin 576 (by decide +kernel) (by decide +kernel)) (zin 14 (by decide +kernel) (by decide +kernel)) (zin 56 (by decide +kernel) (by decide +kernel)) kz_U_times ⟨rfl, by decide, by decide, by decide +kernel⟩
theorem kg_N_28 (c : Cond) : zCV (c :: zT) "TreeCounts$Net" "TreeCounts$Parts" 28 ky_P_split kb_P_split 3 none (kh_P_split :: zT) 1 := mk_cv c (zin 528 (by decide +kernel) (by decide +kernel)) (zin 354 (by decide +kernel) (by decide +kernel)) (zin 355 (by decide +kernel) (by decide +kernel)) (zin 52 (by decide +kernel) (by decide +kernel)) kz_P_split ⟨rfl, by decide, by decide, by decide +kernel⟩
theorem kg_N_34 (c : Cond) : zCV (c :: zT) "TreeCounts$Net" "TreeCounts$Parts" 34 ky_P_unite kb_P_unite 6 (some FieldType.boolean) (kh_P_unite :: zT) 2 := mk_cv c (zin 529 (by decide +kernel) (by decide +kernel)) (zin 409 (by decide +kernel) (by decide +kernel)) (zin 410 (by decide +kernel) (by decide +kernel)) (zin 52 (by decide +kernel) (by decide +kernel)) kz_P_unite ⟨rfl, by decide, by decide, by decide +kernel⟩
theorem kg_L_32 (c : Cond) : zCV (c :: zT) "TreeCounts$Piles" "TreeCounts$Grid" 32 ky_G_fillBothWays kb_G_fillBothWays 3 none (kh_G_fillBothWays :: zT) 1 := mk_cv c (zin 617 (by decide +kernel) (by decide +kernel)) (zin 441 (by decide +kernel) (by decide +kernel)) (zin 442 (by decide +kernel) (by decide +kernel)) (zin 53 (by decide +kernel) (by decide +kernel)) kz_G_fillBothWays ⟨rfl, by decide, by decide, by decide +kernel⟩
theorem kg_L_38 (c : Cond) : zCV (c :: zT) "TreeCounts$Piles" "TreeCounts$Piles" 38 ky_L_run kb_L_run 11 none (kh_L_run :: zT) 3 := mk_cv c (zin 618 (by decide +kernel) (by decide +kernel)) (zin 620 (by decide +kernel) (by decide +kernel)) (zin 18 (by decide +kernel) (by decide +kernel)) (zin 57 (by decide +kernel) (by decide +kernel)) kz_L_run ⟨rfl, by decide, by decide, by decide +kernel⟩
theorem kg_L_52 (c : Cond) : zCV (c :: zT) "TreeCounts$Piles" "TreeCounts$Piles" 52 ky_L_fire kb_L_fire 6 none (kh_L_fire :: zT) 3 := mk_cv c (zin 623 (by decide +kernel) (by decide +kernel)) (zin 625 (by decide +kernel) (by decide +kernel)) (zin 19 (by decide +kernel) (by decide +kernel)) (zin 57 (by decide +kernel) (by decide +kernel)) kz_L_fire ⟨rfl, by decide, by decide, by decide +kernel⟩
theorem kg_R_26 (c : Cond) : zCV (c :: zT) "TreeCounts$Rings" "TreeCounts$Net" 26 ky_N_firstTrees kb_N_firstTrees 4 (some FieldType.int) (kh_N_firstTrees :: zT) 1 := mk_cv c (zin 524 (by decide +kernel) (by decide +kernel)) (zin 525 (by decide +kernel) (by decide +kernel)) (zin 526 (by decide +kernel) (by decide +kernel)) (zin 51 (by decide +kernel) (by decide +kernel)) kz_N_firstTrees ⟨rfl, by decide, by decide, by decide +kernel⟩
theorem kg_R_50 (c : Cond) : zCV (c :: zT) "TreeCounts$Rings" "TreeCounts$Rings" 50 ky_R_untaken kb_R_untaken 5 (some FieldType.int) (kh_R_untaken :: zT) 2 := mk_cv c (zin 530 (by decide +kernel) (by decide +kernel)) (zin 532 (by decide +kernel) (by decide +kernel)) (zin 6 (by decide +kernel) (by decide +kernel)) (zin 55 (by decide +kernel) (by decide +kernel)) kz_R_untaken ⟨rfl, by decide, by decide, by decide +kernel⟩
theorem kg_R_57 (c : Cond) : zCV (c :: zT) "TreeCounts$Rings" "TreeCounts$Rings" 57 ky_R_findWaysBack kb_R_findWaysBack 6 none (kh_R_findWaysBack :: zT) 2 := mk_cv c (zin 534 (by decide +kernel) (by decide +kernel)) (zin 536 (by decide +kernel) (by decide +kernel)) (zin 7 (by decide +kernel) (by decide +kernel)) (zin 55 (by decide +kernel) (by decide +kernel)) kz_R_findWaysBack ⟨rfl, by decide, by decide, by decide +kernel⟩
theorem kg_R_67 (c : Cond) : zCV (c :: zT) "TreeCounts$Rings" "TreeCounts$Rings" 67 ky_R_reach kb_R_reach 6 (some FieldType.int) (kh_R_reach :: zT) 2 := mk_cv c (zin 538 (by decide +kernel) (by decide +kernel)) (zin 540 (by decide +kernel) (by decide +kernel)) (zin 8 (by decide +kernel) (by decide +kernel)) (zin 55 (by decide +kernel) (by decide +kernel)) kz_R_reach ⟨rfl, by decide, by decide, by decide +kernel⟩
theorem kg_S_32 (c : Cond) : zCN (c :: zT) kNw "TreeCounts$Sets" 32 ky_P_init "TreeCounts" kb_P_init 1 none (kh_P_init :: zT) 0 := mk_cn c kz_P_init (by decide +kernel) (zin 52 (by decide +kernel) (by decide +kernel)) ⟨by decide, by decide, by decide +kernel⟩
theorem kg_S_33 (c : Cond) : zCS (c :: zT) "TreeCounts$Sets" 33 ky_S_fillPowers kb_S_fillPowers 6 none (kh_S_fillPowers :: zT) 2 := mk_cs c (zin 739 (by decide +kernel) (by decide +kernel)) (zin 740 (by decide +kernel) (by decide +kernel)) (zin 58 (by decide +kernel) (by decide +kernel)) kz_S_fillPowers ⟨rfl, by decide, by decide, by decide +kernel⟩
theorem kg_S_37 (c : Cond) : zCV (c :: zT) "TreeCounts$Sets" "TreeCounts$Net" 37 ky_N_firstTrees kb_N_firstTrees 4 (some FieldType.int) (kh_N_firstTrees :: zT) 1 := mk_cv c (zin 742 (by decide +kernel) (by decide +kernel)) (zin 525 (by decide +kernel) (by decide +kernel)) (zin 526 (by decide +kernel) (by decide +kernel)) (zin 51 (by decide +kernel) (by decide +kernel)) kz_N_firstTrees ⟨rfl, by decide, by decide, by decide +kernel⟩
theorem kg_S_53 (c : Cond) : zCV (c :: zT) "TreeCounts$Sets" "TreeCounts$Parts" 53 ky_P_split kb_P_split 3 none (kh_P_split :: zT) 1 := mk_cv c (zin 743 (by decide +kernel) (by decide +kernel)) (zin 354 (by decide +kernel) (by decide +kernel)) (zin 355 (by decide +kernel) (by decide +kernel)) (zin 52 (by decide +kernel) (by decide +kernel)) kz_P_split ⟨rfl, by decide, by decide, by decide +kernel⟩
theorem kg_S_57 (c : Cond) : zCS (c :: zT) "TreeCounts$Sets" 57 ky_S_sumFrom kb_S_sumFrom 11 (some FieldType.long) (kh_S_sumFrom :: zT) 3 := mk_cs c (zin 744 (by decide +kernel) (by decide +kernel)) (zin 745 (by decide +kernel) (by decide +kernel)) (zin 58 (by decide +kernel) (by decide +kernel)) kz_S_sumFrom ⟨rfl, by decide, by decide, by decide +kernel⟩
theorem kg_S_71 (c : Cond) : zCV (c :: zT) "TreeCounts$Sets" "TreeCounts$Parts" 71 ky_P_areOne kb_P_areOne 3 (some FieldType.boolean) (kh_P_areOne :: zT) 2 := mk_cv c (zin 747 (by decide +kernel) (by decide +kernel)) (zin 497 (by decide +kernel) (by decide +kernel)) (zin 498 (by decide +kernel) (by decide +kernel)) (zin 52 (by decide +kernel) (by decide +kernel)) kz_P_areOne ⟨rfl, by decide, by decide, by decide +kernel⟩
theorem kg_S_75 (c : Cond) : zCV (c :: zT) "TreeCounts$Sets" "TreeCounts$Parts" 75 ky_P_become kb_P_become 2 none (kh_P_become :: zT) 1 := mk_cv c (zin 748 (by decide +kernel) (by decide +kernel)) (zin 749 (by decide +kernel) (by decide +kernel)) (zin 750 (by decide +kernel) (by decide +kernel)) (zin 52 (by decide +kernel) (by decide +kernel)) kz_P_become ⟨rfl, by decide, by decide, by decide +kernel⟩
theorem kg_S_79 (c : Cond) : zCV (c :: zT) "TreeCounts$Sets" "TreeCounts$Parts" 79 ky_P_unite kb_P_unite 6 (some FieldType.boolean) (kh_P_unite :: zT) 2 := mk_cv c (zin 755 (by decide +kernel) (by decide +kernel)) (zin 409 (by decide +kernel) (by decide +kernel)) (zin 410 (by decide +kernel) (by decide +kernel)) (zin 52 (by decide +kernel) (by decide +kernel)) kz_P_unite ⟨rfl, by decide, by decide, by decide +kernel⟩
theorem kg_T_29 (c : Cond) : zCV (c :: zT) "TreeCounts$Trees" "TreeCounts$Parts" 29 ky_P_split kb_P_split 3 none (kh_P_split :: zT) 1 := mk_cv c (zin 353 (by decide +kernel) (by decide +kernel)) (zin 354 (by decide +kernel) (by decide +kernel)) (zin 355 (by decide +kernel) (by decide +kernel)) (zin 52 (by decide +kernel) (by decide +kernel)) kz_P_split ⟨rfl, by decide, by decide, by decide +kernel⟩
theorem kg_T_35 (c : Cond) : zCV (c :: zT) "TreeCounts$Trees" "TreeCounts$Trees" 35 ky_T_sumOverParts kb_T_sumOverParts 3 (some FieldType.long) (kh_T_sumOverParts :: zT) 1 := mk_cv c (zin 357 (by decide +kernel) (by decide +kernel)) (zin 359 (by decide +kernel) (by decide +kernel)) (zin 0 (by decide +kernel) (by decide +kernel)) (zin 54 (by decide +kernel) (by decide +kernel)) kz_T_sumOverParts ⟨rfl, by decide, by decide, by decide +kernel⟩
theorem kg_T_42 (c : Cond) : zCV (c :: zT) "TreeCounts$Trees" "TreeCounts$Grid" 42 ky_G_blank kb_G_blank 4 none (kh_G_blank :: zT) 1 := mk_cv c (zin 361 (by decide +kernel) (by decide +kernel)) (zin 362 (by decide +kernel) (by decide +kernel)) (zin 363 (by decide +kernel) (by decide +kernel)) (zin 53 (by decide +kernel) (by decide +kernel)) kz_G_blank ⟨rfl, by decide, by decide, by decide +kernel⟩
theorem kg_T_63 (c : Cond) : zCV (c :: zT) "TreeCounts$Trees" "TreeCounts$Grid" 63 ky_G_addBothWays kb_G_addBothWays 4 none (kh_G_addBothWays :: zT) 3 := mk_cv c (zin 365 (by decide +kernel) (by decide +kernel)) (zin 366 (by decide +kernel) (by decide +kernel)) (zin 367 (by decide +kernel) (by decide +kernel)) (zin 53 (by decide +kernel) (by decide +kernel)) kz_G_addBothWays ⟨rfl, by decide, by decide, by decide +kernel⟩
theorem kg_T_67 (c : Cond) : zCV (c :: zT) "TreeCounts$Trees" "TreeCounts$Grid" 67 ky_G_strike kb_G_strike 3 none (kh_G_strike :: zT) 1 := mk_cv c (zin 373 (by decide +kernel) (by decide +kernel)) (zin 374 (by decide +kernel) (by decide +kernel)) (zin 375 (by decide +kernel) (by decide +kernel)) (zin 53 (by decide +kernel) (by decide +kernel)) kz_G_strike ⟨rfl, by decide, by decide, by decide +kernel⟩
theorem kg_T_70 (c : Cond) : zCV (c :: zT) "TreeCounts$Trees" "TreeCounts$Grid" 70 ky_G_determinant kb_G_determinant 5 (some FieldType.long) (kh_G_determinant :: zT) 0 := mk_cv c (zin 377 (by decide +kernel) (by decide +kernel)) (zin 378 (by decide +kernel) (by decide +kernel)) (zin 379 (by decide +kernel) (by decide +kernel)) (zin 53 (by decide +kernel) (by decide +kernel)) kz_G_determinant ⟨rfl, by decide, by decide, by decide +kernel⟩
theorem kg_T_74 (c : Cond) : zCV (c :: zT) "TreeCounts$Trees" "TreeCounts$Parts" 74 ky_P_unite kb_P_unite 6 (some FieldType.boolean) (kh_P_unite :: zT) 2 := mk_cv c (zin 408 (by decide +kernel) (by decide +kernel)) (zin 409 (by decide +kernel) (by decide +kernel)) (zin 410 (by decide +kernel) (by decide +kernel)) (zin 52 (by decide +kernel) (by decide +kernel)) kz_P_unite ⟨rfl, by decide, by decide, by decide +kernel⟩
theorem kg_T_78 (c : Cond) : zCV (c :: zT) "TreeCounts$Trees" "TreeCounts$Grid" 78 ky_G_fillOneWay kb_G_fillOneWay 3 none (kh_G_fillOneWay :: zT) 1 := mk_cv c (zin 427 (by decide +kernel) (by decide +kernel)) (zin 428 (by decide +kernel) (by decide +kernel)) (zin 429 (by decide +kernel) (by decide +kernel)) (zin 53 (by decide +kernel) (by decide +kernel)) kz_G_fillOneWay ⟨rfl, by decide, by decide, by decide +kernel⟩
theorem kg_T_82 (c : Cond) : zCV (c :: zT) "TreeCounts$Trees" "TreeCounts$Grid" 82 ky_G_fillBothWays kb_G_fillBothWays 3 none (kh_G_fillBothWays :: zT) 1 := mk_cv c (zin 440 (by decide +kernel) (by decide +kernel)) (zin 441 (by decide +kernel) (by decide +kernel)) (zin 442 (by decide +kernel) (by decide +kernel)) (zin 53 (by decide +kernel) (by decide +kernel)) kz_G_fillBothWays ⟨rfl, by decide, by decide, by decide +kernel⟩
theorem kg_T_89 (c : Cond) : zCV (c :: zT) "TreeCounts$Trees" "TreeCounts$Net" 89 ky_N_weightOutOf kb_N_weightOutOf 4 (some FieldType.int) (kh_N_weightOutOf :: zT) 1 := mk_cv c (zin 469 (by decide +kernel) (by decide +kernel)) (zin 470 (by decide +kernel) (by decide +kernel)) (zin 471 (by decide +kernel) (by decide +kernel)) (zin 51 (by decide +kernel) (by decide +kernel)) kz_N_weightOutOf ⟨rfl, by decide, by decide, by decide +kernel⟩
theorem kg_T_93 (c : Cond) : zCV (c :: zT) "TreeCounts$Trees" "TreeCounts$Net" 93 ky_N_weightInto kb_N_weightInto 4 (some FieldType.int) (kh_N_weightInto :: zT) 1 := mk_cv c (zin 473 (by decide +kernel) (by decide +kernel)) (zin 474 (by decide +kernel) (by decide +kernel)) (zin 475 (by decide +kernel) (by decide +kernel)) (zin 51 (by decide +kernel) (by decide +kernel)) kz_N_weightInto ⟨rfl, by decide, by decide, by decide +kernel⟩
theorem kg_T_96 (c : Cond) : zCS (c :: zT) "TreeCounts$Trees" 96 ky_T_factorial kb_T_factorial 4 (some FieldType.long) (kh_T_factorial :: zT) 1 := mk_cs c (zin 477 (by decide +kernel) (by decide +kernel)) (zin 478 (by decide +kernel) (by decide +kernel)) (zin 54 (by decide +kernel) (by decide +kernel)) kz_T_factorial ⟨rfl, by decide, by decide, by decide +kernel⟩
theorem kg_T_99 (c : Cond) : zCV (c :: zT) "TreeCounts$Trees" "TreeCounts$Trees" 99 ky_T_beginChoice kb_T_beginChoice 1 none (kh_T_beginChoice :: zT) 0 := mk_cv c (zin 488 (by decide +kernel) (by decide +kernel)) (zin 490 (by decide +kernel) (by decide +kernel)) (zin 3 (by decide +kernel) (by decide +kernel)) (zin 54 (by decide +kernel) (by decide +kernel)) kz_T_beginChoice ⟨rfl, by decide, by decide, by decide +kernel⟩
theorem kg_T_106 (c : Cond) : zCV (c :: zT) "TreeCounts$Trees" "TreeCounts$Trees" 106 ky_T_sumIfTaken kb_T_sumIfTaken 2 (some FieldType.long) (kh_T_sumIfTaken :: zT) 1 := mk_cv c (zin 492 (by decide +kernel) (by decide +kernel)) (zin 494 (by decide +kernel) (by decide +kernel)) (zin 4 (by decide +kernel) (by decide +kernel)) (zin 54 (by decide +kernel) (by decide +kernel)) kz_T_sumIfTaken ⟨rfl, by decide, by decide, by decide +kernel⟩
theorem kg_T_109 (c : Cond) : zCV (c :: zT) "TreeCounts$Trees" "TreeCounts$Trees" 109 ky_T_take kb_T_take 4 none (kh_T_take :: zT) 2 := mk_cv c (zin 500 (by decide +kernel) (by decide +kernel)) (zin 502 (by decide +kernel) (by decide +kernel)) (zin 5 (by decide +kernel) (by decide +kernel)) (zin 54 (by decide +kernel) (by decide +kernel)) kz_T_take ⟨rfl, by decide, by decide, by decide +kernel⟩
theorem kg_T_116 (c : Cond) : zCV (c :: zT) "TreeCounts$Trees" "TreeCounts$Parts" 116 ky_P_areOne kb_P_areOne 3 (some FieldType.boolean) (kh_P_areOne :: zT) 2 := mk_cv c (zin 496 (by decide +kernel) (by decide +kernel)) (zin 497 (by decide +kernel) (by decide +kernel)) (zin 498 (by decide +kernel) (by decide +kernel)) (zin 52 (by decide +kernel) (by decide +kernel)) kz_P_areOne ⟨rfl, by decide, by decide, by decide +kernel⟩
theorem kg_W_7 (c : Cond) : zCV (c :: zT) "TreeCountsLaw" "TreeCounts" 7 ky_C_point kb_C_point 5 (some FieldType.long) (kh_C_point :: zT) 2 := mk_cv c (zin 665 (by decide +kernel) (by decide +kernel)) (zin 666 (by decide +kernel) (by decide +kernel)) (zin 667 (by decide +kernel) (by decide +kernel)) (zin 50 (by decide +kernel) (by decide +kernel)) kz_C_point ⟨rfl, by decide, by decide, by decide +kernel⟩
theorem kg_W_15 (c : Cond) : zCI (c :: zT) "TreeCountsLaw" 15 ky_C_init kb_C_init 3 (kh_C_init :: zT) 0 := mk_ci c kz_C_init (zin 50 (by decide +kernel) (by decide +kernel)) (zin 69 (by decide +kernel) (by decide +kernel)) (zin 70 (by decide +kernel) (by decide +kernel)) rfl ⟨by decide, by decide, by decide +kernel⟩
theorem kg_W_18 (c : Cond) : zCI (c :: zT) "TreeCountsLaw" 18 ky_M_init kb_M_init 1 (kh_M_init :: zT) 0 := mk_ci c kz_M_init (zin 59 (by decide +kernel) (by decide +kernel)) (zin 758 (by decide +kernel) (by decide +kernel)) (zin 759 (by decide +kernel) (by decide +kernel)) rfl ⟨by decide, by decide, by decide +kernel⟩
theorem kg_W_19 (c : Cond) : zCV (c :: zT) "TreeCountsLaw" "TreeCounts" 19 ky_C_node kb_C_node 1 (some FieldType.int) (kh_C_node :: zT) 0 := mk_cv c (zin 318 (by decide +kernel) (by decide +kernel)) (zin 319 (by decide +kernel) (by decide +kernel)) (zin 320 (by decide +kernel) (by decide +kernel)) (zin 50 (by decide +kernel) (by decide +kernel)) kz_C_node ⟨rfl, by decide, by decide, by decide +kernel⟩
theorem kg_W_23 (c : Cond) : zCV (c :: zT) "TreeCountsLaw" "TreeCountsModel" 23 ky_M_node kb_M_node 1 (some FieldType.int) (kh_M_node :: zT) 0 := mk_cv c (zin 843 (by decide +kernel) (by decide +kernel)) (zin 844 (by decide +kernel) (by decide +kernel)) (zin 845 (by decide +kernel) (by decide +kernel)) (zin 59 (by decide +kernel) (by decide +kernel)) kz_M_node ⟨rfl, by decide, by decide, by decide +kernel⟩
theorem kg_W_24 (c : Cond) : zCV (c :: zT) "TreeCountsLaw" "TreeCounts" 24 ky_C_arc kb_C_arc 4 (some FieldType.int) (kh_C_arc :: zT) 3 := mk_cv c (zin 322 (by decide +kernel) (by decide +kernel)) (zin 323 (by decide +kernel) (by decide +kernel)) (zin 324 (by decide +kernel) (by decide +kernel)) (zin 50 (by decide +kernel) (by decide +kernel)) kz_C_arc ⟨rfl, by decide, by decide, by decide +kernel⟩
theorem kg_W_28 (c : Cond) : zCV (c :: zT) "TreeCountsLaw" "TreeCountsModel" 28 ky_M_arc kb_M_arc 4 (some FieldType.int) (kh_M_arc :: zT) 3 := mk_cv c (zin 847 (by decide +kernel) (by decide +kernel)) (zin 848 (by decide +kernel) (by decide +kernel)) (zin 849 (by decide +kernel) (by decide +kernel)) (zin 59 (by decide +kernel) (by decide +kernel)) kz_M_arc ⟨rfl, by decide, by decide, by decide +kernel⟩
theorem kg_W_29 (c : Cond) : zCV (c :: zT) "TreeCountsLaw" "TreeCounts" 29 ky_C_weigh kb_C_weigh 4 (some FieldType.int) (kh_C_weigh :: zT) 2 := mk_cv c (zin 333 (by decide +kernel) (by decide +kernel)) (zin 334 (by decide +kernel) (by decide +kernel)) (zin 335 (by decide +kernel) (by decide +kernel)) (zin 50 (by decide +kernel) (by decide +kernel)) kz_C_weigh ⟨rfl, by decide, by decide, by decide +kernel⟩
theorem kg_W_33 (c : Cond) : zCV (c :: zT) "TreeCountsLaw" "TreeCountsModel" 33 ky_M_weigh kb_M_weigh 4 (some FieldType.int) (kh_M_weigh :: zT) 2 := mk_cv c (zin 855 (by decide +kernel) (by decide +kernel)) (zin 856 (by decide +kernel) (by decide +kernel)) (zin 857 (by decide +kernel) (by decide +kernel)) (zin 59 (by decide +kernel) (by decide +kernel)) kz_M_weigh ⟨rfl, by decide, by decide, by decide +kernel⟩
theorem kg_W_34 (c : Cond) : zCV (c :: zT) "TreeCountsLaw" "TreeCounts" 34 ky_C_drop kb_C_drop 1 (some FieldType.boolean) (kh_C_drop :: zT) 0 := mk_cv c (zin 341 (by decide +kernel) (by decide +kernel)) (zin 342 (by decide +kernel) (by decide +kernel)) (zin 343 (by decide +kernel) (by decide +kernel)) (zin 50 (by decide +kernel) (by decide +kernel)) kz_C_drop ⟨rfl, by decide, by decide, by decide +kernel⟩
theorem kg_W_38 (c : Cond) : zCV (c :: zT) "TreeCountsLaw" "TreeCountsModel" 38 ky_M_drop kb_M_drop 1 (some FieldType.boolean) (kh_M_drop :: zT) 0 := mk_cv c (zin 859 (by decide +kernel) (by decide +kernel)) (zin 860 (by decide +kernel) (by decide +kernel)) (zin 861 (by decide +kernel) (by decide +kernel)) (zin 59 (by decide +kernel) (by decide +kernel)) kz_M_drop ⟨rfl, by decide, by decide, by decide +kernel⟩
theorem kg_W_39 (c : Cond) : zCV (c :: zT) "TreeCountsLaw" "TreeCounts" 39 ky_C_trees kb_C_trees 1 (some FieldType.long) (kh_C_trees :: zT) 0 := mk_cv c (zin 345 (by decide +kernel) (by decide +kernel)) (zin 346 (by decide +kernel) (by decide +kernel)) (zin 347 (by decide +kernel) (by decide +kernel)) (zin 50 (by decide +kernel) (by decide +kernel)) kz_C_trees ⟨rfl, by decide, by decide, by decide +kernel⟩
theorem kg_W_43 (c : Cond) : zCV (c :: zT) "TreeCountsLaw" "TreeCountsModel" 43 ky_M_trees kb_M_trees 1 (some FieldType.long) (kh_M_trees :: zT) 0 := mk_cv c (zin 863 (by decide +kernel) (by decide +kernel)) (zin 864 (by decide +kernel) (by decide +kernel)) (zin 865 (by decide +kernel) (by decide +kernel)) (zin 59 (by decide +kernel) (by decide +kernel)) kz_M_trees ⟨rfl, by decide, by decide, by decide +kernel⟩
theorem kg_W_44 (c : Cond) : zCV (c :: zT) "TreeCountsLaw" "TreeCounts" 44 ky_C_through kb_C_through 2 (some FieldType.long) (kh_C_through :: zT) 1 := mk_cv c (zin 400 (by decide +kernel) (by decide +kernel)) (zin 401 (by decide +kernel) (by decide +kernel)) (zin 402 (by decide +kernel) (by decide +kernel)) (zin 50 (by decide +kernel) (by decide +kernel)) kz_C_through ⟨rfl, by decide, by decide, by decide +kernel⟩
theorem kg_W_48 (c : Cond) : zCV (c :: zT) "TreeCountsLaw" "TreeCountsModel" 48 ky_M_through kb_M_through 4 (some FieldType.long) (kh_M_through :: zT) 1 := mk_cv c (zin 914 (by decide +kernel) (by decide +kernel)) (zin 915 (by decide +kernel) (by decide +kernel)) (zin 916 (by decide +kernel) (by decide +kernel)) (zin 59 (by decide +kernel) (by decide +kernel)) kz_M_through ⟨rfl, by decide, by decide, by decide +kernel⟩
theorem kg_W_49 (c : Cond) : zCV (c :: zT) "TreeCountsLaw" "TreeCounts" 49 ky_C_rooted kb_C_rooted 2 (some FieldType.long) (kh_C_rooted :: zT) 1 := mk_cv c (zin 419 (by decide +kernel) (by decide +kernel)) (zin 420 (by decide +kernel) (by decide +kernel)) (zin 421 (by decide +kernel) (by decide +kernel)) (zin 50 (by decide +kernel) (by decide +kernel)) kz_C_rooted ⟨rfl, by decide, by decide, by decide +kernel⟩
theorem kg_W_52 (c : Cond) : zCV (c :: zT) "TreeCountsLaw" "TreeCountsModel" 52 ky_M_rooted kb_M_rooted 4 (some FieldType.long) (kh_M_rooted :: zT) 1 := mk_cv c (zin 920 (by decide +kernel) (by decide +kernel)) (zin 921 (by decide +kernel) (by decide +kernel)) (zin 922 (by decide +kernel) (by decide +kernel)) (zin 59 (by decide +kernel) (by decide +kernel)) kz_M_rooted ⟨rfl, by decide, by decide, by decide +kernel⟩
theorem kg_W_53 (c : Cond) : zCV (c :: zT) "TreeCountsLaw" "TreeCounts" 53 ky_C_forests kb_C_forests 1 (some FieldType.long) (kh_C_forests :: zT) 0 := mk_cv c (zin 432 (by decide +kernel) (by decide +kernel)) (zin 433 (by decide +kernel) (by decide +kernel)) (zin 434 (by decide +kernel) (by decide +kernel)) (zin 50 (by decide +kernel) (by decide +kernel)) kz_C_forests ⟨rfl, by decide, by decide, by decide +kernel⟩
theorem kg_W_56 (c : Cond) : zCV (c :: zT) "TreeCountsLaw" "TreeCountsModel" 56 ky_M_forests kb_M_forests 2 (some FieldType.long) (kh_M_forests :: zT) 0 := mk_cv c (zin 924 (by decide +kernel) (by decide +kernel)) (zin 925 (by decide +kernel) (by decide +kernel)) (zin 926 (by decide +kernel) (by decide +kernel)) (zin 59 (by decide +kernel) (by decide +kernel)) kz_M_forests ⟨rfl, by decide, by decide, by decide +kernel⟩
theorem kg_W_57 (c : Cond) : zCV (c :: zT) "TreeCountsLaw" "TreeCounts" 57 ky_C_apart kb_C_apart 3 (some FieldType.long) (kh_C_apart :: zT) 2 := mk_cv c (zin 445 (by decide +kernel) (by decide +kernel)) (zin 446 (by decide +kernel) (by decide +kernel)) (zin 447 (by decide +kernel) (by decide +kernel)) (zin 50 (by decide +kernel) (by decide +kernel)) kz_C_apart ⟨rfl, by decide, by decide, by decide +kernel⟩
theorem kg_W_61 (c : Cond) : zCV (c :: zT) "TreeCountsLaw" "TreeCountsModel" 61 ky_M_apart kb_M_apart 4 (some FieldType.long) (kh_M_apart :: zT) 2 := mk_cv c (zin 928 (by decide +kernel) (by decide +kernel)) (zin 929 (by decide +kernel) (by decide +kernel)) (zin 930 (by decide +kernel) (by decide +kernel)) (zin 59 (by decide +kernel) (by decide +kernel)) kz_M_apart ⟨rfl, by decide, by decide, by decide +kernel⟩
theorem kg_W_62 (c : Cond) : zCV (c :: zT) "TreeCountsLaw" "TreeCounts" 62 ky_C_resistance kb_C_resistance 10 (some FieldType.long) (kh_C_resistance :: zT) 3 := mk_cv c (zin 453 (by decide +kernel) (by decide +kernel)) (zin 454 (by decide +kernel) (by decide +kernel)) (zin 455 (by decide +kernel) (by decide +kernel)) (zin 50 (by decide +kernel) (by decide +kernel)) kz_C_resistance ⟨rfl, by decide, by decide, by decide +kernel⟩
theorem kg_W_66 (c : Cond) : zCV (c :: zT) "TreeCountsLaw" "TreeCountsModel" 66 ky_M_resistance kb_M_resistance 10 (some FieldType.long) (kh_M_resistance :: zT) 3 := mk_cv c (zin 932 (by decide +kernel) (by decide +kernel)) (zin 933 (by decide +kernel) (by decide +kernel)) (zin 934 (by decide +kernel) (by decide +kernel)) (zin 59 (by decide +kernel) (by decide +kernel)) kz_M_resistance ⟨rfl, by decide, by decide, by decide +kernel⟩
theorem kg_W_67 (c : Cond) : zCV (c :: zT) "TreeCountsLaw" "TreeCounts" 67 ky_C_tours kb_C_tours 1 (some FieldType.long) (kh_C_tours :: zT) 0 := mk_cv c (zin 461 (by decide +kernel) (by decide +kernel)) (zin 462 (by decide +kernel) (by decide +kernel)) (zin 463 (by decide +kernel) (by decide +kernel)) (zin 50 (by decide +kernel) (by decide +kernel)) kz_C_tours ⟨rfl, by decide, by decide, by decide +kernel⟩
theorem kg_W_70 (c : Cond) : zCV (c :: zT) "TreeCountsLaw" "TreeCountsModel" 70 ky_M_tours kb_M_tours 9 (some FieldType.long) (kh_M_tours :: zT) 0 := mk_cv c (zin 940 (by decide +kernel) (by decide +kernel)) (zin 941 (by decide +kernel) (by decide +kernel)) (zin 942 (by decide +kernel) (by decide +kernel)) (zin 59 (by decide +kernel) (by decide +kernel)) kz_M_tours ⟨rfl, by decide, by decide, by decide +kernel⟩
theorem kg_W_73 (c : Cond) : zCV (c :: zT) "TreeCountsLaw" "TreeCounts" 73 ky_C_drawn kb_C_drawn 3 (some FieldType.int) (kh_C_drawn :: zT) 1 := mk_cv c (zin 480 (by decide +kernel) (by decide +kernel)) (zin 481 (by decide +kernel) (by decide +kernel)) (zin 482 (by decide +kernel) (by decide +kernel)) (zin 50 (by decide +kernel) (by decide +kernel)) kz_C_drawn ⟨rfl, by decide, by decide, by decide +kernel⟩
theorem kg_W_77 (c : Cond) : zCV (c :: zT) "TreeCountsLaw" "TreeCountsModel" 77 ky_M_drawn kb_M_drawn 10 (some FieldType.int) (kh_M_drawn :: zT) 1 := mk_cv c (zin 948 (by decide +kernel) (by decide +kernel)) (zin 949 (by decide +kernel) (by decide +kernel)) (zin 950 (by decide +kernel) (by decide +kernel)) (zin 59 (by decide +kernel) (by decide +kernel)) kz_M_drawn ⟨rfl, by decide, by decide, by decide +kernel⟩
theorem kg_W_78 (c : Cond) : zCV (c :: zT) "TreeCountsLaw" "TreeCounts" 78 ky_C_place kb_C_place 2 (some FieldType.long) (kh_C_place :: zT) 1 := mk_cv c (zin 504 (by decide +kernel) (by decide +kernel)) (zin 505 (by decide +kernel) (by decide +kernel)) (zin 506 (by decide +kernel) (by decide +kernel)) (zin 50 (by decide +kernel) (by decide +kernel)) kz_C_place ⟨rfl, by decide, by decide, by decide +kernel⟩
theorem kg_W_81 (c : Cond) : zCV (c :: zT) "TreeCountsLaw" "TreeCountsModel" 81 ky_M_place kb_M_place 11 (some FieldType.long) (kh_M_place :: zT) 1 := mk_cv c (zin 956 (by decide +kernel) (by decide +kernel)) (zin 957 (by decide +kernel) (by decide +kernel)) (zin 958 (by decide +kernel) (by decide +kernel)) (zin 59 (by decide +kernel) (by decide +kernel)) kz_M_place ⟨rfl, by decide, by decide, by decide +kernel⟩
theorem kg_W_82 (c : Cond) : zCV (c :: zT) "TreeCountsLaw" "TreeCounts" 82 ky_C_ring kb_C_ring 3 (some FieldType.int) (kh_C_ring :: zT) 2 := mk_cv c (zin 516 (by decide +kernel) (by decide +kernel)) (zin 517 (by decide +kernel) (by decide +kernel)) (zin 518 (by decide +kernel) (by decide +kernel)) (zin 50 (by decide +kernel) (by decide +kernel)) kz_C_ring ⟨rfl, by decide, by decide, by decide +kernel⟩
theorem kg_W_85 (c : Cond) : zCV (c :: zT) "TreeCountsLaw" "TreeCountsModel" 85 ky_M_ring kb_M_ring 3 (some FieldType.int) (kh_M_ring :: zT) 2 := mk_cv c (zin 960 (by decide +kernel) (by decide +kernel)) (zin 961 (by decide +kernel) (by decide +kernel)) (zin 962 (by decide +kernel) (by decide +kernel)) (zin 59 (by decide +kernel) (by decide +kernel)) kz_M_ring ⟨rfl, by decide, by decide, by decide +kernel⟩
theorem kg_W_86 (c : Cond) : zCV (c :: zT) "TreeCountsLaw" "TreeCounts" 86 ky_C_group kb_C_group 2 (some FieldType.long) (kh_C_group :: zT) 1 := mk_cv c (zin 542 (by decide +kernel) (by decide +kernel)) (zin 543 (by decide +kernel) (by decide +kernel)) (zin 544 (by decide +kernel) (by decide +kernel)) (zin 50 (by decide +kernel) (by decide +kernel)) kz_C_group ⟨rfl, by decide, by decide, by decide +kernel⟩
theorem kg_W_89 (c : Cond) : zCV (c :: zT) "TreeCountsLaw" "TreeCountsModel" 89 ky_M_group kb_M_group 2 (some FieldType.long) (kh_M_group :: zT) 1 := mk_cv c (zin 972 (by decide +kernel) (by decide +kernel)) (zin 973 (by decide +kernel) (by decide +kernel)) (zin 974 (by decide +kernel) (by decide +kernel)) (zin 59 (by decide +kernel) (by decide +kernel)) kz_M_group ⟨rfl, by decide, by decide, by decide +kernel⟩
theorem kg_W_90 (c : Cond) : zCV (c :: zT) "TreeCountsLaw" "TreeCounts" 90 ky_C_chips kb_C_chips 5 (some FieldType.long) (kh_C_chips :: zT) 2 := mk_cv c (zin 597 (by decide +kernel) (by decide +kernel)) (zin 598 (by decide +kernel) (by decide +kernel)) (zin 599 (by decide +kernel) (by decide +kernel)) (zin 50 (by decide +kernel) (by decide +kernel)) kz_C_chips ⟨rfl, by decide, by decide, by decide +kernel⟩
theorem kg_W_93 (c : Cond) : zCV (c :: zT) "TreeCountsLaw" "TreeCountsModel" 93 ky_M_chips kb_M_chips 5 (some FieldType.long) (kh_M_chips :: zT) 2 := mk_cv c (zin 1011 (by decide +kernel) (by decide +kernel)) (zin 1012 (by decide +kernel) (by decide +kernel)) (zin 1013 (by decide +kernel) (by decide +kernel)) (zin 59 (by decide +kernel) (by decide +kernel)) kz_M_chips ⟨rfl, by decide, by decide, by decide +kernel⟩
theorem kg_W_94 (c : Cond) : zCV (c :: zT) "TreeCountsLaw" "TreeCounts" 94 ky_C_level kb_C_level 2 (some FieldType.long) (kh_C_level :: zT) 1 := mk_cv c (zin 601 (by decide +kernel) (by decide +kernel)) (zin 602 (by decide +kernel) (by decide +kernel)) (zin 603 (by decide +kernel) (by decide +kernel)) (zin 50 (by decide +kernel) (by decide +kernel)) kz_C_level ⟨rfl, by decide, by decide, by decide +kernel⟩
theorem kg_W_97 (c : Cond) : zCV (c :: zT) "TreeCountsLaw" "TreeCountsModel" 97 ky_M_level kb_M_level 2 (some FieldType.long) (kh_M_level :: zT) 1 := mk_cv c (zin 1015 (by decide +kernel) (by decide +kernel)) (zin 1016 (by decide +kernel) (by decide +kernel)) (zin 1017 (by decide +kernel) (by decide +kernel)) (zin 59 (by decide +kernel) (by decide +kernel)) kz_M_level ⟨rfl, by decide, by decide, by decide +kernel⟩
theorem kg_W_98 (c : Cond) : zCV (c :: zT) "TreeCountsLaw" "TreeCounts" 98 ky_C_settle kb_C_settle 2 (some FieldType.long) (kh_C_settle :: zT) 1 := mk_cv c (zin 605 (by decide +kernel) (by decide +kernel)) (zin 606 (by decide +kernel) (by decide +kernel)) (zin 607 (by decide +kernel) (by decide +kernel)) (zin 50 (by decide +kernel) (by decide +kernel)) kz_C_settle ⟨rfl, by decide, by decide, by decide +kernel⟩
theorem kg_W_101 (c : Cond) : zCV (c :: zT) "TreeCountsLaw" "TreeCountsModel" 101 ky_M_settle kb_M_settle 5 (some FieldType.long) (kh_M_settle :: zT) 1 := mk_cv c (zin 1019 (by decide +kernel) (by decide +kernel)) (zin 1020 (by decide +kernel) (by decide +kernel)) (zin 1021 (by decide +kernel) (by decide +kernel)) (zin 59 (by decide +kernel) (by decide +kernel)) kz_M_settle ⟨rfl, by decide, by decide, by decide +kernel⟩
theorem kg_W_102 (c : Cond) : zCV (c :: zT) "TreeCountsLaw" "TreeCounts" 102 ky_C_fired kb_C_fired 2 (some FieldType.long) (kh_C_fired :: zT) 1 := mk_cv c (zin 627 (by decide +kernel) (by decide +kernel)) (zin 628 (by decide +kernel) (by decide +kernel)) (zin 629 (by decide +kernel) (by decide +kernel)) (zin 50 (by decide +kernel) (by decide +kernel)) kz_C_fired ⟨rfl, by decide, by decide, by decide +kernel⟩
theorem kg_W_105 (c : Cond) : zCV (c :: zT) "TreeCountsLaw" "TreeCountsModel" 105 ky_M_fired kb_M_fired 2 (some FieldType.long) (kh_M_fired :: zT) 1 := mk_cv c (zin 1039 (by decide +kernel) (by decide +kernel)) (zin 1040 (by decide +kernel) (by decide +kernel)) (zin 1041 (by decide +kernel) (by decide +kernel)) (zin 59 (by decide +kernel) (by decide +kernel)) kz_M_fired ⟨rfl, by decide, by decide, by decide +kernel⟩
theorem kg_W_106 (c : Cond) : zCV (c :: zT) "TreeCountsLaw" "TreeCounts" 106 ky_C_recurrent kb_C_recurrent 2 (some FieldType.int) (kh_C_recurrent :: zT) 1 := mk_cv c (zin 631 (by decide +kernel) (by decide +kernel)) (zin 632 (by decide +kernel) (by decide +kernel)) (zin 633 (by decide +kernel) (by decide +kernel)) (zin 50 (by decide +kernel) (by decide +kernel)) kz_C_recurrent ⟨rfl, by decide, by decide, by decide +kernel⟩
theorem kg_W_110 (c : Cond) : zCV (c :: zT) "TreeCountsLaw" "TreeCountsModel" 110 ky_M_recurrent kb_M_recurrent 6 (some FieldType.int) (kh_M_recurrent :: zT) 1 := mk_cv c (zin 1043 (by decide +kernel) (by decide +kernel)) (zin 1044 (by decide +kernel) (by decide +kernel)) (zin 1045 (by decide +kernel) (by decide +kernel)) (zin 59 (by decide +kernel) (by decide +kernel)) kz_M_recurrent ⟨rfl, by decide, by decide, by decide +kernel⟩
theorem kg_W_116 (c : Cond) : zCV (c :: zT) "TreeCountsLaw" "TreeCountsModel" 116 ky_M_point kb_M_point 11 (some FieldType.long) (kh_M_point :: zT) 2 := mk_cv c (zin 1047 (by decide +kernel) (by decide +kernel)) (zin 1048 (by decide +kernel) (by decide +kernel)) (zin 1049 (by decide +kernel) (by decide +kernel)) (zin 59 (by decide +kernel) (by decide +kernel)) kz_M_point ⟨rfl, by decide, by decide, by decide +kernel⟩
theorem kg_W_117 (c : Cond) : zCV (c :: zT) "TreeCountsLaw" "TreeCountsModel" 117 ky_M_thrown kb_M_thrown 1 (some FieldType.int) (kh_M_thrown :: zT) 0 := mk_cv c (zin 839 (by decide +kernel) (by decide +kernel)) (zin 840 (by decide +kernel) (by decide +kernel)) (zin 841 (by decide +kernel) (by decide +kernel)) (zin 59 (by decide +kernel) (by decide +kernel)) kz_M_thrown ⟨rfl, by decide, by decide, by decide +kernel⟩
theorem kg_W_120 (c : Cond) : zCV (c :: zT) "TreeCountsLaw" "TreeCounts" 120 ky_C_told kb_C_told 2 (some FieldType.int) (kh_C_told :: zT) 1 := mk_cv c (zin 639 (by decide +kernel) (by decide +kernel)) (zin 640 (by decide +kernel) (by decide +kernel)) (zin 641 (by decide +kernel) (by decide +kernel)) (zin 50 (by decide +kernel) (by decide +kernel)) kz_C_told ⟨rfl, by decide, by decide, by decide +kernel⟩
theorem kg_W_123 (c : Cond) : zCV (c :: zT) "TreeCountsLaw" "TreeCountsModel" 123 ky_M_told kb_M_told 2 (some FieldType.int) (kh_M_told :: zT) 1 := mk_cv c (zin 1058 (by decide +kernel) (by decide +kernel)) (zin 1059 (by decide +kernel) (by decide +kernel)) (zin 1060 (by decide +kernel) (by decide +kernel)) (zin 59 (by decide +kernel) (by decide +kernel)) kz_M_told ⟨rfl, by decide, by decide, by decide +kernel⟩
theorem kg_W_124 (c : Cond) : zCV (c :: zT) "TreeCountsLaw" "TreeCounts" 124 ky_C_clear kb_C_clear 1 none (kh_C_clear :: zT) 0 := mk_cv c (zin 653 (by decide +kernel) (by decide +kernel)) (zin 654 (by decide +kernel) (by decide +kernel)) (zin 655 (by decide +kernel) (by decide +kernel)) (zin 50 (by decide +kernel) (by decide +kernel)) kz_C_clear ⟨rfl, by decide, by decide, by decide +kernel⟩
theorem kg_W_127 (c : Cond) : zCV (c :: zT) "TreeCountsLaw" "TreeCountsModel" 127 ky_M_clear kb_M_clear 1 none (kh_M_clear :: zT) 0 := mk_cv c (zin 1062 (by decide +kernel) (by decide +kernel)) (zin 1063 (by decide +kernel) (by decide +kernel)) (zin 1064 (by decide +kernel) (by decide +kernel)) (zin 59 (by decide +kernel) (by decide +kernel)) kz_M_clear ⟨rfl, by decide, by decide, by decide +kernel⟩
theorem kg_M_76 (c : Cond) : zCV (c :: zT) "TreeCountsModel" "TreeCountsModel" 76 ky_M_isNode kb_M_isNode 2 (some FieldType.boolean) (kh_M_isNode :: zT) 1 := mk_cv c (zin 851 (by decide +kernel) (by decide +kernel)) (zin 853 (by decide +kernel) (by decide +kernel)) (zin 21 (by decide +kernel) (by decide +kernel)) (zin 59 (by decide +kernel) (by decide +kernel)) kz_M_isNode ⟨rfl, by decide, by decide, by decide +kernel⟩
theorem kg_M_85 (c : Cond) : zCS (c :: zT) "TreeCountsModel" 85 ky_M_power kb_M_power 12 (some FieldType.long) (kh_M_power :: zT) 3 := mk_cs c (zin 909 (by decide +kernel) (by decide +kernel)) (zin 910 (by decide +kernel) (by decide +kernel)) (zin 59 (by decide +kernel) (by decide +kernel)) kz_M_power ⟨rfl, by decide, by decide, by decide +kernel⟩
theorem kg_M_91 (c : Cond) : zCV (c :: zT) "TreeCountsModel" "TreeCountsModel" 91 ky_M_modulo kb_M_modulo 14 (some FieldType.long) (kh_M_modulo :: zT) 2 := mk_cv c (zin 904 (by decide +kernel) (by decide +kernel)) (zin 906 (by decide +kernel) (by decide +kernel)) (zin 31 (by decide +kernel) (by decide +kernel)) (zin 59 (by decide +kernel) (by decide +kernel)) kz_M_modulo ⟨rfl, by decide, by decide, by decide +kernel⟩
theorem kg_M_99 (c : Cond) : zCV (c :: zT) "TreeCountsModel" "TreeCountsModel" 99 ky_M_isFirst kb_M_isFirst 4 (some FieldType.boolean) (kh_M_isFirst :: zT) 1 := mk_cv c (zin 883 (by decide +kernel) (by decide +kernel)) (zin 885 (by decide +kernel) (by decide +kernel)) (zin 26 (by decide +kernel) (by decide +kernel)) (zin 59 (by decide +kernel) (by decide +kernel)) kz_M_isFirst ⟨rfl, by decide, by decide, by decide +kernel⟩
theorem kg_M_102 (c : Cond) : zCV (c :: zT) "TreeCountsModel" "TreeCountsModel" 102 ky_M_clearRows kb_M_clearRows 2 none (kh_M_clearRows :: zT) 0 := mk_cv c (zin 891 (by decide +kernel) (by decide +kernel)) (zin 893 (by decide +kernel) (by decide +kernel)) (zin 28 (by decide +kernel) (by decide +kernel)) (zin 59 (by decide +kernel) (by decide +kernel)) kz_M_clearRows ⟨rfl, by decide, by decide, by decide +kernel⟩
theorem kg_M_105 (c : Cond) : zCV (c :: zT) "TreeCountsModel" "TreeCountsModel" 105 ky_M_addTo kb_M_addTo 5 none (kh_M_addTo :: zT) 3 := mk_cv c (zin 895 (by decide +kernel) (by decide +kernel)) (zin 897 (by decide +kernel) (by decide +kernel)) (zin 29 (by decide +kernel) (by decide +kernel)) (zin 59 (by decide +kernel) (by decide +kernel)) kz_M_addTo ⟨rfl, by decide, by decide, by decide +kernel⟩
theorem kg_M_109 (c : Cond) : zCV (c :: zT) "TreeCountsModel" "TreeCountsModel" 109 ky_M_number kb_M_number 7 (some FieldType.int) (kh_M_number :: zT) 2 := mk_cv c (zin 879 (by decide +kernel) (by decide +kernel)) (zin 881 (by decide +kernel) (by decide +kernel)) (zin 25 (by decide +kernel) (by decide +kernel)) (zin 59 (by decide +kernel) (by decide +kernel)) kz_M_number ⟨rfl, by decide, by decide, by decide +kernel⟩
theorem kg_M_113 (c : Cond) : zCV (c :: zT) "TreeCountsModel" "TreeCountsModel" 113 ky_M_rows kb_M_rows 6 none (kh_M_rows :: zT) 1 := mk_cv c (zin 887 (by decide +kernel) (by decide +kernel)) (zin 889 (by decide +kernel) (by decide +kernel)) (zin 27 (by decide +kernel) (by decide +kernel)) (zin 59 (by decide +kernel) (by decide +kernel)) kz_M_rows ⟨rfl, by decide, by decide, by decide +kernel⟩
theorem kg_M_117 (c : Cond) : zCV (c :: zT) "TreeCountsModel" "TreeCountsModel" 117 ky_M_determinant kb_M_determinant 8 (some FieldType.long) (kh_M_determinant :: zT) 1 := mk_cv c (zin 899 (by decide +kernel) (by decide +kernel)) (zin 901 (by decide +kernel) (by decide +kernel)) (zin 30 (by decide +kernel) (by decide +kernel)) (zin 59 (by decide +kernel) (by decide +kernel)) kz_M_determinant ⟨rfl, by decide, by decide, by decide +kernel⟩
theorem kg_M_121 (c : Cond) : zCV (c :: zT) "TreeCountsModel" "TreeCountsModel" 121 ky_M_apartAll kb_M_apartAll 2 none (kh_M_apartAll :: zT) 0 := mk_cv c (zin 867 (by decide +kernel) (by decide +kernel)) (zin 869 (by decide +kernel) (by decide +kernel)) (zin 22 (by decide +kernel) (by decide +kernel)) (zin 59 (by decide +kernel) (by decide +kernel)) kz_M_apartAll ⟨rfl, by decide, by decide, by decide +kernel⟩
theorem kg_M_124 (c : Cond) : zCV (c :: zT) "TreeCountsModel" "TreeCountsModel" 124 ky_M_noneOut kb_M_noneOut 2 none (kh_M_noneOut :: zT) 0 := mk_cv c (zin 871 (by decide +kernel) (by decide +kernel)) (zin 873 (by decide +kernel) (by decide +kernel)) (zin 23 (by decide +kernel) (by decide +kernel)) (zin 59 (by decide +kernel) (by decide +kernel)) kz_M_noneOut ⟨rfl, by decide, by decide, by decide +kernel⟩
theorem kg_M_127 (c : Cond) : zCV (c :: zT) "TreeCountsModel" "TreeCountsModel" 127 ky_M_count kb_M_count 2 (some FieldType.long) (kh_M_count :: zT) 0 := mk_cv c (zin 875 (by decide +kernel) (by decide +kernel)) (zin 877 (by decide +kernel) (by decide +kernel)) (zin 24 (by decide +kernel) (by decide +kernel)) (zin 59 (by decide +kernel) (by decide +kernel)) kz_M_count ⟨rfl, by decide, by decide, by decide +kernel⟩
theorem kg_M_133 (c : Cond) : zCV (c :: zT) "TreeCountsModel" "TreeCountsModel" 133 ky_M_trees kb_M_trees 1 (some FieldType.long) (kh_M_trees :: zT) 0 := mk_cv c (zin 919 (by decide +kernel) (by decide +kernel)) (zin 864 (by decide +kernel) (by decide +kernel)) (zin 865 (by decide +kernel) (by decide +kernel)) (zin 59 (by decide +kernel) (by decide +kernel)) kz_M_trees ⟨rfl, by decide, by decide, by decide +kernel⟩
theorem kg_M_136 (c : Cond) : zCV (c :: zT) "TreeCountsModel" "TreeCountsModel" 136 ky_M_apart kb_M_apart 4 (some FieldType.long) (kh_M_apart :: zT) 2 := mk_cv c (zin 936 (by decide +kernel) (by decide +kernel)) (zin 929 (by decide +kernel) (by decide +kernel)) (zin 930 (by decide +kernel) (by decide +kernel)) (zin 59 (by decide +kernel) (by decide +kernel)) kz_M_apart ⟨rfl, by decide, by decide, by decide +kernel⟩
theorem kg_M_140 (c : Cond) : zCS (c :: zT) "TreeCountsModel" 140 ky_M_gcd kb_M_gcd 10 (some FieldType.long) (kh_M_gcd :: zT) 2 := mk_cs c (zin 937 (by decide +kernel) (by decide +kernel)) (zin 938 (by decide +kernel) (by decide +kernel)) (zin 59 (by decide +kernel) (by decide +kernel)) kz_M_gcd ⟨rfl, by decide, by decide, by decide +kernel⟩
theorem kg_M_144 (c : Cond) : zCV (c :: zT) "TreeCountsModel" "TreeCountsModel" 144 ky_M_join kb_M_join 6 (some FieldType.boolean) (kh_M_join :: zT) 2 := mk_cv c (zin 944 (by decide +kernel) (by decide +kernel)) (zin 946 (by decide +kernel) (by decide +kernel)) (zin 32 (by decide +kernel) (by decide +kernel)) (zin 59 (by decide +kernel) (by decide +kernel)) kz_M_join ⟨rfl, by decide, by decide, by decide +kernel⟩
theorem kg_M_152 (c : Cond) : zCV (c :: zT) "TreeCountsModel" "TreeCountsModel" 152 ky_M_with kb_M_with 6 (some FieldType.long) (kh_M_with :: zT) 1 := mk_cv c (zin 952 (by decide +kernel) (by decide +kernel)) (zin 954 (by decide +kernel) (by decide +kernel)) (zin 33 (by decide +kernel) (by decide +kernel)) (zin 59 (by decide +kernel) (by decide +kernel)) kz_M_with ⟨rfl, by decide, by decide, by decide +kernel⟩
theorem kg_M_158 (c : Cond) : zCV (c :: zT) "TreeCountsModel" "TreeCountsModel" 158 ky_M_takeTrees kb_M_takeTrees 3 (some FieldType.int) (kh_M_takeTrees :: zT) 0 := mk_cv c (zin 964 (by decide +kernel) (by decide +kernel)) (zin 966 (by decide +kernel) (by decide +kernel)) (zin 34 (by decide +kernel) (by decide +kernel)) (zin 59 (by decide +kernel) (by decide +kernel)) kz_M_takeTrees ⟨rfl, by decide, by decide, by decide +kernel⟩
theorem kg_M_162 (c : Cond) : zCV (c :: zT) "TreeCountsModel" "TreeCountsModel" 162 ky_M_ringOf kb_M_ringOf 8 none (kh_M_ringOf :: zT) 1 := mk_cv c (zin 968 (by decide +kernel) (by decide +kernel)) (zin 970 (by decide +kernel) (by decide +kernel)) (zin 35 (by decide +kernel) (by decide +kernel)) (zin 59 (by decide +kernel) (by decide +kernel)) kz_M_ringOf ⟨rfl, by decide, by decide, by decide +kernel⟩
theorem kg_M_166 (c : Cond) : zCS (c :: zT) "TreeCountsModel" 166 ky_M_times kb_M_times 12 (some FieldType.long) (kh_M_times :: zT) 3 := mk_cs c (zin 992 (by decide +kernel) (by decide +kernel)) (zin 993 (by decide +kernel) (by decide +kernel)) (zin 59 (by decide +kernel) (by decide +kernel)) kz_M_times ⟨rfl, by decide, by decide, by decide +kernel⟩
theorem kg_M_169 (c : Cond) : zCV (c :: zT) "TreeCountsModel" "TreeCountsModel" 169 ky_M_lessRow kb_M_lessRow 9 none (kh_M_lessRow :: zT) 5 := mk_cv c (zin 988 (by decide +kernel) (by decide +kernel)) (zin 990 (by decide +kernel) (by decide +kernel)) (zin 39 (by decide +kernel) (by decide +kernel)) (zin 59 (by decide +kernel) (by decide +kernel)) kz_M_lessRow ⟨rfl, by decide, by decide, by decide +kernel⟩
theorem kg_M_173 (c : Cond) : zCV (c :: zT) "TreeCountsModel" "TreeCountsModel" 173 ky_M_swapRows kb_M_swapRows 7 none (kh_M_swapRows :: zT) 3 := mk_cv c (zin 995 (by decide +kernel) (by decide +kernel)) (zin 997 (by decide +kernel) (by decide +kernel)) (zin 40 (by decide +kernel) (by decide +kernel)) (zin 59 (by decide +kernel) (by decide +kernel)) kz_M_swapRows ⟨rfl, by decide, by decide, by decide +kernel⟩
theorem kg_M_177 (c : Cond) : zCV (c :: zT) "TreeCountsModel" "TreeCountsModel" 177 ky_M_lessColumn kb_M_lessColumn 9 none (kh_M_lessColumn :: zT) 5 := mk_cv c (zin 999 (by decide +kernel) (by decide +kernel)) (zin 1001 (by decide +kernel) (by decide +kernel)) (zin 41 (by decide +kernel) (by decide +kernel)) (zin 59 (by decide +kernel) (by decide +kernel)) kz_M_lessColumn ⟨rfl, by decide, by decide, by decide +kernel⟩
theorem kg_M_180 (c : Cond) : zCV (c :: zT) "TreeCountsModel" "TreeCountsModel" 180 ky_M_swapColumns kb_M_swapColumns 7 none (kh_M_swapColumns :: zT) 3 := mk_cv c (zin 1003 (by decide +kernel) (by decide +kernel)) (zin 1005 (by decide +kernel) (by decide +kernel)) (zin 42 (by decide +kernel) (by decide +kernel)) (zin 59 (by decide +kernel) (by decide +kernel)) kz_M_swapColumns ⟨rfl, by decide, by decide, by decide +kernel⟩
theorem kg_M_186 (c : Cond) : zCV (c :: zT) "TreeCountsModel" "TreeCountsModel" 186 ky_M_commonFrom kb_M_commonFrom 9 (some FieldType.long) (kh_M_commonFrom :: zT) 3 := mk_cv c (zin 980 (by decide +kernel) (by decide +kernel)) (zin 982 (by decide +kernel) (by decide +kernel)) (zin 37 (by decide +kernel) (by decide +kernel)) (zin 59 (by decide +kernel) (by decide +kernel)) kz_M_commonFrom ⟨rfl, by decide, by decide, by decide +kernel⟩
theorem kg_M_190 (c : Cond) : zCV (c :: zT) "TreeCountsModel" "TreeCountsModel" 190 ky_M_clearCross kb_M_clearCross 7 none (kh_M_clearCross :: zT) 3 := mk_cv c (zin 984 (by decide +kernel) (by decide +kernel)) (zin 986 (by decide +kernel) (by decide +kernel)) (zin 38 (by decide +kernel) (by decide +kernel)) (zin 59 (by decide +kernel) (by decide +kernel)) kz_M_clearCross ⟨rfl, by decide, by decide, by decide +kernel⟩
theorem kg_M_193 (c : Cond) : zCV (c :: zT) "TreeCountsModel" "TreeCountsModel" 193 ky_M_isOther kb_M_isOther 10 (some FieldType.boolean) (kh_M_isOther :: zT) 4 := mk_cv c (zin 1007 (by decide +kernel) (by decide +kernel)) (zin 1009 (by decide +kernel) (by decide +kernel)) (zin 43 (by decide +kernel) (by decide +kernel)) (zin 59 (by decide +kernel) (by decide +kernel)) kz_M_isOther ⟨rfl, by decide, by decide, by decide +kernel⟩
theorem kg_M_197 (c : Cond) : zCV (c :: zT) "TreeCountsModel" "TreeCountsModel" 197 ky_M_findRounds kb_M_findRounds 10 (some FieldType.boolean) (kh_M_findRounds :: zT) 0 := mk_cv c (zin 976 (by decide +kernel) (by decide +kernel)) (zin 978 (by decide +kernel) (by decide +kernel)) (zin 36 (by decide +kernel) (by decide +kernel)) (zin 59 (by decide +kernel) (by decide +kernel)) kz_M_findRounds ⟨rfl, by decide, by decide, by decide +kernel⟩
theorem kg_M_201 (c : Cond) : zCV (c :: zT) "TreeCountsModel" "TreeCountsModel" 201 ky_M_degree kb_M_degree 5 (some FieldType.long) (kh_M_degree :: zT) 1 := mk_cv c (zin 1031 (by decide +kernel) (by decide +kernel)) (zin 1033 (by decide +kernel) (by decide +kernel)) (zin 46 (by decide +kernel) (by decide +kernel)) (zin 59 (by decide +kernel) (by decide +kernel)) kz_M_degree ⟨rfl, by decide, by decide, by decide +kernel⟩
theorem kg_M_204 (c : Cond) : zCV (c :: zT) "TreeCountsModel" "TreeCountsModel" 204 ky_M_fireNode kb_M_fireNode 6 none (kh_M_fireNode :: zT) 2 := mk_cv c (zin 1035 (by decide +kernel) (by decide +kernel)) (zin 1037 (by decide +kernel) (by decide +kernel)) (zin 47 (by decide +kernel) (by decide +kernel)) (zin 59 (by decide +kernel) (by decide +kernel)) kz_M_fireNode ⟨rfl, by decide, by decide, by decide +kernel⟩
theorem kg_M_208 (c : Cond) : zCV (c :: zT) "TreeCountsModel" "TreeCountsModel" 208 ky_M_beginPile kb_M_beginPile 2 none (kh_M_beginPile :: zT) 0 := mk_cv c (zin 1023 (by decide +kernel) (by decide +kernel)) (zin 1025 (by decide +kernel) (by decide +kernel)) (zin 44 (by decide +kernel) (by decide +kernel)) (zin 59 (by decide +kernel) (by decide +kernel)) kz_M_beginPile ⟨rfl, by decide, by decide, by decide +kernel⟩
theorem kg_M_211 (c : Cond) : zCV (c :: zT) "TreeCountsModel" "TreeCountsModel" 211 ky_M_settlePile kb_M_settlePile 8 (some FieldType.long) (kh_M_settlePile :: zT) 1 := mk_cv c (zin 1027 (by decide +kernel) (by decide +kernel)) (zin 1029 (by decide +kernel) (by decide +kernel)) (zin 45 (by decide +kernel) (by decide +kernel)) (zin 59 (by decide +kernel) (by decide +kernel)) kz_M_settlePile ⟨rfl, by decide, by decide, by decide +kernel⟩
theorem kg_M_214 (c : Cond) : zCV (c :: zT) "TreeCountsModel" "TreeCountsModel" 214 ky_M_rank kb_M_rank 4 (some FieldType.int) (kh_M_rank :: zT) 1 := mk_cv c (zin 1051 (by decide +kernel) (by decide +kernel)) (zin 1053 (by decide +kernel) (by decide +kernel)) (zin 48 (by decide +kernel) (by decide +kernel)) (zin 59 (by decide +kernel) (by decide +kernel)) kz_M_rank ⟨rfl, by decide, by decide, by decide +kernel⟩
theorem kg_M_218 (c : Cond) : zCS (c :: zT) "TreeCountsModel" 218 ky_M_powerOf kb_M_powerOf 6 (some FieldType.long) (kh_M_powerOf :: zT) 2 := mk_cs c (zin 1055 (by decide +kernel) (by decide +kernel)) (zin 1056 (by decide +kernel) (by decide +kernel)) (zin 59 (by decide +kernel) (by decide +kernel)) kz_M_powerOf ⟨rfl, by decide, by decide, by decide +kernel⟩
end
section
theorem kd_C_init_0 : decode kb_C_init 0 = .ok (.aload_n 0, 1) := by decide +kernel
theorem kd_C_init_1 : decode kb_C_init 1 = .ok (.invokespecial 1, 3) := by decide +kernel
theorem kd_C_init_4 : decode kb_C_init 4 = .ok (.aload_n 0, 1) := by decide +kernel
theorem kd_C_init_5 : decode kb_C_init 5 = .ok (.new 7, 3) := by decide +kernel
theorem kd_C_init_8 : decode kb_C_init 8 = .ok (.dup, 1) := by decide +kernel
theorem kd_C_init_9 : decode kb_C_init 9 = .ok (.invokespecial 9, 3) := by decide +kernel
theorem kd_C_init_12 : decode kb_C_init 12 = .ok (.putfield 10, 3) := by decide +kernel
theorem kd_C_init_15 : decode kb_C_init 15 = .ok (.new 16, 3) := by decide +kernel
theorem kd_C_init_18 : decode kb_C_init 18 = .ok (.dup, 1) := by decide +kernel
theorem kd_C_init_19 : decode kb_C_init 19 = .ok (.invokespecial 18, 3) := by decide +kernel
theorem kd_C_init_22 : decode kb_C_init 22 = .ok (.astore_n 1, 1) := by decide +kernel
theorem kd_C_init_23 : decode kb_C_init 23 = .ok (.new 19, 3) := by decide +kernel
theorem kd_C_init_26 : decode kb_C_init 26 = .ok (.dup, 1) := by decide +kernel
theorem kd_C_init_27 : decode kb_C_init 27 = .ok (.invokespecial 21, 3) := by decide +kernel
theorem kd_C_init_30 : decode kb_C_init 30 = .ok (.astore_n 2, 1) := by decide +kernel
theorem kd_C_init_31 : decode kb_C_init 31 = .ok (.aload_n 0, 1) := by decide +kernel
theorem kd_C_init_32 : decode kb_C_init 32 = .ok (.new 22, 3) := by decide +kernel
theorem kd_C_init_35 : decode kb_C_init 35 = .ok (.dup, 1) := by decide +kernel
theorem kd_C_init_36 : decode kb_C_init 36 = .ok (.aload_n 0, 1) := by decide +kernel
theorem kd_C_init_37 : decode kb_C_init 37 = .ok (.getfield 10, 3) := by decide +kernel
theorem kd_C_init_40 : decode kb_C_init 40 = .ok (.aload_n 1, 1) := by decide +kernel
theorem kd_C_init_41 : decode kb_C_init 41 = .ok (.aload_n 2, 1) := by decide +kernel
theorem kd_C_init_42 : decode kb_C_init 42 = .ok (.invokespecial 24, 3) := by decide +kernel
theorem kd_C_init_45 : decode kb_C_init 45 = .ok (.putfield 27, 3) := by decide +kernel
theorem kd_C_init_48 : decode kb_C_init 48 = .ok (.aload_n 0, 1) := by decide +kernel
theorem kd_C_init_49 : decode kb_C_init 49 = .ok (.new 31, 3) := by decide +kernel
theorem kd_C_init_52 : decode kb_C_init 52 = .ok (.dup, 1) := by decide +kernel
theorem kd_C_init_53 : decode kb_C_init 53 = .ok (.aload_n 0, 1) := by decide +kernel
theorem kd_C_init_54 : decode kb_C_init 54 = .ok (.getfield 10, 3) := by decide +kernel
theorem kd_C_init_57 : decode kb_C_init 57 = .ok (.aload_n 1, 1) := by decide +kernel
theorem kd_C_init_58 : decode kb_C_init 58 = .ok (.invokespecial 33, 3) := by decide +kernel
theorem kd_C_init_61 : decode kb_C_init 61 = .ok (.putfield 36, 3) := by decide +kernel
theorem kd_C_init_64 : decode kb_C_init 64 = .ok (.aload_n 0, 1) := by decide +kernel
theorem kd_C_init_65 : decode kb_C_init 65 = .ok (.new 40, 3) := by decide +kernel
theorem kd_C_init_68 : decode kb_C_init 68 = .ok (.dup, 1) := by decide +kernel
theorem kd_C_init_69 : decode kb_C_init 69 = .ok (.aload_n 0, 1) := by decide +kernel
theorem kd_C_init_70 : decode kb_C_init 70 = .ok (.getfield 10, 3) := by decide +kernel
theorem kd_C_init_73 : decode kb_C_init 73 = .ok (.aload_n 0, 1) := by decide +kernel
theorem kd_C_init_74 : decode kb_C_init 74 = .ok (.getfield 27, 3) := by decide +kernel
theorem kd_C_init_77 : decode kb_C_init 77 = .ok (.aload_n 2, 1) := by decide +kernel
theorem kd_C_init_78 : decode kb_C_init 78 = .ok (.invokespecial 42, 3) := by decide +kernel
theorem kd_C_init_81 : decode kb_C_init 81 = .ok (.putfield 45, 3) := by decide +kernel
theorem kd_C_init_84 : decode kb_C_init 84 = .ok (.aload_n 0, 1) := by decide +kernel
theorem kd_C_init_85 : decode kb_C_init 85 = .ok (.new 49, 3) := by decide +kernel
theorem kd_C_init_88 : decode kb_C_init 88 = .ok (.dup, 1) := by decide +kernel
theorem kd_C_init_89 : decode kb_C_init 89 = .ok (.aload_n 0, 1) := by decide +kernel
theorem kd_C_init_90 : decode kb_C_init 90 = .ok (.getfield 10, 3) := by decide +kernel
theorem kd_C_init_93 : decode kb_C_init 93 = .ok (.aload_n 2, 1) := by decide +kernel
theorem kd_C_init_94 : decode kb_C_init 94 = .ok (.invokespecial 51, 3) := by decide +kernel
theorem kd_C_init_97 : decode kb_C_init 97 = .ok (.putfield 54, 3) := by decide +kernel
theorem kd_C_init_100 : decode kb_C_init 100 = .ok (.aload_n 0, 1) := by decide +kernel
theorem kd_C_init_101 : decode kb_C_init 101 = .ok (.new 58, 3) := by decide +kernel
theorem kd_C_init_104 : decode kb_C_init 104 = .ok (.dup, 1) := by decide +kernel
theorem kd_C_init_105 : decode kb_C_init 105 = .ok (.aload_n 0, 1) := by decide +kernel
theorem kd_C_init_106 : decode kb_C_init 106 = .ok (.getfield 10, 3) := by decide +kernel
theorem kd_C_init_109 : decode kb_C_init 109 = .ok (.aload_n 1, 1) := by decide +kernel
theorem kd_C_init_110 : decode kb_C_init 110 = .ok (.invokespecial 60, 3) := by decide +kernel
theorem kd_C_init_113 : decode kb_C_init 113 = .ok (.putfield 61, 3) := by decide +kernel
theorem kd_C_init_116 : decode kb_C_init 116 = .ok (.return_, 1) := by decide +kernel
theorem kd_C_node_0 : decode kb_C_node 0 = .ok (.aload_n 0, 1) := by decide +kernel
theorem kd_C_node_1 : decode kb_C_node 1 = .ok (.getfield 10, 3) := by decide +kernel
theorem kd_C_node_4 : decode kb_C_node 4 = .ok (.getfield 65, 3) := by decide +kernel
theorem kd_C_node_7 : decode kb_C_node 7 = .ok (.bipush 10, 2) := by decide +kernel
theorem kd_C_node_9 : decode kb_C_node 9 = .ok (.if_icmp .lt 5, 3) := by decide +kernel
theorem kd_C_node_12 : decode kb_C_node 12 = .ok (.iconst (-1), 1) := by decide +kernel
theorem kd_C_node_13 : decode kb_C_node 13 = .ok (.ireturn, 1) := by decide +kernel
theorem kd_C_node_14 : decode kb_C_node 14 = .ok (.aload_n 0, 1) := by decide +kernel
theorem kd_C_node_15 : decode kb_C_node 15 = .ok (.getfield 10, 3) := by decide +kernel
theorem kd_C_node_18 : decode kb_C_node 18 = .ok (.dup, 1) := by decide +kernel
theorem kd_C_node_19 : decode kb_C_node 19 = .ok (.getfield 65, 3) := by decide +kernel
theorem kd_C_node_22 : decode kb_C_node 22 = .ok (.dup_x1, 1) := by decide +kernel
theorem kd_C_node_23 : decode kb_C_node 23 = .ok (.iconst 1, 1) := by decide +kernel
theorem kd_C_node_24 : decode kb_C_node 24 = .ok (.iadd, 1) := by decide +kernel
theorem kd_C_node_25 : decode kb_C_node 25 = .ok (.putfield 65, 3) := by decide +kernel
theorem kd_C_node_28 : decode kb_C_node 28 = .ok (.ireturn, 1) := by decide +kernel
theorem kd_C_arc_0 : decode kb_C_arc 0 = .ok (.aload_n 0, 1) := by decide +kernel
theorem kd_C_arc_1 : decode kb_C_arc 1 = .ok (.getfield 10, 3) := by decide +kernel
theorem kd_C_arc_4 : decode kb_C_arc 4 = .ok (.iload_n 1, 1) := by decide +kernel
theorem kd_C_arc_5 : decode kb_C_arc 5 = .ok (.invokevirtual 69, 3) := by decide +kernel
theorem kd_C_arc_8 : decode kb_C_arc 8 = .ok (.ifCond .eq 33, 3) := by decide +kernel
theorem kd_C_arc_11 : decode kb_C_arc 11 = .ok (.aload_n 0, 1) := by decide +kernel
theorem kd_C_arc_12 : decode kb_C_arc 12 = .ok (.getfield 10, 3) := by decide +kernel
theorem kd_C_arc_15 : decode kb_C_arc 15 = .ok (.iload_n 2, 1) := by decide +kernel
theorem kd_C_arc_16 : decode kb_C_arc 16 = .ok (.invokevirtual 69, 3) := by decide +kernel
theorem kd_C_arc_19 : decode kb_C_arc 19 = .ok (.ifCond .eq 22, 3) := by decide +kernel
theorem kd_C_arc_22 : decode kb_C_arc 22 = .ok (.iload_n 3, 1) := by decide +kernel
theorem kd_C_arc_23 : decode kb_C_arc 23 = .ok (.invokestatic 73, 3) := by decide +kernel
theorem kd_C_arc_26 : decode kb_C_arc 26 = .ok (.ifCond .eq 15, 3) := by decide +kernel
theorem kd_C_arc_29 : decode kb_C_arc 29 = .ok (.aload_n 0, 1) := by decide +kernel
theorem kd_C_arc_30 : decode kb_C_arc 30 = .ok (.getfield 10, 3) := by decide +kernel
theorem kd_C_arc_33 : decode kb_C_arc 33 = .ok (.getfield 76, 3) := by decide +kernel
theorem kd_C_arc_36 : decode kb_C_arc 36 = .ok (.bipush 30, 2) := by decide +kernel
theorem kd_C_arc_38 : decode kb_C_arc 38 = .ok (.if_icmp .lt 5, 3) := by decide +kernel
theorem kd_C_arc_41 : decode kb_C_arc 41 = .ok (.iconst (-1), 1) := by decide +kernel
theorem kd_C_arc_42 : decode kb_C_arc 42 = .ok (.ireturn, 1) := by decide +kernel
theorem kd_C_arc_43 : decode kb_C_arc 43 = .ok (.aload_n 0, 1) := by decide +kernel
theorem kd_C_arc_44 : decode kb_C_arc 44 = .ok (.getfield 10, 3) := by decide +kernel
theorem kd_C_arc_47 : decode kb_C_arc 47 = .ok (.getfield 79, 3) := by decide +kernel
theorem kd_C_arc_50 : decode kb_C_arc 50 = .ok (.aload_n 0, 1) := by decide +kernel
theorem kd_C_arc_51 : decode kb_C_arc 51 = .ok (.getfield 10, 3) := by decide +kernel
theorem kd_C_arc_54 : decode kb_C_arc 54 = .ok (.getfield 76, 3) := by decide +kernel
theorem kd_C_arc_57 : decode kb_C_arc 57 = .ok (.iload_n 1, 1) := by decide +kernel
theorem kd_C_arc_58 : decode kb_C_arc 58 = .ok (.iastore, 1) := by decide +kernel
theorem kd_C_arc_59 : decode kb_C_arc 59 = .ok (.aload_n 0, 1) := by decide +kernel
theorem kd_C_arc_60 : decode kb_C_arc 60 = .ok (.getfield 10, 3) := by decide +kernel
theorem kd_C_arc_63 : decode kb_C_arc 63 = .ok (.getfield 83, 3) := by decide +kernel
theorem kd_C_arc_66 : decode kb_C_arc 66 = .ok (.aload_n 0, 1) := by decide +kernel
theorem kd_C_arc_67 : decode kb_C_arc 67 = .ok (.getfield 10, 3) := by decide +kernel
theorem kd_C_arc_70 : decode kb_C_arc 70 = .ok (.getfield 76, 3) := by decide +kernel
theorem kd_C_arc_73 : decode kb_C_arc 73 = .ok (.iload_n 2, 1) := by decide +kernel
theorem kd_C_arc_74 : decode kb_C_arc 74 = .ok (.iastore, 1) := by decide +kernel
theorem kd_C_arc_75 : decode kb_C_arc 75 = .ok (.aload_n 0, 1) := by decide +kernel
theorem kd_C_arc_76 : decode kb_C_arc 76 = .ok (.getfield 10, 3) := by decide +kernel
theorem kd_C_arc_79 : decode kb_C_arc 79 = .ok (.getfield 86, 3) := by decide +kernel
theorem kd_C_arc_82 : decode kb_C_arc 82 = .ok (.aload_n 0, 1) := by decide +kernel
theorem kd_C_arc_83 : decode kb_C_arc 83 = .ok (.getfield 10, 3) := by decide +kernel
theorem kd_C_arc_86 : decode kb_C_arc 86 = .ok (.getfield 76, 3) := by decide +kernel
theorem kd_C_arc_89 : decode kb_C_arc 89 = .ok (.iload_n 3, 1) := by decide +kernel
theorem kd_C_arc_90 : decode kb_C_arc 90 = .ok (.iastore, 1) := by decide +kernel
theorem kd_C_arc_91 : decode kb_C_arc 91 = .ok (.aload_n 0, 1) := by decide +kernel
theorem kd_C_arc_92 : decode kb_C_arc 92 = .ok (.getfield 10, 3) := by decide +kernel
theorem kd_C_arc_95 : decode kb_C_arc 95 = .ok (.dup, 1) := by decide +kernel
theorem kd_C_arc_96 : decode kb_C_arc 96 = .ok (.getfield 76, 3) := by decide +kernel
theorem kd_C_arc_99 : decode kb_C_arc 99 = .ok (.dup_x1, 1) := by decide +kernel
theorem kd_C_arc_100 : decode kb_C_arc 100 = .ok (.iconst 1, 1) := by decide +kernel
theorem kd_C_arc_101 : decode kb_C_arc 101 = .ok (.iadd, 1) := by decide +kernel
theorem kd_C_arc_102 : decode kb_C_arc 102 = .ok (.putfield 76, 3) := by decide +kernel
theorem kd_C_arc_105 : decode kb_C_arc 105 = .ok (.ireturn, 1) := by decide +kernel
theorem kd_C_weigh_0 : decode kb_C_weigh 0 = .ok (.aload_n 0, 1) := by decide +kernel
theorem kd_C_weigh_1 : decode kb_C_weigh 1 = .ok (.getfield 10, 3) := by decide +kernel
theorem kd_C_weigh_4 : decode kb_C_weigh 4 = .ok (.iload_n 1, 1) := by decide +kernel
theorem kd_C_weigh_5 : decode kb_C_weigh 5 = .ok (.invokevirtual 89, 3) := by decide +kernel
theorem kd_C_weigh_8 : decode kb_C_weigh 8 = .ok (.ifCond .eq 10, 3) := by decide +kernel
theorem kd_C_weigh_11 : decode kb_C_weigh 11 = .ok (.iload_n 2, 1) := by decide +kernel
theorem kd_C_weigh_12 : decode kb_C_weigh 12 = .ok (.invokestatic 73, 3) := by decide +kernel
theorem kd_C_weigh_15 : decode kb_C_weigh 15 = .ok (.ifCond .ne 5, 3) := by decide +kernel
theorem kd_C_weigh_18 : decode kb_C_weigh 18 = .ok (.iconst (-1), 1) := by decide +kernel
theorem kd_C_weigh_19 : decode kb_C_weigh 19 = .ok (.ireturn, 1) := by decide +kernel
theorem kd_C_weigh_20 : decode kb_C_weigh 20 = .ok (.aload_n 0, 1) := by decide +kernel
theorem kd_C_weigh_21 : decode kb_C_weigh 21 = .ok (.getfield 10, 3) := by decide +kernel
theorem kd_C_weigh_24 : decode kb_C_weigh 24 = .ok (.getfield 86, 3) := by decide +kernel
theorem kd_C_weigh_27 : decode kb_C_weigh 27 = .ok (.iload_n 1, 1) := by decide +kernel
theorem kd_C_weigh_28 : decode kb_C_weigh 28 = .ok (.iaload, 1) := by decide +kernel
theorem kd_C_weigh_29 : decode kb_C_weigh 29 = .ok (.istore_n 3, 1) := by decide +kernel
theorem kd_C_weigh_30 : decode kb_C_weigh 30 = .ok (.aload_n 0, 1) := by decide +kernel
theorem kd_C_weigh_31 : decode kb_C_weigh 31 = .ok (.getfield 10, 3) := by decide +kernel
theorem kd_C_weigh_34 : decode kb_C_weigh 34 = .ok (.getfield 86, 3) := by decide +kernel
theorem kd_C_weigh_37 : decode kb_C_weigh 37 = .ok (.iload_n 1, 1) := by decide +kernel
theorem kd_C_weigh_38 : decode kb_C_weigh 38 = .ok (.iload_n 2, 1) := by decide +kernel
theorem kd_C_weigh_39 : decode kb_C_weigh 39 = .ok (.iastore, 1) := by decide +kernel
theorem kd_C_weigh_40 : decode kb_C_weigh 40 = .ok (.iload_n 3, 1) := by decide +kernel
theorem kd_C_weigh_41 : decode kb_C_weigh 41 = .ok (.ireturn, 1) := by decide +kernel
theorem kd_C_drop_0 : decode kb_C_drop 0 = .ok (.aload_n 0, 1) := by decide +kernel
theorem kd_C_drop_1 : decode kb_C_drop 1 = .ok (.getfield 10, 3) := by decide +kernel
theorem kd_C_drop_4 : decode kb_C_drop 4 = .ok (.getfield 76, 3) := by decide +kernel
theorem kd_C_drop_7 : decode kb_C_drop 7 = .ok (.ifCond .ne 5, 3) := by decide +kernel
theorem kd_C_drop_10 : decode kb_C_drop 10 = .ok (.iconst 0, 1) := by decide +kernel
theorem kd_C_drop_11 : decode kb_C_drop 11 = .ok (.ireturn, 1) := by decide +kernel
theorem kd_C_drop_12 : decode kb_C_drop 12 = .ok (.aload_n 0, 1) := by decide +kernel
theorem kd_C_drop_13 : decode kb_C_drop 13 = .ok (.getfield 10, 3) := by decide +kernel
theorem kd_C_drop_16 : decode kb_C_drop 16 = .ok (.dup, 1) := by decide +kernel
theorem kd_C_drop_17 : decode kb_C_drop 17 = .ok (.getfield 76, 3) := by decide +kernel
theorem kd_C_drop_20 : decode kb_C_drop 20 = .ok (.iconst 1, 1) := by decide +kernel
theorem kd_C_drop_21 : decode kb_C_drop 21 = .ok (.isub, 1) := by decide +kernel
theorem kd_C_drop_22 : decode kb_C_drop 22 = .ok (.putfield 76, 3) := by decide +kernel
theorem kd_C_drop_25 : decode kb_C_drop 25 = .ok (.iconst 1, 1) := by decide +kernel
theorem kd_C_drop_26 : decode kb_C_drop 26 = .ok (.ireturn, 1) := by decide +kernel
theorem kd_C_trees_0 : decode kb_C_trees 0 = .ok (.aload_n 0, 1) := by decide +kernel
theorem kd_C_trees_1 : decode kb_C_trees 1 = .ok (.getfield 27, 3) := by decide +kernel
theorem kd_C_trees_4 : decode kb_C_trees 4 = .ok (.invokevirtual 92, 3) := by decide +kernel
theorem kd_C_trees_7 : decode kb_C_trees 7 = .ok (.lreturn, 1) := by decide +kernel
theorem kd_C_through_0 : decode kb_C_through 0 = .ok (.aload_n 0, 1) := by decide +kernel
theorem kd_C_through_1 : decode kb_C_through 1 = .ok (.getfield 10, 3) := by decide +kernel
theorem kd_C_through_4 : decode kb_C_through 4 = .ok (.iload_n 1, 1) := by decide +kernel
theorem kd_C_through_5 : decode kb_C_through 5 = .ok (.invokevirtual 89, 3) := by decide +kernel
theorem kd_C_through_8 : decode kb_C_through 8 = .ok (.ifCond .eq 14, 3) := by decide +kernel
theorem kd_C_through_11 : decode kb_C_through 11 = .ok (.aload_n 0, 1) := by decide +kernel
theorem kd_C_through_12 : decode kb_C_through 12 = .ok (.getfield 27, 3) := by decide +kernel
theorem kd_C_through_15 : decode kb_C_through 15 = .ok (.iload_n 1, 1) := by decide +kernel
theorem kd_C_through_16 : decode kb_C_through 16 = .ok (.invokevirtual 96, 3) := by decide +kernel
theorem kd_C_through_19 : decode kb_C_through 19 = .ok (.goto 6, 3) := by decide +kernel
theorem kd_C_through_22 : decode kb_C_through 22 = .ok (.ldc2_w 100, 3) := by decide +kernel
theorem kd_C_through_25 : decode kb_C_through 25 = .ok (.lreturn, 1) := by decide +kernel
theorem kd_C_rooted_0 : decode kb_C_rooted 0 = .ok (.aload_n 0, 1) := by decide +kernel
theorem kd_C_rooted_1 : decode kb_C_rooted 1 = .ok (.getfield 10, 3) := by decide +kernel
theorem kd_C_rooted_4 : decode kb_C_rooted 4 = .ok (.iload_n 1, 1) := by decide +kernel
theorem kd_C_rooted_5 : decode kb_C_rooted 5 = .ok (.invokevirtual 69, 3) := by decide +kernel
theorem kd_C_rooted_8 : decode kb_C_rooted 8 = .ok (.ifCond .eq 14, 3) := by decide +kernel
theorem kd_C_rooted_11 : decode kb_C_rooted 11 = .ok (.aload_n 0, 1) := by decide +kernel
theorem kd_C_rooted_12 : decode kb_C_rooted 12 = .ok (.getfield 27, 3) := by decide +kernel
theorem kd_C_rooted_15 : decode kb_C_rooted 15 = .ok (.iload_n 1, 1) := by decide +kernel
theorem kd_C_rooted_16 : decode kb_C_rooted 16 = .ok (.invokevirtual 102, 3) := by decide +kernel
theorem kd_C_rooted_19 : decode kb_C_rooted 19 = .ok (.goto 6, 3) := by decide +kernel
theorem kd_C_rooted_22 : decode kb_C_rooted 22 = .ok (.ldc2_w 100, 3) := by decide +kernel
theorem kd_C_rooted_25 : decode kb_C_rooted 25 = .ok (.lreturn, 1) := by decide +kernel
theorem kd_C_forests_0 : decode kb_C_forests 0 = .ok (.aload_n 0, 1) := by decide +kernel
theorem kd_C_forests_1 : decode kb_C_forests 1 = .ok (.getfield 27, 3) := by decide +kernel
theorem kd_C_forests_4 : decode kb_C_forests 4 = .ok (.invokevirtual 105, 3) := by decide +kernel
theorem kd_C_forests_7 : decode kb_C_forests 7 = .ok (.lreturn, 1) := by decide +kernel
theorem kd_C_apart_0 : decode kb_C_apart 0 = .ok (.aload_n 0, 1) := by decide +kernel
theorem kd_C_apart_1 : decode kb_C_apart 1 = .ok (.getfield 10, 3) := by decide +kernel
theorem kd_C_apart_4 : decode kb_C_apart 4 = .ok (.iload_n 1, 1) := by decide +kernel
theorem kd_C_apart_5 : decode kb_C_apart 5 = .ok (.invokevirtual 69, 3) := by decide +kernel
theorem kd_C_apart_8 : decode kb_C_apart 8 = .ok (.ifCond .eq 19, 3) := by decide +kernel
theorem kd_C_apart_11 : decode kb_C_apart 11 = .ok (.aload_n 0, 1) := by decide +kernel
theorem kd_C_apart_12 : decode kb_C_apart 12 = .ok (.getfield 10, 3) := by decide +kernel
theorem kd_C_apart_15 : decode kb_C_apart 15 = .ok (.iload_n 2, 1) := by decide +kernel
theorem kd_C_apart_16 : decode kb_C_apart 16 = .ok (.invokevirtual 69, 3) := by decide +kernel
theorem kd_C_apart_19 : decode kb_C_apart 19 = .ok (.ifCond .eq 8, 3) := by decide +kernel
theorem kd_C_apart_22 : decode kb_C_apart 22 = .ok (.iload_n 1, 1) := by decide +kernel
theorem kd_C_apart_23 : decode kb_C_apart 23 = .ok (.iload_n 2, 1) := by decide +kernel
theorem kd_C_apart_24 : decode kb_C_apart 24 = .ok (.if_icmp .ne 5, 3) := by decide +kernel
theorem kd_C_apart_27 : decode kb_C_apart 27 = .ok (.lconst 0, 1) := by decide +kernel
theorem kd_C_apart_28 : decode kb_C_apart 28 = .ok (.lreturn, 1) := by decide +kernel
theorem kd_C_apart_29 : decode kb_C_apart 29 = .ok (.aload_n 0, 1) := by decide +kernel
theorem kd_C_apart_30 : decode kb_C_apart 30 = .ok (.getfield 27, 3) := by decide +kernel
theorem kd_C_apart_33 : decode kb_C_apart 33 = .ok (.iload_n 1, 1) := by decide +kernel
theorem kd_C_apart_34 : decode kb_C_apart 34 = .ok (.iload_n 2, 1) := by decide +kernel
theorem kd_C_apart_35 : decode kb_C_apart 35 = .ok (.invokevirtual 108, 3) := by decide +kernel
theorem kd_C_apart_38 : decode kb_C_apart 38 = .ok (.lreturn, 1) := by decide +kernel
theorem kd_C_resistance_0 : decode kb_C_resistance 0 = .ok (.aload_n 0, 1) := by decide +kernel
theorem kd_C_resistance_1 : decode kb_C_resistance 1 = .ok (.getfield 10, 3) := by decide +kernel
theorem kd_C_resistance_4 : decode kb_C_resistance 4 = .ok (.iload_n 1, 1) := by decide +kernel
theorem kd_C_resistance_5 : decode kb_C_resistance 5 = .ok (.invokevirtual 69, 3) := by decide +kernel
theorem kd_C_resistance_8 : decode kb_C_resistance 8 = .ok (.ifCond .eq 23, 3) := by decide +kernel
theorem kd_C_resistance_11 : decode kb_C_resistance 11 = .ok (.aload_n 0, 1) := by decide +kernel
theorem kd_C_resistance_12 : decode kb_C_resistance 12 = .ok (.getfield 10, 3) := by decide +kernel
theorem kd_C_resistance_15 : decode kb_C_resistance 15 = .ok (.iload_n 2, 1) := by decide +kernel
theorem kd_C_resistance_16 : decode kb_C_resistance 16 = .ok (.invokevirtual 69, 3) := by decide +kernel
theorem kd_C_resistance_19 : decode kb_C_resistance 19 = .ok (.ifCond .eq 12, 3) := by decide +kernel
theorem kd_C_resistance_22 : decode kb_C_resistance 22 = .ok (.iload_n 3, 1) := by decide +kernel
theorem kd_C_resistance_23 : decode kb_C_resistance 23 = .ok (.ifCond .lt 8, 3) := by decide +kernel
theorem kd_C_resistance_26 : decode kb_C_resistance 26 = .ok (.iload_n 3, 1) := by decide +kernel
theorem kd_C_resistance_27 : decode kb_C_resistance 27 = .ok (.iconst 1, 1) := by decide +kernel
theorem kd_C_resistance_28 : decode kb_C_resistance 28 = .ok (.if_icmp .le 7, 3) := by decide +kernel
theorem kd_C_resistance_31 : decode kb_C_resistance 31 = .ok (.ldc2_w 100, 3) := by decide +kernel
theorem kd_C_resistance_34 : decode kb_C_resistance 34 = .ok (.lreturn, 1) := by decide +kernel
theorem kd_C_resistance_35 : decode kb_C_resistance 35 = .ok (.aload_n 0, 1) := by decide +kernel
theorem kd_C_resistance_36 : decode kb_C_resistance 36 = .ok (.getfield 27, 3) := by decide +kernel
theorem kd_C_resistance_39 : decode kb_C_resistance 39 = .ok (.invokevirtual 92, 3) := by decide +kernel
theorem kd_C_resistance_42 : decode kb_C_resistance 42 = .ok (.lstore 4, 2) := by decide +kernel
theorem kd_C_resistance_44 : decode kb_C_resistance 44 = .ok (.lload 4, 2) := by decide +kernel
theorem kd_C_resistance_46 : decode kb_C_resistance 46 = .ok (.lconst 0, 1) := by decide +kernel
theorem kd_C_resistance_47 : decode kb_C_resistance 47 = .ok (.lcmp, 1) := by decide +kernel
theorem kd_C_resistance_48 : decode kb_C_resistance 48 = .ok (.ifCond .ne 7, 3) := by decide +kernel
theorem kd_C_resistance_51 : decode kb_C_resistance 51 = .ok (.ldc2_w 100, 3) := by decide +kernel
theorem kd_C_resistance_54 : decode kb_C_resistance 54 = .ok (.lreturn, 1) := by decide +kernel
theorem kd_C_resistance_55 : decode kb_C_resistance 55 = .ok (.aload_n 0, 1) := by decide +kernel
theorem kd_C_resistance_56 : decode kb_C_resistance 56 = .ok (.iload_n 1, 1) := by decide +kernel
theorem kd_C_resistance_57 : decode kb_C_resistance 57 = .ok (.iload_n 2, 1) := by decide +kernel
theorem kd_C_resistance_58 : decode kb_C_resistance 58 = .ok (.invokevirtual 112, 3) := by decide +kernel
theorem kd_C_resistance_61 : decode kb_C_resistance 61 = .ok (.lstore 6, 2) := by decide +kernel
theorem kd_C_resistance_63 : decode kb_C_resistance 63 = .ok (.lload 6, 2) := by decide +kernel
theorem kd_C_resistance_65 : decode kb_C_resistance 65 = .ok (.lload 4, 2) := by decide +kernel
theorem kd_C_resistance_67 : decode kb_C_resistance 67 = .ok (.invokestatic 115, 3) := by decide +kernel
theorem kd_C_resistance_70 : decode kb_C_resistance 70 = .ok (.lstore 8, 2) := by decide +kernel
theorem kd_C_resistance_72 : decode kb_C_resistance 72 = .ok (.lload 8, 2) := by decide +kernel
theorem kd_C_resistance_74 : decode kb_C_resistance 74 = .ok (.lconst 0, 1) := by decide +kernel
theorem kd_C_resistance_75 : decode kb_C_resistance 75 = .ok (.lcmp, 1) := by decide +kernel
theorem kd_C_resistance_76 : decode kb_C_resistance 76 = .ok (.ifCond .ne 7, 3) := by decide +kernel
theorem kd_C_resistance_79 : decode kb_C_resistance 79 = .ok (.ldc2_w 100, 3) := by decide +kernel
theorem kd_C_resistance_82 : decode kb_C_resistance 82 = .ok (.lreturn, 1) := by decide +kernel
theorem kd_C_resistance_83 : decode kb_C_resistance 83 = .ok (.iload_n 3, 1) := by decide +kernel
theorem kd_C_resistance_84 : decode kb_C_resistance 84 = .ok (.ifCond .ne 8, 3) := by decide +kernel
theorem kd_C_resistance_87 : decode kb_C_resistance 87 = .ok (.lload 6, 2) := by decide +kernel
theorem kd_C_resistance_89 : decode kb_C_resistance 89 = .ok (.goto 5, 3) := by decide +kernel
theorem kd_C_resistance_92 : decode kb_C_resistance 92 = .ok (.lload 4, 2) := by decide +kernel
theorem kd_C_resistance_94 : decode kb_C_resistance 94 = .ok (.lload 8, 2) := by decide +kernel
theorem kd_C_resistance_96 : decode kb_C_resistance 96 = .ok (.ldiv, 1) := by decide +kernel
theorem kd_C_resistance_97 : decode kb_C_resistance 97 = .ok (.lreturn, 1) := by decide +kernel
theorem kd_C_tours_0 : decode kb_C_tours 0 = .ok (.aload_n 0, 1) := by decide +kernel
theorem kd_C_tours_1 : decode kb_C_tours 1 = .ok (.getfield 27, 3) := by decide +kernel
theorem kd_C_tours_4 : decode kb_C_tours 4 = .ok (.invokevirtual 119, 3) := by decide +kernel
theorem kd_C_tours_7 : decode kb_C_tours 7 = .ok (.lreturn, 1) := by decide +kernel
theorem kd_C_drawn_0 : decode kb_C_drawn 0 = .ok (.aload_n 0, 1) := by decide +kernel
theorem kd_C_drawn_1 : decode kb_C_drawn 1 = .ok (.getfield 27, 3) := by decide +kernel
theorem kd_C_drawn_4 : decode kb_C_drawn 4 = .ok (.lload_n 1, 1) := by decide +kernel
theorem kd_C_drawn_5 : decode kb_C_drawn 5 = .ok (.invokevirtual 122, 3) := by decide +kernel
theorem kd_C_drawn_8 : decode kb_C_drawn 8 = .ok (.ireturn, 1) := by decide +kernel
theorem kd_C_place_0 : decode kb_C_place 0 = .ok (.aload_n 0, 1) := by decide +kernel
theorem kd_C_place_1 : decode kb_C_place 1 = .ok (.getfield 27, 3) := by decide +kernel
theorem kd_C_place_4 : decode kb_C_place 4 = .ok (.iload_n 1, 1) := by decide +kernel
theorem kd_C_place_5 : decode kb_C_place 5 = .ok (.invokevirtual 126, 3) := by decide +kernel
theorem kd_C_place_8 : decode kb_C_place 8 = .ok (.ifCond .eq 14, 3) := by decide +kernel
theorem kd_C_place_11 : decode kb_C_place 11 = .ok (.aload_n 0, 1) := by decide +kernel
theorem kd_C_place_12 : decode kb_C_place 12 = .ok (.getfield 27, 3) := by decide +kernel
theorem kd_C_place_15 : decode kb_C_place 15 = .ok (.iload_n 1, 1) := by decide +kernel
theorem kd_C_place_16 : decode kb_C_place 16 = .ok (.invokevirtual 129, 3) := by decide +kernel
theorem kd_C_place_19 : decode kb_C_place 19 = .ok (.goto 6, 3) := by decide +kernel
theorem kd_C_place_22 : decode kb_C_place 22 = .ok (.ldc2_w 100, 3) := by decide +kernel
theorem kd_C_place_25 : decode kb_C_place 25 = .ok (.lreturn, 1) := by decide +kernel
theorem kd_C_ring_0 : decode kb_C_ring 0 = .ok (.iload_n 1, 1) := by decide +kernel
theorem kd_C_ring_1 : decode kb_C_ring 1 = .ok (.ifCond .lt 7, 3) := by decide +kernel
theorem kd_C_ring_4 : decode kb_C_ring 4 = .ok (.iload_n 2, 1) := by decide +kernel
theorem kd_C_ring_5 : decode kb_C_ring 5 = .ok (.ifCond .ge 5, 3) := by decide +kernel
theorem kd_C_ring_8 : decode kb_C_ring 8 = .ok (.iconst (-1), 1) := by decide +kernel
theorem kd_C_ring_9 : decode kb_C_ring 9 = .ok (.ireturn, 1) := by decide +kernel
theorem kd_C_ring_10 : decode kb_C_ring 10 = .ok (.aload_n 0, 1) := by decide +kernel
theorem kd_C_ring_11 : decode kb_C_ring 11 = .ok (.getfield 36, 3) := by decide +kernel
theorem kd_C_ring_14 : decode kb_C_ring 14 = .ok (.iload_n 1, 1) := by decide +kernel
theorem kd_C_ring_15 : decode kb_C_ring 15 = .ok (.invokevirtual 132, 3) := by decide +kernel
theorem kd_C_ring_18 : decode kb_C_ring 18 = .ok (.iload_n 2, 1) := by decide +kernel
theorem kd_C_ring_19 : decode kb_C_ring 19 = .ok (.aload_n 0, 1) := by decide +kernel
theorem kd_C_ring_20 : decode kb_C_ring 20 = .ok (.getfield 36, 3) := by decide +kernel
theorem kd_C_ring_23 : decode kb_C_ring 23 = .ok (.getfield 136, 3) := by decide +kernel
theorem kd_C_ring_26 : decode kb_C_ring 26 = .ok (.if_icmp .ge 15, 3) := by decide +kernel
theorem kd_C_ring_29 : decode kb_C_ring 29 = .ok (.aload_n 0, 1) := by decide +kernel
theorem kd_C_ring_30 : decode kb_C_ring 30 = .ok (.getfield 36, 3) := by decide +kernel
theorem kd_C_ring_33 : decode kb_C_ring 33 = .ok (.getfield 139, 3) := by decide +kernel
theorem kd_C_ring_36 : decode kb_C_ring 36 = .ok (.iload_n 2, 1) := by decide +kernel
theorem kd_C_ring_37 : decode kb_C_ring 37 = .ok (.iaload, 1) := by decide +kernel
theorem kd_C_ring_38 : decode kb_C_ring 38 = .ok (.goto 4, 3) := by decide +kernel
theorem kd_C_ring_41 : decode kb_C_ring 41 = .ok (.iconst (-1), 1) := by decide +kernel
theorem kd_C_ring_42 : decode kb_C_ring 42 = .ok (.ireturn, 1) := by decide +kernel
theorem kd_C_group_0 : decode kb_C_group 0 = .ok (.aload_n 0, 1) := by decide +kernel
theorem kd_C_group_1 : decode kb_C_group 1 = .ok (.getfield 45, 3) := by decide +kernel
theorem kd_C_group_4 : decode kb_C_group 4 = .ok (.invokevirtual 142, 3) := by decide +kernel
theorem kd_C_group_7 : decode kb_C_group 7 = .ok (.iload_n 1, 1) := by decide +kernel
theorem kd_C_group_8 : decode kb_C_group 8 = .ok (.ifCond .lt 25, 3) := by decide +kernel
theorem kd_C_group_11 : decode kb_C_group 11 = .ok (.iload_n 1, 1) := by decide +kernel
theorem kd_C_group_12 : decode kb_C_group 12 = .ok (.aload_n 0, 1) := by decide +kernel
theorem kd_C_group_13 : decode kb_C_group 13 = .ok (.getfield 45, 3) := by decide +kernel
theorem kd_C_group_16 : decode kb_C_group 16 = .ok (.getfield 145, 3) := by decide +kernel
theorem kd_C_group_19 : decode kb_C_group 19 = .ok (.if_icmp .ge 14, 3) := by decide +kernel
theorem kd_C_group_22 : decode kb_C_group 22 = .ok (.aload_n 0, 1) := by decide +kernel
theorem kd_C_group_23 : decode kb_C_group 23 = .ok (.getfield 45, 3) := by decide +kernel
theorem kd_C_group_26 : decode kb_C_group 26 = .ok (.iload_n 1, 1) := by decide +kernel
theorem kd_C_group_27 : decode kb_C_group 27 = .ok (.invokevirtual 148, 3) := by decide +kernel
theorem kd_C_group_30 : decode kb_C_group 30 = .ok (.goto 6, 3) := by decide +kernel
theorem kd_C_group_33 : decode kb_C_group 33 = .ok (.ldc2_w 100, 3) := by decide +kernel
theorem kd_C_group_36 : decode kb_C_group 36 = .ok (.lreturn, 1) := by decide +kernel
theorem kd_C_chips_0 : decode kb_C_chips 0 = .ok (.aload_n 0, 1) := by decide +kernel
theorem kd_C_chips_1 : decode kb_C_chips 1 = .ok (.getfield 10, 3) := by decide +kernel
theorem kd_C_chips_4 : decode kb_C_chips 4 = .ok (.iload_n 1, 1) := by decide +kernel
theorem kd_C_chips_5 : decode kb_C_chips 5 = .ok (.invokevirtual 69, 3) := by decide +kernel
theorem kd_C_chips_8 : decode kb_C_chips 8 = .ok (.ifCond .eq 14, 3) := by decide +kernel
theorem kd_C_chips_11 : decode kb_C_chips 11 = .ok (.iload_n 2, 1) := by decide +kernel
theorem kd_C_chips_12 : decode kb_C_chips 12 = .ok (.ifCond .lt 10, 3) := by decide +kernel
theorem kd_C_chips_15 : decode kb_C_chips 15 = .ok (.iload_n 2, 1) := by decide +kernel
theorem kd_C_chips_16 : decode kb_C_chips 16 = .ok (.sipush 200, 3) := by decide +kernel
theorem kd_C_chips_19 : decode kb_C_chips 19 = .ok (.if_icmp .le 7, 3) := by decide +kernel
theorem kd_C_chips_22 : decode kb_C_chips 22 = .ok (.ldc2_w 100, 3) := by decide +kernel
theorem kd_C_chips_25 : decode kb_C_chips 25 = .ok (.lreturn, 1) := by decide +kernel
theorem kd_C_chips_26 : decode kb_C_chips 26 = .ok (.aload_n 0, 1) := by decide +kernel
theorem kd_C_chips_27 : decode kb_C_chips 27 = .ok (.getfield 54, 3) := by decide +kernel
theorem kd_C_chips_30 : decode kb_C_chips 30 = .ok (.getfield 151, 3) := by decide +kernel
theorem kd_C_chips_33 : decode kb_C_chips 33 = .ok (.iload_n 1, 1) := by decide +kernel
theorem kd_C_chips_34 : decode kb_C_chips 34 = .ok (.laload, 1) := by decide +kernel
theorem kd_C_chips_35 : decode kb_C_chips 35 = .ok (.lstore_n 3, 1) := by decide +kernel
theorem kd_C_chips_36 : decode kb_C_chips 36 = .ok (.aload_n 0, 1) := by decide +kernel
theorem kd_C_chips_37 : decode kb_C_chips 37 = .ok (.getfield 54, 3) := by decide +kernel
theorem kd_C_chips_40 : decode kb_C_chips 40 = .ok (.getfield 151, 3) := by decide +kernel
theorem kd_C_chips_43 : decode kb_C_chips 43 = .ok (.iload_n 1, 1) := by decide +kernel
theorem kd_C_chips_44 : decode kb_C_chips 44 = .ok (.iload_n 2, 1) := by decide +kernel
theorem kd_C_chips_45 : decode kb_C_chips 45 = .ok (.i2l, 1) := by decide +kernel
theorem kd_C_chips_46 : decode kb_C_chips 46 = .ok (.lastore, 1) := by decide +kernel
theorem kd_C_chips_47 : decode kb_C_chips 47 = .ok (.lload_n 3, 1) := by decide +kernel
theorem kd_C_chips_48 : decode kb_C_chips 48 = .ok (.lreturn, 1) := by decide +kernel
theorem kd_C_level_0 : decode kb_C_level 0 = .ok (.aload_n 0, 1) := by decide +kernel
theorem kd_C_level_1 : decode kb_C_level 1 = .ok (.getfield 10, 3) := by decide +kernel
theorem kd_C_level_4 : decode kb_C_level 4 = .ok (.iload_n 1, 1) := by decide +kernel
theorem kd_C_level_5 : decode kb_C_level 5 = .ok (.invokevirtual 69, 3) := by decide +kernel
theorem kd_C_level_8 : decode kb_C_level 8 = .ok (.ifCond .eq 15, 3) := by decide +kernel
theorem kd_C_level_11 : decode kb_C_level 11 = .ok (.aload_n 0, 1) := by decide +kernel
theorem kd_C_level_12 : decode kb_C_level 12 = .ok (.getfield 54, 3) := by decide +kernel
theorem kd_C_level_15 : decode kb_C_level 15 = .ok (.getfield 151, 3) := by decide +kernel
theorem kd_C_level_18 : decode kb_C_level 18 = .ok (.iload_n 1, 1) := by decide +kernel
theorem kd_C_level_19 : decode kb_C_level 19 = .ok (.laload, 1) := by decide +kernel
theorem kd_C_level_20 : decode kb_C_level 20 = .ok (.goto 6, 3) := by decide +kernel
theorem kd_C_level_23 : decode kb_C_level 23 = .ok (.ldc2_w 100, 3) := by decide +kernel
theorem kd_C_level_26 : decode kb_C_level 26 = .ok (.lreturn, 1) := by decide +kernel
theorem kd_C_settle_0 : decode kb_C_settle 0 = .ok (.aload_n 0, 1) := by decide +kernel
theorem kd_C_settle_1 : decode kb_C_settle 1 = .ok (.getfield 10, 3) := by decide +kernel
theorem kd_C_settle_4 : decode kb_C_settle 4 = .ok (.iload_n 1, 1) := by decide +kernel
theorem kd_C_settle_5 : decode kb_C_settle 5 = .ok (.invokevirtual 69, 3) := by decide +kernel
theorem kd_C_settle_8 : decode kb_C_settle 8 = .ok (.ifCond .eq 25, 3) := by decide +kernel
theorem kd_C_settle_11 : decode kb_C_settle 11 = .ok (.aload_n 0, 1) := by decide +kernel
theorem kd_C_settle_12 : decode kb_C_settle 12 = .ok (.getfield 36, 3) := by decide +kernel
theorem kd_C_settle_15 : decode kb_C_settle 15 = .ok (.invokevirtual 155, 3) := by decide +kernel
theorem kd_C_settle_18 : decode kb_C_settle 18 = .ok (.iconst 1, 1) := by decide +kernel
theorem kd_C_settle_19 : decode kb_C_settle 19 = .ok (.if_icmp .ne 14, 3) := by decide +kernel
theorem kd_C_settle_22 : decode kb_C_settle 22 = .ok (.aload_n 0, 1) := by decide +kernel
theorem kd_C_settle_23 : decode kb_C_settle 23 = .ok (.getfield 54, 3) := by decide +kernel
theorem kd_C_settle_26 : decode kb_C_settle 26 = .ok (.iload_n 1, 1) := by decide +kernel
theorem kd_C_settle_27 : decode kb_C_settle 27 = .ok (.invokevirtual 159, 3) := by decide +kernel
theorem kd_C_settle_30 : decode kb_C_settle 30 = .ok (.goto 6, 3) := by decide +kernel
theorem kd_C_settle_33 : decode kb_C_settle 33 = .ok (.ldc2_w 100, 3) := by decide +kernel
theorem kd_C_settle_36 : decode kb_C_settle 36 = .ok (.lreturn, 1) := by decide +kernel
theorem kd_C_fired_0 : decode kb_C_fired 0 = .ok (.aload_n 0, 1) := by decide +kernel
theorem kd_C_fired_1 : decode kb_C_fired 1 = .ok (.getfield 10, 3) := by decide +kernel
theorem kd_C_fired_4 : decode kb_C_fired 4 = .ok (.iload_n 1, 1) := by decide +kernel
theorem kd_C_fired_5 : decode kb_C_fired 5 = .ok (.invokevirtual 69, 3) := by decide +kernel
theorem kd_C_fired_8 : decode kb_C_fired 8 = .ok (.ifCond .eq 15, 3) := by decide +kernel
theorem kd_C_fired_11 : decode kb_C_fired 11 = .ok (.aload_n 0, 1) := by decide +kernel
theorem kd_C_fired_12 : decode kb_C_fired 12 = .ok (.getfield 54, 3) := by decide +kernel
theorem kd_C_fired_15 : decode kb_C_fired 15 = .ok (.getfield 162, 3) := by decide +kernel
theorem kd_C_fired_18 : decode kb_C_fired 18 = .ok (.iload_n 1, 1) := by decide +kernel
theorem kd_C_fired_19 : decode kb_C_fired 19 = .ok (.laload, 1) := by decide +kernel
theorem kd_C_fired_20 : decode kb_C_fired 20 = .ok (.goto 4, 3) := by decide +kernel
theorem kd_C_fired_23 : decode kb_C_fired 23 = .ok (.lconst 0, 1) := by decide +kernel
theorem kd_C_fired_24 : decode kb_C_fired 24 = .ok (.lreturn, 1) := by decide +kernel
theorem kd_C_recurrent_0 : decode kb_C_recurrent 0 = .ok (.aload_n 0, 1) := by decide +kernel
theorem kd_C_recurrent_1 : decode kb_C_recurrent 1 = .ok (.getfield 10, 3) := by decide +kernel
theorem kd_C_recurrent_4 : decode kb_C_recurrent 4 = .ok (.iload_n 1, 1) := by decide +kernel
theorem kd_C_recurrent_5 : decode kb_C_recurrent 5 = .ok (.invokevirtual 69, 3) := by decide +kernel
theorem kd_C_recurrent_8 : decode kb_C_recurrent 8 = .ok (.ifCond .eq 14, 3) := by decide +kernel
theorem kd_C_recurrent_11 : decode kb_C_recurrent 11 = .ok (.aload_n 0, 1) := by decide +kernel
theorem kd_C_recurrent_12 : decode kb_C_recurrent 12 = .ok (.getfield 36, 3) := by decide +kernel
theorem kd_C_recurrent_15 : decode kb_C_recurrent 15 = .ok (.invokevirtual 155, 3) := by decide +kernel
theorem kd_C_recurrent_18 : decode kb_C_recurrent 18 = .ok (.iconst 1, 1) := by decide +kernel
theorem kd_C_recurrent_19 : decode kb_C_recurrent 19 = .ok (.if_icmp .eq 5, 3) := by decide +kernel
theorem kd_C_recurrent_22 : decode kb_C_recurrent 22 = .ok (.iconst (-1), 1) := by decide +kernel
theorem kd_C_recurrent_23 : decode kb_C_recurrent 23 = .ok (.ireturn, 1) := by decide +kernel
theorem kd_C_recurrent_24 : decode kb_C_recurrent 24 = .ok (.aload_n 0, 1) := by decide +kernel
theorem kd_C_recurrent_25 : decode kb_C_recurrent 25 = .ok (.getfield 54, 3) := by decide +kernel
theorem kd_C_recurrent_28 : decode kb_C_recurrent 28 = .ok (.iload_n 1, 1) := by decide +kernel
theorem kd_C_recurrent_29 : decode kb_C_recurrent 29 = .ok (.invokevirtual 165, 3) := by decide +kernel
theorem kd_C_recurrent_32 : decode kb_C_recurrent 32 = .ok (.ifCond .eq 7, 3) := by decide +kernel
theorem kd_C_recurrent_35 : decode kb_C_recurrent 35 = .ok (.iconst 1, 1) := by decide +kernel
theorem kd_C_recurrent_36 : decode kb_C_recurrent 36 = .ok (.goto 4, 3) := by decide +kernel
theorem kd_C_recurrent_39 : decode kb_C_recurrent 39 = .ok (.iconst 0, 1) := by decide +kernel
theorem kd_C_recurrent_40 : decode kb_C_recurrent 40 = .ok (.ireturn, 1) := by decide +kernel
theorem kd_C_point_0 : decode kb_C_point 0 = .ok (.aload_n 0, 1) := by decide +kernel
theorem kd_C_point_1 : decode kb_C_point 1 = .ok (.getfield 10, 3) := by decide +kernel
theorem kd_C_point_4 : decode kb_C_point 4 = .ok (.getfield 76, 3) := by decide +kernel
theorem kd_C_point_7 : decode kb_C_point 7 = .ok (.bipush 14, 2) := by decide +kernel
theorem kd_C_point_9 : decode kb_C_point 9 = .ok (.if_icmp .le 13, 3) := by decide +kernel
theorem kd_C_point_12 : decode kb_C_point 12 = .ok (.new 168, 3) := by decide +kernel
theorem kd_C_point_15 : decode kb_C_point 15 = .ok (.dup, 1) := by decide +kernel
theorem kd_C_point_16 : decode kb_C_point 16 = .ok (.ldc 170, 2) := by decide +kernel
theorem kd_C_point_18 : decode kb_C_point 18 = .ok (.invokespecial 172, 3) := by decide +kernel
theorem kd_C_point_21 : decode kb_C_point 21 = .ok (.athrow, 1) := by decide +kernel
theorem kd_C_point_22 : decode kb_C_point 22 = .ok (.aload_n 0, 1) := by decide +kernel
theorem kd_C_point_23 : decode kb_C_point 23 = .ok (.getfield 61, 3) := by decide +kernel
theorem kd_C_point_26 : decode kb_C_point 26 = .ok (.lload_n 1, 1) := by decide +kernel
theorem kd_C_point_27 : decode kb_C_point 27 = .ok (.lload_n 3, 1) := by decide +kernel
theorem kd_C_point_28 : decode kb_C_point 28 = .ok (.invokevirtual 175, 3) := by decide +kernel
theorem kd_C_point_31 : decode kb_C_point 31 = .ok (.lreturn, 1) := by decide +kernel
theorem kd_C_told_0 : decode kb_C_told 0 = .ok (.iload_n 1, 1) := by decide +kernel
theorem kd_C_told_1 : decode kb_C_told 1 = .ok (.tableswitch 102 0 5 #[39, 47, 55, 63, 71, 87], 39) := by decide +kernel
theorem kd_C_told_40 : decode kb_C_told 40 = .ok (.aload_n 0, 1) := by decide +kernel
theorem kd_C_told_41 : decode kb_C_told 41 = .ok (.getfield 10, 3) := by decide +kernel
theorem kd_C_told_44 : decode kb_C_told 44 = .ok (.getfield 65, 3) := by decide +kernel
theorem kd_C_told_47 : decode kb_C_told 47 = .ok (.ireturn, 1) := by decide +kernel
theorem kd_C_told_48 : decode kb_C_told 48 = .ok (.aload_n 0, 1) := by decide +kernel
theorem kd_C_told_49 : decode kb_C_told 49 = .ok (.getfield 10, 3) := by decide +kernel
theorem kd_C_told_52 : decode kb_C_told 52 = .ok (.getfield 76, 3) := by decide +kernel
theorem kd_C_told_55 : decode kb_C_told 55 = .ok (.ireturn, 1) := by decide +kernel
theorem kd_C_told_56 : decode kb_C_told 56 = .ok (.aload_n 0, 1) := by decide +kernel
theorem kd_C_told_57 : decode kb_C_told 57 = .ok (.getfield 36, 3) := by decide +kernel
theorem kd_C_told_60 : decode kb_C_told 60 = .ok (.invokevirtual 155, 3) := by decide +kernel
theorem kd_C_told_63 : decode kb_C_told 63 = .ok (.ireturn, 1) := by decide +kernel
theorem kd_C_told_64 : decode kb_C_told 64 = .ok (.aload_n 0, 1) := by decide +kernel
theorem kd_C_told_65 : decode kb_C_told 65 = .ok (.getfield 36, 3) := by decide +kernel
theorem kd_C_told_68 : decode kb_C_told 68 = .ok (.invokevirtual 178, 3) := by decide +kernel
theorem kd_C_told_71 : decode kb_C_told 71 = .ok (.ireturn, 1) := by decide +kernel
theorem kd_C_told_72 : decode kb_C_told 72 = .ok (.aload_n 0, 1) := by decide +kernel
theorem kd_C_told_73 : decode kb_C_told 73 = .ok (.getfield 36, 3) := by decide +kernel
theorem kd_C_told_76 : decode kb_C_told 76 = .ok (.iconst 0, 1) := by decide +kernel
theorem kd_C_told_77 : decode kb_C_told 77 = .ok (.invokevirtual 132, 3) := by decide +kernel
theorem kd_C_told_80 : decode kb_C_told 80 = .ok (.aload_n 0, 1) := by decide +kernel
theorem kd_C_told_81 : decode kb_C_told 81 = .ok (.getfield 36, 3) := by decide +kernel
theorem kd_C_told_84 : decode kb_C_told 84 = .ok (.getfield 136, 3) := by decide +kernel
theorem kd_C_told_87 : decode kb_C_told 87 = .ok (.ireturn, 1) := by decide +kernel
theorem kd_C_told_88 : decode kb_C_told 88 = .ok (.aload_n 0, 1) := by decide +kernel
theorem kd_C_told_89 : decode kb_C_told 89 = .ok (.getfield 45, 3) := by decide +kernel
theorem kd_C_told_92 : decode kb_C_told 92 = .ok (.invokevirtual 142, 3) := by decide +kernel
theorem kd_C_told_95 : decode kb_C_told 95 = .ok (.aload_n 0, 1) := by decide +kernel
theorem kd_C_told_96 : decode kb_C_told 96 = .ok (.getfield 45, 3) := by decide +kernel
theorem kd_C_told_99 : decode kb_C_told 99 = .ok (.getfield 145, 3) := by decide +kernel
theorem kd_C_told_102 : decode kb_C_told 102 = .ok (.ireturn, 1) := by decide +kernel
theorem kd_C_told_103 : decode kb_C_told 103 = .ok (.iconst (-1), 1) := by decide +kernel
theorem kd_C_told_104 : decode kb_C_told 104 = .ok (.ireturn, 1) := by decide +kernel
theorem kd_C_clear_0 : decode kb_C_clear 0 = .ok (.aload_n 0, 1) := by decide +kernel
theorem kd_C_clear_1 : decode kb_C_clear 1 = .ok (.getfield 10, 3) := by decide +kernel
theorem kd_C_clear_4 : decode kb_C_clear 4 = .ok (.iconst 0, 1) := by decide +kernel
theorem kd_C_clear_5 : decode kb_C_clear 5 = .ok (.putfield 65, 3) := by decide +kernel
theorem kd_C_clear_8 : decode kb_C_clear 8 = .ok (.aload_n 0, 1) := by decide +kernel
theorem kd_C_clear_9 : decode kb_C_clear 9 = .ok (.getfield 10, 3) := by decide +kernel
theorem kd_C_clear_12 : decode kb_C_clear 12 = .ok (.iconst 0, 1) := by decide +kernel
theorem kd_C_clear_13 : decode kb_C_clear 13 = .ok (.putfield 76, 3) := by decide +kernel
theorem kd_C_clear_16 : decode kb_C_clear 16 = .ok (.aload_n 0, 1) := by decide +kernel
theorem kd_C_clear_17 : decode kb_C_clear 17 = .ok (.getfield 54, 3) := by decide +kernel
theorem kd_C_clear_20 : decode kb_C_clear 20 = .ok (.invokevirtual 180, 3) := by decide +kernel
theorem kd_C_clear_23 : decode kb_C_clear 23 = .ok (.return_, 1) := by decide +kernel
theorem kd_C_isWeight_0 : decode kb_C_isWeight 0 = .ok (.iload_n 0, 1) := by decide +kernel
theorem kd_C_isWeight_1 : decode kb_C_isWeight 1 = .ok (.iconst 1, 1) := by decide +kernel
theorem kd_C_isWeight_2 : decode kb_C_isWeight 2 = .ok (.if_icmp .lt 13, 3) := by decide +kernel
theorem kd_C_isWeight_5 : decode kb_C_isWeight 5 = .ok (.iload_n 0, 1) := by decide +kernel
theorem kd_C_isWeight_6 : decode kb_C_isWeight 6 = .ok (.bipush 9, 2) := by decide +kernel
theorem kd_C_isWeight_8 : decode kb_C_isWeight 8 = .ok (.if_icmp .gt 7, 3) := by decide +kernel
theorem kd_C_isWeight_11 : decode kb_C_isWeight 11 = .ok (.iconst 1, 1) := by decide +kernel
theorem kd_C_isWeight_12 : decode kb_C_isWeight 12 = .ok (.goto 4, 3) := by decide +kernel
theorem kd_C_isWeight_15 : decode kb_C_isWeight 15 = .ok (.iconst 0, 1) := by decide +kernel
theorem kd_C_isWeight_16 : decode kb_C_isWeight 16 = .ok (.ireturn, 1) := by decide +kernel
theorem kd_C_commonDivisor_0 : decode kb_C_commonDivisor 0 = .ok (.lload_n 0, 1) := by decide +kernel
theorem kd_C_commonDivisor_1 : decode kb_C_commonDivisor 1 = .ok (.lstore 4, 2) := by decide +kernel
theorem kd_C_commonDivisor_3 : decode kb_C_commonDivisor 3 = .ok (.lload_n 2, 1) := by decide +kernel
theorem kd_C_commonDivisor_4 : decode kb_C_commonDivisor 4 = .ok (.lstore 6, 2) := by decide +kernel
theorem kd_C_commonDivisor_6 : decode kb_C_commonDivisor 6 = .ok (.iconst 0, 1) := by decide +kernel
theorem kd_C_commonDivisor_7 : decode kb_C_commonDivisor 7 = .ok (.istore 8, 2) := by decide +kernel
theorem kd_C_commonDivisor_9 : decode kb_C_commonDivisor 9 = .ok (.iload 8, 2) := by decide +kernel
theorem kd_C_commonDivisor_11 : decode kb_C_commonDivisor 11 = .ok (.sipush 128, 3) := by decide +kernel
theorem kd_C_commonDivisor_14 : decode kb_C_commonDivisor 14 = .ok (.if_icmp .ge 31, 3) := by decide +kernel
theorem kd_C_commonDivisor_17 : decode kb_C_commonDivisor 17 = .ok (.lload 6, 2) := by decide +kernel
theorem kd_C_commonDivisor_19 : decode kb_C_commonDivisor 19 = .ok (.lconst 0, 1) := by decide +kernel
theorem kd_C_commonDivisor_20 : decode kb_C_commonDivisor 20 = .ok (.lcmp, 1) := by decide +kernel
theorem kd_C_commonDivisor_21 : decode kb_C_commonDivisor 21 = .ok (.ifCond .eq 24, 3) := by decide +kernel
theorem kd_C_commonDivisor_24 : decode kb_C_commonDivisor 24 = .ok (.lload 4, 2) := by decide +kernel
theorem kd_C_commonDivisor_26 : decode kb_C_commonDivisor 26 = .ok (.lload 6, 2) := by decide +kernel
theorem kd_C_commonDivisor_28 : decode kb_C_commonDivisor 28 = .ok (.lrem, 1) := by decide +kernel
theorem kd_C_commonDivisor_29 : decode kb_C_commonDivisor 29 = .ok (.lstore 9, 2) := by decide +kernel
theorem kd_C_commonDivisor_31 : decode kb_C_commonDivisor 31 = .ok (.lload 6, 2) := by decide +kernel
theorem kd_C_commonDivisor_33 : decode kb_C_commonDivisor 33 = .ok (.lstore 4, 2) := by decide +kernel
theorem kd_C_commonDivisor_35 : decode kb_C_commonDivisor 35 = .ok (.lload 9, 2) := by decide +kernel
theorem kd_C_commonDivisor_37 : decode kb_C_commonDivisor 37 = .ok (.lstore 6, 2) := by decide +kernel
theorem kd_C_commonDivisor_39 : decode kb_C_commonDivisor 39 = .ok (.iinc 8 1, 3) := by decide +kernel
theorem kd_C_commonDivisor_42 : decode kb_C_commonDivisor 42 = .ok (.goto (-33), 3) := by decide +kernel
theorem kd_C_commonDivisor_45 : decode kb_C_commonDivisor 45 = .ok (.lload 4, 2) := by decide +kernel
theorem kd_C_commonDivisor_47 : decode kb_C_commonDivisor 47 = .ok (.lreturn, 1) := by decide +kernel
theorem kd_N_init_0 : decode kb_N_init 0 = .ok (.aload_n 0, 1) := by decide +kernel
theorem kd_N_init_1 : decode kb_N_init 1 = .ok (.invokespecial 3, 3) := by decide +kernel
theorem kd_N_init_4 : decode kb_N_init 4 = .ok (.aload_n 0, 1) := by decide +kernel
theorem kd_N_init_5 : decode kb_N_init 5 = .ok (.bipush 30, 2) := by decide +kernel
theorem kd_N_init_7 : decode kb_N_init 7 = .ok (.newarray .int, 2) := by decide +kernel
theorem kd_N_init_9 : decode kb_N_init 9 = .ok (.putfield 9, 3) := by decide +kernel
theorem kd_N_init_12 : decode kb_N_init 12 = .ok (.aload_n 0, 1) := by decide +kernel
theorem kd_N_init_13 : decode kb_N_init 13 = .ok (.bipush 30, 2) := by decide +kernel
theorem kd_N_init_15 : decode kb_N_init 15 = .ok (.newarray .int, 2) := by decide +kernel
theorem kd_N_init_17 : decode kb_N_init 17 = .ok (.putfield 15, 3) := by decide +kernel
theorem kd_N_init_20 : decode kb_N_init 20 = .ok (.aload_n 0, 1) := by decide +kernel
theorem kd_N_init_21 : decode kb_N_init 21 = .ok (.bipush 30, 2) := by decide +kernel
theorem kd_N_init_23 : decode kb_N_init 23 = .ok (.newarray .int, 2) := by decide +kernel
theorem kd_N_init_25 : decode kb_N_init 25 = .ok (.putfield 18, 3) := by decide +kernel
theorem kd_N_init_28 : decode kb_N_init 28 = .ok (.return_, 1) := by decide +kernel
theorem kd_N_hasNode_0 : decode kb_N_hasNode 0 = .ok (.iload_n 1, 1) := by decide +kernel
theorem kd_N_hasNode_1 : decode kb_N_hasNode 1 = .ok (.ifCond .lt 15, 3) := by decide +kernel
theorem kd_N_hasNode_4 : decode kb_N_hasNode 4 = .ok (.iload_n 1, 1) := by decide +kernel
theorem kd_N_hasNode_5 : decode kb_N_hasNode 5 = .ok (.aload_n 0, 1) := by decide +kernel
theorem kd_N_hasNode_6 : decode kb_N_hasNode 6 = .ok (.getfield 21, 3) := by decide +kernel
theorem kd_N_hasNode_9 : decode kb_N_hasNode 9 = .ok (.if_icmp .ge 7, 3) := by decide +kernel
theorem kd_N_hasNode_12 : decode kb_N_hasNode 12 = .ok (.iconst 1, 1) := by decide +kernel
theorem kd_N_hasNode_13 : decode kb_N_hasNode 13 = .ok (.goto 4, 3) := by decide +kernel
theorem kd_N_hasNode_16 : decode kb_N_hasNode 16 = .ok (.iconst 0, 1) := by decide +kernel
theorem kd_N_hasNode_17 : decode kb_N_hasNode 17 = .ok (.ireturn, 1) := by decide +kernel
theorem kd_N_hasArc_0 : decode kb_N_hasArc 0 = .ok (.iload_n 1, 1) := by decide +kernel
theorem kd_N_hasArc_1 : decode kb_N_hasArc 1 = .ok (.ifCond .lt 15, 3) := by decide +kernel
theorem kd_N_hasArc_4 : decode kb_N_hasArc 4 = .ok (.iload_n 1, 1) := by decide +kernel
theorem kd_N_hasArc_5 : decode kb_N_hasArc 5 = .ok (.aload_n 0, 1) := by decide +kernel
theorem kd_N_hasArc_6 : decode kb_N_hasArc 6 = .ok (.getfield 25, 3) := by decide +kernel
theorem kd_N_hasArc_9 : decode kb_N_hasArc 9 = .ok (.if_icmp .ge 7, 3) := by decide +kernel
theorem kd_N_hasArc_12 : decode kb_N_hasArc 12 = .ok (.iconst 1, 1) := by decide +kernel
theorem kd_N_hasArc_13 : decode kb_N_hasArc 13 = .ok (.goto 4, 3) := by decide +kernel
theorem kd_N_hasArc_16 : decode kb_N_hasArc 16 = .ok (.iconst 0, 1) := by decide +kernel
theorem kd_N_hasArc_17 : decode kb_N_hasArc 17 = .ok (.ireturn, 1) := by decide +kernel
theorem kd_N_weightOutOf_0 : decode kb_N_weightOutOf 0 = .ok (.iconst 0, 1) := by decide +kernel
theorem kd_N_weightOutOf_1 : decode kb_N_weightOutOf 1 = .ok (.istore_n 2, 1) := by decide +kernel
theorem kd_N_weightOutOf_2 : decode kb_N_weightOutOf 2 = .ok (.iconst 0, 1) := by decide +kernel
theorem kd_N_weightOutOf_3 : decode kb_N_weightOutOf 3 = .ok (.istore_n 3, 1) := by decide +kernel
theorem kd_N_weightOutOf_4 : decode kb_N_weightOutOf 4 = .ok (.iload_n 3, 1) := by decide +kernel
theorem kd_N_weightOutOf_5 : decode kb_N_weightOutOf 5 = .ok (.aload_n 0, 1) := by decide +kernel
theorem kd_N_weightOutOf_6 : decode kb_N_weightOutOf 6 = .ok (.getfield 25, 3) := by decide +kernel
theorem kd_N_weightOutOf_9 : decode kb_N_weightOutOf 9 = .ok (.if_icmp .ge 32, 3) := by decide +kernel
theorem kd_N_weightOutOf_12 : decode kb_N_weightOutOf 12 = .ok (.iload_n 2, 1) := by decide +kernel
theorem kd_N_weightOutOf_13 : decode kb_N_weightOutOf 13 = .ok (.aload_n 0, 1) := by decide +kernel
theorem kd_N_weightOutOf_14 : decode kb_N_weightOutOf 14 = .ok (.getfield 9, 3) := by decide +kernel
theorem kd_N_weightOutOf_17 : decode kb_N_weightOutOf 17 = .ok (.iload_n 3, 1) := by decide +kernel
theorem kd_N_weightOutOf_18 : decode kb_N_weightOutOf 18 = .ok (.iaload, 1) := by decide +kernel
theorem kd_N_weightOutOf_19 : decode kb_N_weightOutOf 19 = .ok (.iload_n 1, 1) := by decide +kernel
theorem kd_N_weightOutOf_20 : decode kb_N_weightOutOf 20 = .ok (.if_icmp .ne 12, 3) := by decide +kernel
theorem kd_N_weightOutOf_23 : decode kb_N_weightOutOf 23 = .ok (.aload_n 0, 1) := by decide +kernel
theorem kd_N_weightOutOf_24 : decode kb_N_weightOutOf 24 = .ok (.getfield 18, 3) := by decide +kernel
theorem kd_N_weightOutOf_27 : decode kb_N_weightOutOf 27 = .ok (.iload_n 3, 1) := by decide +kernel
theorem kd_N_weightOutOf_28 : decode kb_N_weightOutOf 28 = .ok (.iaload, 1) := by decide +kernel
theorem kd_N_weightOutOf_29 : decode kb_N_weightOutOf 29 = .ok (.goto 4, 3) := by decide +kernel
theorem kd_N_weightOutOf_32 : decode kb_N_weightOutOf 32 = .ok (.iconst 0, 1) := by decide +kernel
theorem kd_N_weightOutOf_33 : decode kb_N_weightOutOf 33 = .ok (.iadd, 1) := by decide +kernel
theorem kd_N_weightOutOf_34 : decode kb_N_weightOutOf 34 = .ok (.istore_n 2, 1) := by decide +kernel
theorem kd_N_weightOutOf_35 : decode kb_N_weightOutOf 35 = .ok (.iinc 3 1, 3) := by decide +kernel
theorem kd_N_weightOutOf_38 : decode kb_N_weightOutOf 38 = .ok (.goto (-34), 3) := by decide +kernel
theorem kd_N_weightOutOf_41 : decode kb_N_weightOutOf 41 = .ok (.iload_n 2, 1) := by decide +kernel
theorem kd_N_weightOutOf_42 : decode kb_N_weightOutOf 42 = .ok (.ireturn, 1) := by decide +kernel
theorem kd_N_weightInto_0 : decode kb_N_weightInto 0 = .ok (.iconst 0, 1) := by decide +kernel
theorem kd_N_weightInto_1 : decode kb_N_weightInto 1 = .ok (.istore_n 2, 1) := by decide +kernel
theorem kd_N_weightInto_2 : decode kb_N_weightInto 2 = .ok (.iconst 0, 1) := by decide +kernel
theorem kd_N_weightInto_3 : decode kb_N_weightInto 3 = .ok (.istore_n 3, 1) := by decide +kernel
theorem kd_N_weightInto_4 : decode kb_N_weightInto 4 = .ok (.iload_n 3, 1) := by decide +kernel
theorem kd_N_weightInto_5 : decode kb_N_weightInto 5 = .ok (.aload_n 0, 1) := by decide +kernel
theorem kd_N_weightInto_6 : decode kb_N_weightInto 6 = .ok (.getfield 25, 3) := by decide +kernel
theorem kd_N_weightInto_9 : decode kb_N_weightInto 9 = .ok (.if_icmp .ge 32, 3) := by decide +kernel
theorem kd_N_weightInto_12 : decode kb_N_weightInto 12 = .ok (.iload_n 2, 1) := by decide +kernel
theorem kd_N_weightInto_13 : decode kb_N_weightInto 13 = .ok (.aload_n 0, 1) := by decide +kernel
theorem kd_N_weightInto_14 : decode kb_N_weightInto 14 = .ok (.getfield 15, 3) := by decide +kernel
theorem kd_N_weightInto_17 : decode kb_N_weightInto 17 = .ok (.iload_n 3, 1) := by decide +kernel
theorem kd_N_weightInto_18 : decode kb_N_weightInto 18 = .ok (.iaload, 1) := by decide +kernel
theorem kd_N_weightInto_19 : decode kb_N_weightInto 19 = .ok (.iload_n 1, 1) := by decide +kernel
theorem kd_N_weightInto_20 : decode kb_N_weightInto 20 = .ok (.if_icmp .ne 12, 3) := by decide +kernel
theorem kd_N_weightInto_23 : decode kb_N_weightInto 23 = .ok (.aload_n 0, 1) := by decide +kernel
theorem kd_N_weightInto_24 : decode kb_N_weightInto 24 = .ok (.getfield 18, 3) := by decide +kernel
theorem kd_N_weightInto_27 : decode kb_N_weightInto 27 = .ok (.iload_n 3, 1) := by decide +kernel
theorem kd_N_weightInto_28 : decode kb_N_weightInto 28 = .ok (.iaload, 1) := by decide +kernel
theorem kd_N_weightInto_29 : decode kb_N_weightInto 29 = .ok (.goto 4, 3) := by decide +kernel
theorem kd_N_weightInto_32 : decode kb_N_weightInto 32 = .ok (.iconst 0, 1) := by decide +kernel
theorem kd_N_weightInto_33 : decode kb_N_weightInto 33 = .ok (.iadd, 1) := by decide +kernel
theorem kd_N_weightInto_34 : decode kb_N_weightInto 34 = .ok (.istore_n 2, 1) := by decide +kernel
theorem kd_N_weightInto_35 : decode kb_N_weightInto 35 = .ok (.iinc 3 1, 3) := by decide +kernel
theorem kd_N_weightInto_38 : decode kb_N_weightInto 38 = .ok (.goto (-34), 3) := by decide +kernel
theorem kd_N_weightInto_41 : decode kb_N_weightInto 41 = .ok (.iload_n 2, 1) := by decide +kernel
theorem kd_N_weightInto_42 : decode kb_N_weightInto 42 = .ok (.ireturn, 1) := by decide +kernel
theorem kd_N_firstTrees_0 : decode kb_N_firstTrees 0 = .ok (.iconst 0, 1) := by decide +kernel
theorem kd_N_firstTrees_1 : decode kb_N_firstTrees 1 = .ok (.istore_n 2, 1) := by decide +kernel
theorem kd_N_firstTrees_2 : decode kb_N_firstTrees 2 = .ok (.aload_n 1, 1) := by decide +kernel
theorem kd_N_firstTrees_3 : decode kb_N_firstTrees 3 = .ok (.aload_n 0, 1) := by decide +kernel
theorem kd_N_firstTrees_4 : decode kb_N_firstTrees 4 = .ok (.getfield 21, 3) := by decide +kernel
theorem kd_N_firstTrees_7 : decode kb_N_firstTrees 7 = .ok (.invokevirtual 28, 3) := by decide +kernel
theorem kd_N_firstTrees_10 : decode kb_N_firstTrees 10 = .ok (.iconst 0, 1) := by decide +kernel
theorem kd_N_firstTrees_11 : decode kb_N_firstTrees 11 = .ok (.istore_n 3, 1) := by decide +kernel
theorem kd_N_firstTrees_12 : decode kb_N_firstTrees 12 = .ok (.iload_n 3, 1) := by decide +kernel
theorem kd_N_firstTrees_13 : decode kb_N_firstTrees 13 = .ok (.aload_n 0, 1) := by decide +kernel
theorem kd_N_firstTrees_14 : decode kb_N_firstTrees 14 = .ok (.getfield 25, 3) := by decide +kernel
theorem kd_N_firstTrees_17 : decode kb_N_firstTrees 17 = .ok (.if_icmp .ge 34, 3) := by decide +kernel
theorem kd_N_firstTrees_20 : decode kb_N_firstTrees 20 = .ok (.aload_n 1, 1) := by decide +kernel
theorem kd_N_firstTrees_21 : decode kb_N_firstTrees 21 = .ok (.aload_n 0, 1) := by decide +kernel
theorem kd_N_firstTrees_22 : decode kb_N_firstTrees 22 = .ok (.getfield 9, 3) := by decide +kernel
theorem kd_N_firstTrees_25 : decode kb_N_firstTrees 25 = .ok (.iload_n 3, 1) := by decide +kernel
theorem kd_N_firstTrees_26 : decode kb_N_firstTrees 26 = .ok (.iaload, 1) := by decide +kernel
theorem kd_N_firstTrees_27 : decode kb_N_firstTrees 27 = .ok (.aload_n 0, 1) := by decide +kernel
theorem kd_N_firstTrees_28 : decode kb_N_firstTrees 28 = .ok (.getfield 15, 3) := by decide +kernel
theorem kd_N_firstTrees_31 : decode kb_N_firstTrees 31 = .ok (.iload_n 3, 1) := by decide +kernel
theorem kd_N_firstTrees_32 : decode kb_N_firstTrees 32 = .ok (.iaload, 1) := by decide +kernel
theorem kd_N_firstTrees_33 : decode kb_N_firstTrees 33 = .ok (.invokevirtual 34, 3) := by decide +kernel
theorem kd_N_firstTrees_36 : decode kb_N_firstTrees 36 = .ok (.ifCond .eq 9, 3) := by decide +kernel
theorem kd_N_firstTrees_39 : decode kb_N_firstTrees 39 = .ok (.iload_n 2, 1) := by decide +kernel
theorem kd_N_firstTrees_40 : decode kb_N_firstTrees 40 = .ok (.iconst 1, 1) := by decide +kernel
theorem kd_N_firstTrees_41 : decode kb_N_firstTrees 41 = .ok (.iload_n 3, 1) := by decide +kernel
theorem kd_N_firstTrees_42 : decode kb_N_firstTrees 42 = .ok (.ishl, 1) := by decide +kernel
theorem kd_N_firstTrees_43 : decode kb_N_firstTrees 43 = .ok (.ior, 1) := by decide +kernel
theorem kd_N_firstTrees_44 : decode kb_N_firstTrees 44 = .ok (.istore_n 2, 1) := by decide +kernel
theorem kd_N_firstTrees_45 : decode kb_N_firstTrees 45 = .ok (.iinc 3 1, 3) := by decide +kernel
theorem kd_N_firstTrees_48 : decode kb_N_firstTrees 48 = .ok (.goto (-36), 3) := by decide +kernel
theorem kd_N_firstTrees_51 : decode kb_N_firstTrees 51 = .ok (.iload_n 2, 1) := by decide +kernel
theorem kd_N_firstTrees_52 : decode kb_N_firstTrees 52 = .ok (.ireturn, 1) := by decide +kernel
theorem kd_P_init_0 : decode kb_P_init 0 = .ok (.aload_n 0, 1) := by decide +kernel
theorem kd_P_init_1 : decode kb_P_init 1 = .ok (.invokespecial 3, 3) := by decide +kernel
theorem kd_P_init_4 : decode kb_P_init 4 = .ok (.aload_n 0, 1) := by decide +kernel
theorem kd_P_init_5 : decode kb_P_init 5 = .ok (.bipush 10, 2) := by decide +kernel
theorem kd_P_init_7 : decode kb_P_init 7 = .ok (.newarray .int, 2) := by decide +kernel
theorem kd_P_init_9 : decode kb_P_init 9 = .ok (.putfield 9, 3) := by decide +kernel
theorem kd_P_init_12 : decode kb_P_init 12 = .ok (.return_, 1) := by decide +kernel
theorem kd_P_split_0 : decode kb_P_split 0 = .ok (.aload_n 0, 1) := by decide +kernel
theorem kd_P_split_1 : decode kb_P_split 1 = .ok (.iload_n 1, 1) := by decide +kernel
theorem kd_P_split_2 : decode kb_P_split 2 = .ok (.putfield 15, 3) := by decide +kernel
theorem kd_P_split_5 : decode kb_P_split 5 = .ok (.aload_n 0, 1) := by decide +kernel
theorem kd_P_split_6 : decode kb_P_split 6 = .ok (.iload_n 1, 1) := by decide +kernel
theorem kd_P_split_7 : decode kb_P_split 7 = .ok (.putfield 19, 3) := by decide +kernel
theorem kd_P_split_10 : decode kb_P_split 10 = .ok (.iconst 0, 1) := by decide +kernel
theorem kd_P_split_11 : decode kb_P_split 11 = .ok (.istore_n 2, 1) := by decide +kernel
theorem kd_P_split_12 : decode kb_P_split 12 = .ok (.iload_n 2, 1) := by decide +kernel
theorem kd_P_split_13 : decode kb_P_split 13 = .ok (.iload_n 1, 1) := by decide +kernel
theorem kd_P_split_14 : decode kb_P_split 14 = .ok (.if_icmp .ge 16, 3) := by decide +kernel
theorem kd_P_split_17 : decode kb_P_split 17 = .ok (.aload_n 0, 1) := by decide +kernel
theorem kd_P_split_18 : decode kb_P_split 18 = .ok (.getfield 9, 3) := by decide +kernel
theorem kd_P_split_21 : decode kb_P_split 21 = .ok (.iload_n 2, 1) := by decide +kernel
theorem kd_P_split_22 : decode kb_P_split 22 = .ok (.iload_n 2, 1) := by decide +kernel
theorem kd_P_split_23 : decode kb_P_split 23 = .ok (.iastore, 1) := by decide +kernel
theorem kd_P_split_24 : decode kb_P_split 24 = .ok (.iinc 2 1, 3) := by decide +kernel
theorem kd_P_split_27 : decode kb_P_split 27 = .ok (.goto (-15), 3) := by decide +kernel
theorem kd_P_split_30 : decode kb_P_split 30 = .ok (.return_, 1) := by decide +kernel
theorem kd_P_become_0 : decode kb_P_become 0 = .ok (.aload_n 0, 1) := by decide +kernel
theorem kd_P_become_1 : decode kb_P_become 1 = .ok (.aload_n 1, 1) := by decide +kernel
theorem kd_P_become_2 : decode kb_P_become 2 = .ok (.getfield 15, 3) := by decide +kernel
theorem kd_P_become_5 : decode kb_P_become 5 = .ok (.putfield 15, 3) := by decide +kernel
theorem kd_P_become_8 : decode kb_P_become 8 = .ok (.aload_n 0, 1) := by decide +kernel
theorem kd_P_become_9 : decode kb_P_become 9 = .ok (.aload_n 1, 1) := by decide +kernel
theorem kd_P_become_10 : decode kb_P_become 10 = .ok (.getfield 19, 3) := by decide +kernel
theorem kd_P_become_13 : decode kb_P_become 13 = .ok (.putfield 19, 3) := by decide +kernel
theorem kd_P_become_16 : decode kb_P_become 16 = .ok (.aload_n 1, 1) := by decide +kernel
theorem kd_P_become_17 : decode kb_P_become 17 = .ok (.getfield 9, 3) := by decide +kernel
theorem kd_P_become_20 : decode kb_P_become 20 = .ok (.iconst 0, 1) := by decide +kernel
theorem kd_P_become_21 : decode kb_P_become 21 = .ok (.aload_n 0, 1) := by decide +kernel
theorem kd_P_become_22 : decode kb_P_become 22 = .ok (.getfield 9, 3) := by decide +kernel
theorem kd_P_become_25 : decode kb_P_become 25 = .ok (.iconst 0, 1) := by decide +kernel
theorem kd_P_become_26 : decode kb_P_become 26 = .ok (.aload_n 1, 1) := by decide +kernel
theorem kd_P_become_27 : decode kb_P_become 27 = .ok (.getfield 15, 3) := by decide +kernel
theorem kd_P_become_30 : decode kb_P_become 30 = .ok (.invokestatic 22, 3) := by decide +kernel
theorem kd_P_become_33 : decode kb_P_become 33 = .ok (.return_, 1) := by decide +kernel
theorem kd_P_areOne_0 : decode kb_P_areOne 0 = .ok (.aload_n 0, 1) := by decide +kernel
theorem kd_P_areOne_1 : decode kb_P_areOne 1 = .ok (.getfield 9, 3) := by decide +kernel
theorem kd_P_areOne_4 : decode kb_P_areOne 4 = .ok (.iload_n 1, 1) := by decide +kernel
theorem kd_P_areOne_5 : decode kb_P_areOne 5 = .ok (.iaload, 1) := by decide +kernel
theorem kd_P_areOne_6 : decode kb_P_areOne 6 = .ok (.aload_n 0, 1) := by decide +kernel
theorem kd_P_areOne_7 : decode kb_P_areOne 7 = .ok (.getfield 9, 3) := by decide +kernel
theorem kd_P_areOne_10 : decode kb_P_areOne 10 = .ok (.iload_n 2, 1) := by decide +kernel
theorem kd_P_areOne_11 : decode kb_P_areOne 11 = .ok (.iaload, 1) := by decide +kernel
theorem kd_P_areOne_12 : decode kb_P_areOne 12 = .ok (.if_icmp .ne 7, 3) := by decide +kernel
theorem kd_P_areOne_15 : decode kb_P_areOne 15 = .ok (.iconst 1, 1) := by decide +kernel
theorem kd_P_areOne_16 : decode kb_P_areOne 16 = .ok (.goto 4, 3) := by decide +kernel
theorem kd_P_areOne_19 : decode kb_P_areOne 19 = .ok (.iconst 0, 1) := by decide +kernel
theorem kd_P_areOne_20 : decode kb_P_areOne 20 = .ok (.ireturn, 1) := by decide +kernel
theorem kd_P_unite_0 : decode kb_P_unite 0 = .ok (.aload_n 0, 1) := by decide +kernel
theorem kd_P_unite_1 : decode kb_P_unite 1 = .ok (.getfield 9, 3) := by decide +kernel
theorem kd_P_unite_4 : decode kb_P_unite 4 = .ok (.iload_n 1, 1) := by decide +kernel
theorem kd_P_unite_5 : decode kb_P_unite 5 = .ok (.iaload, 1) := by decide +kernel
theorem kd_P_unite_6 : decode kb_P_unite 6 = .ok (.aload_n 0, 1) := by decide +kernel
theorem kd_P_unite_7 : decode kb_P_unite 7 = .ok (.getfield 9, 3) := by decide +kernel
theorem kd_P_unite_10 : decode kb_P_unite 10 = .ok (.iload_n 2, 1) := by decide +kernel
theorem kd_P_unite_11 : decode kb_P_unite 11 = .ok (.iaload, 1) := by decide +kernel
theorem kd_P_unite_12 : decode kb_P_unite 12 = .ok (.invokestatic 28, 3) := by decide +kernel
theorem kd_P_unite_15 : decode kb_P_unite 15 = .ok (.istore_n 3, 1) := by decide +kernel
theorem kd_P_unite_16 : decode kb_P_unite 16 = .ok (.aload_n 0, 1) := by decide +kernel
theorem kd_P_unite_17 : decode kb_P_unite 17 = .ok (.getfield 9, 3) := by decide +kernel
theorem kd_P_unite_20 : decode kb_P_unite 20 = .ok (.iload_n 1, 1) := by decide +kernel
theorem kd_P_unite_21 : decode kb_P_unite 21 = .ok (.iaload, 1) := by decide +kernel
theorem kd_P_unite_22 : decode kb_P_unite 22 = .ok (.aload_n 0, 1) := by decide +kernel
theorem kd_P_unite_23 : decode kb_P_unite 23 = .ok (.getfield 9, 3) := by decide +kernel
theorem kd_P_unite_26 : decode kb_P_unite 26 = .ok (.iload_n 2, 1) := by decide +kernel
theorem kd_P_unite_27 : decode kb_P_unite 27 = .ok (.iaload, 1) := by decide +kernel
theorem kd_P_unite_28 : decode kb_P_unite 28 = .ok (.invokestatic 34, 3) := by decide +kernel
theorem kd_P_unite_31 : decode kb_P_unite 31 = .ok (.istore 4, 2) := by decide +kernel
theorem kd_P_unite_33 : decode kb_P_unite 33 = .ok (.iload_n 3, 1) := by decide +kernel
theorem kd_P_unite_34 : decode kb_P_unite 34 = .ok (.iload 4, 2) := by decide +kernel
theorem kd_P_unite_36 : decode kb_P_unite 36 = .ok (.if_icmp .ne 5, 3) := by decide +kernel
theorem kd_P_unite_39 : decode kb_P_unite 39 = .ok (.iconst 0, 1) := by decide +kernel
theorem kd_P_unite_40 : decode kb_P_unite 40 = .ok (.ireturn, 1) := by decide +kernel
theorem kd_P_unite_41 : decode kb_P_unite 41 = .ok (.iconst 0, 1) := by decide +kernel
theorem kd_P_unite_42 : decode kb_P_unite 42 = .ok (.istore 5, 2) := by decide +kernel
theorem kd_P_unite_44 : decode kb_P_unite 44 = .ok (.iload 5, 2) := by decide +kernel
theorem kd_P_unite_46 : decode kb_P_unite 46 = .ok (.aload_n 0, 1) := by decide +kernel
theorem kd_P_unite_47 : decode kb_P_unite 47 = .ok (.getfield 15, 3) := by decide +kernel
theorem kd_P_unite_50 : decode kb_P_unite 50 = .ok (.if_icmp .ge 55, 3) := by decide +kernel
theorem kd_P_unite_53 : decode kb_P_unite 53 = .ok (.aload_n 0, 1) := by decide +kernel
theorem kd_P_unite_54 : decode kb_P_unite 54 = .ok (.getfield 9, 3) := by decide +kernel
theorem kd_P_unite_57 : decode kb_P_unite 57 = .ok (.iload 5, 2) := by decide +kernel
theorem kd_P_unite_59 : decode kb_P_unite 59 = .ok (.iaload, 1) := by decide +kernel
theorem kd_P_unite_60 : decode kb_P_unite 60 = .ok (.iload 4, 2) := by decide +kernel
theorem kd_P_unite_62 : decode kb_P_unite 62 = .ok (.if_icmp .ne 14, 3) := by decide +kernel
theorem kd_P_unite_65 : decode kb_P_unite 65 = .ok (.aload_n 0, 1) := by decide +kernel
theorem kd_P_unite_66 : decode kb_P_unite 66 = .ok (.getfield 9, 3) := by decide +kernel
theorem kd_P_unite_69 : decode kb_P_unite 69 = .ok (.iload 5, 2) := by decide +kernel
theorem kd_P_unite_71 : decode kb_P_unite 71 = .ok (.iload_n 3, 1) := by decide +kernel
theorem kd_P_unite_72 : decode kb_P_unite 72 = .ok (.iastore, 1) := by decide +kernel
theorem kd_P_unite_73 : decode kb_P_unite 73 = .ok (.goto 26, 3) := by decide +kernel
theorem kd_P_unite_76 : decode kb_P_unite 76 = .ok (.aload_n 0, 1) := by decide +kernel
theorem kd_P_unite_77 : decode kb_P_unite 77 = .ok (.getfield 9, 3) := by decide +kernel
theorem kd_P_unite_80 : decode kb_P_unite 80 = .ok (.iload 5, 2) := by decide +kernel
theorem kd_P_unite_82 : decode kb_P_unite 82 = .ok (.iaload, 1) := by decide +kernel
theorem kd_P_unite_83 : decode kb_P_unite 83 = .ok (.iload 4, 2) := by decide +kernel
theorem kd_P_unite_85 : decode kb_P_unite 85 = .ok (.if_icmp .le 14, 3) := by decide +kernel
theorem kd_P_unite_88 : decode kb_P_unite 88 = .ok (.aload_n 0, 1) := by decide +kernel
theorem kd_P_unite_89 : decode kb_P_unite 89 = .ok (.getfield 9, 3) := by decide +kernel
theorem kd_P_unite_92 : decode kb_P_unite 92 = .ok (.iload 5, 2) := by decide +kernel
theorem kd_P_unite_94 : decode kb_P_unite 94 = .ok (.dup2, 1) := by decide +kernel
theorem kd_P_unite_95 : decode kb_P_unite 95 = .ok (.iaload, 1) := by decide +kernel
theorem kd_P_unite_96 : decode kb_P_unite 96 = .ok (.iconst 1, 1) := by decide +kernel
theorem kd_P_unite_97 : decode kb_P_unite 97 = .ok (.isub, 1) := by decide +kernel
theorem kd_P_unite_98 : decode kb_P_unite 98 = .ok (.iastore, 1) := by decide +kernel
theorem kd_P_unite_99 : decode kb_P_unite 99 = .ok (.iinc 5 1, 3) := by decide +kernel
theorem kd_P_unite_102 : decode kb_P_unite 102 = .ok (.goto (-58), 3) := by decide +kernel
theorem kd_P_unite_105 : decode kb_P_unite 105 = .ok (.aload_n 0, 1) := by decide +kernel
theorem kd_P_unite_106 : decode kb_P_unite 106 = .ok (.dup, 1) := by decide +kernel
theorem kd_P_unite_107 : decode kb_P_unite 107 = .ok (.getfield 19, 3) := by decide +kernel
theorem kd_P_unite_110 : decode kb_P_unite 110 = .ok (.iconst 1, 1) := by decide +kernel
theorem kd_P_unite_111 : decode kb_P_unite 111 = .ok (.isub, 1) := by decide +kernel
theorem kd_P_unite_112 : decode kb_P_unite 112 = .ok (.putfield 19, 3) := by decide +kernel
theorem kd_P_unite_115 : decode kb_P_unite 115 = .ok (.iconst 1, 1) := by decide +kernel
theorem kd_P_unite_116 : decode kb_P_unite 116 = .ok (.ireturn, 1) := by decide +kernel
theorem kd_G_init_0 : decode kb_G_init 0 = .ok (.aload_n 0, 1) := by decide +kernel
theorem kd_G_init_1 : decode kb_G_init 1 = .ok (.invokespecial 3, 3) := by decide +kernel
theorem kd_G_init_4 : decode kb_G_init 4 = .ok (.aload_n 0, 1) := by decide +kernel
theorem kd_G_init_5 : decode kb_G_init 5 = .ok (.bipush 10, 2) := by decide +kernel
theorem kd_G_init_7 : decode kb_G_init 7 = .ok (.bipush 10, 2) := by decide +kernel
theorem kd_G_init_9 : decode kb_G_init 9 = .ok (.multianewarray 9 2, 4) := by decide +kernel
theorem kd_G_init_13 : decode kb_G_init 13 = .ok (.putfield 11, 3) := by decide +kernel
theorem kd_G_init_16 : decode kb_G_init 16 = .ok (.return_, 1) := by decide +kernel
theorem kd_G_blank_0 : decode kb_G_blank 0 = .ok (.aload_n 0, 1) := by decide +kernel
theorem kd_G_blank_1 : decode kb_G_blank 1 = .ok (.iload_n 1, 1) := by decide +kernel
theorem kd_G_blank_2 : decode kb_G_blank 2 = .ok (.putfield 16, 3) := by decide +kernel
theorem kd_G_blank_5 : decode kb_G_blank 5 = .ok (.iconst 0, 1) := by decide +kernel
theorem kd_G_blank_6 : decode kb_G_blank 6 = .ok (.istore_n 2, 1) := by decide +kernel
theorem kd_G_blank_7 : decode kb_G_blank 7 = .ok (.iload_n 2, 1) := by decide +kernel
theorem kd_G_blank_8 : decode kb_G_blank 8 = .ok (.aload_n 0, 1) := by decide +kernel
theorem kd_G_blank_9 : decode kb_G_blank 9 = .ok (.getfield 16, 3) := by decide +kernel
theorem kd_G_blank_12 : decode kb_G_blank 12 = .ok (.if_icmp .ge 34, 3) := by decide +kernel
theorem kd_G_blank_15 : decode kb_G_blank 15 = .ok (.iconst 0, 1) := by decide +kernel
theorem kd_G_blank_16 : decode kb_G_blank 16 = .ok (.istore_n 3, 1) := by decide +kernel
theorem kd_G_blank_17 : decode kb_G_blank 17 = .ok (.iload_n 3, 1) := by decide +kernel
theorem kd_G_blank_18 : decode kb_G_blank 18 = .ok (.aload_n 0, 1) := by decide +kernel
theorem kd_G_blank_19 : decode kb_G_blank 19 = .ok (.getfield 16, 3) := by decide +kernel
theorem kd_G_blank_22 : decode kb_G_blank 22 = .ok (.if_icmp .ge 18, 3) := by decide +kernel
theorem kd_G_blank_25 : decode kb_G_blank 25 = .ok (.aload_n 0, 1) := by decide +kernel
theorem kd_G_blank_26 : decode kb_G_blank 26 = .ok (.getfield 11, 3) := by decide +kernel
theorem kd_G_blank_29 : decode kb_G_blank 29 = .ok (.iload_n 2, 1) := by decide +kernel
theorem kd_G_blank_30 : decode kb_G_blank 30 = .ok (.aaload, 1) := by decide +kernel
theorem kd_G_blank_31 : decode kb_G_blank 31 = .ok (.iload_n 3, 1) := by decide +kernel
theorem kd_G_blank_32 : decode kb_G_blank 32 = .ok (.lconst 0, 1) := by decide +kernel
theorem kd_G_blank_33 : decode kb_G_blank 33 = .ok (.lastore, 1) := by decide +kernel
theorem kd_G_blank_34 : decode kb_G_blank 34 = .ok (.iinc 3 1, 3) := by decide +kernel
theorem kd_G_blank_37 : decode kb_G_blank 37 = .ok (.goto (-20), 3) := by decide +kernel
theorem kd_G_blank_40 : decode kb_G_blank 40 = .ok (.iinc 2 1, 3) := by decide +kernel
theorem kd_G_blank_43 : decode kb_G_blank 43 = .ok (.goto (-36), 3) := by decide +kernel
theorem kd_G_blank_46 : decode kb_G_blank 46 = .ok (.return_, 1) := by decide +kernel
theorem kd_G_addOneWay_0 : decode kb_G_addOneWay 0 = .ok (.aload_n 0, 1) := by decide +kernel
theorem kd_G_addOneWay_1 : decode kb_G_addOneWay 1 = .ok (.getfield 11, 3) := by decide +kernel
theorem kd_G_addOneWay_4 : decode kb_G_addOneWay 4 = .ok (.iload_n 1, 1) := by decide +kernel
theorem kd_G_addOneWay_5 : decode kb_G_addOneWay 5 = .ok (.aaload, 1) := by decide +kernel
theorem kd_G_addOneWay_6 : decode kb_G_addOneWay 6 = .ok (.iload_n 1, 1) := by decide +kernel
theorem kd_G_addOneWay_7 : decode kb_G_addOneWay 7 = .ok (.dup2, 1) := by decide +kernel
theorem kd_G_addOneWay_8 : decode kb_G_addOneWay 8 = .ok (.laload, 1) := by decide +kernel
theorem kd_G_addOneWay_9 : decode kb_G_addOneWay 9 = .ok (.iload_n 3, 1) := by decide +kernel
theorem kd_G_addOneWay_10 : decode kb_G_addOneWay 10 = .ok (.i2l, 1) := by decide +kernel
theorem kd_G_addOneWay_11 : decode kb_G_addOneWay 11 = .ok (.ladd, 1) := by decide +kernel
theorem kd_G_addOneWay_12 : decode kb_G_addOneWay 12 = .ok (.lastore, 1) := by decide +kernel
theorem kd_G_addOneWay_13 : decode kb_G_addOneWay 13 = .ok (.aload_n 0, 1) := by decide +kernel
theorem kd_G_addOneWay_14 : decode kb_G_addOneWay 14 = .ok (.getfield 11, 3) := by decide +kernel
theorem kd_G_addOneWay_17 : decode kb_G_addOneWay 17 = .ok (.iload_n 1, 1) := by decide +kernel
theorem kd_G_addOneWay_18 : decode kb_G_addOneWay 18 = .ok (.aaload, 1) := by decide +kernel
theorem kd_G_addOneWay_19 : decode kb_G_addOneWay 19 = .ok (.iload_n 2, 1) := by decide +kernel
theorem kd_G_addOneWay_20 : decode kb_G_addOneWay 20 = .ok (.dup2, 1) := by decide +kernel
theorem kd_G_addOneWay_21 : decode kb_G_addOneWay 21 = .ok (.laload, 1) := by decide +kernel
theorem kd_G_addOneWay_22 : decode kb_G_addOneWay 22 = .ok (.iload_n 3, 1) := by decide +kernel
theorem kd_G_addOneWay_23 : decode kb_G_addOneWay 23 = .ok (.i2l, 1) := by decide +kernel
theorem kd_G_addOneWay_24 : decode kb_G_addOneWay 24 = .ok (.lsub, 1) := by decide +kernel
theorem kd_G_addOneWay_25 : decode kb_G_addOneWay 25 = .ok (.lastore, 1) := by decide +kernel
theorem kd_G_addOneWay_26 : decode kb_G_addOneWay 26 = .ok (.return_, 1) := by decide +kernel
theorem kd_G_addBothWays_0 : decode kb_G_addBothWays 0 = .ok (.aload_n 0, 1) := by decide +kernel
theorem kd_G_addBothWays_1 : decode kb_G_addBothWays 1 = .ok (.iload_n 1, 1) := by decide +kernel
theorem kd_G_addBothWays_2 : decode kb_G_addBothWays 2 = .ok (.iload_n 2, 1) := by decide +kernel
theorem kd_G_addBothWays_3 : decode kb_G_addBothWays 3 = .ok (.iload_n 3, 1) := by decide +kernel
theorem kd_G_addBothWays_4 : decode kb_G_addBothWays 4 = .ok (.invokevirtual 20, 3) := by decide +kernel
theorem kd_G_addBothWays_7 : decode kb_G_addBothWays 7 = .ok (.aload_n 0, 1) := by decide +kernel
theorem kd_G_addBothWays_8 : decode kb_G_addBothWays 8 = .ok (.iload_n 2, 1) := by decide +kernel
theorem kd_G_addBothWays_9 : decode kb_G_addBothWays 9 = .ok (.iload_n 1, 1) := by decide +kernel
theorem kd_G_addBothWays_10 : decode kb_G_addBothWays 10 = .ok (.iload_n 3, 1) := by decide +kernel
theorem kd_G_addBothWays_11 : decode kb_G_addBothWays 11 = .ok (.invokevirtual 20, 3) := by decide +kernel
theorem kd_G_addBothWays_14 : decode kb_G_addBothWays 14 = .ok (.return_, 1) := by decide +kernel
theorem kd_G_fillBothWays_0 : decode kb_G_fillBothWays 0 = .ok (.aload_n 0, 1) := by decide +kernel
theorem kd_G_fillBothWays_1 : decode kb_G_fillBothWays 1 = .ok (.aload_n 1, 1) := by decide +kernel
theorem kd_G_fillBothWays_2 : decode kb_G_fillBothWays 2 = .ok (.getfield 24, 3) := by decide +kernel
theorem kd_G_fillBothWays_5 : decode kb_G_fillBothWays 5 = .ok (.invokevirtual 29, 3) := by decide +kernel
theorem kd_G_fillBothWays_8 : decode kb_G_fillBothWays 8 = .ok (.iconst 0, 1) := by decide +kernel
theorem kd_G_fillBothWays_9 : decode kb_G_fillBothWays 9 = .ok (.istore_n 2, 1) := by decide +kernel
theorem kd_G_fillBothWays_10 : decode kb_G_fillBothWays 10 = .ok (.iload_n 2, 1) := by decide +kernel
theorem kd_G_fillBothWays_11 : decode kb_G_fillBothWays 11 = .ok (.aload_n 1, 1) := by decide +kernel
theorem kd_G_fillBothWays_12 : decode kb_G_fillBothWays 12 = .ok (.getfield 33, 3) := by decide +kernel
theorem kd_G_fillBothWays_15 : decode kb_G_fillBothWays 15 = .ok (.if_icmp .ge 31, 3) := by decide +kernel
theorem kd_G_fillBothWays_18 : decode kb_G_fillBothWays 18 = .ok (.aload_n 0, 1) := by decide +kernel
theorem kd_G_fillBothWays_19 : decode kb_G_fillBothWays 19 = .ok (.aload_n 1, 1) := by decide +kernel
theorem kd_G_fillBothWays_20 : decode kb_G_fillBothWays 20 = .ok (.getfield 36, 3) := by decide +kernel
theorem kd_G_fillBothWays_23 : decode kb_G_fillBothWays 23 = .ok (.iload_n 2, 1) := by decide +kernel
theorem kd_G_fillBothWays_24 : decode kb_G_fillBothWays 24 = .ok (.iaload, 1) := by decide +kernel
theorem kd_G_fillBothWays_25 : decode kb_G_fillBothWays 25 = .ok (.aload_n 1, 1) := by decide +kernel
theorem kd_G_fillBothWays_26 : decode kb_G_fillBothWays 26 = .ok (.getfield 40, 3) := by decide +kernel
theorem kd_G_fillBothWays_29 : decode kb_G_fillBothWays 29 = .ok (.iload_n 2, 1) := by decide +kernel
theorem kd_G_fillBothWays_30 : decode kb_G_fillBothWays 30 = .ok (.iaload, 1) := by decide +kernel
theorem kd_G_fillBothWays_31 : decode kb_G_fillBothWays 31 = .ok (.aload_n 1, 1) := by decide +kernel
theorem kd_G_fillBothWays_32 : decode kb_G_fillBothWays 32 = .ok (.getfield 43, 3) := by decide +kernel
theorem kd_G_fillBothWays_35 : decode kb_G_fillBothWays 35 = .ok (.iload_n 2, 1) := by decide +kernel
theorem kd_G_fillBothWays_36 : decode kb_G_fillBothWays 36 = .ok (.iaload, 1) := by decide +kernel
theorem kd_G_fillBothWays_37 : decode kb_G_fillBothWays 37 = .ok (.invokevirtual 46, 3) := by decide +kernel
theorem kd_G_fillBothWays_40 : decode kb_G_fillBothWays 40 = .ok (.iinc 2 1, 3) := by decide +kernel
theorem kd_G_fillBothWays_43 : decode kb_G_fillBothWays 43 = .ok (.goto (-33), 3) := by decide +kernel
theorem kd_G_fillBothWays_46 : decode kb_G_fillBothWays 46 = .ok (.return_, 1) := by decide +kernel
theorem kd_G_fillOneWay_0 : decode kb_G_fillOneWay 0 = .ok (.aload_n 0, 1) := by decide +kernel
theorem kd_G_fillOneWay_1 : decode kb_G_fillOneWay 1 = .ok (.aload_n 1, 1) := by decide +kernel
theorem kd_G_fillOneWay_2 : decode kb_G_fillOneWay 2 = .ok (.getfield 24, 3) := by decide +kernel
theorem kd_G_fillOneWay_5 : decode kb_G_fillOneWay 5 = .ok (.invokevirtual 29, 3) := by decide +kernel
theorem kd_G_fillOneWay_8 : decode kb_G_fillOneWay 8 = .ok (.iconst 0, 1) := by decide +kernel
theorem kd_G_fillOneWay_9 : decode kb_G_fillOneWay 9 = .ok (.istore_n 2, 1) := by decide +kernel
theorem kd_G_fillOneWay_10 : decode kb_G_fillOneWay 10 = .ok (.iload_n 2, 1) := by decide +kernel
theorem kd_G_fillOneWay_11 : decode kb_G_fillOneWay 11 = .ok (.aload_n 1, 1) := by decide +kernel
theorem kd_G_fillOneWay_12 : decode kb_G_fillOneWay 12 = .ok (.getfield 33, 3) := by decide +kernel
theorem kd_G_fillOneWay_15 : decode kb_G_fillOneWay 15 = .ok (.if_icmp .ge 31, 3) := by decide +kernel
theorem kd_G_fillOneWay_18 : decode kb_G_fillOneWay 18 = .ok (.aload_n 0, 1) := by decide +kernel
theorem kd_G_fillOneWay_19 : decode kb_G_fillOneWay 19 = .ok (.aload_n 1, 1) := by decide +kernel
theorem kd_G_fillOneWay_20 : decode kb_G_fillOneWay 20 = .ok (.getfield 36, 3) := by decide +kernel
theorem kd_G_fillOneWay_23 : decode kb_G_fillOneWay 23 = .ok (.iload_n 2, 1) := by decide +kernel
theorem kd_G_fillOneWay_24 : decode kb_G_fillOneWay 24 = .ok (.iaload, 1) := by decide +kernel
theorem kd_G_fillOneWay_25 : decode kb_G_fillOneWay 25 = .ok (.aload_n 1, 1) := by decide +kernel
theorem kd_G_fillOneWay_26 : decode kb_G_fillOneWay 26 = .ok (.getfield 40, 3) := by decide +kernel
theorem kd_G_fillOneWay_29 : decode kb_G_fillOneWay 29 = .ok (.iload_n 2, 1) := by decide +kernel
theorem kd_G_fillOneWay_30 : decode kb_G_fillOneWay 30 = .ok (.iaload, 1) := by decide +kernel
theorem kd_G_fillOneWay_31 : decode kb_G_fillOneWay 31 = .ok (.aload_n 1, 1) := by decide +kernel
theorem kd_G_fillOneWay_32 : decode kb_G_fillOneWay 32 = .ok (.getfield 43, 3) := by decide +kernel
theorem kd_G_fillOneWay_35 : decode kb_G_fillOneWay 35 = .ok (.iload_n 2, 1) := by decide +kernel
theorem kd_G_fillOneWay_36 : decode kb_G_fillOneWay 36 = .ok (.iaload, 1) := by decide +kernel
theorem kd_G_fillOneWay_37 : decode kb_G_fillOneWay 37 = .ok (.invokevirtual 20, 3) := by decide +kernel
theorem kd_G_fillOneWay_40 : decode kb_G_fillOneWay 40 = .ok (.iinc 2 1, 3) := by decide +kernel
theorem kd_G_fillOneWay_43 : decode kb_G_fillOneWay 43 = .ok (.goto (-33), 3) := by decide +kernel
theorem kd_G_fillOneWay_46 : decode kb_G_fillOneWay 46 = .ok (.return_, 1) := by decide +kernel
theorem kd_G_strike_0 : decode kb_G_strike 0 = .ok (.iload_n 1, 1) := by decide +kernel
theorem kd_G_strike_1 : decode kb_G_strike 1 = .ok (.aload_n 0, 1) := by decide +kernel
theorem kd_G_strike_2 : decode kb_G_strike 2 = .ok (.getfield 16, 3) := by decide +kernel
theorem kd_G_strike_5 : decode kb_G_strike 5 = .ok (.if_icmp .lt 4, 3) := by decide +kernel
theorem kd_G_strike_8 : decode kb_G_strike 8 = .ok (.return_, 1) := by decide +kernel
theorem kd_G_strike_9 : decode kb_G_strike 9 = .ok (.iconst 0, 1) := by decide +kernel
theorem kd_G_strike_10 : decode kb_G_strike 10 = .ok (.istore_n 2, 1) := by decide +kernel
theorem kd_G_strike_11 : decode kb_G_strike 11 = .ok (.iload_n 2, 1) := by decide +kernel
theorem kd_G_strike_12 : decode kb_G_strike 12 = .ok (.aload_n 0, 1) := by decide +kernel
theorem kd_G_strike_13 : decode kb_G_strike 13 = .ok (.getfield 16, 3) := by decide +kernel
theorem kd_G_strike_16 : decode kb_G_strike 16 = .ok (.if_icmp .ge 27, 3) := by decide +kernel
theorem kd_G_strike_19 : decode kb_G_strike 19 = .ok (.aload_n 0, 1) := by decide +kernel
theorem kd_G_strike_20 : decode kb_G_strike 20 = .ok (.getfield 11, 3) := by decide +kernel
theorem kd_G_strike_23 : decode kb_G_strike 23 = .ok (.iload_n 1, 1) := by decide +kernel
theorem kd_G_strike_24 : decode kb_G_strike 24 = .ok (.aaload, 1) := by decide +kernel
theorem kd_G_strike_25 : decode kb_G_strike 25 = .ok (.iload_n 2, 1) := by decide +kernel
theorem kd_G_strike_26 : decode kb_G_strike 26 = .ok (.lconst 0, 1) := by decide +kernel
theorem kd_G_strike_27 : decode kb_G_strike 27 = .ok (.lastore, 1) := by decide +kernel
theorem kd_G_strike_28 : decode kb_G_strike 28 = .ok (.aload_n 0, 1) := by decide +kernel
theorem kd_G_strike_29 : decode kb_G_strike 29 = .ok (.getfield 11, 3) := by decide +kernel
theorem kd_G_strike_32 : decode kb_G_strike 32 = .ok (.iload_n 2, 1) := by decide +kernel
theorem kd_G_strike_33 : decode kb_G_strike 33 = .ok (.aaload, 1) := by decide +kernel
theorem kd_G_strike_34 : decode kb_G_strike 34 = .ok (.iload_n 1, 1) := by decide +kernel
theorem kd_G_strike_35 : decode kb_G_strike 35 = .ok (.lconst 0, 1) := by decide +kernel
theorem kd_G_strike_36 : decode kb_G_strike 36 = .ok (.lastore, 1) := by decide +kernel
theorem kd_G_strike_37 : decode kb_G_strike 37 = .ok (.iinc 2 1, 3) := by decide +kernel
theorem kd_G_strike_40 : decode kb_G_strike 40 = .ok (.goto (-29), 3) := by decide +kernel
theorem kd_G_strike_43 : decode kb_G_strike 43 = .ok (.aload_n 0, 1) := by decide +kernel
theorem kd_G_strike_44 : decode kb_G_strike 44 = .ok (.getfield 11, 3) := by decide +kernel
theorem kd_G_strike_47 : decode kb_G_strike 47 = .ok (.iload_n 1, 1) := by decide +kernel
theorem kd_G_strike_48 : decode kb_G_strike 48 = .ok (.aaload, 1) := by decide +kernel
theorem kd_G_strike_49 : decode kb_G_strike 49 = .ok (.iload_n 1, 1) := by decide +kernel
theorem kd_G_strike_50 : decode kb_G_strike 50 = .ok (.lconst 1, 1) := by decide +kernel
theorem kd_G_strike_51 : decode kb_G_strike 51 = .ok (.lastore, 1) := by decide +kernel
theorem kd_G_strike_52 : decode kb_G_strike 52 = .ok (.return_, 1) := by decide +kernel
theorem kd_G_swapRows_0 : decode kb_G_swapRows 0 = .ok (.aload_n 0, 1) := by decide +kernel
theorem kd_G_swapRows_1 : decode kb_G_swapRows 1 = .ok (.getfield 11, 3) := by decide +kernel
theorem kd_G_swapRows_4 : decode kb_G_swapRows 4 = .ok (.iload_n 1, 1) := by decide +kernel
theorem kd_G_swapRows_5 : decode kb_G_swapRows 5 = .ok (.aaload, 1) := by decide +kernel
theorem kd_G_swapRows_6 : decode kb_G_swapRows 6 = .ok (.astore_n 3, 1) := by decide +kernel
theorem kd_G_swapRows_7 : decode kb_G_swapRows 7 = .ok (.aload_n 0, 1) := by decide +kernel
theorem kd_G_swapRows_8 : decode kb_G_swapRows 8 = .ok (.getfield 11, 3) := by decide +kernel
theorem kd_G_swapRows_11 : decode kb_G_swapRows 11 = .ok (.iload_n 1, 1) := by decide +kernel
theorem kd_G_swapRows_12 : decode kb_G_swapRows 12 = .ok (.aload_n 0, 1) := by decide +kernel
theorem kd_G_swapRows_13 : decode kb_G_swapRows 13 = .ok (.getfield 11, 3) := by decide +kernel
theorem kd_G_swapRows_16 : decode kb_G_swapRows 16 = .ok (.iload_n 2, 1) := by decide +kernel
theorem kd_G_swapRows_17 : decode kb_G_swapRows 17 = .ok (.aaload, 1) := by decide +kernel
theorem kd_G_swapRows_18 : decode kb_G_swapRows 18 = .ok (.aastore, 1) := by decide +kernel
theorem kd_G_swapRows_19 : decode kb_G_swapRows 19 = .ok (.aload_n 0, 1) := by decide +kernel
theorem kd_G_swapRows_20 : decode kb_G_swapRows 20 = .ok (.getfield 11, 3) := by decide +kernel
theorem kd_G_swapRows_23 : decode kb_G_swapRows 23 = .ok (.iload_n 2, 1) := by decide +kernel
theorem kd_G_swapRows_24 : decode kb_G_swapRows 24 = .ok (.aload_n 3, 1) := by decide +kernel
theorem kd_G_swapRows_25 : decode kb_G_swapRows 25 = .ok (.aastore, 1) := by decide +kernel
theorem kd_G_swapRows_26 : decode kb_G_swapRows 26 = .ok (.return_, 1) := by decide +kernel
theorem kd_G_determinant_0 : decode kb_G_determinant 0 = .ok (.lconst 1, 1) := by decide +kernel
theorem kd_G_determinant_1 : decode kb_G_determinant 1 = .ok (.lstore_n 1, 1) := by decide +kernel
theorem kd_G_determinant_2 : decode kb_G_determinant 2 = .ok (.iconst 0, 1) := by decide +kernel
theorem kd_G_determinant_3 : decode kb_G_determinant 3 = .ok (.istore_n 3, 1) := by decide +kernel
theorem kd_G_determinant_4 : decode kb_G_determinant 4 = .ok (.iload_n 3, 1) := by decide +kernel
theorem kd_G_determinant_5 : decode kb_G_determinant 5 = .ok (.aload_n 0, 1) := by decide +kernel
theorem kd_G_determinant_6 : decode kb_G_determinant 6 = .ok (.getfield 16, 3) := by decide +kernel
theorem kd_G_determinant_9 : decode kb_G_determinant 9 = .ok (.if_icmp .ge 64, 3) := by decide +kernel
theorem kd_G_determinant_12 : decode kb_G_determinant 12 = .ok (.aload_n 0, 1) := by decide +kernel
theorem kd_G_determinant_13 : decode kb_G_determinant 13 = .ok (.iload_n 3, 1) := by decide +kernel
theorem kd_G_determinant_14 : decode kb_G_determinant 14 = .ok (.invokevirtual 49, 3) := by decide +kernel
theorem kd_G_determinant_17 : decode kb_G_determinant 17 = .ok (.istore 4, 2) := by decide +kernel
theorem kd_G_determinant_19 : decode kb_G_determinant 19 = .ok (.aload_n 0, 1) := by decide +kernel
theorem kd_G_determinant_20 : decode kb_G_determinant 20 = .ok (.getfield 11, 3) := by decide +kernel
theorem kd_G_determinant_23 : decode kb_G_determinant 23 = .ok (.iload 4, 2) := by decide +kernel
theorem kd_G_determinant_25 : decode kb_G_determinant 25 = .ok (.aaload, 1) := by decide +kernel
theorem kd_G_determinant_26 : decode kb_G_determinant 26 = .ok (.iload_n 3, 1) := by decide +kernel
theorem kd_G_determinant_27 : decode kb_G_determinant 27 = .ok (.laload, 1) := by decide +kernel
theorem kd_G_determinant_28 : decode kb_G_determinant 28 = .ok (.lconst 0, 1) := by decide +kernel
theorem kd_G_determinant_29 : decode kb_G_determinant 29 = .ok (.lcmp, 1) := by decide +kernel
theorem kd_G_determinant_30 : decode kb_G_determinant 30 = .ok (.ifCond .ne 5, 3) := by decide +kernel
theorem kd_G_determinant_33 : decode kb_G_determinant 33 = .ok (.lconst 0, 1) := by decide +kernel
theorem kd_G_determinant_34 : decode kb_G_determinant 34 = .ok (.lreturn, 1) := by decide +kernel
theorem kd_G_determinant_35 : decode kb_G_determinant 35 = .ok (.iload 4, 2) := by decide +kernel
theorem kd_G_determinant_37 : decode kb_G_determinant 37 = .ok (.iload_n 3, 1) := by decide +kernel
theorem kd_G_determinant_38 : decode kb_G_determinant 38 = .ok (.if_icmp .eq 13, 3) := by decide +kernel
theorem kd_G_determinant_41 : decode kb_G_determinant 41 = .ok (.aload_n 0, 1) := by decide +kernel
theorem kd_G_determinant_42 : decode kb_G_determinant 42 = .ok (.iload 4, 2) := by decide +kernel
theorem kd_G_determinant_44 : decode kb_G_determinant 44 = .ok (.iload_n 3, 1) := by decide +kernel
theorem kd_G_determinant_45 : decode kb_G_determinant 45 = .ok (.invokevirtual 53, 3) := by decide +kernel
theorem kd_G_determinant_48 : decode kb_G_determinant 48 = .ok (.lload_n 1, 1) := by decide +kernel
theorem kd_G_determinant_49 : decode kb_G_determinant 49 = .ok (.lneg, 1) := by decide +kernel
theorem kd_G_determinant_50 : decode kb_G_determinant 50 = .ok (.lstore_n 1, 1) := by decide +kernel
theorem kd_G_determinant_51 : decode kb_G_determinant 51 = .ok (.lload_n 1, 1) := by decide +kernel
theorem kd_G_determinant_52 : decode kb_G_determinant 52 = .ok (.aload_n 0, 1) := by decide +kernel
theorem kd_G_determinant_53 : decode kb_G_determinant 53 = .ok (.getfield 11, 3) := by decide +kernel
theorem kd_G_determinant_56 : decode kb_G_determinant 56 = .ok (.iload_n 3, 1) := by decide +kernel
theorem kd_G_determinant_57 : decode kb_G_determinant 57 = .ok (.aaload, 1) := by decide +kernel
theorem kd_G_determinant_58 : decode kb_G_determinant 58 = .ok (.iload_n 3, 1) := by decide +kernel
theorem kd_G_determinant_59 : decode kb_G_determinant 59 = .ok (.laload, 1) := by decide +kernel
theorem kd_G_determinant_60 : decode kb_G_determinant 60 = .ok (.lmul, 1) := by decide +kernel
theorem kd_G_determinant_61 : decode kb_G_determinant 61 = .ok (.lstore_n 1, 1) := by decide +kernel
theorem kd_G_determinant_62 : decode kb_G_determinant 62 = .ok (.aload_n 0, 1) := by decide +kernel
theorem kd_G_determinant_63 : decode kb_G_determinant 63 = .ok (.iload_n 3, 1) := by decide +kernel
theorem kd_G_determinant_64 : decode kb_G_determinant 64 = .ok (.invokevirtual 57, 3) := by decide +kernel
theorem kd_G_determinant_67 : decode kb_G_determinant 67 = .ok (.iinc 3 1, 3) := by decide +kernel
theorem kd_G_determinant_70 : decode kb_G_determinant 70 = .ok (.goto (-66), 3) := by decide +kernel
theorem kd_G_determinant_73 : decode kb_G_determinant 73 = .ok (.lload_n 1, 1) := by decide +kernel
theorem kd_G_determinant_74 : decode kb_G_determinant 74 = .ok (.lreturn, 1) := by decide +kernel
theorem kd_G_rowWithLowestBit_0 : decode kb_G_rowWithLowestBit 0 = .ok (.iload_n 1, 1) := by decide +kernel
theorem kd_G_rowWithLowestBit_1 : decode kb_G_rowWithLowestBit 1 = .ok (.istore_n 2, 1) := by decide +kernel
theorem kd_G_rowWithLowestBit_2 : decode kb_G_rowWithLowestBit 2 = .ok (.aload_n 0, 1) := by decide +kernel
theorem kd_G_rowWithLowestBit_3 : decode kb_G_rowWithLowestBit 3 = .ok (.getfield 11, 3) := by decide +kernel
theorem kd_G_rowWithLowestBit_6 : decode kb_G_rowWithLowestBit 6 = .ok (.iload_n 1, 1) := by decide +kernel
theorem kd_G_rowWithLowestBit_7 : decode kb_G_rowWithLowestBit 7 = .ok (.aaload, 1) := by decide +kernel
theorem kd_G_rowWithLowestBit_8 : decode kb_G_rowWithLowestBit 8 = .ok (.iload_n 1, 1) := by decide +kernel
theorem kd_G_rowWithLowestBit_9 : decode kb_G_rowWithLowestBit 9 = .ok (.laload, 1) := by decide +kernel
theorem kd_G_rowWithLowestBit_10 : decode kb_G_rowWithLowestBit 10 = .ok (.invokestatic 60, 3) := by decide +kernel
theorem kd_G_rowWithLowestBit_13 : decode kb_G_rowWithLowestBit 13 = .ok (.istore_n 3, 1) := by decide +kernel
theorem kd_G_rowWithLowestBit_14 : decode kb_G_rowWithLowestBit 14 = .ok (.iload_n 1, 1) := by decide +kernel
theorem kd_G_rowWithLowestBit_15 : decode kb_G_rowWithLowestBit 15 = .ok (.iconst 1, 1) := by decide +kernel
theorem kd_G_rowWithLowestBit_16 : decode kb_G_rowWithLowestBit 16 = .ok (.iadd, 1) := by decide +kernel
theorem kd_G_rowWithLowestBit_17 : decode kb_G_rowWithLowestBit 17 = .ok (.istore 4, 2) := by decide +kernel
theorem kd_G_rowWithLowestBit_19 : decode kb_G_rowWithLowestBit 19 = .ok (.iload 4, 2) := by decide +kernel
theorem kd_G_rowWithLowestBit_21 : decode kb_G_rowWithLowestBit 21 = .ok (.aload_n 0, 1) := by decide +kernel
theorem kd_G_rowWithLowestBit_22 : decode kb_G_rowWithLowestBit 22 = .ok (.getfield 16, 3) := by decide +kernel
theorem kd_G_rowWithLowestBit_25 : decode kb_G_rowWithLowestBit 25 = .ok (.if_icmp .ge 39, 3) := by decide +kernel
theorem kd_G_rowWithLowestBit_28 : decode kb_G_rowWithLowestBit 28 = .ok (.iload_n 3, 1) := by decide +kernel
theorem kd_G_rowWithLowestBit_29 : decode kb_G_rowWithLowestBit 29 = .ok (.ifCond .le 35, 3) := by decide +kernel
theorem kd_G_rowWithLowestBit_32 : decode kb_G_rowWithLowestBit 32 = .ok (.aload_n 0, 1) := by decide +kernel
theorem kd_G_rowWithLowestBit_33 : decode kb_G_rowWithLowestBit 33 = .ok (.getfield 11, 3) := by decide +kernel
theorem kd_G_rowWithLowestBit_36 : decode kb_G_rowWithLowestBit 36 = .ok (.iload 4, 2) := by decide +kernel
theorem kd_G_rowWithLowestBit_38 : decode kb_G_rowWithLowestBit 38 = .ok (.aaload, 1) := by decide +kernel
theorem kd_G_rowWithLowestBit_39 : decode kb_G_rowWithLowestBit 39 = .ok (.iload_n 1, 1) := by decide +kernel
theorem kd_G_rowWithLowestBit_40 : decode kb_G_rowWithLowestBit 40 = .ok (.laload, 1) := by decide +kernel
theorem kd_G_rowWithLowestBit_41 : decode kb_G_rowWithLowestBit 41 = .ok (.invokestatic 60, 3) := by decide +kernel
theorem kd_G_rowWithLowestBit_44 : decode kb_G_rowWithLowestBit 44 = .ok (.istore 5, 2) := by decide +kernel
theorem kd_G_rowWithLowestBit_46 : decode kb_G_rowWithLowestBit 46 = .ok (.iload 5, 2) := by decide +kernel
theorem kd_G_rowWithLowestBit_48 : decode kb_G_rowWithLowestBit 48 = .ok (.iload_n 3, 1) := by decide +kernel
theorem kd_G_rowWithLowestBit_49 : decode kb_G_rowWithLowestBit 49 = .ok (.if_icmp .ge 9, 3) := by decide +kernel
theorem kd_G_rowWithLowestBit_52 : decode kb_G_rowWithLowestBit 52 = .ok (.iload 4, 2) := by decide +kernel
theorem kd_G_rowWithLowestBit_54 : decode kb_G_rowWithLowestBit 54 = .ok (.istore_n 2, 1) := by decide +kernel
theorem kd_G_rowWithLowestBit_55 : decode kb_G_rowWithLowestBit 55 = .ok (.iload 5, 2) := by decide +kernel
theorem kd_G_rowWithLowestBit_57 : decode kb_G_rowWithLowestBit 57 = .ok (.istore_n 3, 1) := by decide +kernel
theorem kd_G_rowWithLowestBit_58 : decode kb_G_rowWithLowestBit 58 = .ok (.iinc 4 1, 3) := by decide +kernel
theorem kd_G_rowWithLowestBit_61 : decode kb_G_rowWithLowestBit 61 = .ok (.goto (-42), 3) := by decide +kernel
theorem kd_G_rowWithLowestBit_64 : decode kb_G_rowWithLowestBit 64 = .ok (.iload_n 2, 1) := by decide +kernel
theorem kd_G_rowWithLowestBit_65 : decode kb_G_rowWithLowestBit 65 = .ok (.ireturn, 1) := by decide +kernel
theorem kd_G_clearBelow_0 : decode kb_G_clearBelow 0 = .ok (.aload_n 0, 1) := by decide +kernel
theorem kd_G_clearBelow_1 : decode kb_G_clearBelow 1 = .ok (.getfield 11, 3) := by decide +kernel
theorem kd_G_clearBelow_4 : decode kb_G_clearBelow 4 = .ok (.iload_n 1, 1) := by decide +kernel
theorem kd_G_clearBelow_5 : decode kb_G_clearBelow 5 = .ok (.aaload, 1) := by decide +kernel
theorem kd_G_clearBelow_6 : decode kb_G_clearBelow 6 = .ok (.iload_n 1, 1) := by decide +kernel
theorem kd_G_clearBelow_7 : decode kb_G_clearBelow 7 = .ok (.laload, 1) := by decide +kernel
theorem kd_G_clearBelow_8 : decode kb_G_clearBelow 8 = .ok (.invokestatic 60, 3) := by decide +kernel
theorem kd_G_clearBelow_11 : decode kb_G_clearBelow 11 = .ok (.istore_n 2, 1) := by decide +kernel
theorem kd_G_clearBelow_12 : decode kb_G_clearBelow 12 = .ok (.aload_n 0, 1) := by decide +kernel
theorem kd_G_clearBelow_13 : decode kb_G_clearBelow 13 = .ok (.getfield 11, 3) := by decide +kernel
theorem kd_G_clearBelow_16 : decode kb_G_clearBelow 16 = .ok (.iload_n 1, 1) := by decide +kernel
theorem kd_G_clearBelow_17 : decode kb_G_clearBelow 17 = .ok (.aaload, 1) := by decide +kernel
theorem kd_G_clearBelow_18 : decode kb_G_clearBelow 18 = .ok (.iload_n 1, 1) := by decide +kernel
theorem kd_G_clearBelow_19 : decode kb_G_clearBelow 19 = .ok (.laload, 1) := by decide +kernel
theorem kd_G_clearBelow_20 : decode kb_G_clearBelow 20 = .ok (.iload_n 2, 1) := by decide +kernel
theorem kd_G_clearBelow_21 : decode kb_G_clearBelow 21 = .ok (.lshr, 1) := by decide +kernel
theorem kd_G_clearBelow_22 : decode kb_G_clearBelow 22 = .ok (.invokestatic 64, 3) := by decide +kernel
theorem kd_G_clearBelow_25 : decode kb_G_clearBelow 25 = .ok (.lstore_n 3, 1) := by decide +kernel
theorem kd_G_clearBelow_26 : decode kb_G_clearBelow 26 = .ok (.iload_n 1, 1) := by decide +kernel
theorem kd_G_clearBelow_27 : decode kb_G_clearBelow 27 = .ok (.iconst 1, 1) := by decide +kernel
theorem kd_G_clearBelow_28 : decode kb_G_clearBelow 28 = .ok (.iadd, 1) := by decide +kernel
theorem kd_G_clearBelow_29 : decode kb_G_clearBelow 29 = .ok (.istore 5, 2) := by decide +kernel
theorem kd_G_clearBelow_31 : decode kb_G_clearBelow 31 = .ok (.iload 5, 2) := by decide +kernel
theorem kd_G_clearBelow_33 : decode kb_G_clearBelow 33 = .ok (.aload_n 0, 1) := by decide +kernel
theorem kd_G_clearBelow_34 : decode kb_G_clearBelow 34 = .ok (.getfield 16, 3) := by decide +kernel
theorem kd_G_clearBelow_37 : decode kb_G_clearBelow 37 = .ok (.if_icmp .ge 81, 3) := by decide +kernel
theorem kd_G_clearBelow_40 : decode kb_G_clearBelow 40 = .ok (.aload_n 0, 1) := by decide +kernel
theorem kd_G_clearBelow_41 : decode kb_G_clearBelow 41 = .ok (.getfield 11, 3) := by decide +kernel
theorem kd_G_clearBelow_44 : decode kb_G_clearBelow 44 = .ok (.iload 5, 2) := by decide +kernel
theorem kd_G_clearBelow_46 : decode kb_G_clearBelow 46 = .ok (.aaload, 1) := by decide +kernel
theorem kd_G_clearBelow_47 : decode kb_G_clearBelow 47 = .ok (.iload_n 1, 1) := by decide +kernel
theorem kd_G_clearBelow_48 : decode kb_G_clearBelow 48 = .ok (.laload, 1) := by decide +kernel
theorem kd_G_clearBelow_49 : decode kb_G_clearBelow 49 = .ok (.lconst 0, 1) := by decide +kernel
theorem kd_G_clearBelow_50 : decode kb_G_clearBelow 50 = .ok (.lcmp, 1) := by decide +kernel
theorem kd_G_clearBelow_51 : decode kb_G_clearBelow 51 = .ok (.ifCond .eq 61, 3) := by decide +kernel
theorem kd_G_clearBelow_54 : decode kb_G_clearBelow 54 = .ok (.aload_n 0, 1) := by decide +kernel
theorem kd_G_clearBelow_55 : decode kb_G_clearBelow 55 = .ok (.getfield 11, 3) := by decide +kernel
theorem kd_G_clearBelow_58 : decode kb_G_clearBelow 58 = .ok (.iload 5, 2) := by decide +kernel
theorem kd_G_clearBelow_60 : decode kb_G_clearBelow 60 = .ok (.aaload, 1) := by decide +kernel
theorem kd_G_clearBelow_61 : decode kb_G_clearBelow 61 = .ok (.iload_n 1, 1) := by decide +kernel
theorem kd_G_clearBelow_62 : decode kb_G_clearBelow 62 = .ok (.laload, 1) := by decide +kernel
theorem kd_G_clearBelow_63 : decode kb_G_clearBelow 63 = .ok (.iload_n 2, 1) := by decide +kernel
theorem kd_G_clearBelow_64 : decode kb_G_clearBelow 64 = .ok (.lshr, 1) := by decide +kernel
theorem kd_G_clearBelow_65 : decode kb_G_clearBelow 65 = .ok (.lload_n 3, 1) := by decide +kernel
theorem kd_G_clearBelow_66 : decode kb_G_clearBelow 66 = .ok (.lmul, 1) := by decide +kernel
theorem kd_G_clearBelow_67 : decode kb_G_clearBelow 67 = .ok (.lstore 6, 2) := by decide +kernel
theorem kd_G_clearBelow_69 : decode kb_G_clearBelow 69 = .ok (.iload_n 1, 1) := by decide +kernel
theorem kd_G_clearBelow_70 : decode kb_G_clearBelow 70 = .ok (.istore 8, 2) := by decide +kernel
theorem kd_G_clearBelow_72 : decode kb_G_clearBelow 72 = .ok (.iload 8, 2) := by decide +kernel
theorem kd_G_clearBelow_74 : decode kb_G_clearBelow 74 = .ok (.aload_n 0, 1) := by decide +kernel
theorem kd_G_clearBelow_75 : decode kb_G_clearBelow 75 = .ok (.getfield 16, 3) := by decide +kernel
theorem kd_G_clearBelow_78 : decode kb_G_clearBelow 78 = .ok (.if_icmp .ge 34, 3) := by decide +kernel
theorem kd_G_clearBelow_81 : decode kb_G_clearBelow 81 = .ok (.aload_n 0, 1) := by decide +kernel
theorem kd_G_clearBelow_82 : decode kb_G_clearBelow 82 = .ok (.getfield 11, 3) := by decide +kernel
theorem kd_G_clearBelow_85 : decode kb_G_clearBelow 85 = .ok (.iload 5, 2) := by decide +kernel
theorem kd_G_clearBelow_87 : decode kb_G_clearBelow 87 = .ok (.aaload, 1) := by decide +kernel
theorem kd_G_clearBelow_88 : decode kb_G_clearBelow 88 = .ok (.iload 8, 2) := by decide +kernel
theorem kd_G_clearBelow_90 : decode kb_G_clearBelow 90 = .ok (.dup2, 1) := by decide +kernel
theorem kd_G_clearBelow_91 : decode kb_G_clearBelow 91 = .ok (.laload, 1) := by decide +kernel
theorem kd_G_clearBelow_92 : decode kb_G_clearBelow 92 = .ok (.lload 6, 2) := by decide +kernel
theorem kd_G_clearBelow_94 : decode kb_G_clearBelow 94 = .ok (.aload_n 0, 1) := by decide +kernel
theorem kd_G_clearBelow_95 : decode kb_G_clearBelow 95 = .ok (.getfield 11, 3) := by decide +kernel
theorem kd_G_clearBelow_98 : decode kb_G_clearBelow 98 = .ok (.iload_n 1, 1) := by decide +kernel
theorem kd_G_clearBelow_99 : decode kb_G_clearBelow 99 = .ok (.aaload, 1) := by decide +kernel
theorem kd_G_clearBelow_100 : decode kb_G_clearBelow 100 = .ok (.iload 8, 2) := by decide +kernel
theorem kd_G_clearBelow_102 : decode kb_G_clearBelow 102 = .ok (.laload, 1) := by decide +kernel
theorem kd_G_clearBelow_103 : decode kb_G_clearBelow 103 = .ok (.lmul, 1) := by decide +kernel
theorem kd_G_clearBelow_104 : decode kb_G_clearBelow 104 = .ok (.lsub, 1) := by decide +kernel
theorem kd_G_clearBelow_105 : decode kb_G_clearBelow 105 = .ok (.lastore, 1) := by decide +kernel
theorem kd_G_clearBelow_106 : decode kb_G_clearBelow 106 = .ok (.iinc 8 1, 3) := by decide +kernel
theorem kd_G_clearBelow_109 : decode kb_G_clearBelow 109 = .ok (.goto (-37), 3) := by decide +kernel
theorem kd_G_clearBelow_112 : decode kb_G_clearBelow 112 = .ok (.iinc 5 1, 3) := by decide +kernel
theorem kd_G_clearBelow_115 : decode kb_G_clearBelow 115 = .ok (.goto (-84), 3) := by decide +kernel
theorem kd_G_clearBelow_118 : decode kb_G_clearBelow 118 = .ok (.return_, 1) := by decide +kernel
theorem kd_G_twos_0 : decode kb_G_twos 0 = .ok (.lload_n 0, 1) := by decide +kernel
theorem kd_G_twos_1 : decode kb_G_twos 1 = .ok (.lconst 0, 1) := by decide +kernel
theorem kd_G_twos_2 : decode kb_G_twos 2 = .ok (.lcmp, 1) := by decide +kernel
theorem kd_G_twos_3 : decode kb_G_twos 3 = .ok (.ifCond .ne 6, 3) := by decide +kernel
theorem kd_G_twos_6 : decode kb_G_twos 6 = .ok (.bipush 64, 2) := by decide +kernel
theorem kd_G_twos_8 : decode kb_G_twos 8 = .ok (.ireturn, 1) := by decide +kernel
theorem kd_G_twos_9 : decode kb_G_twos 9 = .ok (.iconst 0, 1) := by decide +kernel
theorem kd_G_twos_10 : decode kb_G_twos 10 = .ok (.istore_n 2, 1) := by decide +kernel
theorem kd_G_twos_11 : decode kb_G_twos 11 = .ok (.iload_n 2, 1) := by decide +kernel
theorem kd_G_twos_12 : decode kb_G_twos 12 = .ok (.bipush 63, 2) := by decide +kernel
theorem kd_G_twos_14 : decode kb_G_twos 14 = .ok (.if_icmp .ge 19, 3) := by decide +kernel
theorem kd_G_twos_17 : decode kb_G_twos 17 = .ok (.lload_n 0, 1) := by decide +kernel
theorem kd_G_twos_18 : decode kb_G_twos 18 = .ok (.iload_n 2, 1) := by decide +kernel
theorem kd_G_twos_19 : decode kb_G_twos 19 = .ok (.lshr, 1) := by decide +kernel
theorem kd_G_twos_20 : decode kb_G_twos 20 = .ok (.lconst 1, 1) := by decide +kernel
theorem kd_G_twos_21 : decode kb_G_twos 21 = .ok (.land, 1) := by decide +kernel
theorem kd_G_twos_22 : decode kb_G_twos 22 = .ok (.lconst 0, 1) := by decide +kernel
theorem kd_G_twos_23 : decode kb_G_twos 23 = .ok (.lcmp, 1) := by decide +kernel
theorem kd_G_twos_24 : decode kb_G_twos 24 = .ok (.ifCond .ne 9, 3) := by decide +kernel
theorem kd_G_twos_27 : decode kb_G_twos 27 = .ok (.iinc 2 1, 3) := by decide +kernel
theorem kd_G_twos_30 : decode kb_G_twos 30 = .ok (.goto (-19), 3) := by decide +kernel
theorem kd_G_twos_33 : decode kb_G_twos 33 = .ok (.iload_n 2, 1) := by decide +kernel
theorem kd_G_twos_34 : decode kb_G_twos 34 = .ok (.ireturn, 1) := by decide +kernel
theorem kd_G_inverseOfOdd_0 : decode kb_G_inverseOfOdd 0 = .ok (.lload_n 0, 1) := by decide +kernel
theorem kd_G_inverseOfOdd_1 : decode kb_G_inverseOfOdd 1 = .ok (.lstore_n 2, 1) := by decide +kernel
theorem kd_G_inverseOfOdd_2 : decode kb_G_inverseOfOdd 2 = .ok (.iconst 3, 1) := by decide +kernel
theorem kd_G_inverseOfOdd_3 : decode kb_G_inverseOfOdd 3 = .ok (.istore 4, 2) := by decide +kernel
theorem kd_G_inverseOfOdd_5 : decode kb_G_inverseOfOdd 5 = .ok (.iload 4, 2) := by decide +kernel
theorem kd_G_inverseOfOdd_7 : decode kb_G_inverseOfOdd 7 = .ok (.bipush 64, 2) := by decide +kernel
theorem kd_G_inverseOfOdd_9 : decode kb_G_inverseOfOdd 9 = .ok (.if_icmp .ge 22, 3) := by decide +kernel
theorem kd_G_inverseOfOdd_12 : decode kb_G_inverseOfOdd 12 = .ok (.lload_n 2, 1) := by decide +kernel
theorem kd_G_inverseOfOdd_13 : decode kb_G_inverseOfOdd 13 = .ok (.ldc2_w 68, 3) := by decide +kernel
theorem kd_G_inverseOfOdd_16 : decode kb_G_inverseOfOdd 16 = .ok (.lload_n 0, 1) := by decide +kernel
theorem kd_G_inverseOfOdd_17 : decode kb_G_inverseOfOdd 17 = .ok (.lload_n 2, 1) := by decide +kernel
theorem kd_G_inverseOfOdd_18 : decode kb_G_inverseOfOdd 18 = .ok (.lmul, 1) := by decide +kernel
theorem kd_G_inverseOfOdd_19 : decode kb_G_inverseOfOdd 19 = .ok (.lsub, 1) := by decide +kernel
theorem kd_G_inverseOfOdd_20 : decode kb_G_inverseOfOdd 20 = .ok (.lmul, 1) := by decide +kernel
theorem kd_G_inverseOfOdd_21 : decode kb_G_inverseOfOdd 21 = .ok (.lstore_n 2, 1) := by decide +kernel
theorem kd_G_inverseOfOdd_22 : decode kb_G_inverseOfOdd 22 = .ok (.iload 4, 2) := by decide +kernel
theorem kd_G_inverseOfOdd_24 : decode kb_G_inverseOfOdd 24 = .ok (.iconst 2, 1) := by decide +kernel
theorem kd_G_inverseOfOdd_25 : decode kb_G_inverseOfOdd 25 = .ok (.imul, 1) := by decide +kernel
theorem kd_G_inverseOfOdd_26 : decode kb_G_inverseOfOdd 26 = .ok (.istore 4, 2) := by decide +kernel
theorem kd_G_inverseOfOdd_28 : decode kb_G_inverseOfOdd 28 = .ok (.goto (-23), 3) := by decide +kernel
theorem kd_G_inverseOfOdd_31 : decode kb_G_inverseOfOdd 31 = .ok (.lload_n 2, 1) := by decide +kernel
theorem kd_G_inverseOfOdd_32 : decode kb_G_inverseOfOdd 32 = .ok (.lreturn, 1) := by decide +kernel
theorem kd_T_init_0 : decode kb_T_init 0 = .ok (.aload_n 0, 1) := by decide +kernel
theorem kd_T_init_1 : decode kb_T_init 1 = .ok (.invokespecial 3, 3) := by decide +kernel
theorem kd_T_init_4 : decode kb_T_init 4 = .ok (.aload_n 0, 1) := by decide +kernel
theorem kd_T_init_5 : decode kb_T_init 5 = .ok (.aload_n 1, 1) := by decide +kernel
theorem kd_T_init_6 : decode kb_T_init 6 = .ok (.putfield 9, 3) := by decide +kernel
theorem kd_T_init_9 : decode kb_T_init 9 = .ok (.aload_n 0, 1) := by decide +kernel
theorem kd_T_init_10 : decode kb_T_init 10 = .ok (.aload_n 2, 1) := by decide +kernel
theorem kd_T_init_11 : decode kb_T_init 11 = .ok (.putfield 15, 3) := by decide +kernel
theorem kd_T_init_14 : decode kb_T_init 14 = .ok (.aload_n 0, 1) := by decide +kernel
theorem kd_T_init_15 : decode kb_T_init 15 = .ok (.aload_n 3, 1) := by decide +kernel
theorem kd_T_init_16 : decode kb_T_init 16 = .ok (.putfield 19, 3) := by decide +kernel
theorem kd_T_init_19 : decode kb_T_init 19 = .ok (.return_, 1) := by decide +kernel
theorem kd_T_sumOfAll_0 : decode kb_T_sumOfAll 0 = .ok (.aload_n 0, 1) := by decide +kernel
theorem kd_T_sumOfAll_1 : decode kb_T_sumOfAll 1 = .ok (.getfield 15, 3) := by decide +kernel
theorem kd_T_sumOfAll_4 : decode kb_T_sumOfAll 4 = .ok (.aload_n 0, 1) := by decide +kernel
theorem kd_T_sumOfAll_5 : decode kb_T_sumOfAll 5 = .ok (.getfield 9, 3) := by decide +kernel
theorem kd_T_sumOfAll_8 : decode kb_T_sumOfAll 8 = .ok (.getfield 23, 3) := by decide +kernel
theorem kd_T_sumOfAll_11 : decode kb_T_sumOfAll 11 = .ok (.invokevirtual 29, 3) := by decide +kernel
theorem kd_T_sumOfAll_14 : decode kb_T_sumOfAll 14 = .ok (.aload_n 0, 1) := by decide +kernel
theorem kd_T_sumOfAll_15 : decode kb_T_sumOfAll 15 = .ok (.iconst 0, 1) := by decide +kernel
theorem kd_T_sumOfAll_16 : decode kb_T_sumOfAll 16 = .ok (.invokevirtual 35, 3) := by decide +kernel
theorem kd_T_sumOfAll_19 : decode kb_T_sumOfAll 19 = .ok (.lreturn, 1) := by decide +kernel
theorem kd_T_sumOverParts_0 : decode kb_T_sumOverParts 0 = .ok (.aload_n 0, 1) := by decide +kernel
theorem kd_T_sumOverParts_1 : decode kb_T_sumOverParts 1 = .ok (.getfield 15, 3) := by decide +kernel
theorem kd_T_sumOverParts_4 : decode kb_T_sumOverParts 4 = .ok (.getfield 39, 3) := by decide +kernel
theorem kd_T_sumOverParts_7 : decode kb_T_sumOverParts 7 = .ok (.ifCond .ne 5, 3) := by decide +kernel
theorem kd_T_sumOverParts_10 : decode kb_T_sumOverParts 10 = .ok (.lconst 0, 1) := by decide +kernel
theorem kd_T_sumOverParts_11 : decode kb_T_sumOverParts 11 = .ok (.lreturn, 1) := by decide +kernel
theorem kd_T_sumOverParts_12 : decode kb_T_sumOverParts 12 = .ok (.aload_n 0, 1) := by decide +kernel
theorem kd_T_sumOverParts_13 : decode kb_T_sumOverParts 13 = .ok (.getfield 19, 3) := by decide +kernel
theorem kd_T_sumOverParts_16 : decode kb_T_sumOverParts 16 = .ok (.aload_n 0, 1) := by decide +kernel
theorem kd_T_sumOverParts_17 : decode kb_T_sumOverParts 17 = .ok (.getfield 15, 3) := by decide +kernel
theorem kd_T_sumOverParts_20 : decode kb_T_sumOverParts 20 = .ok (.getfield 39, 3) := by decide +kernel
theorem kd_T_sumOverParts_23 : decode kb_T_sumOverParts 23 = .ok (.invokevirtual 42, 3) := by decide +kernel
theorem kd_T_sumOverParts_26 : decode kb_T_sumOverParts 26 = .ok (.iload_n 1, 1) := by decide +kernel
theorem kd_T_sumOverParts_27 : decode kb_T_sumOverParts 27 = .ok (.istore_n 2, 1) := by decide +kernel
theorem kd_T_sumOverParts_28 : decode kb_T_sumOverParts 28 = .ok (.iload_n 2, 1) := by decide +kernel
theorem kd_T_sumOverParts_29 : decode kb_T_sumOverParts 29 = .ok (.aload_n 0, 1) := by decide +kernel
theorem kd_T_sumOverParts_30 : decode kb_T_sumOverParts 30 = .ok (.getfield 9, 3) := by decide +kernel
theorem kd_T_sumOverParts_33 : decode kb_T_sumOverParts 33 = .ok (.getfield 47, 3) := by decide +kernel
theorem kd_T_sumOverParts_36 : decode kb_T_sumOverParts 36 = .ok (.if_icmp .ge 59, 3) := by decide +kernel
theorem kd_T_sumOverParts_39 : decode kb_T_sumOverParts 39 = .ok (.aload_n 0, 1) := by decide +kernel
theorem kd_T_sumOverParts_40 : decode kb_T_sumOverParts 40 = .ok (.getfield 19, 3) := by decide +kernel
theorem kd_T_sumOverParts_43 : decode kb_T_sumOverParts 43 = .ok (.aload_n 0, 1) := by decide +kernel
theorem kd_T_sumOverParts_44 : decode kb_T_sumOverParts 44 = .ok (.getfield 15, 3) := by decide +kernel
theorem kd_T_sumOverParts_47 : decode kb_T_sumOverParts 47 = .ok (.getfield 50, 3) := by decide +kernel
theorem kd_T_sumOverParts_50 : decode kb_T_sumOverParts 50 = .ok (.aload_n 0, 1) := by decide +kernel
theorem kd_T_sumOverParts_51 : decode kb_T_sumOverParts 51 = .ok (.getfield 9, 3) := by decide +kernel
theorem kd_T_sumOverParts_54 : decode kb_T_sumOverParts 54 = .ok (.getfield 54, 3) := by decide +kernel
theorem kd_T_sumOverParts_57 : decode kb_T_sumOverParts 57 = .ok (.iload_n 2, 1) := by decide +kernel
theorem kd_T_sumOverParts_58 : decode kb_T_sumOverParts 58 = .ok (.iaload, 1) := by decide +kernel
theorem kd_T_sumOverParts_59 : decode kb_T_sumOverParts 59 = .ok (.iaload, 1) := by decide +kernel
theorem kd_T_sumOverParts_60 : decode kb_T_sumOverParts 60 = .ok (.aload_n 0, 1) := by decide +kernel
theorem kd_T_sumOverParts_61 : decode kb_T_sumOverParts 61 = .ok (.getfield 15, 3) := by decide +kernel
theorem kd_T_sumOverParts_64 : decode kb_T_sumOverParts 64 = .ok (.getfield 50, 3) := by decide +kernel
theorem kd_T_sumOverParts_67 : decode kb_T_sumOverParts 67 = .ok (.aload_n 0, 1) := by decide +kernel
theorem kd_T_sumOverParts_68 : decode kb_T_sumOverParts 68 = .ok (.getfield 9, 3) := by decide +kernel
theorem kd_T_sumOverParts_71 : decode kb_T_sumOverParts 71 = .ok (.getfield 57, 3) := by decide +kernel
theorem kd_T_sumOverParts_74 : decode kb_T_sumOverParts 74 = .ok (.iload_n 2, 1) := by decide +kernel
theorem kd_T_sumOverParts_75 : decode kb_T_sumOverParts 75 = .ok (.iaload, 1) := by decide +kernel
theorem kd_T_sumOverParts_76 : decode kb_T_sumOverParts 76 = .ok (.iaload, 1) := by decide +kernel
theorem kd_T_sumOverParts_77 : decode kb_T_sumOverParts 77 = .ok (.aload_n 0, 1) := by decide +kernel
theorem kd_T_sumOverParts_78 : decode kb_T_sumOverParts 78 = .ok (.getfield 9, 3) := by decide +kernel
theorem kd_T_sumOverParts_81 : decode kb_T_sumOverParts 81 = .ok (.getfield 60, 3) := by decide +kernel
theorem kd_T_sumOverParts_84 : decode kb_T_sumOverParts 84 = .ok (.iload_n 2, 1) := by decide +kernel
theorem kd_T_sumOverParts_85 : decode kb_T_sumOverParts 85 = .ok (.iaload, 1) := by decide +kernel
theorem kd_T_sumOverParts_86 : decode kb_T_sumOverParts 86 = .ok (.invokevirtual 63, 3) := by decide +kernel
theorem kd_T_sumOverParts_89 : decode kb_T_sumOverParts 89 = .ok (.iinc 2 1, 3) := by decide +kernel
theorem kd_T_sumOverParts_92 : decode kb_T_sumOverParts 92 = .ok (.goto (-64), 3) := by decide +kernel
theorem kd_T_sumOverParts_95 : decode kb_T_sumOverParts 95 = .ok (.aload_n 0, 1) := by decide +kernel
theorem kd_T_sumOverParts_96 : decode kb_T_sumOverParts 96 = .ok (.getfield 19, 3) := by decide +kernel
theorem kd_T_sumOverParts_99 : decode kb_T_sumOverParts 99 = .ok (.iconst 0, 1) := by decide +kernel
theorem kd_T_sumOverParts_100 : decode kb_T_sumOverParts 100 = .ok (.invokevirtual 67, 3) := by decide +kernel
theorem kd_T_sumOverParts_103 : decode kb_T_sumOverParts 103 = .ok (.aload_n 0, 1) := by decide +kernel
theorem kd_T_sumOverParts_104 : decode kb_T_sumOverParts 104 = .ok (.getfield 19, 3) := by decide +kernel
theorem kd_T_sumOverParts_107 : decode kb_T_sumOverParts 107 = .ok (.invokevirtual 70, 3) := by decide +kernel
theorem kd_T_sumOverParts_110 : decode kb_T_sumOverParts 110 = .ok (.lreturn, 1) := by decide +kernel
theorem kd_T_sumWith_0 : decode kb_T_sumWith 0 = .ok (.aload_n 0, 1) := by decide +kernel
theorem kd_T_sumWith_1 : decode kb_T_sumWith 1 = .ok (.getfield 15, 3) := by decide +kernel
theorem kd_T_sumWith_4 : decode kb_T_sumWith 4 = .ok (.aload_n 0, 1) := by decide +kernel
theorem kd_T_sumWith_5 : decode kb_T_sumWith 5 = .ok (.getfield 9, 3) := by decide +kernel
theorem kd_T_sumWith_8 : decode kb_T_sumWith 8 = .ok (.getfield 23, 3) := by decide +kernel
theorem kd_T_sumWith_11 : decode kb_T_sumWith 11 = .ok (.invokevirtual 29, 3) := by decide +kernel
theorem kd_T_sumWith_14 : decode kb_T_sumWith 14 = .ok (.aload_n 0, 1) := by decide +kernel
theorem kd_T_sumWith_15 : decode kb_T_sumWith 15 = .ok (.getfield 15, 3) := by decide +kernel
theorem kd_T_sumWith_18 : decode kb_T_sumWith 18 = .ok (.aload_n 0, 1) := by decide +kernel
theorem kd_T_sumWith_19 : decode kb_T_sumWith 19 = .ok (.getfield 9, 3) := by decide +kernel
theorem kd_T_sumWith_22 : decode kb_T_sumWith 22 = .ok (.getfield 54, 3) := by decide +kernel
theorem kd_T_sumWith_25 : decode kb_T_sumWith 25 = .ok (.iload_n 1, 1) := by decide +kernel
theorem kd_T_sumWith_26 : decode kb_T_sumWith 26 = .ok (.iaload, 1) := by decide +kernel
theorem kd_T_sumWith_27 : decode kb_T_sumWith 27 = .ok (.aload_n 0, 1) := by decide +kernel
theorem kd_T_sumWith_28 : decode kb_T_sumWith 28 = .ok (.getfield 9, 3) := by decide +kernel
theorem kd_T_sumWith_31 : decode kb_T_sumWith 31 = .ok (.getfield 57, 3) := by decide +kernel
theorem kd_T_sumWith_34 : decode kb_T_sumWith 34 = .ok (.iload_n 1, 1) := by decide +kernel
theorem kd_T_sumWith_35 : decode kb_T_sumWith 35 = .ok (.iaload, 1) := by decide +kernel
theorem kd_T_sumWith_36 : decode kb_T_sumWith 36 = .ok (.invokevirtual 74, 3) := by decide +kernel
theorem kd_T_sumWith_39 : decode kb_T_sumWith 39 = .ok (.ifCond .ne 5, 3) := by decide +kernel
theorem kd_T_sumWith_42 : decode kb_T_sumWith 42 = .ok (.lconst 0, 1) := by decide +kernel
theorem kd_T_sumWith_43 : decode kb_T_sumWith 43 = .ok (.lreturn, 1) := by decide +kernel
theorem kd_T_sumWith_44 : decode kb_T_sumWith 44 = .ok (.aload_n 0, 1) := by decide +kernel
theorem kd_T_sumWith_45 : decode kb_T_sumWith 45 = .ok (.getfield 9, 3) := by decide +kernel
theorem kd_T_sumWith_48 : decode kb_T_sumWith 48 = .ok (.getfield 60, 3) := by decide +kernel
theorem kd_T_sumWith_51 : decode kb_T_sumWith 51 = .ok (.iload_n 1, 1) := by decide +kernel
theorem kd_T_sumWith_52 : decode kb_T_sumWith 52 = .ok (.iaload, 1) := by decide +kernel
theorem kd_T_sumWith_53 : decode kb_T_sumWith 53 = .ok (.i2l, 1) := by decide +kernel
theorem kd_T_sumWith_54 : decode kb_T_sumWith 54 = .ok (.aload_n 0, 1) := by decide +kernel
theorem kd_T_sumWith_55 : decode kb_T_sumWith 55 = .ok (.iconst 0, 1) := by decide +kernel
theorem kd_T_sumWith_56 : decode kb_T_sumWith 56 = .ok (.invokevirtual 35, 3) := by decide +kernel
theorem kd_T_sumWith_59 : decode kb_T_sumWith 59 = .ok (.lmul, 1) := by decide +kernel
theorem kd_T_sumWith_60 : decode kb_T_sumWith 60 = .ok (.lreturn, 1) := by decide +kernel
theorem kd_T_sumTowards_0 : decode kb_T_sumTowards 0 = .ok (.aload_n 0, 1) := by decide +kernel
theorem kd_T_sumTowards_1 : decode kb_T_sumTowards 1 = .ok (.getfield 19, 3) := by decide +kernel
theorem kd_T_sumTowards_4 : decode kb_T_sumTowards 4 = .ok (.aload_n 0, 1) := by decide +kernel
theorem kd_T_sumTowards_5 : decode kb_T_sumTowards 5 = .ok (.getfield 9, 3) := by decide +kernel
theorem kd_T_sumTowards_8 : decode kb_T_sumTowards 8 = .ok (.invokevirtual 78, 3) := by decide +kernel
theorem kd_T_sumTowards_11 : decode kb_T_sumTowards 11 = .ok (.aload_n 0, 1) := by decide +kernel
theorem kd_T_sumTowards_12 : decode kb_T_sumTowards 12 = .ok (.getfield 19, 3) := by decide +kernel
theorem kd_T_sumTowards_15 : decode kb_T_sumTowards 15 = .ok (.iload_n 1, 1) := by decide +kernel
theorem kd_T_sumTowards_16 : decode kb_T_sumTowards 16 = .ok (.invokevirtual 67, 3) := by decide +kernel
theorem kd_T_sumTowards_19 : decode kb_T_sumTowards 19 = .ok (.aload_n 0, 1) := by decide +kernel
theorem kd_T_sumTowards_20 : decode kb_T_sumTowards 20 = .ok (.getfield 19, 3) := by decide +kernel
theorem kd_T_sumTowards_23 : decode kb_T_sumTowards 23 = .ok (.invokevirtual 70, 3) := by decide +kernel
theorem kd_T_sumTowards_26 : decode kb_T_sumTowards 26 = .ok (.lreturn, 1) := by decide +kernel
theorem kd_T_sumOfMarked_0 : decode kb_T_sumOfMarked 0 = .ok (.aload_n 0, 1) := by decide +kernel
theorem kd_T_sumOfMarked_1 : decode kb_T_sumOfMarked 1 = .ok (.getfield 19, 3) := by decide +kernel
theorem kd_T_sumOfMarked_4 : decode kb_T_sumOfMarked 4 = .ok (.aload_n 0, 1) := by decide +kernel
theorem kd_T_sumOfMarked_5 : decode kb_T_sumOfMarked 5 = .ok (.getfield 9, 3) := by decide +kernel
theorem kd_T_sumOfMarked_8 : decode kb_T_sumOfMarked 8 = .ok (.invokevirtual 82, 3) := by decide +kernel
theorem kd_T_sumOfMarked_11 : decode kb_T_sumOfMarked 11 = .ok (.iconst 0, 1) := by decide +kernel
theorem kd_T_sumOfMarked_12 : decode kb_T_sumOfMarked 12 = .ok (.istore_n 1, 1) := by decide +kernel
theorem kd_T_sumOfMarked_13 : decode kb_T_sumOfMarked 13 = .ok (.iload_n 1, 1) := by decide +kernel
theorem kd_T_sumOfMarked_14 : decode kb_T_sumOfMarked 14 = .ok (.aload_n 0, 1) := by decide +kernel
theorem kd_T_sumOfMarked_15 : decode kb_T_sumOfMarked 15 = .ok (.getfield 9, 3) := by decide +kernel
theorem kd_T_sumOfMarked_18 : decode kb_T_sumOfMarked 18 = .ok (.getfield 23, 3) := by decide +kernel
theorem kd_T_sumOfMarked_21 : decode kb_T_sumOfMarked 21 = .ok (.if_icmp .ge 24, 3) := by decide +kernel
theorem kd_T_sumOfMarked_24 : decode kb_T_sumOfMarked 24 = .ok (.aload_n 0, 1) := by decide +kernel
theorem kd_T_sumOfMarked_25 : decode kb_T_sumOfMarked 25 = .ok (.getfield 19, 3) := by decide +kernel
theorem kd_T_sumOfMarked_28 : decode kb_T_sumOfMarked 28 = .ok (.getfield 85, 3) := by decide +kernel
theorem kd_T_sumOfMarked_31 : decode kb_T_sumOfMarked 31 = .ok (.iload_n 1, 1) := by decide +kernel
theorem kd_T_sumOfMarked_32 : decode kb_T_sumOfMarked 32 = .ok (.aaload, 1) := by decide +kernel
theorem kd_T_sumOfMarked_33 : decode kb_T_sumOfMarked 33 = .ok (.iload_n 1, 1) := by decide +kernel
theorem kd_T_sumOfMarked_34 : decode kb_T_sumOfMarked 34 = .ok (.dup2, 1) := by decide +kernel
theorem kd_T_sumOfMarked_35 : decode kb_T_sumOfMarked 35 = .ok (.laload, 1) := by decide +kernel
theorem kd_T_sumOfMarked_36 : decode kb_T_sumOfMarked 36 = .ok (.lconst 1, 1) := by decide +kernel
theorem kd_T_sumOfMarked_37 : decode kb_T_sumOfMarked 37 = .ok (.ladd, 1) := by decide +kernel
theorem kd_T_sumOfMarked_38 : decode kb_T_sumOfMarked 38 = .ok (.lastore, 1) := by decide +kernel
theorem kd_T_sumOfMarked_39 : decode kb_T_sumOfMarked 39 = .ok (.iinc 1 1, 3) := by decide +kernel
theorem kd_T_sumOfMarked_42 : decode kb_T_sumOfMarked 42 = .ok (.goto (-29), 3) := by decide +kernel
theorem kd_T_sumOfMarked_45 : decode kb_T_sumOfMarked 45 = .ok (.aload_n 0, 1) := by decide +kernel
theorem kd_T_sumOfMarked_46 : decode kb_T_sumOfMarked 46 = .ok (.getfield 19, 3) := by decide +kernel
theorem kd_T_sumOfMarked_49 : decode kb_T_sumOfMarked 49 = .ok (.invokevirtual 70, 3) := by decide +kernel
theorem kd_T_sumOfMarked_52 : decode kb_T_sumOfMarked 52 = .ok (.lreturn, 1) := by decide +kernel
theorem kd_T_sumOfPairs_0 : decode kb_T_sumOfPairs 0 = .ok (.aload_n 0, 1) := by decide +kernel
theorem kd_T_sumOfPairs_1 : decode kb_T_sumOfPairs 1 = .ok (.getfield 19, 3) := by decide +kernel
theorem kd_T_sumOfPairs_4 : decode kb_T_sumOfPairs 4 = .ok (.aload_n 0, 1) := by decide +kernel
theorem kd_T_sumOfPairs_5 : decode kb_T_sumOfPairs 5 = .ok (.getfield 9, 3) := by decide +kernel
theorem kd_T_sumOfPairs_8 : decode kb_T_sumOfPairs 8 = .ok (.invokevirtual 82, 3) := by decide +kernel
theorem kd_T_sumOfPairs_11 : decode kb_T_sumOfPairs 11 = .ok (.aload_n 0, 1) := by decide +kernel
theorem kd_T_sumOfPairs_12 : decode kb_T_sumOfPairs 12 = .ok (.getfield 19, 3) := by decide +kernel
theorem kd_T_sumOfPairs_15 : decode kb_T_sumOfPairs 15 = .ok (.iload_n 1, 1) := by decide +kernel
theorem kd_T_sumOfPairs_16 : decode kb_T_sumOfPairs 16 = .ok (.invokevirtual 67, 3) := by decide +kernel
theorem kd_T_sumOfPairs_19 : decode kb_T_sumOfPairs 19 = .ok (.aload_n 0, 1) := by decide +kernel
theorem kd_T_sumOfPairs_20 : decode kb_T_sumOfPairs 20 = .ok (.getfield 19, 3) := by decide +kernel
theorem kd_T_sumOfPairs_23 : decode kb_T_sumOfPairs 23 = .ok (.iload_n 2, 1) := by decide +kernel
theorem kd_T_sumOfPairs_24 : decode kb_T_sumOfPairs 24 = .ok (.invokevirtual 67, 3) := by decide +kernel
theorem kd_T_sumOfPairs_27 : decode kb_T_sumOfPairs 27 = .ok (.aload_n 0, 1) := by decide +kernel
theorem kd_T_sumOfPairs_28 : decode kb_T_sumOfPairs 28 = .ok (.getfield 19, 3) := by decide +kernel
theorem kd_T_sumOfPairs_31 : decode kb_T_sumOfPairs 31 = .ok (.invokevirtual 70, 3) := by decide +kernel
theorem kd_T_sumOfPairs_34 : decode kb_T_sumOfPairs 34 = .ok (.lreturn, 1) := by decide +kernel
theorem kd_T_toursAlongAll_0 : decode kb_T_toursAlongAll 0 = .ok (.aload_n 0, 1) := by decide +kernel
theorem kd_T_toursAlongAll_1 : decode kb_T_toursAlongAll 1 = .ok (.getfield 9, 3) := by decide +kernel
theorem kd_T_toursAlongAll_4 : decode kb_T_toursAlongAll 4 = .ok (.getfield 47, 3) := by decide +kernel
theorem kd_T_toursAlongAll_7 : decode kb_T_toursAlongAll 7 = .ok (.ifCond .ne 5, 3) := by decide +kernel
theorem kd_T_toursAlongAll_10 : decode kb_T_toursAlongAll 10 = .ok (.lconst 0, 1) := by decide +kernel
theorem kd_T_toursAlongAll_11 : decode kb_T_toursAlongAll 11 = .ok (.lreturn, 1) := by decide +kernel
theorem kd_T_toursAlongAll_12 : decode kb_T_toursAlongAll 12 = .ok (.aload_n 0, 1) := by decide +kernel
theorem kd_T_toursAlongAll_13 : decode kb_T_toursAlongAll 13 = .ok (.getfield 19, 3) := by decide +kernel
theorem kd_T_toursAlongAll_16 : decode kb_T_toursAlongAll 16 = .ok (.aload_n 0, 1) := by decide +kernel
theorem kd_T_toursAlongAll_17 : decode kb_T_toursAlongAll 17 = .ok (.getfield 9, 3) := by decide +kernel
theorem kd_T_toursAlongAll_20 : decode kb_T_toursAlongAll 20 = .ok (.invokevirtual 78, 3) := by decide +kernel
theorem kd_T_toursAlongAll_23 : decode kb_T_toursAlongAll 23 = .ok (.lconst 1, 1) := by decide +kernel
theorem kd_T_toursAlongAll_24 : decode kb_T_toursAlongAll 24 = .ok (.lstore_n 1, 1) := by decide +kernel
theorem kd_T_toursAlongAll_25 : decode kb_T_toursAlongAll 25 = .ok (.iconst 0, 1) := by decide +kernel
theorem kd_T_toursAlongAll_26 : decode kb_T_toursAlongAll 26 = .ok (.istore_n 3, 1) := by decide +kernel
theorem kd_T_toursAlongAll_27 : decode kb_T_toursAlongAll 27 = .ok (.iload_n 3, 1) := by decide +kernel
theorem kd_T_toursAlongAll_28 : decode kb_T_toursAlongAll 28 = .ok (.aload_n 0, 1) := by decide +kernel
theorem kd_T_toursAlongAll_29 : decode kb_T_toursAlongAll 29 = .ok (.getfield 9, 3) := by decide +kernel
theorem kd_T_toursAlongAll_32 : decode kb_T_toursAlongAll 32 = .ok (.getfield 23, 3) := by decide +kernel
theorem kd_T_toursAlongAll_35 : decode kb_T_toursAlongAll 35 = .ok (.if_icmp .ge 57, 3) := by decide +kernel
theorem kd_T_toursAlongAll_38 : decode kb_T_toursAlongAll 38 = .ok (.aload_n 0, 1) := by decide +kernel
theorem kd_T_toursAlongAll_39 : decode kb_T_toursAlongAll 39 = .ok (.getfield 9, 3) := by decide +kernel
theorem kd_T_toursAlongAll_42 : decode kb_T_toursAlongAll 42 = .ok (.iload_n 3, 1) := by decide +kernel
theorem kd_T_toursAlongAll_43 : decode kb_T_toursAlongAll 43 = .ok (.invokevirtual 89, 3) := by decide +kernel
theorem kd_T_toursAlongAll_46 : decode kb_T_toursAlongAll 46 = .ok (.istore 4, 2) := by decide +kernel
theorem kd_T_toursAlongAll_48 : decode kb_T_toursAlongAll 48 = .ok (.iload 4, 2) := by decide +kernel
theorem kd_T_toursAlongAll_50 : decode kb_T_toursAlongAll 50 = .ok (.aload_n 0, 1) := by decide +kernel
theorem kd_T_toursAlongAll_51 : decode kb_T_toursAlongAll 51 = .ok (.getfield 9, 3) := by decide +kernel
theorem kd_T_toursAlongAll_54 : decode kb_T_toursAlongAll 54 = .ok (.iload_n 3, 1) := by decide +kernel
theorem kd_T_toursAlongAll_55 : decode kb_T_toursAlongAll 55 = .ok (.invokevirtual 93, 3) := by decide +kernel
theorem kd_T_toursAlongAll_58 : decode kb_T_toursAlongAll 58 = .ok (.if_icmp .eq 5, 3) := by decide +kernel
theorem kd_T_toursAlongAll_61 : decode kb_T_toursAlongAll 61 = .ok (.lconst 0, 1) := by decide +kernel
theorem kd_T_toursAlongAll_62 : decode kb_T_toursAlongAll 62 = .ok (.lreturn, 1) := by decide +kernel
theorem kd_T_toursAlongAll_63 : decode kb_T_toursAlongAll 63 = .ok (.iload 4, 2) := by decide +kernel
theorem kd_T_toursAlongAll_65 : decode kb_T_toursAlongAll 65 = .ok (.ifCond .ne 11, 3) := by decide +kernel
theorem kd_T_toursAlongAll_68 : decode kb_T_toursAlongAll 68 = .ok (.aload_n 0, 1) := by decide +kernel
theorem kd_T_toursAlongAll_69 : decode kb_T_toursAlongAll 69 = .ok (.getfield 19, 3) := by decide +kernel
theorem kd_T_toursAlongAll_72 : decode kb_T_toursAlongAll 72 = .ok (.iload_n 3, 1) := by decide +kernel
theorem kd_T_toursAlongAll_73 : decode kb_T_toursAlongAll 73 = .ok (.invokevirtual 67, 3) := by decide +kernel
theorem kd_T_toursAlongAll_76 : decode kb_T_toursAlongAll 76 = .ok (.lload_n 1, 1) := by decide +kernel
theorem kd_T_toursAlongAll_77 : decode kb_T_toursAlongAll 77 = .ok (.iload 4, 2) := by decide +kernel
theorem kd_T_toursAlongAll_79 : decode kb_T_toursAlongAll 79 = .ok (.iconst 1, 1) := by decide +kernel
theorem kd_T_toursAlongAll_80 : decode kb_T_toursAlongAll 80 = .ok (.isub, 1) := by decide +kernel
theorem kd_T_toursAlongAll_81 : decode kb_T_toursAlongAll 81 = .ok (.invokestatic 96, 3) := by decide +kernel
theorem kd_T_toursAlongAll_84 : decode kb_T_toursAlongAll 84 = .ok (.lmul, 1) := by decide +kernel
theorem kd_T_toursAlongAll_85 : decode kb_T_toursAlongAll 85 = .ok (.lstore_n 1, 1) := by decide +kernel
theorem kd_T_toursAlongAll_86 : decode kb_T_toursAlongAll 86 = .ok (.iinc 3 1, 3) := by decide +kernel
theorem kd_T_toursAlongAll_89 : decode kb_T_toursAlongAll 89 = .ok (.goto (-62), 3) := by decide +kernel
theorem kd_T_toursAlongAll_92 : decode kb_T_toursAlongAll 92 = .ok (.aload_n 0, 1) := by decide +kernel
theorem kd_T_toursAlongAll_93 : decode kb_T_toursAlongAll 93 = .ok (.getfield 19, 3) := by decide +kernel
theorem kd_T_toursAlongAll_96 : decode kb_T_toursAlongAll 96 = .ok (.aload_n 0, 1) := by decide +kernel
theorem kd_T_toursAlongAll_97 : decode kb_T_toursAlongAll 97 = .ok (.getfield 9, 3) := by decide +kernel
theorem kd_T_toursAlongAll_100 : decode kb_T_toursAlongAll 100 = .ok (.getfield 54, 3) := by decide +kernel
theorem kd_T_toursAlongAll_103 : decode kb_T_toursAlongAll 103 = .ok (.iconst 0, 1) := by decide +kernel
theorem kd_T_toursAlongAll_104 : decode kb_T_toursAlongAll 104 = .ok (.iaload, 1) := by decide +kernel
theorem kd_T_toursAlongAll_105 : decode kb_T_toursAlongAll 105 = .ok (.invokevirtual 67, 3) := by decide +kernel
theorem kd_T_toursAlongAll_108 : decode kb_T_toursAlongAll 108 = .ok (.lload_n 1, 1) := by decide +kernel
theorem kd_T_toursAlongAll_109 : decode kb_T_toursAlongAll 109 = .ok (.aload_n 0, 1) := by decide +kernel
theorem kd_T_toursAlongAll_110 : decode kb_T_toursAlongAll 110 = .ok (.getfield 19, 3) := by decide +kernel
theorem kd_T_toursAlongAll_113 : decode kb_T_toursAlongAll 113 = .ok (.invokevirtual 70, 3) := by decide +kernel
theorem kd_T_toursAlongAll_116 : decode kb_T_toursAlongAll 116 = .ok (.lmul, 1) := by decide +kernel
theorem kd_T_toursAlongAll_117 : decode kb_T_toursAlongAll 117 = .ok (.lreturn, 1) := by decide +kernel
theorem kd_T_factorial_0 : decode kb_T_factorial 0 = .ok (.lconst 1, 1) := by decide +kernel
theorem kd_T_factorial_1 : decode kb_T_factorial 1 = .ok (.lstore_n 1, 1) := by decide +kernel
theorem kd_T_factorial_2 : decode kb_T_factorial 2 = .ok (.iconst 2, 1) := by decide +kernel
theorem kd_T_factorial_3 : decode kb_T_factorial 3 = .ok (.istore_n 3, 1) := by decide +kernel
theorem kd_T_factorial_4 : decode kb_T_factorial 4 = .ok (.iload_n 3, 1) := by decide +kernel
theorem kd_T_factorial_5 : decode kb_T_factorial 5 = .ok (.iload_n 0, 1) := by decide +kernel
theorem kd_T_factorial_6 : decode kb_T_factorial 6 = .ok (.if_icmp .gt 14, 3) := by decide +kernel
theorem kd_T_factorial_9 : decode kb_T_factorial 9 = .ok (.lload_n 1, 1) := by decide +kernel
theorem kd_T_factorial_10 : decode kb_T_factorial 10 = .ok (.iload_n 3, 1) := by decide +kernel
theorem kd_T_factorial_11 : decode kb_T_factorial 11 = .ok (.i2l, 1) := by decide +kernel
theorem kd_T_factorial_12 : decode kb_T_factorial 12 = .ok (.lmul, 1) := by decide +kernel
theorem kd_T_factorial_13 : decode kb_T_factorial 13 = .ok (.lstore_n 1, 1) := by decide +kernel
theorem kd_T_factorial_14 : decode kb_T_factorial 14 = .ok (.iinc 3 1, 3) := by decide +kernel
theorem kd_T_factorial_17 : decode kb_T_factorial 17 = .ok (.goto (-13), 3) := by decide +kernel
theorem kd_T_factorial_20 : decode kb_T_factorial 20 = .ok (.lload_n 1, 1) := by decide +kernel
theorem kd_T_factorial_21 : decode kb_T_factorial 21 = .ok (.lreturn, 1) := by decide +kernel
theorem kd_T_treeAt_0 : decode kb_T_treeAt 0 = .ok (.aload_n 0, 1) := by decide +kernel
theorem kd_T_treeAt_1 : decode kb_T_treeAt 1 = .ok (.invokevirtual 99, 3) := by decide +kernel
theorem kd_T_treeAt_4 : decode kb_T_treeAt 4 = .ok (.lload_n 1, 1) := by decide +kernel
theorem kd_T_treeAt_5 : decode kb_T_treeAt 5 = .ok (.lconst 0, 1) := by decide +kernel
theorem kd_T_treeAt_6 : decode kb_T_treeAt 6 = .ok (.lcmp, 1) := by decide +kernel
theorem kd_T_treeAt_7 : decode kb_T_treeAt 7 = .ok (.ifCond .lt 12, 3) := by decide +kernel
theorem kd_T_treeAt_10 : decode kb_T_treeAt 10 = .ok (.lload_n 1, 1) := by decide +kernel
theorem kd_T_treeAt_11 : decode kb_T_treeAt 11 = .ok (.aload_n 0, 1) := by decide +kernel
theorem kd_T_treeAt_12 : decode kb_T_treeAt 12 = .ok (.getfield 102, 3) := by decide +kernel
theorem kd_T_treeAt_15 : decode kb_T_treeAt 15 = .ok (.lcmp, 1) := by decide +kernel
theorem kd_T_treeAt_16 : decode kb_T_treeAt 16 = .ok (.ifCond .lt 5, 3) := by decide +kernel
theorem kd_T_treeAt_19 : decode kb_T_treeAt 19 = .ok (.iconst (-1), 1) := by decide +kernel
theorem kd_T_treeAt_20 : decode kb_T_treeAt 20 = .ok (.ireturn, 1) := by decide +kernel
theorem kd_T_treeAt_21 : decode kb_T_treeAt 21 = .ok (.iconst 0, 1) := by decide +kernel
theorem kd_T_treeAt_22 : decode kb_T_treeAt 22 = .ok (.istore_n 3, 1) := by decide +kernel
theorem kd_T_treeAt_23 : decode kb_T_treeAt 23 = .ok (.lload_n 1, 1) := by decide +kernel
theorem kd_T_treeAt_24 : decode kb_T_treeAt 24 = .ok (.lstore 4, 2) := by decide +kernel
theorem kd_T_treeAt_26 : decode kb_T_treeAt 26 = .ok (.iconst 0, 1) := by decide +kernel
theorem kd_T_treeAt_27 : decode kb_T_treeAt 27 = .ok (.istore 6, 2) := by decide +kernel
theorem kd_T_treeAt_29 : decode kb_T_treeAt 29 = .ok (.iload 6, 2) := by decide +kernel
theorem kd_T_treeAt_31 : decode kb_T_treeAt 31 = .ok (.aload_n 0, 1) := by decide +kernel
theorem kd_T_treeAt_32 : decode kb_T_treeAt 32 = .ok (.getfield 9, 3) := by decide +kernel
theorem kd_T_treeAt_35 : decode kb_T_treeAt 35 = .ok (.getfield 47, 3) := by decide +kernel
theorem kd_T_treeAt_38 : decode kb_T_treeAt 38 = .ok (.if_icmp .ge 72, 3) := by decide +kernel
theorem kd_T_treeAt_41 : decode kb_T_treeAt 41 = .ok (.aload_n 0, 1) := by decide +kernel
theorem kd_T_treeAt_42 : decode kb_T_treeAt 42 = .ok (.getfield 15, 3) := by decide +kernel
theorem kd_T_treeAt_45 : decode kb_T_treeAt 45 = .ok (.getfield 39, 3) := by decide +kernel
theorem kd_T_treeAt_48 : decode kb_T_treeAt 48 = .ok (.iconst 1, 1) := by decide +kernel
theorem kd_T_treeAt_49 : decode kb_T_treeAt 49 = .ok (.if_icmp .le 61, 3) := by decide +kernel
theorem kd_T_treeAt_52 : decode kb_T_treeAt 52 = .ok (.aload_n 0, 1) := by decide +kernel
theorem kd_T_treeAt_53 : decode kb_T_treeAt 53 = .ok (.iload 6, 2) := by decide +kernel
theorem kd_T_treeAt_55 : decode kb_T_treeAt 55 = .ok (.invokevirtual 106, 3) := by decide +kernel
theorem kd_T_treeAt_58 : decode kb_T_treeAt 58 = .ok (.lstore 7, 2) := by decide +kernel
theorem kd_T_treeAt_60 : decode kb_T_treeAt 60 = .ok (.lload 4, 2) := by decide +kernel
theorem kd_T_treeAt_62 : decode kb_T_treeAt 62 = .ok (.lload 7, 2) := by decide +kernel
theorem kd_T_treeAt_64 : decode kb_T_treeAt 64 = .ok (.lcmp, 1) := by decide +kernel
theorem kd_T_treeAt_65 : decode kb_T_treeAt 65 = .ok (.ifCond .ge 21, 3) := by decide +kernel
theorem kd_T_treeAt_68 : decode kb_T_treeAt 68 = .ok (.iload_n 3, 1) := by decide +kernel
theorem kd_T_treeAt_69 : decode kb_T_treeAt 69 = .ok (.iconst 1, 1) := by decide +kernel
theorem kd_T_treeAt_70 : decode kb_T_treeAt 70 = .ok (.iload 6, 2) := by decide +kernel
theorem kd_T_treeAt_72 : decode kb_T_treeAt 72 = .ok (.ishl, 1) := by decide +kernel
theorem kd_T_treeAt_73 : decode kb_T_treeAt 73 = .ok (.ior, 1) := by decide +kernel
theorem kd_T_treeAt_74 : decode kb_T_treeAt 74 = .ok (.istore_n 3, 1) := by decide +kernel
theorem kd_T_treeAt_75 : decode kb_T_treeAt 75 = .ok (.aload_n 0, 1) := by decide +kernel
theorem kd_T_treeAt_76 : decode kb_T_treeAt 76 = .ok (.iload 6, 2) := by decide +kernel
theorem kd_T_treeAt_78 : decode kb_T_treeAt 78 = .ok (.lload 7, 2) := by decide +kernel
theorem kd_T_treeAt_80 : decode kb_T_treeAt 80 = .ok (.invokevirtual 109, 3) := by decide +kernel
theorem kd_T_treeAt_83 : decode kb_T_treeAt 83 = .ok (.goto 21, 3) := by decide +kernel
theorem kd_T_treeAt_86 : decode kb_T_treeAt 86 = .ok (.lload 4, 2) := by decide +kernel
theorem kd_T_treeAt_88 : decode kb_T_treeAt 88 = .ok (.lload 7, 2) := by decide +kernel
theorem kd_T_treeAt_90 : decode kb_T_treeAt 90 = .ok (.lsub, 1) := by decide +kernel
theorem kd_T_treeAt_91 : decode kb_T_treeAt 91 = .ok (.lstore 4, 2) := by decide +kernel
theorem kd_T_treeAt_93 : decode kb_T_treeAt 93 = .ok (.aload_n 0, 1) := by decide +kernel
theorem kd_T_treeAt_94 : decode kb_T_treeAt 94 = .ok (.dup, 1) := by decide +kernel
theorem kd_T_treeAt_95 : decode kb_T_treeAt 95 = .ok (.getfield 102, 3) := by decide +kernel
theorem kd_T_treeAt_98 : decode kb_T_treeAt 98 = .ok (.lload 7, 2) := by decide +kernel
theorem kd_T_treeAt_100 : decode kb_T_treeAt 100 = .ok (.lsub, 1) := by decide +kernel
theorem kd_T_treeAt_101 : decode kb_T_treeAt 101 = .ok (.putfield 102, 3) := by decide +kernel
theorem kd_T_treeAt_104 : decode kb_T_treeAt 104 = .ok (.iinc 6 1, 3) := by decide +kernel
theorem kd_T_treeAt_107 : decode kb_T_treeAt 107 = .ok (.goto (-78), 3) := by decide +kernel
theorem kd_T_treeAt_110 : decode kb_T_treeAt 110 = .ok (.iload_n 3, 1) := by decide +kernel
theorem kd_T_treeAt_111 : decode kb_T_treeAt 111 = .ok (.ireturn, 1) := by decide +kernel
theorem kd_T_sumBefore_0 : decode kb_T_sumBefore 0 = .ok (.aload_n 0, 1) := by decide +kernel
theorem kd_T_sumBefore_1 : decode kb_T_sumBefore 1 = .ok (.invokevirtual 99, 3) := by decide +kernel
theorem kd_T_sumBefore_4 : decode kb_T_sumBefore 4 = .ok (.lconst 0, 1) := by decide +kernel
theorem kd_T_sumBefore_5 : decode kb_T_sumBefore 5 = .ok (.lstore_n 2, 1) := by decide +kernel
theorem kd_T_sumBefore_6 : decode kb_T_sumBefore 6 = .ok (.iconst 0, 1) := by decide +kernel
theorem kd_T_sumBefore_7 : decode kb_T_sumBefore 7 = .ok (.istore 4, 2) := by decide +kernel
theorem kd_T_sumBefore_9 : decode kb_T_sumBefore 9 = .ok (.iload 4, 2) := by decide +kernel
theorem kd_T_sumBefore_11 : decode kb_T_sumBefore 11 = .ok (.aload_n 0, 1) := by decide +kernel
theorem kd_T_sumBefore_12 : decode kb_T_sumBefore 12 = .ok (.getfield 9, 3) := by decide +kernel
theorem kd_T_sumBefore_15 : decode kb_T_sumBefore 15 = .ok (.getfield 47, 3) := by decide +kernel
theorem kd_T_sumBefore_18 : decode kb_T_sumBefore 18 = .ok (.if_icmp .ge 65, 3) := by decide +kernel
theorem kd_T_sumBefore_21 : decode kb_T_sumBefore 21 = .ok (.aload_n 0, 1) := by decide +kernel
theorem kd_T_sumBefore_22 : decode kb_T_sumBefore 22 = .ok (.getfield 15, 3) := by decide +kernel
theorem kd_T_sumBefore_25 : decode kb_T_sumBefore 25 = .ok (.getfield 39, 3) := by decide +kernel
theorem kd_T_sumBefore_28 : decode kb_T_sumBefore 28 = .ok (.iconst 1, 1) := by decide +kernel
theorem kd_T_sumBefore_29 : decode kb_T_sumBefore 29 = .ok (.if_icmp .le 54, 3) := by decide +kernel
theorem kd_T_sumBefore_32 : decode kb_T_sumBefore 32 = .ok (.aload_n 0, 1) := by decide +kernel
theorem kd_T_sumBefore_33 : decode kb_T_sumBefore 33 = .ok (.iload 4, 2) := by decide +kernel
theorem kd_T_sumBefore_35 : decode kb_T_sumBefore 35 = .ok (.invokevirtual 106, 3) := by decide +kernel
theorem kd_T_sumBefore_38 : decode kb_T_sumBefore 38 = .ok (.lstore 5, 2) := by decide +kernel
theorem kd_T_sumBefore_40 : decode kb_T_sumBefore 40 = .ok (.iload_n 1, 1) := by decide +kernel
theorem kd_T_sumBefore_41 : decode kb_T_sumBefore 41 = .ok (.iload 4, 2) := by decide +kernel
theorem kd_T_sumBefore_43 : decode kb_T_sumBefore 43 = .ok (.ishr, 1) := by decide +kernel
theorem kd_T_sumBefore_44 : decode kb_T_sumBefore 44 = .ok (.iconst 1, 1) := by decide +kernel
theorem kd_T_sumBefore_45 : decode kb_T_sumBefore 45 = .ok (.iand, 1) := by decide +kernel
theorem kd_T_sumBefore_46 : decode kb_T_sumBefore 46 = .ok (.iconst 1, 1) := by decide +kernel
theorem kd_T_sumBefore_47 : decode kb_T_sumBefore 47 = .ok (.if_icmp .ne 14, 3) := by decide +kernel
theorem kd_T_sumBefore_50 : decode kb_T_sumBefore 50 = .ok (.aload_n 0, 1) := by decide +kernel
theorem kd_T_sumBefore_51 : decode kb_T_sumBefore 51 = .ok (.iload 4, 2) := by decide +kernel
theorem kd_T_sumBefore_53 : decode kb_T_sumBefore 53 = .ok (.lload 5, 2) := by decide +kernel
theorem kd_T_sumBefore_55 : decode kb_T_sumBefore 55 = .ok (.invokevirtual 109, 3) := by decide +kernel
theorem kd_T_sumBefore_58 : decode kb_T_sumBefore 58 = .ok (.goto 19, 3) := by decide +kernel
theorem kd_T_sumBefore_61 : decode kb_T_sumBefore 61 = .ok (.lload_n 2, 1) := by decide +kernel
theorem kd_T_sumBefore_62 : decode kb_T_sumBefore 62 = .ok (.lload 5, 2) := by decide +kernel
theorem kd_T_sumBefore_64 : decode kb_T_sumBefore 64 = .ok (.ladd, 1) := by decide +kernel
theorem kd_T_sumBefore_65 : decode kb_T_sumBefore 65 = .ok (.lstore_n 2, 1) := by decide +kernel
theorem kd_T_sumBefore_66 : decode kb_T_sumBefore 66 = .ok (.aload_n 0, 1) := by decide +kernel
theorem kd_T_sumBefore_67 : decode kb_T_sumBefore 67 = .ok (.dup, 1) := by decide +kernel
theorem kd_T_sumBefore_68 : decode kb_T_sumBefore 68 = .ok (.getfield 102, 3) := by decide +kernel
theorem kd_T_sumBefore_71 : decode kb_T_sumBefore 71 = .ok (.lload 5, 2) := by decide +kernel
theorem kd_T_sumBefore_73 : decode kb_T_sumBefore 73 = .ok (.lsub, 1) := by decide +kernel
theorem kd_T_sumBefore_74 : decode kb_T_sumBefore 74 = .ok (.putfield 102, 3) := by decide +kernel
theorem kd_T_sumBefore_77 : decode kb_T_sumBefore 77 = .ok (.iinc 4 1, 3) := by decide +kernel
theorem kd_T_sumBefore_80 : decode kb_T_sumBefore 80 = .ok (.goto (-71), 3) := by decide +kernel
theorem kd_T_sumBefore_83 : decode kb_T_sumBefore 83 = .ok (.lload_n 2, 1) := by decide +kernel
theorem kd_T_sumBefore_84 : decode kb_T_sumBefore 84 = .ok (.lreturn, 1) := by decide +kernel
theorem kd_T_beginChoice_0 : decode kb_T_beginChoice 0 = .ok (.aload_n 0, 1) := by decide +kernel
theorem kd_T_beginChoice_1 : decode kb_T_beginChoice 1 = .ok (.getfield 15, 3) := by decide +kernel
theorem kd_T_beginChoice_4 : decode kb_T_beginChoice 4 = .ok (.aload_n 0, 1) := by decide +kernel
theorem kd_T_beginChoice_5 : decode kb_T_beginChoice 5 = .ok (.getfield 9, 3) := by decide +kernel
theorem kd_T_beginChoice_8 : decode kb_T_beginChoice 8 = .ok (.getfield 23, 3) := by decide +kernel
theorem kd_T_beginChoice_11 : decode kb_T_beginChoice 11 = .ok (.invokevirtual 29, 3) := by decide +kernel
theorem kd_T_beginChoice_14 : decode kb_T_beginChoice 14 = .ok (.aload_n 0, 1) := by decide +kernel
theorem kd_T_beginChoice_15 : decode kb_T_beginChoice 15 = .ok (.aload_n 0, 1) := by decide +kernel
theorem kd_T_beginChoice_16 : decode kb_T_beginChoice 16 = .ok (.iconst 0, 1) := by decide +kernel
theorem kd_T_beginChoice_17 : decode kb_T_beginChoice 17 = .ok (.invokevirtual 35, 3) := by decide +kernel
theorem kd_T_beginChoice_20 : decode kb_T_beginChoice 20 = .ok (.putfield 102, 3) := by decide +kernel
theorem kd_T_beginChoice_23 : decode kb_T_beginChoice 23 = .ok (.aload_n 0, 1) := by decide +kernel
theorem kd_T_beginChoice_24 : decode kb_T_beginChoice 24 = .ok (.lconst 1, 1) := by decide +kernel
theorem kd_T_beginChoice_25 : decode kb_T_beginChoice 25 = .ok (.putfield 113, 3) := by decide +kernel
theorem kd_T_beginChoice_28 : decode kb_T_beginChoice 28 = .ok (.return_, 1) := by decide +kernel
theorem kd_T_sumIfTaken_0 : decode kb_T_sumIfTaken 0 = .ok (.aload_n 0, 1) := by decide +kernel
theorem kd_T_sumIfTaken_1 : decode kb_T_sumIfTaken 1 = .ok (.getfield 15, 3) := by decide +kernel
theorem kd_T_sumIfTaken_4 : decode kb_T_sumIfTaken 4 = .ok (.aload_n 0, 1) := by decide +kernel
theorem kd_T_sumIfTaken_5 : decode kb_T_sumIfTaken 5 = .ok (.getfield 9, 3) := by decide +kernel
theorem kd_T_sumIfTaken_8 : decode kb_T_sumIfTaken 8 = .ok (.getfield 54, 3) := by decide +kernel
theorem kd_T_sumIfTaken_11 : decode kb_T_sumIfTaken 11 = .ok (.iload_n 1, 1) := by decide +kernel
theorem kd_T_sumIfTaken_12 : decode kb_T_sumIfTaken 12 = .ok (.iaload, 1) := by decide +kernel
theorem kd_T_sumIfTaken_13 : decode kb_T_sumIfTaken 13 = .ok (.aload_n 0, 1) := by decide +kernel
theorem kd_T_sumIfTaken_14 : decode kb_T_sumIfTaken 14 = .ok (.getfield 9, 3) := by decide +kernel
theorem kd_T_sumIfTaken_17 : decode kb_T_sumIfTaken 17 = .ok (.getfield 57, 3) := by decide +kernel
theorem kd_T_sumIfTaken_20 : decode kb_T_sumIfTaken 20 = .ok (.iload_n 1, 1) := by decide +kernel
theorem kd_T_sumIfTaken_21 : decode kb_T_sumIfTaken 21 = .ok (.iaload, 1) := by decide +kernel
theorem kd_T_sumIfTaken_22 : decode kb_T_sumIfTaken 22 = .ok (.invokevirtual 116, 3) := by decide +kernel
theorem kd_T_sumIfTaken_25 : decode kb_T_sumIfTaken 25 = .ok (.ifCond .eq 5, 3) := by decide +kernel
theorem kd_T_sumIfTaken_28 : decode kb_T_sumIfTaken 28 = .ok (.lconst 0, 1) := by decide +kernel
theorem kd_T_sumIfTaken_29 : decode kb_T_sumIfTaken 29 = .ok (.lreturn, 1) := by decide +kernel
theorem kd_T_sumIfTaken_30 : decode kb_T_sumIfTaken 30 = .ok (.aload_n 0, 1) := by decide +kernel
theorem kd_T_sumIfTaken_31 : decode kb_T_sumIfTaken 31 = .ok (.getfield 102, 3) := by decide +kernel
theorem kd_T_sumIfTaken_34 : decode kb_T_sumIfTaken 34 = .ok (.aload_n 0, 1) := by decide +kernel
theorem kd_T_sumIfTaken_35 : decode kb_T_sumIfTaken 35 = .ok (.getfield 113, 3) := by decide +kernel
theorem kd_T_sumIfTaken_38 : decode kb_T_sumIfTaken 38 = .ok (.aload_n 0, 1) := by decide +kernel
theorem kd_T_sumIfTaken_39 : decode kb_T_sumIfTaken 39 = .ok (.iload_n 1, 1) := by decide +kernel
theorem kd_T_sumIfTaken_40 : decode kb_T_sumIfTaken 40 = .ok (.iconst 1, 1) := by decide +kernel
theorem kd_T_sumIfTaken_41 : decode kb_T_sumIfTaken 41 = .ok (.iadd, 1) := by decide +kernel
theorem kd_T_sumIfTaken_42 : decode kb_T_sumIfTaken 42 = .ok (.invokevirtual 35, 3) := by decide +kernel
theorem kd_T_sumIfTaken_45 : decode kb_T_sumIfTaken 45 = .ok (.lmul, 1) := by decide +kernel
theorem kd_T_sumIfTaken_46 : decode kb_T_sumIfTaken 46 = .ok (.lsub, 1) := by decide +kernel
theorem kd_T_sumIfTaken_47 : decode kb_T_sumIfTaken 47 = .ok (.lreturn, 1) := by decide +kernel
theorem kd_T_take_0 : decode kb_T_take 0 = .ok (.aload_n 0, 1) := by decide +kernel
theorem kd_T_take_1 : decode kb_T_take 1 = .ok (.lload_n 2, 1) := by decide +kernel
theorem kd_T_take_2 : decode kb_T_take 2 = .ok (.putfield 102, 3) := by decide +kernel
theorem kd_T_take_5 : decode kb_T_take 5 = .ok (.aload_n 0, 1) := by decide +kernel
theorem kd_T_take_6 : decode kb_T_take 6 = .ok (.dup, 1) := by decide +kernel
theorem kd_T_take_7 : decode kb_T_take 7 = .ok (.getfield 113, 3) := by decide +kernel
theorem kd_T_take_10 : decode kb_T_take 10 = .ok (.aload_n 0, 1) := by decide +kernel
theorem kd_T_take_11 : decode kb_T_take 11 = .ok (.getfield 9, 3) := by decide +kernel
theorem kd_T_take_14 : decode kb_T_take 14 = .ok (.getfield 60, 3) := by decide +kernel
theorem kd_T_take_17 : decode kb_T_take 17 = .ok (.iload_n 1, 1) := by decide +kernel
theorem kd_T_take_18 : decode kb_T_take 18 = .ok (.iaload, 1) := by decide +kernel
theorem kd_T_take_19 : decode kb_T_take 19 = .ok (.i2l, 1) := by decide +kernel
theorem kd_T_take_20 : decode kb_T_take 20 = .ok (.lmul, 1) := by decide +kernel
theorem kd_T_take_21 : decode kb_T_take 21 = .ok (.putfield 113, 3) := by decide +kernel
theorem kd_T_take_24 : decode kb_T_take 24 = .ok (.aload_n 0, 1) := by decide +kernel
theorem kd_T_take_25 : decode kb_T_take 25 = .ok (.getfield 15, 3) := by decide +kernel
theorem kd_T_take_28 : decode kb_T_take 28 = .ok (.aload_n 0, 1) := by decide +kernel
theorem kd_T_take_29 : decode kb_T_take 29 = .ok (.getfield 9, 3) := by decide +kernel
theorem kd_T_take_32 : decode kb_T_take 32 = .ok (.getfield 54, 3) := by decide +kernel
theorem kd_T_take_35 : decode kb_T_take 35 = .ok (.iload_n 1, 1) := by decide +kernel
theorem kd_T_take_36 : decode kb_T_take 36 = .ok (.iaload, 1) := by decide +kernel
theorem kd_T_take_37 : decode kb_T_take 37 = .ok (.aload_n 0, 1) := by decide +kernel
theorem kd_T_take_38 : decode kb_T_take 38 = .ok (.getfield 9, 3) := by decide +kernel
theorem kd_T_take_41 : decode kb_T_take 41 = .ok (.getfield 57, 3) := by decide +kernel
theorem kd_T_take_44 : decode kb_T_take 44 = .ok (.iload_n 1, 1) := by decide +kernel
theorem kd_T_take_45 : decode kb_T_take 45 = .ok (.iaload, 1) := by decide +kernel
theorem kd_T_take_46 : decode kb_T_take 46 = .ok (.invokevirtual 74, 3) := by decide +kernel
theorem kd_T_take_49 : decode kb_T_take 49 = .ok (.pop, 1) := by decide +kernel
theorem kd_T_take_50 : decode kb_T_take 50 = .ok (.return_, 1) := by decide +kernel
theorem kd_T_isTree_0 : decode kb_T_isTree 0 = .ok (.iload_n 1, 1) := by decide +kernel
theorem kd_T_isTree_1 : decode kb_T_isTree 1 = .ok (.ifCond .lt 15, 3) := by decide +kernel
theorem kd_T_isTree_4 : decode kb_T_isTree 4 = .ok (.iload_n 1, 1) := by decide +kernel
theorem kd_T_isTree_5 : decode kb_T_isTree 5 = .ok (.aload_n 0, 1) := by decide +kernel
theorem kd_T_isTree_6 : decode kb_T_isTree 6 = .ok (.getfield 9, 3) := by decide +kernel
theorem kd_T_isTree_9 : decode kb_T_isTree 9 = .ok (.getfield 47, 3) := by decide +kernel
theorem kd_T_isTree_12 : decode kb_T_isTree 12 = .ok (.ishr, 1) := by decide +kernel
theorem kd_T_isTree_13 : decode kb_T_isTree 13 = .ok (.ifCond .eq 5, 3) := by decide +kernel
theorem kd_T_isTree_16 : decode kb_T_isTree 16 = .ok (.iconst 0, 1) := by decide +kernel
theorem kd_T_isTree_17 : decode kb_T_isTree 17 = .ok (.ireturn, 1) := by decide +kernel
theorem kd_T_isTree_18 : decode kb_T_isTree 18 = .ok (.aload_n 0, 1) := by decide +kernel
theorem kd_T_isTree_19 : decode kb_T_isTree 19 = .ok (.getfield 15, 3) := by decide +kernel
theorem kd_T_isTree_22 : decode kb_T_isTree 22 = .ok (.aload_n 0, 1) := by decide +kernel
theorem kd_T_isTree_23 : decode kb_T_isTree 23 = .ok (.getfield 9, 3) := by decide +kernel
theorem kd_T_isTree_26 : decode kb_T_isTree 26 = .ok (.getfield 23, 3) := by decide +kernel
theorem kd_T_isTree_29 : decode kb_T_isTree 29 = .ok (.invokevirtual 29, 3) := by decide +kernel
theorem kd_T_isTree_32 : decode kb_T_isTree 32 = .ok (.iconst 0, 1) := by decide +kernel
theorem kd_T_isTree_33 : decode kb_T_isTree 33 = .ok (.istore_n 2, 1) := by decide +kernel
theorem kd_T_isTree_34 : decode kb_T_isTree 34 = .ok (.iload_n 2, 1) := by decide +kernel
theorem kd_T_isTree_35 : decode kb_T_isTree 35 = .ok (.aload_n 0, 1) := by decide +kernel
theorem kd_T_isTree_36 : decode kb_T_isTree 36 = .ok (.getfield 9, 3) := by decide +kernel
theorem kd_T_isTree_39 : decode kb_T_isTree 39 = .ok (.getfield 47, 3) := by decide +kernel
theorem kd_T_isTree_42 : decode kb_T_isTree 42 = .ok (.if_icmp .ge 58, 3) := by decide +kernel
theorem kd_T_isTree_45 : decode kb_T_isTree 45 = .ok (.iload_n 1, 1) := by decide +kernel
theorem kd_T_isTree_46 : decode kb_T_isTree 46 = .ok (.iload_n 2, 1) := by decide +kernel
theorem kd_T_isTree_47 : decode kb_T_isTree 47 = .ok (.ishr, 1) := by decide +kernel
theorem kd_T_isTree_48 : decode kb_T_isTree 48 = .ok (.iconst 1, 1) := by decide +kernel
theorem kd_T_isTree_49 : decode kb_T_isTree 49 = .ok (.iand, 1) := by decide +kernel
theorem kd_T_isTree_50 : decode kb_T_isTree 50 = .ok (.iconst 1, 1) := by decide +kernel
theorem kd_T_isTree_51 : decode kb_T_isTree 51 = .ok (.if_icmp .ne 7, 3) := by decide +kernel
theorem kd_T_isTree_54 : decode kb_T_isTree 54 = .ok (.iconst 1, 1) := by decide +kernel
theorem kd_T_isTree_55 : decode kb_T_isTree 55 = .ok (.goto 4, 3) := by decide +kernel
theorem kd_T_isTree_58 : decode kb_T_isTree 58 = .ok (.iconst 0, 1) := by decide +kernel
theorem kd_T_isTree_59 : decode kb_T_isTree 59 = .ok (.istore_n 3, 1) := by decide +kernel
theorem kd_T_isTree_60 : decode kb_T_isTree 60 = .ok (.iload_n 3, 1) := by decide +kernel
theorem kd_T_isTree_61 : decode kb_T_isTree 61 = .ok (.ifCond .eq 33, 3) := by decide +kernel
theorem kd_T_isTree_64 : decode kb_T_isTree 64 = .ok (.aload_n 0, 1) := by decide +kernel
theorem kd_T_isTree_65 : decode kb_T_isTree 65 = .ok (.getfield 15, 3) := by decide +kernel
theorem kd_T_isTree_68 : decode kb_T_isTree 68 = .ok (.aload_n 0, 1) := by decide +kernel
theorem kd_T_isTree_69 : decode kb_T_isTree 69 = .ok (.getfield 9, 3) := by decide +kernel
theorem kd_T_isTree_72 : decode kb_T_isTree 72 = .ok (.getfield 54, 3) := by decide +kernel
theorem kd_T_isTree_75 : decode kb_T_isTree 75 = .ok (.iload_n 2, 1) := by decide +kernel
theorem kd_T_isTree_76 : decode kb_T_isTree 76 = .ok (.iaload, 1) := by decide +kernel
theorem kd_T_isTree_77 : decode kb_T_isTree 77 = .ok (.aload_n 0, 1) := by decide +kernel
theorem kd_T_isTree_78 : decode kb_T_isTree 78 = .ok (.getfield 9, 3) := by decide +kernel
theorem kd_T_isTree_81 : decode kb_T_isTree 81 = .ok (.getfield 57, 3) := by decide +kernel
theorem kd_T_isTree_84 : decode kb_T_isTree 84 = .ok (.iload_n 2, 1) := by decide +kernel
theorem kd_T_isTree_85 : decode kb_T_isTree 85 = .ok (.iaload, 1) := by decide +kernel
theorem kd_T_isTree_86 : decode kb_T_isTree 86 = .ok (.invokevirtual 74, 3) := by decide +kernel
theorem kd_T_isTree_89 : decode kb_T_isTree 89 = .ok (.ifCond .ne 5, 3) := by decide +kernel
theorem kd_T_isTree_92 : decode kb_T_isTree 92 = .ok (.iconst 0, 1) := by decide +kernel
theorem kd_T_isTree_93 : decode kb_T_isTree 93 = .ok (.ireturn, 1) := by decide +kernel
theorem kd_T_isTree_94 : decode kb_T_isTree 94 = .ok (.iinc 2 1, 3) := by decide +kernel
theorem kd_T_isTree_97 : decode kb_T_isTree 97 = .ok (.goto (-63), 3) := by decide +kernel
theorem kd_T_isTree_100 : decode kb_T_isTree 100 = .ok (.aload_n 0, 1) := by decide +kernel
theorem kd_T_isTree_101 : decode kb_T_isTree 101 = .ok (.getfield 15, 3) := by decide +kernel
theorem kd_T_isTree_104 : decode kb_T_isTree 104 = .ok (.getfield 39, 3) := by decide +kernel
theorem kd_T_isTree_107 : decode kb_T_isTree 107 = .ok (.iconst 1, 1) := by decide +kernel
theorem kd_T_isTree_108 : decode kb_T_isTree 108 = .ok (.if_icmp .ne 7, 3) := by decide +kernel
theorem kd_T_isTree_111 : decode kb_T_isTree 111 = .ok (.iconst 1, 1) := by decide +kernel
theorem kd_T_isTree_112 : decode kb_T_isTree 112 = .ok (.goto 4, 3) := by decide +kernel
theorem kd_T_isTree_115 : decode kb_T_isTree 115 = .ok (.iconst 0, 1) := by decide +kernel
theorem kd_T_isTree_116 : decode kb_T_isTree 116 = .ok (.ireturn, 1) := by decide +kernel
end
section
theorem kd_R_init_0 : decode kb_R_init 0 = .ok (.aload_n 0, 1) := by decide +kernel
theorem kd_R_init_1 : decode kb_R_init 1 = .ok (.invokespecial 3, 3) := by decide +kernel
theorem kd_R_init_4 : decode kb_R_init 4 = .ok (.aload_n 0, 1) := by decide +kernel
theorem kd_R_init_5 : decode kb_R_init 5 = .ok (.bipush 10, 2) := by decide +kernel
theorem kd_R_init_7 : decode kb_R_init 7 = .ok (.newarray .int, 2) := by decide +kernel
theorem kd_R_init_9 : decode kb_R_init 9 = .ok (.putfield 9, 3) := by decide +kernel
theorem kd_R_init_12 : decode kb_R_init 12 = .ok (.aload_n 0, 1) := by decide +kernel
theorem kd_R_init_13 : decode kb_R_init 13 = .ok (.bipush 10, 2) := by decide +kernel
theorem kd_R_init_15 : decode kb_R_init 15 = .ok (.newarray .int, 2) := by decide +kernel
theorem kd_R_init_17 : decode kb_R_init 17 = .ok (.putfield 15, 3) := by decide +kernel
theorem kd_R_init_20 : decode kb_R_init 20 = .ok (.aload_n 0, 1) := by decide +kernel
theorem kd_R_init_21 : decode kb_R_init 21 = .ok (.aload_n 1, 1) := by decide +kernel
theorem kd_R_init_22 : decode kb_R_init 22 = .ok (.putfield 18, 3) := by decide +kernel
theorem kd_R_init_25 : decode kb_R_init 25 = .ok (.aload_n 0, 1) := by decide +kernel
theorem kd_R_init_26 : decode kb_R_init 26 = .ok (.aload_n 2, 1) := by decide +kernel
theorem kd_R_init_27 : decode kb_R_init 27 = .ok (.putfield 22, 3) := by decide +kernel
theorem kd_R_init_30 : decode kb_R_init 30 = .ok (.return_, 1) := by decide +kernel
theorem kd_R_partsOfNet_0 : decode kb_R_partsOfNet 0 = .ok (.aload_n 0, 1) := by decide +kernel
theorem kd_R_partsOfNet_1 : decode kb_R_partsOfNet 1 = .ok (.getfield 18, 3) := by decide +kernel
theorem kd_R_partsOfNet_4 : decode kb_R_partsOfNet 4 = .ok (.aload_n 0, 1) := by decide +kernel
theorem kd_R_partsOfNet_5 : decode kb_R_partsOfNet 5 = .ok (.getfield 22, 3) := by decide +kernel
theorem kd_R_partsOfNet_8 : decode kb_R_partsOfNet 8 = .ok (.invokevirtual 26, 3) := by decide +kernel
theorem kd_R_partsOfNet_11 : decode kb_R_partsOfNet 11 = .ok (.pop, 1) := by decide +kernel
theorem kd_R_partsOfNet_12 : decode kb_R_partsOfNet 12 = .ok (.aload_n 0, 1) := by decide +kernel
theorem kd_R_partsOfNet_13 : decode kb_R_partsOfNet 13 = .ok (.getfield 22, 3) := by decide +kernel
theorem kd_R_partsOfNet_16 : decode kb_R_partsOfNet 16 = .ok (.getfield 32, 3) := by decide +kernel
theorem kd_R_partsOfNet_19 : decode kb_R_partsOfNet 19 = .ok (.ireturn, 1) := by decide +kernel
theorem kd_R_count_0 : decode kb_R_count 0 = .ok (.aload_n 0, 1) := by decide +kernel
theorem kd_R_count_1 : decode kb_R_count 1 = .ok (.getfield 18, 3) := by decide +kernel
theorem kd_R_count_4 : decode kb_R_count 4 = .ok (.getfield 38, 3) := by decide +kernel
theorem kd_R_count_7 : decode kb_R_count 7 = .ok (.aload_n 0, 1) := by decide +kernel
theorem kd_R_count_8 : decode kb_R_count 8 = .ok (.getfield 18, 3) := by decide +kernel
theorem kd_R_count_11 : decode kb_R_count 11 = .ok (.aload_n 0, 1) := by decide +kernel
theorem kd_R_count_12 : decode kb_R_count 12 = .ok (.getfield 22, 3) := by decide +kernel
theorem kd_R_count_15 : decode kb_R_count 15 = .ok (.invokevirtual 26, 3) := by decide +kernel
theorem kd_R_count_18 : decode kb_R_count 18 = .ok (.invokestatic 41, 3) := by decide +kernel
theorem kd_R_count_21 : decode kb_R_count 21 = .ok (.isub, 1) := by decide +kernel
theorem kd_R_count_22 : decode kb_R_count 22 = .ok (.ireturn, 1) := by decide +kernel
theorem kd_R_lay_0 : decode kb_R_lay 0 = .ok (.aload_n 0, 1) := by decide +kernel
theorem kd_R_lay_1 : decode kb_R_lay 1 = .ok (.iconst 0, 1) := by decide +kernel
theorem kd_R_lay_2 : decode kb_R_lay 2 = .ok (.putfield 47, 3) := by decide +kernel
theorem kd_R_lay_5 : decode kb_R_lay 5 = .ok (.aload_n 0, 1) := by decide +kernel
theorem kd_R_lay_6 : decode kb_R_lay 6 = .ok (.getfield 18, 3) := by decide +kernel
theorem kd_R_lay_9 : decode kb_R_lay 9 = .ok (.aload_n 0, 1) := by decide +kernel
theorem kd_R_lay_10 : decode kb_R_lay 10 = .ok (.getfield 22, 3) := by decide +kernel
theorem kd_R_lay_13 : decode kb_R_lay 13 = .ok (.invokevirtual 26, 3) := by decide +kernel
theorem kd_R_lay_16 : decode kb_R_lay 16 = .ok (.istore_n 2, 1) := by decide +kernel
theorem kd_R_lay_17 : decode kb_R_lay 17 = .ok (.aload_n 0, 1) := by decide +kernel
theorem kd_R_lay_18 : decode kb_R_lay 18 = .ok (.iload_n 2, 1) := by decide +kernel
theorem kd_R_lay_19 : decode kb_R_lay 19 = .ok (.iload_n 1, 1) := by decide +kernel
theorem kd_R_lay_20 : decode kb_R_lay 20 = .ok (.invokevirtual 50, 3) := by decide +kernel
theorem kd_R_lay_23 : decode kb_R_lay 23 = .ok (.istore_n 3, 1) := by decide +kernel
theorem kd_R_lay_24 : decode kb_R_lay 24 = .ok (.iload_n 3, 1) := by decide +kernel
theorem kd_R_lay_25 : decode kb_R_lay 25 = .ok (.iconst (-1), 1) := by decide +kernel
theorem kd_R_lay_26 : decode kb_R_lay 26 = .ok (.if_icmp .ne 4, 3) := by decide +kernel
theorem kd_R_lay_29 : decode kb_R_lay 29 = .ok (.return_, 1) := by decide +kernel
theorem kd_R_lay_30 : decode kb_R_lay 30 = .ok (.aload_n 0, 1) := by decide +kernel
theorem kd_R_lay_31 : decode kb_R_lay 31 = .ok (.getfield 9, 3) := by decide +kernel
theorem kd_R_lay_34 : decode kb_R_lay 34 = .ok (.aload_n 0, 1) := by decide +kernel
theorem kd_R_lay_35 : decode kb_R_lay 35 = .ok (.dup, 1) := by decide +kernel
theorem kd_R_lay_36 : decode kb_R_lay 36 = .ok (.getfield 47, 3) := by decide +kernel
theorem kd_R_lay_39 : decode kb_R_lay 39 = .ok (.dup_x1, 1) := by decide +kernel
theorem kd_R_lay_40 : decode kb_R_lay 40 = .ok (.iconst 1, 1) := by decide +kernel
theorem kd_R_lay_41 : decode kb_R_lay 41 = .ok (.iadd, 1) := by decide +kernel
theorem kd_R_lay_42 : decode kb_R_lay 42 = .ok (.putfield 47, 3) := by decide +kernel
theorem kd_R_lay_45 : decode kb_R_lay 45 = .ok (.iload_n 3, 1) := by decide +kernel
theorem kd_R_lay_46 : decode kb_R_lay 46 = .ok (.iastore, 1) := by decide +kernel
theorem kd_R_lay_47 : decode kb_R_lay 47 = .ok (.aload_n 0, 1) := by decide +kernel
theorem kd_R_lay_48 : decode kb_R_lay 48 = .ok (.getfield 18, 3) := by decide +kernel
theorem kd_R_lay_51 : decode kb_R_lay 51 = .ok (.getfield 54, 3) := by decide +kernel
theorem kd_R_lay_54 : decode kb_R_lay 54 = .ok (.iload_n 3, 1) := by decide +kernel
theorem kd_R_lay_55 : decode kb_R_lay 55 = .ok (.iaload, 1) := by decide +kernel
theorem kd_R_lay_56 : decode kb_R_lay 56 = .ok (.istore 4, 2) := by decide +kernel
theorem kd_R_lay_58 : decode kb_R_lay 58 = .ok (.aload_n 0, 1) := by decide +kernel
theorem kd_R_lay_59 : decode kb_R_lay 59 = .ok (.iload_n 2, 1) := by decide +kernel
theorem kd_R_lay_60 : decode kb_R_lay 60 = .ok (.iload 4, 2) := by decide +kernel
theorem kd_R_lay_62 : decode kb_R_lay 62 = .ok (.invokevirtual 57, 3) := by decide +kernel
theorem kd_R_lay_65 : decode kb_R_lay 65 = .ok (.aload_n 0, 1) := by decide +kernel
theorem kd_R_lay_66 : decode kb_R_lay 66 = .ok (.getfield 18, 3) := by decide +kernel
theorem kd_R_lay_69 : decode kb_R_lay 69 = .ok (.getfield 61, 3) := by decide +kernel
theorem kd_R_lay_72 : decode kb_R_lay 72 = .ok (.iload_n 3, 1) := by decide +kernel
theorem kd_R_lay_73 : decode kb_R_lay 73 = .ok (.iaload, 1) := by decide +kernel
theorem kd_R_lay_74 : decode kb_R_lay 74 = .ok (.istore 5, 2) := by decide +kernel
theorem kd_R_lay_76 : decode kb_R_lay 76 = .ok (.iload 5, 2) := by decide +kernel
theorem kd_R_lay_78 : decode kb_R_lay 78 = .ok (.iload 4, 2) := by decide +kernel
theorem kd_R_lay_80 : decode kb_R_lay 80 = .ok (.if_icmp .eq 96, 3) := by decide +kernel
theorem kd_R_lay_83 : decode kb_R_lay 83 = .ok (.aload_n 0, 1) := by decide +kernel
theorem kd_R_lay_84 : decode kb_R_lay 84 = .ok (.getfield 15, 3) := by decide +kernel
theorem kd_R_lay_87 : decode kb_R_lay 87 = .ok (.iload 5, 2) := by decide +kernel
theorem kd_R_lay_89 : decode kb_R_lay 89 = .ok (.iaload, 1) := by decide +kernel
theorem kd_R_lay_90 : decode kb_R_lay 90 = .ok (.iconst (-1), 1) := by decide +kernel
theorem kd_R_lay_91 : decode kb_R_lay 91 = .ok (.if_icmp .eq 85, 3) := by decide +kernel
theorem kd_R_lay_94 : decode kb_R_lay 94 = .ok (.aload_n 0, 1) := by decide +kernel
theorem kd_R_lay_95 : decode kb_R_lay 95 = .ok (.getfield 47, 3) := by decide +kernel
theorem kd_R_lay_98 : decode kb_R_lay 98 = .ok (.aload_n 0, 1) := by decide +kernel
theorem kd_R_lay_99 : decode kb_R_lay 99 = .ok (.getfield 9, 3) := by decide +kernel
theorem kd_R_lay_102 : decode kb_R_lay 102 = .ok (.arraylength, 1) := by decide +kernel
theorem kd_R_lay_103 : decode kb_R_lay 103 = .ok (.if_icmp .ge 73, 3) := by decide +kernel
theorem kd_R_lay_106 : decode kb_R_lay 106 = .ok (.aload_n 0, 1) := by decide +kernel
theorem kd_R_lay_107 : decode kb_R_lay 107 = .ok (.getfield 15, 3) := by decide +kernel
theorem kd_R_lay_110 : decode kb_R_lay 110 = .ok (.iload 5, 2) := by decide +kernel
theorem kd_R_lay_112 : decode kb_R_lay 112 = .ok (.iaload, 1) := by decide +kernel
theorem kd_R_lay_113 : decode kb_R_lay 113 = .ok (.istore 6, 2) := by decide +kernel
theorem kd_R_lay_115 : decode kb_R_lay 115 = .ok (.aload_n 0, 1) := by decide +kernel
theorem kd_R_lay_116 : decode kb_R_lay 116 = .ok (.getfield 9, 3) := by decide +kernel
theorem kd_R_lay_119 : decode kb_R_lay 119 = .ok (.aload_n 0, 1) := by decide +kernel
theorem kd_R_lay_120 : decode kb_R_lay 120 = .ok (.dup, 1) := by decide +kernel
theorem kd_R_lay_121 : decode kb_R_lay 121 = .ok (.getfield 47, 3) := by decide +kernel
theorem kd_R_lay_124 : decode kb_R_lay 124 = .ok (.dup_x1, 1) := by decide +kernel
theorem kd_R_lay_125 : decode kb_R_lay 125 = .ok (.iconst 1, 1) := by decide +kernel
theorem kd_R_lay_126 : decode kb_R_lay 126 = .ok (.iadd, 1) := by decide +kernel
theorem kd_R_lay_127 : decode kb_R_lay 127 = .ok (.putfield 47, 3) := by decide +kernel
theorem kd_R_lay_130 : decode kb_R_lay 130 = .ok (.iload 6, 2) := by decide +kernel
theorem kd_R_lay_132 : decode kb_R_lay 132 = .ok (.iastore, 1) := by decide +kernel
theorem kd_R_lay_133 : decode kb_R_lay 133 = .ok (.aload_n 0, 1) := by decide +kernel
theorem kd_R_lay_134 : decode kb_R_lay 134 = .ok (.getfield 18, 3) := by decide +kernel
theorem kd_R_lay_137 : decode kb_R_lay 137 = .ok (.getfield 54, 3) := by decide +kernel
theorem kd_R_lay_140 : decode kb_R_lay 140 = .ok (.iload 6, 2) := by decide +kernel
theorem kd_R_lay_142 : decode kb_R_lay 142 = .ok (.iaload, 1) := by decide +kernel
theorem kd_R_lay_143 : decode kb_R_lay 143 = .ok (.iload 5, 2) := by decide +kernel
theorem kd_R_lay_145 : decode kb_R_lay 145 = .ok (.if_icmp .ne 16, 3) := by decide +kernel
theorem kd_R_lay_148 : decode kb_R_lay 148 = .ok (.aload_n 0, 1) := by decide +kernel
theorem kd_R_lay_149 : decode kb_R_lay 149 = .ok (.getfield 18, 3) := by decide +kernel
theorem kd_R_lay_152 : decode kb_R_lay 152 = .ok (.getfield 61, 3) := by decide +kernel
theorem kd_R_lay_155 : decode kb_R_lay 155 = .ok (.iload 6, 2) := by decide +kernel
theorem kd_R_lay_157 : decode kb_R_lay 157 = .ok (.iaload, 1) := by decide +kernel
theorem kd_R_lay_158 : decode kb_R_lay 158 = .ok (.goto 13, 3) := by decide +kernel
theorem kd_R_lay_161 : decode kb_R_lay 161 = .ok (.aload_n 0, 1) := by decide +kernel
theorem kd_R_lay_162 : decode kb_R_lay 162 = .ok (.getfield 18, 3) := by decide +kernel
theorem kd_R_lay_165 : decode kb_R_lay 165 = .ok (.getfield 54, 3) := by decide +kernel
theorem kd_R_lay_168 : decode kb_R_lay 168 = .ok (.iload 6, 2) := by decide +kernel
theorem kd_R_lay_170 : decode kb_R_lay 170 = .ok (.iaload, 1) := by decide +kernel
theorem kd_R_lay_171 : decode kb_R_lay 171 = .ok (.istore 5, 2) := by decide +kernel
theorem kd_R_lay_173 : decode kb_R_lay 173 = .ok (.goto (-97), 3) := by decide +kernel
theorem kd_R_lay_176 : decode kb_R_lay 176 = .ok (.return_, 1) := by decide +kernel
theorem kd_R_untaken_0 : decode kb_R_untaken 0 = .ok (.iconst 0, 1) := by decide +kernel
theorem kd_R_untaken_1 : decode kb_R_untaken 1 = .ok (.istore_n 3, 1) := by decide +kernel
theorem kd_R_untaken_2 : decode kb_R_untaken 2 = .ok (.iconst 0, 1) := by decide +kernel
theorem kd_R_untaken_3 : decode kb_R_untaken 3 = .ok (.istore 4, 2) := by decide +kernel
theorem kd_R_untaken_5 : decode kb_R_untaken 5 = .ok (.iload 4, 2) := by decide +kernel
theorem kd_R_untaken_7 : decode kb_R_untaken 7 = .ok (.aload_n 0, 1) := by decide +kernel
theorem kd_R_untaken_8 : decode kb_R_untaken 8 = .ok (.getfield 18, 3) := by decide +kernel
theorem kd_R_untaken_11 : decode kb_R_untaken 11 = .ok (.getfield 38, 3) := by decide +kernel
theorem kd_R_untaken_14 : decode kb_R_untaken 14 = .ok (.if_icmp .ge 29, 3) := by decide +kernel
theorem kd_R_untaken_17 : decode kb_R_untaken 17 = .ok (.iload_n 1, 1) := by decide +kernel
theorem kd_R_untaken_18 : decode kb_R_untaken 18 = .ok (.iload 4, 2) := by decide +kernel
theorem kd_R_untaken_20 : decode kb_R_untaken 20 = .ok (.ishr, 1) := by decide +kernel
theorem kd_R_untaken_21 : decode kb_R_untaken 21 = .ok (.iconst 1, 1) := by decide +kernel
theorem kd_R_untaken_22 : decode kb_R_untaken 22 = .ok (.iand, 1) := by decide +kernel
theorem kd_R_untaken_23 : decode kb_R_untaken 23 = .ok (.ifCond .ne 14, 3) := by decide +kernel
theorem kd_R_untaken_26 : decode kb_R_untaken 26 = .ok (.iload_n 3, 1) := by decide +kernel
theorem kd_R_untaken_27 : decode kb_R_untaken 27 = .ok (.iload_n 2, 1) := by decide +kernel
theorem kd_R_untaken_28 : decode kb_R_untaken 28 = .ok (.if_icmp .ne 6, 3) := by decide +kernel
theorem kd_R_untaken_31 : decode kb_R_untaken 31 = .ok (.iload 4, 2) := by decide +kernel
theorem kd_R_untaken_33 : decode kb_R_untaken 33 = .ok (.ireturn, 1) := by decide +kernel
theorem kd_R_untaken_34 : decode kb_R_untaken 34 = .ok (.iinc 3 1, 3) := by decide +kernel
theorem kd_R_untaken_37 : decode kb_R_untaken 37 = .ok (.iinc 4 1, 3) := by decide +kernel
theorem kd_R_untaken_40 : decode kb_R_untaken 40 = .ok (.goto (-35), 3) := by decide +kernel
theorem kd_R_untaken_43 : decode kb_R_untaken 43 = .ok (.iconst (-1), 1) := by decide +kernel
theorem kd_R_untaken_44 : decode kb_R_untaken 44 = .ok (.ireturn, 1) := by decide +kernel
theorem kd_R_findWaysBack_0 : decode kb_R_findWaysBack 0 = .ok (.iconst 0, 1) := by decide +kernel
theorem kd_R_findWaysBack_1 : decode kb_R_findWaysBack 1 = .ok (.istore_n 3, 1) := by decide +kernel
theorem kd_R_findWaysBack_2 : decode kb_R_findWaysBack 2 = .ok (.iload_n 3, 1) := by decide +kernel
theorem kd_R_findWaysBack_3 : decode kb_R_findWaysBack 3 = .ok (.aload_n 0, 1) := by decide +kernel
theorem kd_R_findWaysBack_4 : decode kb_R_findWaysBack 4 = .ok (.getfield 18, 3) := by decide +kernel
theorem kd_R_findWaysBack_7 : decode kb_R_findWaysBack 7 = .ok (.getfield 64, 3) := by decide +kernel
theorem kd_R_findWaysBack_10 : decode kb_R_findWaysBack 10 = .ok (.if_icmp .ge 16, 3) := by decide +kernel
theorem kd_R_findWaysBack_13 : decode kb_R_findWaysBack 13 = .ok (.aload_n 0, 1) := by decide +kernel
theorem kd_R_findWaysBack_14 : decode kb_R_findWaysBack 14 = .ok (.getfield 15, 3) := by decide +kernel
theorem kd_R_findWaysBack_17 : decode kb_R_findWaysBack 17 = .ok (.iload_n 3, 1) := by decide +kernel
theorem kd_R_findWaysBack_18 : decode kb_R_findWaysBack 18 = .ok (.iconst (-1), 1) := by decide +kernel
theorem kd_R_findWaysBack_19 : decode kb_R_findWaysBack 19 = .ok (.iastore, 1) := by decide +kernel
theorem kd_R_findWaysBack_20 : decode kb_R_findWaysBack 20 = .ok (.iinc 3 1, 3) := by decide +kernel
theorem kd_R_findWaysBack_23 : decode kb_R_findWaysBack 23 = .ok (.goto (-21), 3) := by decide +kernel
theorem kd_R_findWaysBack_26 : decode kb_R_findWaysBack 26 = .ok (.iconst 1, 1) := by decide +kernel
theorem kd_R_findWaysBack_27 : decode kb_R_findWaysBack 27 = .ok (.iload_n 2, 1) := by decide +kernel
theorem kd_R_findWaysBack_28 : decode kb_R_findWaysBack 28 = .ok (.ishl, 1) := by decide +kernel
theorem kd_R_findWaysBack_29 : decode kb_R_findWaysBack 29 = .ok (.istore_n 3, 1) := by decide +kernel
theorem kd_R_findWaysBack_30 : decode kb_R_findWaysBack 30 = .ok (.iconst 1, 1) := by decide +kernel
theorem kd_R_findWaysBack_31 : decode kb_R_findWaysBack 31 = .ok (.istore 4, 2) := by decide +kernel
theorem kd_R_findWaysBack_33 : decode kb_R_findWaysBack 33 = .ok (.iload 4, 2) := by decide +kernel
theorem kd_R_findWaysBack_35 : decode kb_R_findWaysBack 35 = .ok (.aload_n 0, 1) := by decide +kernel
theorem kd_R_findWaysBack_36 : decode kb_R_findWaysBack 36 = .ok (.getfield 18, 3) := by decide +kernel
theorem kd_R_findWaysBack_39 : decode kb_R_findWaysBack 39 = .ok (.getfield 64, 3) := by decide +kernel
theorem kd_R_findWaysBack_42 : decode kb_R_findWaysBack 42 = .ok (.if_icmp .ge 48, 3) := by decide +kernel
theorem kd_R_findWaysBack_45 : decode kb_R_findWaysBack 45 = .ok (.iconst 0, 1) := by decide +kernel
theorem kd_R_findWaysBack_46 : decode kb_R_findWaysBack 46 = .ok (.istore 5, 2) := by decide +kernel
theorem kd_R_findWaysBack_48 : decode kb_R_findWaysBack 48 = .ok (.iload 5, 2) := by decide +kernel
theorem kd_R_findWaysBack_50 : decode kb_R_findWaysBack 50 = .ok (.aload_n 0, 1) := by decide +kernel
theorem kd_R_findWaysBack_51 : decode kb_R_findWaysBack 51 = .ok (.getfield 18, 3) := by decide +kernel
theorem kd_R_findWaysBack_54 : decode kb_R_findWaysBack 54 = .ok (.getfield 38, 3) := by decide +kernel
theorem kd_R_findWaysBack_57 : decode kb_R_findWaysBack 57 = .ok (.if_icmp .ge 27, 3) := by decide +kernel
theorem kd_R_findWaysBack_60 : decode kb_R_findWaysBack 60 = .ok (.iload_n 1, 1) := by decide +kernel
theorem kd_R_findWaysBack_61 : decode kb_R_findWaysBack 61 = .ok (.iload 5, 2) := by decide +kernel
theorem kd_R_findWaysBack_63 : decode kb_R_findWaysBack 63 = .ok (.ishr, 1) := by decide +kernel
theorem kd_R_findWaysBack_64 : decode kb_R_findWaysBack 64 = .ok (.iconst 1, 1) := by decide +kernel
theorem kd_R_findWaysBack_65 : decode kb_R_findWaysBack 65 = .ok (.iand, 1) := by decide +kernel
theorem kd_R_findWaysBack_66 : decode kb_R_findWaysBack 66 = .ok (.iconst 1, 1) := by decide +kernel
theorem kd_R_findWaysBack_67 : decode kb_R_findWaysBack 67 = .ok (.if_icmp .ne 11, 3) := by decide +kernel
theorem kd_R_findWaysBack_70 : decode kb_R_findWaysBack 70 = .ok (.aload_n 0, 1) := by decide +kernel
theorem kd_R_findWaysBack_71 : decode kb_R_findWaysBack 71 = .ok (.iload 5, 2) := by decide +kernel
theorem kd_R_findWaysBack_73 : decode kb_R_findWaysBack 73 = .ok (.iload_n 3, 1) := by decide +kernel
theorem kd_R_findWaysBack_74 : decode kb_R_findWaysBack 74 = .ok (.invokevirtual 67, 3) := by decide +kernel
theorem kd_R_findWaysBack_77 : decode kb_R_findWaysBack 77 = .ok (.istore_n 3, 1) := by decide +kernel
theorem kd_R_findWaysBack_78 : decode kb_R_findWaysBack 78 = .ok (.iinc 5 1, 3) := by decide +kernel
theorem kd_R_findWaysBack_81 : decode kb_R_findWaysBack 81 = .ok (.goto (-33), 3) := by decide +kernel
theorem kd_R_findWaysBack_84 : decode kb_R_findWaysBack 84 = .ok (.iinc 4 1, 3) := by decide +kernel
theorem kd_R_findWaysBack_87 : decode kb_R_findWaysBack 87 = .ok (.goto (-54), 3) := by decide +kernel
theorem kd_R_findWaysBack_90 : decode kb_R_findWaysBack 90 = .ok (.return_, 1) := by decide +kernel
theorem kd_R_reach_0 : decode kb_R_reach 0 = .ok (.iload_n 2, 1) := by decide +kernel
theorem kd_R_reach_1 : decode kb_R_reach 1 = .ok (.aload_n 0, 1) := by decide +kernel
theorem kd_R_reach_2 : decode kb_R_reach 2 = .ok (.getfield 18, 3) := by decide +kernel
theorem kd_R_reach_5 : decode kb_R_reach 5 = .ok (.getfield 54, 3) := by decide +kernel
theorem kd_R_reach_8 : decode kb_R_reach 8 = .ok (.iload_n 1, 1) := by decide +kernel
theorem kd_R_reach_9 : decode kb_R_reach 9 = .ok (.iaload, 1) := by decide +kernel
theorem kd_R_reach_10 : decode kb_R_reach 10 = .ok (.ishr, 1) := by decide +kernel
theorem kd_R_reach_11 : decode kb_R_reach 11 = .ok (.iconst 1, 1) := by decide +kernel
theorem kd_R_reach_12 : decode kb_R_reach 12 = .ok (.iand, 1) := by decide +kernel
theorem kd_R_reach_13 : decode kb_R_reach 13 = .ok (.iconst 1, 1) := by decide +kernel
theorem kd_R_reach_14 : decode kb_R_reach 14 = .ok (.if_icmp .ne 7, 3) := by decide +kernel
theorem kd_R_reach_17 : decode kb_R_reach 17 = .ok (.iconst 1, 1) := by decide +kernel
theorem kd_R_reach_18 : decode kb_R_reach 18 = .ok (.goto 4, 3) := by decide +kernel
theorem kd_R_reach_21 : decode kb_R_reach 21 = .ok (.iconst 0, 1) := by decide +kernel
theorem kd_R_reach_22 : decode kb_R_reach 22 = .ok (.istore_n 3, 1) := by decide +kernel
theorem kd_R_reach_23 : decode kb_R_reach 23 = .ok (.iload_n 2, 1) := by decide +kernel
theorem kd_R_reach_24 : decode kb_R_reach 24 = .ok (.aload_n 0, 1) := by decide +kernel
theorem kd_R_reach_25 : decode kb_R_reach 25 = .ok (.getfield 18, 3) := by decide +kernel
theorem kd_R_reach_28 : decode kb_R_reach 28 = .ok (.getfield 61, 3) := by decide +kernel
theorem kd_R_reach_31 : decode kb_R_reach 31 = .ok (.iload_n 1, 1) := by decide +kernel
theorem kd_R_reach_32 : decode kb_R_reach 32 = .ok (.iaload, 1) := by decide +kernel
theorem kd_R_reach_33 : decode kb_R_reach 33 = .ok (.ishr, 1) := by decide +kernel
theorem kd_R_reach_34 : decode kb_R_reach 34 = .ok (.iconst 1, 1) := by decide +kernel
theorem kd_R_reach_35 : decode kb_R_reach 35 = .ok (.iand, 1) := by decide +kernel
theorem kd_R_reach_36 : decode kb_R_reach 36 = .ok (.iconst 1, 1) := by decide +kernel
theorem kd_R_reach_37 : decode kb_R_reach 37 = .ok (.if_icmp .ne 7, 3) := by decide +kernel
theorem kd_R_reach_40 : decode kb_R_reach 40 = .ok (.iconst 1, 1) := by decide +kernel
theorem kd_R_reach_41 : decode kb_R_reach 41 = .ok (.goto 4, 3) := by decide +kernel
theorem kd_R_reach_44 : decode kb_R_reach 44 = .ok (.iconst 0, 1) := by decide +kernel
theorem kd_R_reach_45 : decode kb_R_reach 45 = .ok (.istore 4, 2) := by decide +kernel
theorem kd_R_reach_47 : decode kb_R_reach 47 = .ok (.iload_n 3, 1) := by decide +kernel
theorem kd_R_reach_48 : decode kb_R_reach 48 = .ok (.iload 4, 2) := by decide +kernel
theorem kd_R_reach_50 : decode kb_R_reach 50 = .ok (.if_icmp .ne 5, 3) := by decide +kernel
theorem kd_R_reach_53 : decode kb_R_reach 53 = .ok (.iload_n 2, 1) := by decide +kernel
theorem kd_R_reach_54 : decode kb_R_reach 54 = .ok (.ireturn, 1) := by decide +kernel
theorem kd_R_reach_55 : decode kb_R_reach 55 = .ok (.iload_n 3, 1) := by decide +kernel
theorem kd_R_reach_56 : decode kb_R_reach 56 = .ok (.ifCond .eq 15, 3) := by decide +kernel
theorem kd_R_reach_59 : decode kb_R_reach 59 = .ok (.aload_n 0, 1) := by decide +kernel
theorem kd_R_reach_60 : decode kb_R_reach 60 = .ok (.getfield 18, 3) := by decide +kernel
theorem kd_R_reach_63 : decode kb_R_reach 63 = .ok (.getfield 61, 3) := by decide +kernel
theorem kd_R_reach_66 : decode kb_R_reach 66 = .ok (.iload_n 1, 1) := by decide +kernel
theorem kd_R_reach_67 : decode kb_R_reach 67 = .ok (.iaload, 1) := by decide +kernel
theorem kd_R_reach_68 : decode kb_R_reach 68 = .ok (.goto 12, 3) := by decide +kernel
theorem kd_R_reach_71 : decode kb_R_reach 71 = .ok (.aload_n 0, 1) := by decide +kernel
theorem kd_R_reach_72 : decode kb_R_reach 72 = .ok (.getfield 18, 3) := by decide +kernel
theorem kd_R_reach_75 : decode kb_R_reach 75 = .ok (.getfield 54, 3) := by decide +kernel
theorem kd_R_reach_78 : decode kb_R_reach 78 = .ok (.iload_n 1, 1) := by decide +kernel
theorem kd_R_reach_79 : decode kb_R_reach 79 = .ok (.iaload, 1) := by decide +kernel
theorem kd_R_reach_80 : decode kb_R_reach 80 = .ok (.istore 5, 2) := by decide +kernel
theorem kd_R_reach_82 : decode kb_R_reach 82 = .ok (.aload_n 0, 1) := by decide +kernel
theorem kd_R_reach_83 : decode kb_R_reach 83 = .ok (.getfield 15, 3) := by decide +kernel
theorem kd_R_reach_86 : decode kb_R_reach 86 = .ok (.iload 5, 2) := by decide +kernel
theorem kd_R_reach_88 : decode kb_R_reach 88 = .ok (.iload_n 1, 1) := by decide +kernel
theorem kd_R_reach_89 : decode kb_R_reach 89 = .ok (.iastore, 1) := by decide +kernel
theorem kd_R_reach_90 : decode kb_R_reach 90 = .ok (.iload_n 2, 1) := by decide +kernel
theorem kd_R_reach_91 : decode kb_R_reach 91 = .ok (.iconst 1, 1) := by decide +kernel
theorem kd_R_reach_92 : decode kb_R_reach 92 = .ok (.iload 5, 2) := by decide +kernel
theorem kd_R_reach_94 : decode kb_R_reach 94 = .ok (.ishl, 1) := by decide +kernel
theorem kd_R_reach_95 : decode kb_R_reach 95 = .ok (.ior, 1) := by decide +kernel
theorem kd_R_reach_96 : decode kb_R_reach 96 = .ok (.ireturn, 1) := by decide +kernel
theorem kd_U_init_0 : decode kb_U_init 0 = .ok (.aload_n 0, 1) := by decide +kernel
theorem kd_U_init_1 : decode kb_U_init 1 = .ok (.invokespecial 3, 3) := by decide +kernel
theorem kd_U_init_4 : decode kb_U_init 4 = .ok (.aload_n 0, 1) := by decide +kernel
theorem kd_U_init_5 : decode kb_U_init 5 = .ok (.bipush 10, 2) := by decide +kernel
theorem kd_U_init_7 : decode kb_U_init 7 = .ok (.newarray .long, 2) := by decide +kernel
theorem kd_U_init_9 : decode kb_U_init 9 = .ok (.putfield 9, 3) := by decide +kernel
theorem kd_U_init_12 : decode kb_U_init 12 = .ok (.aload_n 0, 1) := by decide +kernel
theorem kd_U_init_13 : decode kb_U_init 13 = .ok (.aload_n 1, 1) := by decide +kernel
theorem kd_U_init_14 : decode kb_U_init 14 = .ok (.putfield 15, 3) := by decide +kernel
theorem kd_U_init_17 : decode kb_U_init 17 = .ok (.aload_n 0, 1) := by decide +kernel
theorem kd_U_init_18 : decode kb_U_init 18 = .ok (.aload_n 2, 1) := by decide +kernel
theorem kd_U_init_19 : decode kb_U_init 19 = .ok (.putfield 19, 3) := by decide +kernel
theorem kd_U_init_22 : decode kb_U_init 22 = .ok (.aload_n 0, 1) := by decide +kernel
theorem kd_U_init_23 : decode kb_U_init 23 = .ok (.aload_n 3, 1) := by decide +kernel
theorem kd_U_init_24 : decode kb_U_init 24 = .ok (.putfield 23, 3) := by decide +kernel
theorem kd_U_init_27 : decode kb_U_init 27 = .ok (.return_, 1) := by decide +kernel
theorem kd_U_round_0 : decode kb_U_round 0 = .ok (.aload_n 0, 1) := by decide +kernel
theorem kd_U_round_1 : decode kb_U_round 1 = .ok (.getfield 9, 3) := by decide +kernel
theorem kd_U_round_4 : decode kb_U_round 4 = .ok (.aload_n 0, 1) := by decide +kernel
theorem kd_U_round_5 : decode kb_U_round 5 = .ok (.getfield 15, 3) := by decide +kernel
theorem kd_U_round_8 : decode kb_U_round 8 = .ok (.getfield 27, 3) := by decide +kernel
theorem kd_U_round_11 : decode kb_U_round 11 = .ok (.aload_n 0, 1) := by decide +kernel
theorem kd_U_round_12 : decode kb_U_round 12 = .ok (.getfield 33, 3) := by decide +kernel
theorem kd_U_round_15 : decode kb_U_round 15 = .ok (.isub, 1) := by decide +kernel
theorem kd_U_round_16 : decode kb_U_round 16 = .ok (.iload_n 1, 1) := by decide +kernel
theorem kd_U_round_17 : decode kb_U_round 17 = .ok (.iadd, 1) := by decide +kernel
theorem kd_U_round_18 : decode kb_U_round 18 = .ok (.laload, 1) := by decide +kernel
theorem kd_U_round_19 : decode kb_U_round 19 = .ok (.lreturn, 1) := by decide +kernel
theorem kd_U_find_0 : decode kb_U_find 0 = .ok (.aload_n 0, 1) := by decide +kernel
theorem kd_U_find_1 : decode kb_U_find 1 = .ok (.iconst 0, 1) := by decide +kernel
theorem kd_U_find_2 : decode kb_U_find 2 = .ok (.putfield 33, 3) := by decide +kernel
theorem kd_U_find_5 : decode kb_U_find 5 = .ok (.aload_n 0, 1) := by decide +kernel
theorem kd_U_find_6 : decode kb_U_find 6 = .ok (.aload_n 0, 1) := by decide +kernel
theorem kd_U_find_7 : decode kb_U_find 7 = .ok (.getfield 19, 3) := by decide +kernel
theorem kd_U_find_10 : decode kb_U_find 10 = .ok (.invokevirtual 36, 3) := by decide +kernel
theorem kd_U_find_13 : decode kb_U_find 13 = .ok (.putfield 42, 3) := by decide +kernel
theorem kd_U_find_16 : decode kb_U_find 16 = .ok (.aload_n 0, 1) := by decide +kernel
theorem kd_U_find_17 : decode kb_U_find 17 = .ok (.getfield 42, 3) := by decide +kernel
theorem kd_U_find_20 : decode kb_U_find 20 = .ok (.ldc2_w 46, 3) := by decide +kernel
theorem kd_U_find_23 : decode kb_U_find 23 = .ok (.lcmp, 1) := by decide +kernel
theorem kd_U_find_24 : decode kb_U_find 24 = .ok (.ifCond .ge 4, 3) := by decide +kernel
theorem kd_U_find_27 : decode kb_U_find 27 = .ok (.return_, 1) := by decide +kernel
theorem kd_U_find_28 : decode kb_U_find 28 = .ok (.aload_n 0, 1) := by decide +kernel
theorem kd_U_find_29 : decode kb_U_find 29 = .ok (.getfield 23, 3) := by decide +kernel
theorem kd_U_find_32 : decode kb_U_find 32 = .ok (.aload_n 0, 1) := by decide +kernel
theorem kd_U_find_33 : decode kb_U_find 33 = .ok (.getfield 15, 3) := by decide +kernel
theorem kd_U_find_36 : decode kb_U_find 36 = .ok (.invokevirtual 48, 3) := by decide +kernel
theorem kd_U_find_39 : decode kb_U_find 39 = .ok (.aload_n 0, 1) := by decide +kernel
theorem kd_U_find_40 : decode kb_U_find 40 = .ok (.getfield 23, 3) := by decide +kernel
theorem kd_U_find_43 : decode kb_U_find 43 = .ok (.iconst 0, 1) := by decide +kernel
theorem kd_U_find_44 : decode kb_U_find 44 = .ok (.invokevirtual 54, 3) := by decide +kernel
theorem kd_U_find_47 : decode kb_U_find 47 = .ok (.aload_n 0, 1) := by decide +kernel
theorem kd_U_find_48 : decode kb_U_find 48 = .ok (.invokevirtual 58, 3) := by decide +kernel
theorem kd_U_find_51 : decode kb_U_find 51 = .ok (.iconst 0, 1) := by decide +kernel
theorem kd_U_find_52 : decode kb_U_find 52 = .ok (.istore_n 1, 1) := by decide +kernel
theorem kd_U_find_53 : decode kb_U_find 53 = .ok (.iload_n 1, 1) := by decide +kernel
theorem kd_U_find_54 : decode kb_U_find 54 = .ok (.aload_n 0, 1) := by decide +kernel
theorem kd_U_find_55 : decode kb_U_find 55 = .ok (.getfield 23, 3) := by decide +kernel
theorem kd_U_find_58 : decode kb_U_find 58 = .ok (.getfield 61, 3) := by decide +kernel
theorem kd_U_find_61 : decode kb_U_find 61 = .ok (.if_icmp .ge 38, 3) := by decide +kernel
theorem kd_U_find_64 : decode kb_U_find 64 = .ok (.aload_n 0, 1) := by decide +kernel
theorem kd_U_find_65 : decode kb_U_find 65 = .ok (.iload_n 1, 1) := by decide +kernel
theorem kd_U_find_66 : decode kb_U_find 66 = .ok (.invokevirtual 64, 3) := by decide +kernel
theorem kd_U_find_69 : decode kb_U_find 69 = .ok (.aload_n 0, 1) := by decide +kernel
theorem kd_U_find_70 : decode kb_U_find 70 = .ok (.getfield 9, 3) := by decide +kernel
theorem kd_U_find_73 : decode kb_U_find 73 = .ok (.iload_n 1, 1) := by decide +kernel
theorem kd_U_find_74 : decode kb_U_find 74 = .ok (.aload_n 0, 1) := by decide +kernel
theorem kd_U_find_75 : decode kb_U_find 75 = .ok (.getfield 23, 3) := by decide +kernel
theorem kd_U_find_78 : decode kb_U_find 78 = .ok (.getfield 67, 3) := by decide +kernel
theorem kd_U_find_81 : decode kb_U_find 81 = .ok (.iload_n 1, 1) := by decide +kernel
theorem kd_U_find_82 : decode kb_U_find 82 = .ok (.aaload, 1) := by decide +kernel
theorem kd_U_find_83 : decode kb_U_find 83 = .ok (.iload_n 1, 1) := by decide +kernel
theorem kd_U_find_84 : decode kb_U_find 84 = .ok (.laload, 1) := by decide +kernel
theorem kd_U_find_85 : decode kb_U_find 85 = .ok (.aload_n 0, 1) := by decide +kernel
theorem kd_U_find_86 : decode kb_U_find 86 = .ok (.getfield 42, 3) := by decide +kernel
theorem kd_U_find_89 : decode kb_U_find 89 = .ok (.invokestatic 71, 3) := by decide +kernel
theorem kd_U_find_92 : decode kb_U_find 92 = .ok (.lastore, 1) := by decide +kernel
theorem kd_U_find_93 : decode kb_U_find 93 = .ok (.iinc 1 1, 3) := by decide +kernel
theorem kd_U_find_96 : decode kb_U_find 96 = .ok (.goto (-43), 3) := by decide +kernel
theorem kd_U_find_99 : decode kb_U_find 99 = .ok (.aload_n 0, 1) := by decide +kernel
theorem kd_U_find_100 : decode kb_U_find 100 = .ok (.invokevirtual 75, 3) := by decide +kernel
theorem kd_U_find_103 : decode kb_U_find 103 = .ok (.iconst 0, 1) := by decide +kernel
theorem kd_U_find_104 : decode kb_U_find 104 = .ok (.istore_n 1, 1) := by decide +kernel
theorem kd_U_find_105 : decode kb_U_find 105 = .ok (.iload_n 1, 1) := by decide +kernel
theorem kd_U_find_106 : decode kb_U_find 106 = .ok (.aload_n 0, 1) := by decide +kernel
theorem kd_U_find_107 : decode kb_U_find 107 = .ok (.getfield 23, 3) := by decide +kernel
theorem kd_U_find_110 : decode kb_U_find 110 = .ok (.getfield 61, 3) := by decide +kernel
theorem kd_U_find_113 : decode kb_U_find 113 = .ok (.if_icmp .ge 34, 3) := by decide +kernel
theorem kd_U_find_116 : decode kb_U_find 116 = .ok (.aload_n 0, 1) := by decide +kernel
theorem kd_U_find_117 : decode kb_U_find 117 = .ok (.dup, 1) := by decide +kernel
theorem kd_U_find_118 : decode kb_U_find 118 = .ok (.getfield 33, 3) := by decide +kernel
theorem kd_U_find_121 : decode kb_U_find 121 = .ok (.aload_n 0, 1) := by decide +kernel
theorem kd_U_find_122 : decode kb_U_find 122 = .ok (.getfield 9, 3) := by decide +kernel
theorem kd_U_find_125 : decode kb_U_find 125 = .ok (.iload_n 1, 1) := by decide +kernel
theorem kd_U_find_126 : decode kb_U_find 126 = .ok (.laload, 1) := by decide +kernel
theorem kd_U_find_127 : decode kb_U_find 127 = .ok (.lconst 1, 1) := by decide +kernel
theorem kd_U_find_128 : decode kb_U_find 128 = .ok (.lcmp, 1) := by decide +kernel
theorem kd_U_find_129 : decode kb_U_find 129 = .ok (.ifCond .le 7, 3) := by decide +kernel
theorem kd_U_find_132 : decode kb_U_find 132 = .ok (.iconst 1, 1) := by decide +kernel
theorem kd_U_find_133 : decode kb_U_find 133 = .ok (.goto 4, 3) := by decide +kernel
theorem kd_U_find_136 : decode kb_U_find 136 = .ok (.iconst 0, 1) := by decide +kernel
theorem kd_U_find_137 : decode kb_U_find 137 = .ok (.iadd, 1) := by decide +kernel
theorem kd_U_find_138 : decode kb_U_find 138 = .ok (.putfield 33, 3) := by decide +kernel
theorem kd_U_find_141 : decode kb_U_find 141 = .ok (.iinc 1 1, 3) := by decide +kernel
theorem kd_U_find_144 : decode kb_U_find 144 = .ok (.goto (-39), 3) := by decide +kernel
theorem kd_U_find_147 : decode kb_U_find 147 = .ok (.return_, 1) := by decide +kernel
theorem kd_U_reduceAll_0 : decode kb_U_reduceAll 0 = .ok (.iconst 0, 1) := by decide +kernel
theorem kd_U_reduceAll_1 : decode kb_U_reduceAll 1 = .ok (.istore_n 1, 1) := by decide +kernel
theorem kd_U_reduceAll_2 : decode kb_U_reduceAll 2 = .ok (.iload_n 1, 1) := by decide +kernel
theorem kd_U_reduceAll_3 : decode kb_U_reduceAll 3 = .ok (.aload_n 0, 1) := by decide +kernel
theorem kd_U_reduceAll_4 : decode kb_U_reduceAll 4 = .ok (.getfield 23, 3) := by decide +kernel
theorem kd_U_reduceAll_7 : decode kb_U_reduceAll 7 = .ok (.getfield 61, 3) := by decide +kernel
theorem kd_U_reduceAll_10 : decode kb_U_reduceAll 10 = .ok (.if_icmp .ge 54, 3) := by decide +kernel
theorem kd_U_reduceAll_13 : decode kb_U_reduceAll 13 = .ok (.iconst 0, 1) := by decide +kernel
theorem kd_U_reduceAll_14 : decode kb_U_reduceAll 14 = .ok (.istore_n 2, 1) := by decide +kernel
theorem kd_U_reduceAll_15 : decode kb_U_reduceAll 15 = .ok (.iload_n 2, 1) := by decide +kernel
theorem kd_U_reduceAll_16 : decode kb_U_reduceAll 16 = .ok (.aload_n 0, 1) := by decide +kernel
theorem kd_U_reduceAll_17 : decode kb_U_reduceAll 17 = .ok (.getfield 23, 3) := by decide +kernel
theorem kd_U_reduceAll_20 : decode kb_U_reduceAll 20 = .ok (.getfield 61, 3) := by decide +kernel
theorem kd_U_reduceAll_23 : decode kb_U_reduceAll 23 = .ok (.if_icmp .ge 35, 3) := by decide +kernel
theorem kd_U_reduceAll_26 : decode kb_U_reduceAll 26 = .ok (.aload_n 0, 1) := by decide +kernel
theorem kd_U_reduceAll_27 : decode kb_U_reduceAll 27 = .ok (.getfield 23, 3) := by decide +kernel
theorem kd_U_reduceAll_30 : decode kb_U_reduceAll 30 = .ok (.getfield 67, 3) := by decide +kernel
theorem kd_U_reduceAll_33 : decode kb_U_reduceAll 33 = .ok (.iload_n 1, 1) := by decide +kernel
theorem kd_U_reduceAll_34 : decode kb_U_reduceAll 34 = .ok (.aaload, 1) := by decide +kernel
theorem kd_U_reduceAll_35 : decode kb_U_reduceAll 35 = .ok (.iload_n 2, 1) := by decide +kernel
theorem kd_U_reduceAll_36 : decode kb_U_reduceAll 36 = .ok (.aload_n 0, 1) := by decide +kernel
theorem kd_U_reduceAll_37 : decode kb_U_reduceAll 37 = .ok (.aload_n 0, 1) := by decide +kernel
theorem kd_U_reduceAll_38 : decode kb_U_reduceAll 38 = .ok (.getfield 23, 3) := by decide +kernel
theorem kd_U_reduceAll_41 : decode kb_U_reduceAll 41 = .ok (.getfield 67, 3) := by decide +kernel
theorem kd_U_reduceAll_44 : decode kb_U_reduceAll 44 = .ok (.iload_n 1, 1) := by decide +kernel
theorem kd_U_reduceAll_45 : decode kb_U_reduceAll 45 = .ok (.aaload, 1) := by decide +kernel
theorem kd_U_reduceAll_46 : decode kb_U_reduceAll 46 = .ok (.iload_n 2, 1) := by decide +kernel
theorem kd_U_reduceAll_47 : decode kb_U_reduceAll 47 = .ok (.laload, 1) := by decide +kernel
theorem kd_U_reduceAll_48 : decode kb_U_reduceAll 48 = .ok (.invokevirtual 78, 3) := by decide +kernel
theorem kd_U_reduceAll_51 : decode kb_U_reduceAll 51 = .ok (.lastore, 1) := by decide +kernel
theorem kd_U_reduceAll_52 : decode kb_U_reduceAll 52 = .ok (.iinc 2 1, 3) := by decide +kernel
theorem kd_U_reduceAll_55 : decode kb_U_reduceAll 55 = .ok (.goto (-40), 3) := by decide +kernel
theorem kd_U_reduceAll_58 : decode kb_U_reduceAll 58 = .ok (.iinc 1 1, 3) := by decide +kernel
theorem kd_U_reduceAll_61 : decode kb_U_reduceAll 61 = .ok (.goto (-59), 3) := by decide +kernel
theorem kd_U_reduceAll_64 : decode kb_U_reduceAll 64 = .ok (.return_, 1) := by decide +kernel
theorem kd_U_reduced_0 : decode kb_U_reduced 0 = .ok (.aload_n 0, 1) := by decide +kernel
theorem kd_U_reduced_1 : decode kb_U_reduced 1 = .ok (.getfield 42, 3) := by decide +kernel
theorem kd_U_reduced_4 : decode kb_U_reduced 4 = .ok (.lconst 1, 1) := by decide +kernel
theorem kd_U_reduced_5 : decode kb_U_reduced 5 = .ok (.lcmp, 1) := by decide +kernel
theorem kd_U_reduced_6 : decode kb_U_reduced 6 = .ok (.ifCond .ge 5, 3) := by decide +kernel
theorem kd_U_reduced_9 : decode kb_U_reduced 9 = .ok (.lconst 0, 1) := by decide +kernel
theorem kd_U_reduced_10 : decode kb_U_reduced 10 = .ok (.lreturn, 1) := by decide +kernel
theorem kd_U_reduced_11 : decode kb_U_reduced 11 = .ok (.lload_n 1, 1) := by decide +kernel
theorem kd_U_reduced_12 : decode kb_U_reduced 12 = .ok (.aload_n 0, 1) := by decide +kernel
theorem kd_U_reduced_13 : decode kb_U_reduced 13 = .ok (.getfield 42, 3) := by decide +kernel
theorem kd_U_reduced_16 : decode kb_U_reduced 16 = .ok (.lrem, 1) := by decide +kernel
theorem kd_U_reduced_17 : decode kb_U_reduced 17 = .ok (.lstore_n 3, 1) := by decide +kernel
theorem kd_U_reduced_18 : decode kb_U_reduced 18 = .ok (.lload_n 3, 1) := by decide +kernel
theorem kd_U_reduced_19 : decode kb_U_reduced 19 = .ok (.lconst 0, 1) := by decide +kernel
theorem kd_U_reduced_20 : decode kb_U_reduced 20 = .ok (.lcmp, 1) := by decide +kernel
theorem kd_U_reduced_21 : decode kb_U_reduced 21 = .ok (.ifCond .ge 12, 3) := by decide +kernel
theorem kd_U_reduced_24 : decode kb_U_reduced 24 = .ok (.lload_n 3, 1) := by decide +kernel
theorem kd_U_reduced_25 : decode kb_U_reduced 25 = .ok (.aload_n 0, 1) := by decide +kernel
theorem kd_U_reduced_26 : decode kb_U_reduced 26 = .ok (.getfield 42, 3) := by decide +kernel
theorem kd_U_reduced_29 : decode kb_U_reduced 29 = .ok (.ladd, 1) := by decide +kernel
theorem kd_U_reduced_30 : decode kb_U_reduced 30 = .ok (.goto 4, 3) := by decide +kernel
theorem kd_U_reduced_33 : decode kb_U_reduced 33 = .ok (.lload_n 3, 1) := by decide +kernel
theorem kd_U_reduced_34 : decode kb_U_reduced 34 = .ok (.lreturn, 1) := by decide +kernel
theorem kd_U_clearLine_0 : decode kb_U_clearLine 0 = .ok (.iconst 0, 1) := by decide +kernel
theorem kd_U_clearLine_1 : decode kb_U_clearLine 1 = .ok (.istore_n 2, 1) := by decide +kernel
theorem kd_U_clearLine_2 : decode kb_U_clearLine 2 = .ok (.iload_n 2, 1) := by decide +kernel
theorem kd_U_clearLine_3 : decode kb_U_clearLine 3 = .ok (.sipush 128, 3) := by decide +kernel
theorem kd_U_clearLine_6 : decode kb_U_clearLine 6 = .ok (.if_icmp .ge 66, 3) := by decide +kernel
theorem kd_U_clearLine_9 : decode kb_U_clearLine 9 = .ok (.iload_n 1, 1) := by decide +kernel
theorem kd_U_clearLine_10 : decode kb_U_clearLine 10 = .ok (.iconst 1, 1) := by decide +kernel
theorem kd_U_clearLine_11 : decode kb_U_clearLine 11 = .ok (.iadd, 1) := by decide +kernel
theorem kd_U_clearLine_12 : decode kb_U_clearLine 12 = .ok (.istore_n 3, 1) := by decide +kernel
theorem kd_U_clearLine_13 : decode kb_U_clearLine 13 = .ok (.iload_n 3, 1) := by decide +kernel
theorem kd_U_clearLine_14 : decode kb_U_clearLine 14 = .ok (.aload_n 0, 1) := by decide +kernel
theorem kd_U_clearLine_15 : decode kb_U_clearLine 15 = .ok (.getfield 23, 3) := by decide +kernel
theorem kd_U_clearLine_18 : decode kb_U_clearLine 18 = .ok (.getfield 61, 3) := by decide +kernel
theorem kd_U_clearLine_21 : decode kb_U_clearLine 21 = .ok (.if_icmp .ge 31, 3) := by decide +kernel
theorem kd_U_clearLine_24 : decode kb_U_clearLine 24 = .ok (.aload_n 0, 1) := by decide +kernel
theorem kd_U_clearLine_25 : decode kb_U_clearLine 25 = .ok (.getfield 23, 3) := by decide +kernel
theorem kd_U_clearLine_28 : decode kb_U_clearLine 28 = .ok (.getfield 67, 3) := by decide +kernel
theorem kd_U_clearLine_31 : decode kb_U_clearLine 31 = .ok (.iload_n 3, 1) := by decide +kernel
theorem kd_U_clearLine_32 : decode kb_U_clearLine 32 = .ok (.aaload, 1) := by decide +kernel
theorem kd_U_clearLine_33 : decode kb_U_clearLine 33 = .ok (.iload_n 1, 1) := by decide +kernel
theorem kd_U_clearLine_34 : decode kb_U_clearLine 34 = .ok (.laload, 1) := by decide +kernel
theorem kd_U_clearLine_35 : decode kb_U_clearLine 35 = .ok (.lconst 0, 1) := by decide +kernel
theorem kd_U_clearLine_36 : decode kb_U_clearLine 36 = .ok (.lcmp, 1) := by decide +kernel
theorem kd_U_clearLine_37 : decode kb_U_clearLine 37 = .ok (.ifCond .eq 9, 3) := by decide +kernel
theorem kd_U_clearLine_40 : decode kb_U_clearLine 40 = .ok (.aload_n 0, 1) := by decide +kernel
theorem kd_U_clearLine_41 : decode kb_U_clearLine 41 = .ok (.iload_n 1, 1) := by decide +kernel
theorem kd_U_clearLine_42 : decode kb_U_clearLine 42 = .ok (.iload_n 3, 1) := by decide +kernel
theorem kd_U_clearLine_43 : decode kb_U_clearLine 43 = .ok (.invokevirtual 82, 3) := by decide +kernel
theorem kd_U_clearLine_46 : decode kb_U_clearLine 46 = .ok (.iinc 3 1, 3) := by decide +kernel
theorem kd_U_clearLine_49 : decode kb_U_clearLine 49 = .ok (.goto (-36), 3) := by decide +kernel
theorem kd_U_clearLine_52 : decode kb_U_clearLine 52 = .ok (.aload_n 0, 1) := by decide +kernel
theorem kd_U_clearLine_53 : decode kb_U_clearLine 53 = .ok (.iload_n 1, 1) := by decide +kernel
theorem kd_U_clearLine_54 : decode kb_U_clearLine 54 = .ok (.invokevirtual 86, 3) := by decide +kernel
theorem kd_U_clearLine_57 : decode kb_U_clearLine 57 = .ok (.ifCond .eq 4, 3) := by decide +kernel
theorem kd_U_clearLine_60 : decode kb_U_clearLine 60 = .ok (.return_, 1) := by decide +kernel
theorem kd_U_clearLine_61 : decode kb_U_clearLine 61 = .ok (.aload_n 0, 1) := by decide +kernel
theorem kd_U_clearLine_62 : decode kb_U_clearLine 62 = .ok (.iload_n 1, 1) := by decide +kernel
theorem kd_U_clearLine_63 : decode kb_U_clearLine 63 = .ok (.invokevirtual 90, 3) := by decide +kernel
theorem kd_U_clearLine_66 : decode kb_U_clearLine 66 = .ok (.iinc 2 1, 3) := by decide +kernel
theorem kd_U_clearLine_69 : decode kb_U_clearLine 69 = .ok (.goto (-67), 3) := by decide +kernel
theorem kd_U_clearLine_72 : decode kb_U_clearLine 72 = .ok (.return_, 1) := by decide +kernel
theorem kd_U_isRowClear_0 : decode kb_U_isRowClear 0 = .ok (.iload_n 1, 1) := by decide +kernel
theorem kd_U_isRowClear_1 : decode kb_U_isRowClear 1 = .ok (.iconst 1, 1) := by decide +kernel
theorem kd_U_isRowClear_2 : decode kb_U_isRowClear 2 = .ok (.iadd, 1) := by decide +kernel
theorem kd_U_isRowClear_3 : decode kb_U_isRowClear 3 = .ok (.istore_n 2, 1) := by decide +kernel
theorem kd_U_isRowClear_4 : decode kb_U_isRowClear 4 = .ok (.iload_n 2, 1) := by decide +kernel
theorem kd_U_isRowClear_5 : decode kb_U_isRowClear 5 = .ok (.aload_n 0, 1) := by decide +kernel
theorem kd_U_isRowClear_6 : decode kb_U_isRowClear 6 = .ok (.getfield 23, 3) := by decide +kernel
theorem kd_U_isRowClear_9 : decode kb_U_isRowClear 9 = .ok (.getfield 61, 3) := by decide +kernel
theorem kd_U_isRowClear_12 : decode kb_U_isRowClear 12 = .ok (.if_icmp .ge 27, 3) := by decide +kernel
theorem kd_U_isRowClear_15 : decode kb_U_isRowClear 15 = .ok (.aload_n 0, 1) := by decide +kernel
theorem kd_U_isRowClear_16 : decode kb_U_isRowClear 16 = .ok (.getfield 23, 3) := by decide +kernel
theorem kd_U_isRowClear_19 : decode kb_U_isRowClear 19 = .ok (.getfield 67, 3) := by decide +kernel
theorem kd_U_isRowClear_22 : decode kb_U_isRowClear 22 = .ok (.iload_n 1, 1) := by decide +kernel
theorem kd_U_isRowClear_23 : decode kb_U_isRowClear 23 = .ok (.aaload, 1) := by decide +kernel
theorem kd_U_isRowClear_24 : decode kb_U_isRowClear 24 = .ok (.iload_n 2, 1) := by decide +kernel
theorem kd_U_isRowClear_25 : decode kb_U_isRowClear 25 = .ok (.laload, 1) := by decide +kernel
theorem kd_U_isRowClear_26 : decode kb_U_isRowClear 26 = .ok (.lconst 0, 1) := by decide +kernel
theorem kd_U_isRowClear_27 : decode kb_U_isRowClear 27 = .ok (.lcmp, 1) := by decide +kernel
theorem kd_U_isRowClear_28 : decode kb_U_isRowClear 28 = .ok (.ifCond .eq 5, 3) := by decide +kernel
theorem kd_U_isRowClear_31 : decode kb_U_isRowClear 31 = .ok (.iconst 0, 1) := by decide +kernel
theorem kd_U_isRowClear_32 : decode kb_U_isRowClear 32 = .ok (.ireturn, 1) := by decide +kernel
theorem kd_U_isRowClear_33 : decode kb_U_isRowClear 33 = .ok (.iinc 2 1, 3) := by decide +kernel
theorem kd_U_isRowClear_36 : decode kb_U_isRowClear 36 = .ok (.goto (-32), 3) := by decide +kernel
theorem kd_U_isRowClear_39 : decode kb_U_isRowClear 39 = .ok (.iconst 1, 1) := by decide +kernel
theorem kd_U_isRowClear_40 : decode kb_U_isRowClear 40 = .ok (.ireturn, 1) := by decide +kernel
theorem kd_U_transpose_0 : decode kb_U_transpose 0 = .ok (.iload_n 1, 1) := by decide +kernel
theorem kd_U_transpose_1 : decode kb_U_transpose 1 = .ok (.istore_n 2, 1) := by decide +kernel
theorem kd_U_transpose_2 : decode kb_U_transpose 2 = .ok (.iload_n 2, 1) := by decide +kernel
theorem kd_U_transpose_3 : decode kb_U_transpose 3 = .ok (.aload_n 0, 1) := by decide +kernel
theorem kd_U_transpose_4 : decode kb_U_transpose 4 = .ok (.getfield 23, 3) := by decide +kernel
theorem kd_U_transpose_7 : decode kb_U_transpose 7 = .ok (.getfield 61, 3) := by decide +kernel
theorem kd_U_transpose_10 : decode kb_U_transpose 10 = .ok (.if_icmp .ge 78, 3) := by decide +kernel
theorem kd_U_transpose_13 : decode kb_U_transpose 13 = .ok (.iload_n 2, 1) := by decide +kernel
theorem kd_U_transpose_14 : decode kb_U_transpose 14 = .ok (.iconst 1, 1) := by decide +kernel
theorem kd_U_transpose_15 : decode kb_U_transpose 15 = .ok (.iadd, 1) := by decide +kernel
theorem kd_U_transpose_16 : decode kb_U_transpose 16 = .ok (.istore_n 3, 1) := by decide +kernel
theorem kd_U_transpose_17 : decode kb_U_transpose 17 = .ok (.iload_n 3, 1) := by decide +kernel
theorem kd_U_transpose_18 : decode kb_U_transpose 18 = .ok (.aload_n 0, 1) := by decide +kernel
theorem kd_U_transpose_19 : decode kb_U_transpose 19 = .ok (.getfield 23, 3) := by decide +kernel
theorem kd_U_transpose_22 : decode kb_U_transpose 22 = .ok (.getfield 61, 3) := by decide +kernel
theorem kd_U_transpose_25 : decode kb_U_transpose 25 = .ok (.if_icmp .ge 57, 3) := by decide +kernel
theorem kd_U_transpose_28 : decode kb_U_transpose 28 = .ok (.aload_n 0, 1) := by decide +kernel
theorem kd_U_transpose_29 : decode kb_U_transpose 29 = .ok (.getfield 23, 3) := by decide +kernel
theorem kd_U_transpose_32 : decode kb_U_transpose 32 = .ok (.getfield 67, 3) := by decide +kernel
theorem kd_U_transpose_35 : decode kb_U_transpose 35 = .ok (.iload_n 2, 1) := by decide +kernel
theorem kd_U_transpose_36 : decode kb_U_transpose 36 = .ok (.aaload, 1) := by decide +kernel
theorem kd_U_transpose_37 : decode kb_U_transpose 37 = .ok (.iload_n 3, 1) := by decide +kernel
theorem kd_U_transpose_38 : decode kb_U_transpose 38 = .ok (.laload, 1) := by decide +kernel
theorem kd_U_transpose_39 : decode kb_U_transpose 39 = .ok (.lstore 4, 2) := by decide +kernel
theorem kd_U_transpose_41 : decode kb_U_transpose 41 = .ok (.aload_n 0, 1) := by decide +kernel
theorem kd_U_transpose_42 : decode kb_U_transpose 42 = .ok (.getfield 23, 3) := by decide +kernel
theorem kd_U_transpose_45 : decode kb_U_transpose 45 = .ok (.getfield 67, 3) := by decide +kernel
theorem kd_U_transpose_48 : decode kb_U_transpose 48 = .ok (.iload_n 2, 1) := by decide +kernel
theorem kd_U_transpose_49 : decode kb_U_transpose 49 = .ok (.aaload, 1) := by decide +kernel
theorem kd_U_transpose_50 : decode kb_U_transpose 50 = .ok (.iload_n 3, 1) := by decide +kernel
theorem kd_U_transpose_51 : decode kb_U_transpose 51 = .ok (.aload_n 0, 1) := by decide +kernel
theorem kd_U_transpose_52 : decode kb_U_transpose 52 = .ok (.getfield 23, 3) := by decide +kernel
theorem kd_U_transpose_55 : decode kb_U_transpose 55 = .ok (.getfield 67, 3) := by decide +kernel
theorem kd_U_transpose_58 : decode kb_U_transpose 58 = .ok (.iload_n 3, 1) := by decide +kernel
theorem kd_U_transpose_59 : decode kb_U_transpose 59 = .ok (.aaload, 1) := by decide +kernel
theorem kd_U_transpose_60 : decode kb_U_transpose 60 = .ok (.iload_n 2, 1) := by decide +kernel
theorem kd_U_transpose_61 : decode kb_U_transpose 61 = .ok (.laload, 1) := by decide +kernel
theorem kd_U_transpose_62 : decode kb_U_transpose 62 = .ok (.lastore, 1) := by decide +kernel
theorem kd_U_transpose_63 : decode kb_U_transpose 63 = .ok (.aload_n 0, 1) := by decide +kernel
theorem kd_U_transpose_64 : decode kb_U_transpose 64 = .ok (.getfield 23, 3) := by decide +kernel
theorem kd_U_transpose_67 : decode kb_U_transpose 67 = .ok (.getfield 67, 3) := by decide +kernel
theorem kd_U_transpose_70 : decode kb_U_transpose 70 = .ok (.iload_n 3, 1) := by decide +kernel
theorem kd_U_transpose_71 : decode kb_U_transpose 71 = .ok (.aaload, 1) := by decide +kernel
theorem kd_U_transpose_72 : decode kb_U_transpose 72 = .ok (.iload_n 2, 1) := by decide +kernel
theorem kd_U_transpose_73 : decode kb_U_transpose 73 = .ok (.lload 4, 2) := by decide +kernel
theorem kd_U_transpose_75 : decode kb_U_transpose 75 = .ok (.lastore, 1) := by decide +kernel
theorem kd_U_transpose_76 : decode kb_U_transpose 76 = .ok (.iinc 3 1, 3) := by decide +kernel
theorem kd_U_transpose_79 : decode kb_U_transpose 79 = .ok (.goto (-62), 3) := by decide +kernel
theorem kd_U_transpose_82 : decode kb_U_transpose 82 = .ok (.iinc 2 1, 3) := by decide +kernel
theorem kd_U_transpose_85 : decode kb_U_transpose 85 = .ok (.goto (-83), 3) := by decide +kernel
theorem kd_U_transpose_88 : decode kb_U_transpose 88 = .ok (.return_, 1) := by decide +kernel
theorem kd_U_mixRows_0 : decode kb_U_mixRows 0 = .ok (.aload_n 0, 1) := by decide +kernel
theorem kd_U_mixRows_1 : decode kb_U_mixRows 1 = .ok (.getfield 23, 3) := by decide +kernel
theorem kd_U_mixRows_4 : decode kb_U_mixRows 4 = .ok (.getfield 67, 3) := by decide +kernel
theorem kd_U_mixRows_7 : decode kb_U_mixRows 7 = .ok (.iload_n 1, 1) := by decide +kernel
theorem kd_U_mixRows_8 : decode kb_U_mixRows 8 = .ok (.aaload, 1) := by decide +kernel
theorem kd_U_mixRows_9 : decode kb_U_mixRows 9 = .ok (.iload_n 1, 1) := by decide +kernel
theorem kd_U_mixRows_10 : decode kb_U_mixRows 10 = .ok (.laload, 1) := by decide +kernel
theorem kd_U_mixRows_11 : decode kb_U_mixRows 11 = .ok (.lstore_n 3, 1) := by decide +kernel
theorem kd_U_mixRows_12 : decode kb_U_mixRows 12 = .ok (.aload_n 0, 1) := by decide +kernel
theorem kd_U_mixRows_13 : decode kb_U_mixRows 13 = .ok (.getfield 23, 3) := by decide +kernel
theorem kd_U_mixRows_16 : decode kb_U_mixRows 16 = .ok (.getfield 67, 3) := by decide +kernel
theorem kd_U_mixRows_19 : decode kb_U_mixRows 19 = .ok (.iload_n 2, 1) := by decide +kernel
theorem kd_U_mixRows_20 : decode kb_U_mixRows 20 = .ok (.aaload, 1) := by decide +kernel
theorem kd_U_mixRows_21 : decode kb_U_mixRows 21 = .ok (.iload_n 1, 1) := by decide +kernel
theorem kd_U_mixRows_22 : decode kb_U_mixRows 22 = .ok (.laload, 1) := by decide +kernel
theorem kd_U_mixRows_23 : decode kb_U_mixRows 23 = .ok (.lstore 5, 2) := by decide +kernel
theorem kd_U_mixRows_25 : decode kb_U_mixRows 25 = .ok (.aload_n 0, 1) := by decide +kernel
theorem kd_U_mixRows_26 : decode kb_U_mixRows 26 = .ok (.lload_n 3, 1) := by decide +kernel
theorem kd_U_mixRows_27 : decode kb_U_mixRows 27 = .ok (.lload 5, 2) := by decide +kernel
theorem kd_U_mixRows_29 : decode kb_U_mixRows 29 = .ok (.invokevirtual 93, 3) := by decide +kernel
theorem kd_U_mixRows_32 : decode kb_U_mixRows 32 = .ok (.aload_n 0, 1) := by decide +kernel
theorem kd_U_mixRows_33 : decode kb_U_mixRows 33 = .ok (.getfield 97, 3) := by decide +kernel
theorem kd_U_mixRows_36 : decode kb_U_mixRows 36 = .ok (.lconst 0, 1) := by decide +kernel
theorem kd_U_mixRows_37 : decode kb_U_mixRows 37 = .ok (.lcmp, 1) := by decide +kernel
theorem kd_U_mixRows_38 : decode kb_U_mixRows 38 = .ok (.ifCond .ne 4, 3) := by decide +kernel
theorem kd_U_mixRows_41 : decode kb_U_mixRows 41 = .ok (.return_, 1) := by decide +kernel
theorem kd_U_mixRows_42 : decode kb_U_mixRows 42 = .ok (.lload_n 3, 1) := by decide +kernel
theorem kd_U_mixRows_43 : decode kb_U_mixRows 43 = .ok (.aload_n 0, 1) := by decide +kernel
theorem kd_U_mixRows_44 : decode kb_U_mixRows 44 = .ok (.getfield 97, 3) := by decide +kernel
theorem kd_U_mixRows_47 : decode kb_U_mixRows 47 = .ok (.ldiv, 1) := by decide +kernel
theorem kd_U_mixRows_48 : decode kb_U_mixRows 48 = .ok (.lstore 7, 2) := by decide +kernel
theorem kd_U_mixRows_50 : decode kb_U_mixRows 50 = .ok (.lload 5, 2) := by decide +kernel
theorem kd_U_mixRows_52 : decode kb_U_mixRows 52 = .ok (.aload_n 0, 1) := by decide +kernel
theorem kd_U_mixRows_53 : decode kb_U_mixRows 53 = .ok (.getfield 97, 3) := by decide +kernel
theorem kd_U_mixRows_56 : decode kb_U_mixRows 56 = .ok (.ldiv, 1) := by decide +kernel
theorem kd_U_mixRows_57 : decode kb_U_mixRows 57 = .ok (.lstore 9, 2) := by decide +kernel
theorem kd_U_mixRows_59 : decode kb_U_mixRows 59 = .ok (.iload_n 1, 1) := by decide +kernel
theorem kd_U_mixRows_60 : decode kb_U_mixRows 60 = .ok (.istore 11, 2) := by decide +kernel
theorem kd_U_mixRows_62 : decode kb_U_mixRows 62 = .ok (.iload 11, 2) := by decide +kernel
theorem kd_U_mixRows_64 : decode kb_U_mixRows 64 = .ok (.aload_n 0, 1) := by decide +kernel
theorem kd_U_mixRows_65 : decode kb_U_mixRows 65 = .ok (.getfield 23, 3) := by decide +kernel
theorem kd_U_mixRows_68 : decode kb_U_mixRows 68 = .ok (.getfield 61, 3) := by decide +kernel
theorem kd_U_mixRows_71 : decode kb_U_mixRows 71 = .ok (.if_icmp .ge 107, 3) := by decide +kernel
theorem kd_U_mixRows_74 : decode kb_U_mixRows 74 = .ok (.aload_n 0, 1) := by decide +kernel
theorem kd_U_mixRows_75 : decode kb_U_mixRows 75 = .ok (.getfield 23, 3) := by decide +kernel
theorem kd_U_mixRows_78 : decode kb_U_mixRows 78 = .ok (.getfield 67, 3) := by decide +kernel
theorem kd_U_mixRows_81 : decode kb_U_mixRows 81 = .ok (.iload_n 1, 1) := by decide +kernel
theorem kd_U_mixRows_82 : decode kb_U_mixRows 82 = .ok (.aaload, 1) := by decide +kernel
theorem kd_U_mixRows_83 : decode kb_U_mixRows 83 = .ok (.iload 11, 2) := by decide +kernel
theorem kd_U_mixRows_85 : decode kb_U_mixRows 85 = .ok (.laload, 1) := by decide +kernel
theorem kd_U_mixRows_86 : decode kb_U_mixRows 86 = .ok (.lstore 12, 2) := by decide +kernel
theorem kd_U_mixRows_88 : decode kb_U_mixRows 88 = .ok (.aload_n 0, 1) := by decide +kernel
theorem kd_U_mixRows_89 : decode kb_U_mixRows 89 = .ok (.getfield 23, 3) := by decide +kernel
theorem kd_U_mixRows_92 : decode kb_U_mixRows 92 = .ok (.getfield 67, 3) := by decide +kernel
theorem kd_U_mixRows_95 : decode kb_U_mixRows 95 = .ok (.iload_n 2, 1) := by decide +kernel
theorem kd_U_mixRows_96 : decode kb_U_mixRows 96 = .ok (.aaload, 1) := by decide +kernel
theorem kd_U_mixRows_97 : decode kb_U_mixRows 97 = .ok (.iload 11, 2) := by decide +kernel
theorem kd_U_mixRows_99 : decode kb_U_mixRows 99 = .ok (.laload, 1) := by decide +kernel
theorem kd_U_mixRows_100 : decode kb_U_mixRows 100 = .ok (.lstore 14, 2) := by decide +kernel
theorem kd_U_mixRows_102 : decode kb_U_mixRows 102 = .ok (.aload_n 0, 1) := by decide +kernel
theorem kd_U_mixRows_103 : decode kb_U_mixRows 103 = .ok (.getfield 23, 3) := by decide +kernel
theorem kd_U_mixRows_106 : decode kb_U_mixRows 106 = .ok (.getfield 67, 3) := by decide +kernel
theorem kd_U_mixRows_109 : decode kb_U_mixRows 109 = .ok (.iload_n 1, 1) := by decide +kernel
theorem kd_U_mixRows_110 : decode kb_U_mixRows 110 = .ok (.aaload, 1) := by decide +kernel
theorem kd_U_mixRows_111 : decode kb_U_mixRows 111 = .ok (.iload 11, 2) := by decide +kernel
theorem kd_U_mixRows_113 : decode kb_U_mixRows 113 = .ok (.aload_n 0, 1) := by decide +kernel
theorem kd_U_mixRows_114 : decode kb_U_mixRows 114 = .ok (.aload_n 0, 1) := by decide +kernel
theorem kd_U_mixRows_115 : decode kb_U_mixRows 115 = .ok (.aload_n 0, 1) := by decide +kernel
theorem kd_U_mixRows_116 : decode kb_U_mixRows 116 = .ok (.getfield 100, 3) := by decide +kernel
theorem kd_U_mixRows_119 : decode kb_U_mixRows 119 = .ok (.lload 12, 2) := by decide +kernel
theorem kd_U_mixRows_121 : decode kb_U_mixRows 121 = .ok (.invokevirtual 103, 3) := by decide +kernel
theorem kd_U_mixRows_124 : decode kb_U_mixRows 124 = .ok (.aload_n 0, 1) := by decide +kernel
theorem kd_U_mixRows_125 : decode kb_U_mixRows 125 = .ok (.aload_n 0, 1) := by decide +kernel
theorem kd_U_mixRows_126 : decode kb_U_mixRows 126 = .ok (.getfield 106, 3) := by decide +kernel
theorem kd_U_mixRows_129 : decode kb_U_mixRows 129 = .ok (.lload 14, 2) := by decide +kernel
theorem kd_U_mixRows_131 : decode kb_U_mixRows 131 = .ok (.invokevirtual 103, 3) := by decide +kernel
theorem kd_U_mixRows_134 : decode kb_U_mixRows 134 = .ok (.ladd, 1) := by decide +kernel
theorem kd_U_mixRows_135 : decode kb_U_mixRows 135 = .ok (.invokevirtual 78, 3) := by decide +kernel
theorem kd_U_mixRows_138 : decode kb_U_mixRows 138 = .ok (.lastore, 1) := by decide +kernel
theorem kd_U_mixRows_139 : decode kb_U_mixRows 139 = .ok (.aload_n 0, 1) := by decide +kernel
theorem kd_U_mixRows_140 : decode kb_U_mixRows 140 = .ok (.getfield 23, 3) := by decide +kernel
theorem kd_U_mixRows_143 : decode kb_U_mixRows 143 = .ok (.getfield 67, 3) := by decide +kernel
theorem kd_U_mixRows_146 : decode kb_U_mixRows 146 = .ok (.iload_n 2, 1) := by decide +kernel
theorem kd_U_mixRows_147 : decode kb_U_mixRows 147 = .ok (.aaload, 1) := by decide +kernel
theorem kd_U_mixRows_148 : decode kb_U_mixRows 148 = .ok (.iload 11, 2) := by decide +kernel
theorem kd_U_mixRows_150 : decode kb_U_mixRows 150 = .ok (.aload_n 0, 1) := by decide +kernel
theorem kd_U_mixRows_151 : decode kb_U_mixRows 151 = .ok (.aload_n 0, 1) := by decide +kernel
theorem kd_U_mixRows_152 : decode kb_U_mixRows 152 = .ok (.lload 7, 2) := by decide +kernel
theorem kd_U_mixRows_154 : decode kb_U_mixRows 154 = .ok (.lload 14, 2) := by decide +kernel
theorem kd_U_mixRows_156 : decode kb_U_mixRows 156 = .ok (.invokevirtual 103, 3) := by decide +kernel
theorem kd_U_mixRows_159 : decode kb_U_mixRows 159 = .ok (.aload_n 0, 1) := by decide +kernel
theorem kd_U_mixRows_160 : decode kb_U_mixRows 160 = .ok (.lload 9, 2) := by decide +kernel
theorem kd_U_mixRows_162 : decode kb_U_mixRows 162 = .ok (.lload 12, 2) := by decide +kernel
theorem kd_U_mixRows_164 : decode kb_U_mixRows 164 = .ok (.invokevirtual 103, 3) := by decide +kernel
theorem kd_U_mixRows_167 : decode kb_U_mixRows 167 = .ok (.lsub, 1) := by decide +kernel
theorem kd_U_mixRows_168 : decode kb_U_mixRows 168 = .ok (.invokevirtual 78, 3) := by decide +kernel
theorem kd_U_mixRows_171 : decode kb_U_mixRows 171 = .ok (.lastore, 1) := by decide +kernel
theorem kd_U_mixRows_172 : decode kb_U_mixRows 172 = .ok (.iinc 11 1, 3) := by decide +kernel
theorem kd_U_mixRows_175 : decode kb_U_mixRows 175 = .ok (.goto (-113), 3) := by decide +kernel
theorem kd_U_mixRows_178 : decode kb_U_mixRows 178 = .ok (.return_, 1) := by decide +kernel
theorem kd_U_measure_0 : decode kb_U_measure 0 = .ok (.lload_n 1, 1) := by decide +kernel
theorem kd_U_measure_1 : decode kb_U_measure 1 = .ok (.lstore 5, 2) := by decide +kernel
theorem kd_U_measure_3 : decode kb_U_measure 3 = .ok (.lconst 0, 1) := by decide +kernel
theorem kd_U_measure_4 : decode kb_U_measure 4 = .ok (.lstore 7, 2) := by decide +kernel
theorem kd_U_measure_6 : decode kb_U_measure 6 = .ok (.lconst 1, 1) := by decide +kernel
theorem kd_U_measure_7 : decode kb_U_measure 7 = .ok (.lstore 9, 2) := by decide +kernel
theorem kd_U_measure_9 : decode kb_U_measure 9 = .ok (.aload_n 0, 1) := by decide +kernel
theorem kd_U_measure_10 : decode kb_U_measure 10 = .ok (.lload_n 3, 1) := by decide +kernel
theorem kd_U_measure_11 : decode kb_U_measure 11 = .ok (.putfield 97, 3) := by decide +kernel
theorem kd_U_measure_14 : decode kb_U_measure 14 = .ok (.aload_n 0, 1) := by decide +kernel
theorem kd_U_measure_15 : decode kb_U_measure 15 = .ok (.lconst 1, 1) := by decide +kernel
theorem kd_U_measure_16 : decode kb_U_measure 16 = .ok (.putfield 106, 3) := by decide +kernel
theorem kd_U_measure_19 : decode kb_U_measure 19 = .ok (.aload_n 0, 1) := by decide +kernel
theorem kd_U_measure_20 : decode kb_U_measure 20 = .ok (.lconst 0, 1) := by decide +kernel
theorem kd_U_measure_21 : decode kb_U_measure 21 = .ok (.putfield 100, 3) := by decide +kernel
theorem kd_U_measure_24 : decode kb_U_measure 24 = .ok (.iconst 0, 1) := by decide +kernel
theorem kd_U_measure_25 : decode kb_U_measure 25 = .ok (.istore 11, 2) := by decide +kernel
theorem kd_U_measure_27 : decode kb_U_measure 27 = .ok (.iload 11, 2) := by decide +kernel
theorem kd_U_measure_29 : decode kb_U_measure 29 = .ok (.sipush 128, 3) := by decide +kernel
theorem kd_U_measure_32 : decode kb_U_measure 32 = .ok (.if_icmp .ge 91, 3) := by decide +kernel
theorem kd_U_measure_35 : decode kb_U_measure 35 = .ok (.lload 5, 2) := by decide +kernel
theorem kd_U_measure_37 : decode kb_U_measure 37 = .ok (.lconst 0, 1) := by decide +kernel
theorem kd_U_measure_38 : decode kb_U_measure 38 = .ok (.lcmp, 1) := by decide +kernel
theorem kd_U_measure_39 : decode kb_U_measure 39 = .ok (.ifCond .eq 84, 3) := by decide +kernel
theorem kd_U_measure_42 : decode kb_U_measure 42 = .ok (.aload_n 0, 1) := by decide +kernel
theorem kd_U_measure_43 : decode kb_U_measure 43 = .ok (.getfield 97, 3) := by decide +kernel
theorem kd_U_measure_46 : decode kb_U_measure 46 = .ok (.lload 5, 2) := by decide +kernel
theorem kd_U_measure_48 : decode kb_U_measure 48 = .ok (.ldiv, 1) := by decide +kernel
theorem kd_U_measure_49 : decode kb_U_measure 49 = .ok (.lstore 12, 2) := by decide +kernel
theorem kd_U_measure_51 : decode kb_U_measure 51 = .ok (.aload_n 0, 1) := by decide +kernel
theorem kd_U_measure_52 : decode kb_U_measure 52 = .ok (.getfield 97, 3) := by decide +kernel
theorem kd_U_measure_55 : decode kb_U_measure 55 = .ok (.lload 12, 2) := by decide +kernel
theorem kd_U_measure_57 : decode kb_U_measure 57 = .ok (.lload 5, 2) := by decide +kernel
theorem kd_U_measure_59 : decode kb_U_measure 59 = .ok (.lmul, 1) := by decide +kernel
theorem kd_U_measure_60 : decode kb_U_measure 60 = .ok (.lsub, 1) := by decide +kernel
theorem kd_U_measure_61 : decode kb_U_measure 61 = .ok (.lstore 14, 2) := by decide +kernel
theorem kd_U_measure_63 : decode kb_U_measure 63 = .ok (.aload_n 0, 1) := by decide +kernel
theorem kd_U_measure_64 : decode kb_U_measure 64 = .ok (.getfield 106, 3) := by decide +kernel
theorem kd_U_measure_67 : decode kb_U_measure 67 = .ok (.lload 12, 2) := by decide +kernel
theorem kd_U_measure_69 : decode kb_U_measure 69 = .ok (.lload 7, 2) := by decide +kernel
theorem kd_U_measure_71 : decode kb_U_measure 71 = .ok (.lmul, 1) := by decide +kernel
theorem kd_U_measure_72 : decode kb_U_measure 72 = .ok (.lsub, 1) := by decide +kernel
theorem kd_U_measure_73 : decode kb_U_measure 73 = .ok (.lstore 16, 2) := by decide +kernel
theorem kd_U_measure_75 : decode kb_U_measure 75 = .ok (.aload_n 0, 1) := by decide +kernel
theorem kd_U_measure_76 : decode kb_U_measure 76 = .ok (.getfield 100, 3) := by decide +kernel
theorem kd_U_measure_79 : decode kb_U_measure 79 = .ok (.lload 12, 2) := by decide +kernel
theorem kd_U_measure_81 : decode kb_U_measure 81 = .ok (.lload 9, 2) := by decide +kernel
theorem kd_U_measure_83 : decode kb_U_measure 83 = .ok (.lmul, 1) := by decide +kernel
theorem kd_U_measure_84 : decode kb_U_measure 84 = .ok (.lsub, 1) := by decide +kernel
theorem kd_U_measure_85 : decode kb_U_measure 85 = .ok (.lstore 18, 2) := by decide +kernel
theorem kd_U_measure_87 : decode kb_U_measure 87 = .ok (.aload_n 0, 1) := by decide +kernel
theorem kd_U_measure_88 : decode kb_U_measure 88 = .ok (.lload 5, 2) := by decide +kernel
theorem kd_U_measure_90 : decode kb_U_measure 90 = .ok (.putfield 97, 3) := by decide +kernel
theorem kd_U_measure_93 : decode kb_U_measure 93 = .ok (.aload_n 0, 1) := by decide +kernel
theorem kd_U_measure_94 : decode kb_U_measure 94 = .ok (.lload 7, 2) := by decide +kernel
theorem kd_U_measure_96 : decode kb_U_measure 96 = .ok (.putfield 106, 3) := by decide +kernel
theorem kd_U_measure_99 : decode kb_U_measure 99 = .ok (.aload_n 0, 1) := by decide +kernel
theorem kd_U_measure_100 : decode kb_U_measure 100 = .ok (.lload 9, 2) := by decide +kernel
theorem kd_U_measure_102 : decode kb_U_measure 102 = .ok (.putfield 100, 3) := by decide +kernel
theorem kd_U_measure_105 : decode kb_U_measure 105 = .ok (.lload 14, 2) := by decide +kernel
theorem kd_U_measure_107 : decode kb_U_measure 107 = .ok (.lstore 5, 2) := by decide +kernel
theorem kd_U_measure_109 : decode kb_U_measure 109 = .ok (.lload 16, 2) := by decide +kernel
theorem kd_U_measure_111 : decode kb_U_measure 111 = .ok (.lstore 7, 2) := by decide +kernel
theorem kd_U_measure_113 : decode kb_U_measure 113 = .ok (.lload 18, 2) := by decide +kernel
theorem kd_U_measure_115 : decode kb_U_measure 115 = .ok (.lstore 9, 2) := by decide +kernel
theorem kd_U_measure_117 : decode kb_U_measure 117 = .ok (.iinc 11 1, 3) := by decide +kernel
theorem kd_U_measure_120 : decode kb_U_measure 120 = .ok (.goto (-93), 3) := by decide +kernel
theorem kd_U_measure_123 : decode kb_U_measure 123 = .ok (.aload_n 0, 1) := by decide +kernel
theorem kd_U_measure_124 : decode kb_U_measure 124 = .ok (.aload_n 0, 1) := by decide +kernel
theorem kd_U_measure_125 : decode kb_U_measure 125 = .ok (.aload_n 0, 1) := by decide +kernel
theorem kd_U_measure_126 : decode kb_U_measure 126 = .ok (.getfield 100, 3) := by decide +kernel
theorem kd_U_measure_129 : decode kb_U_measure 129 = .ok (.invokevirtual 78, 3) := by decide +kernel
theorem kd_U_measure_132 : decode kb_U_measure 132 = .ok (.putfield 100, 3) := by decide +kernel
theorem kd_U_measure_135 : decode kb_U_measure 135 = .ok (.aload_n 0, 1) := by decide +kernel
theorem kd_U_measure_136 : decode kb_U_measure 136 = .ok (.aload_n 0, 1) := by decide +kernel
theorem kd_U_measure_137 : decode kb_U_measure 137 = .ok (.aload_n 0, 1) := by decide +kernel
theorem kd_U_measure_138 : decode kb_U_measure 138 = .ok (.getfield 106, 3) := by decide +kernel
theorem kd_U_measure_141 : decode kb_U_measure 141 = .ok (.invokevirtual 78, 3) := by decide +kernel
theorem kd_U_measure_144 : decode kb_U_measure 144 = .ok (.putfield 106, 3) := by decide +kernel
theorem kd_U_measure_147 : decode kb_U_measure 147 = .ok (.return_, 1) := by decide +kernel
theorem kd_U_times_0 : decode kb_U_times 0 = .ok (.lconst 0, 1) := by decide +kernel
theorem kd_U_times_1 : decode kb_U_times 1 = .ok (.lstore 5, 2) := by decide +kernel
theorem kd_U_times_3 : decode kb_U_times 3 = .ok (.bipush 48, 2) := by decide +kernel
theorem kd_U_times_5 : decode kb_U_times 5 = .ok (.istore 7, 2) := by decide +kernel
theorem kd_U_times_7 : decode kb_U_times 7 = .ok (.iload 7, 2) := by decide +kernel
theorem kd_U_times_9 : decode kb_U_times 9 = .ok (.ifCond .lt 32, 3) := by decide +kernel
theorem kd_U_times_12 : decode kb_U_times 12 = .ok (.aload_n 0, 1) := by decide +kernel
theorem kd_U_times_13 : decode kb_U_times 13 = .ok (.lload 5, 2) := by decide +kernel
theorem kd_U_times_15 : decode kb_U_times 15 = .ok (.ldc2_w 109, 3) := by decide +kernel
theorem kd_U_times_18 : decode kb_U_times 18 = .ok (.lmul, 1) := by decide +kernel
theorem kd_U_times_19 : decode kb_U_times 19 = .ok (.lload_n 1, 1) := by decide +kernel
theorem kd_U_times_20 : decode kb_U_times 20 = .ok (.lload_n 3, 1) := by decide +kernel
theorem kd_U_times_21 : decode kb_U_times 21 = .ok (.iload 7, 2) := by decide +kernel
theorem kd_U_times_23 : decode kb_U_times 23 = .ok (.lshr, 1) := by decide +kernel
theorem kd_U_times_24 : decode kb_U_times 24 = .ok (.ldc2_w 111, 3) := by decide +kernel
theorem kd_U_times_27 : decode kb_U_times 27 = .ok (.land, 1) := by decide +kernel
theorem kd_U_times_28 : decode kb_U_times 28 = .ok (.lmul, 1) := by decide +kernel
theorem kd_U_times_29 : decode kb_U_times 29 = .ok (.ladd, 1) := by decide +kernel
theorem kd_U_times_30 : decode kb_U_times 30 = .ok (.invokevirtual 78, 3) := by decide +kernel
theorem kd_U_times_33 : decode kb_U_times 33 = .ok (.lstore 5, 2) := by decide +kernel
theorem kd_U_times_35 : decode kb_U_times 35 = .ok (.iinc 7 (-12), 3) := by decide +kernel
theorem kd_U_times_38 : decode kb_U_times 38 = .ok (.goto (-31), 3) := by decide +kernel
theorem kd_U_times_41 : decode kb_U_times 41 = .ok (.lload 5, 2) := by decide +kernel
theorem kd_U_times_43 : decode kb_U_times 43 = .ok (.lreturn, 1) := by decide +kernel
theorem kd_U_makeChain_0 : decode kb_U_makeChain 0 = .ok (.iconst 0, 1) := by decide +kernel
theorem kd_U_makeChain_1 : decode kb_U_makeChain 1 = .ok (.istore_n 1, 1) := by decide +kernel
theorem kd_U_makeChain_2 : decode kb_U_makeChain 2 = .ok (.iload_n 1, 1) := by decide +kernel
theorem kd_U_makeChain_3 : decode kb_U_makeChain 3 = .ok (.aload_n 0, 1) := by decide +kernel
theorem kd_U_makeChain_4 : decode kb_U_makeChain 4 = .ok (.getfield 23, 3) := by decide +kernel
theorem kd_U_makeChain_7 : decode kb_U_makeChain 7 = .ok (.getfield 61, 3) := by decide +kernel
theorem kd_U_makeChain_10 : decode kb_U_makeChain 10 = .ok (.if_icmp .ge 80, 3) := by decide +kernel
theorem kd_U_makeChain_13 : decode kb_U_makeChain 13 = .ok (.iload_n 1, 1) := by decide +kernel
theorem kd_U_makeChain_14 : decode kb_U_makeChain 14 = .ok (.iconst 1, 1) := by decide +kernel
theorem kd_U_makeChain_15 : decode kb_U_makeChain 15 = .ok (.iadd, 1) := by decide +kernel
theorem kd_U_makeChain_16 : decode kb_U_makeChain 16 = .ok (.istore_n 2, 1) := by decide +kernel
theorem kd_U_makeChain_17 : decode kb_U_makeChain 17 = .ok (.iload_n 2, 1) := by decide +kernel
theorem kd_U_makeChain_18 : decode kb_U_makeChain 18 = .ok (.aload_n 0, 1) := by decide +kernel
theorem kd_U_makeChain_19 : decode kb_U_makeChain 19 = .ok (.getfield 23, 3) := by decide +kernel
theorem kd_U_makeChain_22 : decode kb_U_makeChain 22 = .ok (.getfield 61, 3) := by decide +kernel
theorem kd_U_makeChain_25 : decode kb_U_makeChain 25 = .ok (.if_icmp .ge 59, 3) := by decide +kernel
theorem kd_U_makeChain_28 : decode kb_U_makeChain 28 = .ok (.aload_n 0, 1) := by decide +kernel
theorem kd_U_makeChain_29 : decode kb_U_makeChain 29 = .ok (.getfield 9, 3) := by decide +kernel
theorem kd_U_makeChain_32 : decode kb_U_makeChain 32 = .ok (.iload_n 1, 1) := by decide +kernel
theorem kd_U_makeChain_33 : decode kb_U_makeChain 33 = .ok (.laload, 1) := by decide +kernel
theorem kd_U_makeChain_34 : decode kb_U_makeChain 34 = .ok (.aload_n 0, 1) := by decide +kernel
theorem kd_U_makeChain_35 : decode kb_U_makeChain 35 = .ok (.getfield 9, 3) := by decide +kernel
theorem kd_U_makeChain_38 : decode kb_U_makeChain 38 = .ok (.iload_n 2, 1) := by decide +kernel
theorem kd_U_makeChain_39 : decode kb_U_makeChain 39 = .ok (.laload, 1) := by decide +kernel
theorem kd_U_makeChain_40 : decode kb_U_makeChain 40 = .ok (.invokestatic 71, 3) := by decide +kernel
theorem kd_U_makeChain_43 : decode kb_U_makeChain 43 = .ok (.lstore_n 3, 1) := by decide +kernel
theorem kd_U_makeChain_44 : decode kb_U_makeChain 44 = .ok (.lload_n 3, 1) := by decide +kernel
theorem kd_U_makeChain_45 : decode kb_U_makeChain 45 = .ok (.lconst 0, 1) := by decide +kernel
theorem kd_U_makeChain_46 : decode kb_U_makeChain 46 = .ok (.lcmp, 1) := by decide +kernel
theorem kd_U_makeChain_47 : decode kb_U_makeChain 47 = .ok (.ifCond .le 31, 3) := by decide +kernel
theorem kd_U_makeChain_50 : decode kb_U_makeChain 50 = .ok (.aload_n 0, 1) := by decide +kernel
theorem kd_U_makeChain_51 : decode kb_U_makeChain 51 = .ok (.getfield 9, 3) := by decide +kernel
theorem kd_U_makeChain_54 : decode kb_U_makeChain 54 = .ok (.iload_n 2, 1) := by decide +kernel
theorem kd_U_makeChain_55 : decode kb_U_makeChain 55 = .ok (.aload_n 0, 1) := by decide +kernel
theorem kd_U_makeChain_56 : decode kb_U_makeChain 56 = .ok (.getfield 9, 3) := by decide +kernel
theorem kd_U_makeChain_59 : decode kb_U_makeChain 59 = .ok (.iload_n 1, 1) := by decide +kernel
theorem kd_U_makeChain_60 : decode kb_U_makeChain 60 = .ok (.laload, 1) := by decide +kernel
theorem kd_U_makeChain_61 : decode kb_U_makeChain 61 = .ok (.lload_n 3, 1) := by decide +kernel
theorem kd_U_makeChain_62 : decode kb_U_makeChain 62 = .ok (.ldiv, 1) := by decide +kernel
theorem kd_U_makeChain_63 : decode kb_U_makeChain 63 = .ok (.aload_n 0, 1) := by decide +kernel
theorem kd_U_makeChain_64 : decode kb_U_makeChain 64 = .ok (.getfield 9, 3) := by decide +kernel
theorem kd_U_makeChain_67 : decode kb_U_makeChain 67 = .ok (.iload_n 2, 1) := by decide +kernel
theorem kd_U_makeChain_68 : decode kb_U_makeChain 68 = .ok (.laload, 1) := by decide +kernel
theorem kd_U_makeChain_69 : decode kb_U_makeChain 69 = .ok (.lmul, 1) := by decide +kernel
theorem kd_U_makeChain_70 : decode kb_U_makeChain 70 = .ok (.lastore, 1) := by decide +kernel
theorem kd_U_makeChain_71 : decode kb_U_makeChain 71 = .ok (.aload_n 0, 1) := by decide +kernel
theorem kd_U_makeChain_72 : decode kb_U_makeChain 72 = .ok (.getfield 9, 3) := by decide +kernel
theorem kd_U_makeChain_75 : decode kb_U_makeChain 75 = .ok (.iload_n 1, 1) := by decide +kernel
theorem kd_U_makeChain_76 : decode kb_U_makeChain 76 = .ok (.lload_n 3, 1) := by decide +kernel
theorem kd_U_makeChain_77 : decode kb_U_makeChain 77 = .ok (.lastore, 1) := by decide +kernel
theorem kd_U_makeChain_78 : decode kb_U_makeChain 78 = .ok (.iinc 2 1, 3) := by decide +kernel
theorem kd_U_makeChain_81 : decode kb_U_makeChain 81 = .ok (.goto (-64), 3) := by decide +kernel
theorem kd_U_makeChain_84 : decode kb_U_makeChain 84 = .ok (.iinc 1 1, 3) := by decide +kernel
theorem kd_U_makeChain_87 : decode kb_U_makeChain 87 = .ok (.goto (-85), 3) := by decide +kernel
theorem kd_U_makeChain_90 : decode kb_U_makeChain 90 = .ok (.return_, 1) := by decide +kernel
theorem kd_L_init_0 : decode kb_L_init 0 = .ok (.aload_n 0, 1) := by decide +kernel
theorem kd_L_init_1 : decode kb_L_init 1 = .ok (.invokespecial 3, 3) := by decide +kernel
theorem kd_L_init_4 : decode kb_L_init 4 = .ok (.aload_n 0, 1) := by decide +kernel
theorem kd_L_init_5 : decode kb_L_init 5 = .ok (.bipush 10, 2) := by decide +kernel
theorem kd_L_init_7 : decode kb_L_init 7 = .ok (.newarray .long, 2) := by decide +kernel
theorem kd_L_init_9 : decode kb_L_init 9 = .ok (.putfield 9, 3) := by decide +kernel
theorem kd_L_init_12 : decode kb_L_init 12 = .ok (.aload_n 0, 1) := by decide +kernel
theorem kd_L_init_13 : decode kb_L_init 13 = .ok (.bipush 10, 2) := by decide +kernel
theorem kd_L_init_15 : decode kb_L_init 15 = .ok (.newarray .long, 2) := by decide +kernel
theorem kd_L_init_17 : decode kb_L_init 17 = .ok (.putfield 15, 3) := by decide +kernel
theorem kd_L_init_20 : decode kb_L_init 20 = .ok (.aload_n 0, 1) := by decide +kernel
theorem kd_L_init_21 : decode kb_L_init 21 = .ok (.bipush 10, 2) := by decide +kernel
theorem kd_L_init_23 : decode kb_L_init 23 = .ok (.newarray .long, 2) := by decide +kernel
theorem kd_L_init_25 : decode kb_L_init 25 = .ok (.putfield 18, 3) := by decide +kernel
theorem kd_L_init_28 : decode kb_L_init 28 = .ok (.aload_n 0, 1) := by decide +kernel
theorem kd_L_init_29 : decode kb_L_init 29 = .ok (.bipush 10, 2) := by decide +kernel
theorem kd_L_init_31 : decode kb_L_init 31 = .ok (.newarray .long, 2) := by decide +kernel
theorem kd_L_init_33 : decode kb_L_init 33 = .ok (.putfield 21, 3) := by decide +kernel
theorem kd_L_init_36 : decode kb_L_init 36 = .ok (.aload_n 0, 1) := by decide +kernel
theorem kd_L_init_37 : decode kb_L_init 37 = .ok (.aload_n 1, 1) := by decide +kernel
theorem kd_L_init_38 : decode kb_L_init 38 = .ok (.putfield 24, 3) := by decide +kernel
theorem kd_L_init_41 : decode kb_L_init 41 = .ok (.aload_n 0, 1) := by decide +kernel
theorem kd_L_init_42 : decode kb_L_init 42 = .ok (.aload_n 2, 1) := by decide +kernel
theorem kd_L_init_43 : decode kb_L_init 43 = .ok (.putfield 28, 3) := by decide +kernel
theorem kd_L_init_46 : decode kb_L_init 46 = .ok (.return_, 1) := by decide +kernel
theorem kd_L_empty_0 : decode kb_L_empty 0 = .ok (.iconst 0, 1) := by decide +kernel
theorem kd_L_empty_1 : decode kb_L_empty 1 = .ok (.istore_n 1, 1) := by decide +kernel
theorem kd_L_empty_2 : decode kb_L_empty 2 = .ok (.iload_n 1, 1) := by decide +kernel
theorem kd_L_empty_3 : decode kb_L_empty 3 = .ok (.bipush 10, 2) := by decide +kernel
theorem kd_L_empty_5 : decode kb_L_empty 5 = .ok (.if_icmp .ge 23, 3) := by decide +kernel
theorem kd_L_empty_8 : decode kb_L_empty 8 = .ok (.aload_n 0, 1) := by decide +kernel
theorem kd_L_empty_9 : decode kb_L_empty 9 = .ok (.getfield 9, 3) := by decide +kernel
theorem kd_L_empty_12 : decode kb_L_empty 12 = .ok (.iload_n 1, 1) := by decide +kernel
theorem kd_L_empty_13 : decode kb_L_empty 13 = .ok (.lconst 0, 1) := by decide +kernel
theorem kd_L_empty_14 : decode kb_L_empty 14 = .ok (.lastore, 1) := by decide +kernel
theorem kd_L_empty_15 : decode kb_L_empty 15 = .ok (.aload_n 0, 1) := by decide +kernel
theorem kd_L_empty_16 : decode kb_L_empty 16 = .ok (.getfield 15, 3) := by decide +kernel
theorem kd_L_empty_19 : decode kb_L_empty 19 = .ok (.iload_n 1, 1) := by decide +kernel
theorem kd_L_empty_20 : decode kb_L_empty 20 = .ok (.lconst 0, 1) := by decide +kernel
theorem kd_L_empty_21 : decode kb_L_empty 21 = .ok (.lastore, 1) := by decide +kernel
theorem kd_L_empty_22 : decode kb_L_empty 22 = .ok (.iinc 1 1, 3) := by decide +kernel
theorem kd_L_empty_25 : decode kb_L_empty 25 = .ok (.goto (-23), 3) := by decide +kernel
theorem kd_L_empty_28 : decode kb_L_empty 28 = .ok (.return_, 1) := by decide +kernel
theorem kd_L_settleAll_0 : decode kb_L_settleAll 0 = .ok (.aload_n 0, 1) := by decide +kernel
theorem kd_L_settleAll_1 : decode kb_L_settleAll 1 = .ok (.getfield 28, 3) := by decide +kernel
theorem kd_L_settleAll_4 : decode kb_L_settleAll 4 = .ok (.aload_n 0, 1) := by decide +kernel
theorem kd_L_settleAll_5 : decode kb_L_settleAll 5 = .ok (.getfield 24, 3) := by decide +kernel
theorem kd_L_settleAll_8 : decode kb_L_settleAll 8 = .ok (.invokevirtual 32, 3) := by decide +kernel
theorem kd_L_settleAll_11 : decode kb_L_settleAll 11 = .ok (.aload_n 0, 1) := by decide +kernel
theorem kd_L_settleAll_12 : decode kb_L_settleAll 12 = .ok (.aload_n 0, 1) := by decide +kernel
theorem kd_L_settleAll_13 : decode kb_L_settleAll 13 = .ok (.getfield 9, 3) := by decide +kernel
theorem kd_L_settleAll_16 : decode kb_L_settleAll 16 = .ok (.aload_n 0, 1) := by decide +kernel
theorem kd_L_settleAll_17 : decode kb_L_settleAll 17 = .ok (.getfield 15, 3) := by decide +kernel
theorem kd_L_settleAll_20 : decode kb_L_settleAll 20 = .ok (.iload_n 1, 1) := by decide +kernel
theorem kd_L_settleAll_21 : decode kb_L_settleAll 21 = .ok (.invokevirtual 38, 3) := by decide +kernel
theorem kd_L_settleAll_24 : decode kb_L_settleAll 24 = .ok (.lconst 0, 1) := by decide +kernel
theorem kd_L_settleAll_25 : decode kb_L_settleAll 25 = .ok (.lstore_n 2, 1) := by decide +kernel
theorem kd_L_settleAll_26 : decode kb_L_settleAll 26 = .ok (.iconst 0, 1) := by decide +kernel
theorem kd_L_settleAll_27 : decode kb_L_settleAll 27 = .ok (.istore 4, 2) := by decide +kernel
theorem kd_L_settleAll_29 : decode kb_L_settleAll 29 = .ok (.iload 4, 2) := by decide +kernel
theorem kd_L_settleAll_31 : decode kb_L_settleAll 31 = .ok (.aload_n 0, 1) := by decide +kernel
theorem kd_L_settleAll_32 : decode kb_L_settleAll 32 = .ok (.getfield 24, 3) := by decide +kernel
theorem kd_L_settleAll_35 : decode kb_L_settleAll 35 = .ok (.getfield 42, 3) := by decide +kernel
theorem kd_L_settleAll_38 : decode kb_L_settleAll 38 = .ok (.if_icmp .ge 19, 3) := by decide +kernel
theorem kd_L_settleAll_41 : decode kb_L_settleAll 41 = .ok (.lload_n 2, 1) := by decide +kernel
theorem kd_L_settleAll_42 : decode kb_L_settleAll 42 = .ok (.aload_n 0, 1) := by decide +kernel
theorem kd_L_settleAll_43 : decode kb_L_settleAll 43 = .ok (.getfield 15, 3) := by decide +kernel
theorem kd_L_settleAll_46 : decode kb_L_settleAll 46 = .ok (.iload 4, 2) := by decide +kernel
theorem kd_L_settleAll_48 : decode kb_L_settleAll 48 = .ok (.laload, 1) := by decide +kernel
theorem kd_L_settleAll_49 : decode kb_L_settleAll 49 = .ok (.ladd, 1) := by decide +kernel
theorem kd_L_settleAll_50 : decode kb_L_settleAll 50 = .ok (.lstore_n 2, 1) := by decide +kernel
theorem kd_L_settleAll_51 : decode kb_L_settleAll 51 = .ok (.iinc 4 1, 3) := by decide +kernel
theorem kd_L_settleAll_54 : decode kb_L_settleAll 54 = .ok (.goto (-25), 3) := by decide +kernel
theorem kd_L_settleAll_57 : decode kb_L_settleAll 57 = .ok (.lload_n 2, 1) := by decide +kernel
theorem kd_L_settleAll_58 : decode kb_L_settleAll 58 = .ok (.lreturn, 1) := by decide +kernel
theorem kd_L_comeBack_0 : decode kb_L_comeBack 0 = .ok (.aload_n 0, 1) := by decide +kernel
theorem kd_L_comeBack_1 : decode kb_L_comeBack 1 = .ok (.getfield 28, 3) := by decide +kernel
theorem kd_L_comeBack_4 : decode kb_L_comeBack 4 = .ok (.aload_n 0, 1) := by decide +kernel
theorem kd_L_comeBack_5 : decode kb_L_comeBack 5 = .ok (.getfield 24, 3) := by decide +kernel
theorem kd_L_comeBack_8 : decode kb_L_comeBack 8 = .ok (.invokevirtual 32, 3) := by decide +kernel
theorem kd_L_comeBack_11 : decode kb_L_comeBack 11 = .ok (.iconst 0, 1) := by decide +kernel
theorem kd_L_comeBack_12 : decode kb_L_comeBack 12 = .ok (.istore_n 2, 1) := by decide +kernel
theorem kd_L_comeBack_13 : decode kb_L_comeBack 13 = .ok (.iload_n 2, 1) := by decide +kernel
theorem kd_L_comeBack_14 : decode kb_L_comeBack 14 = .ok (.aload_n 0, 1) := by decide +kernel
theorem kd_L_comeBack_15 : decode kb_L_comeBack 15 = .ok (.getfield 24, 3) := by decide +kernel
theorem kd_L_comeBack_18 : decode kb_L_comeBack 18 = .ok (.getfield 42, 3) := by decide +kernel
theorem kd_L_comeBack_21 : decode kb_L_comeBack 21 = .ok (.if_icmp .ge 49, 3) := by decide +kernel
theorem kd_L_comeBack_24 : decode kb_L_comeBack 24 = .ok (.iload_n 2, 1) := by decide +kernel
theorem kd_L_comeBack_25 : decode kb_L_comeBack 25 = .ok (.iload_n 1, 1) := by decide +kernel
theorem kd_L_comeBack_26 : decode kb_L_comeBack 26 = .ok (.if_icmp .eq 26, 3) := by decide +kernel
theorem kd_L_comeBack_29 : decode kb_L_comeBack 29 = .ok (.aload_n 0, 1) := by decide +kernel
theorem kd_L_comeBack_30 : decode kb_L_comeBack 30 = .ok (.getfield 9, 3) := by decide +kernel
theorem kd_L_comeBack_33 : decode kb_L_comeBack 33 = .ok (.iload_n 2, 1) := by decide +kernel
theorem kd_L_comeBack_34 : decode kb_L_comeBack 34 = .ok (.laload, 1) := by decide +kernel
theorem kd_L_comeBack_35 : decode kb_L_comeBack 35 = .ok (.aload_n 0, 1) := by decide +kernel
theorem kd_L_comeBack_36 : decode kb_L_comeBack 36 = .ok (.getfield 28, 3) := by decide +kernel
theorem kd_L_comeBack_39 : decode kb_L_comeBack 39 = .ok (.getfield 48, 3) := by decide +kernel
theorem kd_L_comeBack_42 : decode kb_L_comeBack 42 = .ok (.iload_n 2, 1) := by decide +kernel
theorem kd_L_comeBack_43 : decode kb_L_comeBack 43 = .ok (.aaload, 1) := by decide +kernel
theorem kd_L_comeBack_44 : decode kb_L_comeBack 44 = .ok (.iload_n 2, 1) := by decide +kernel
theorem kd_L_comeBack_45 : decode kb_L_comeBack 45 = .ok (.laload, 1) := by decide +kernel
theorem kd_L_comeBack_46 : decode kb_L_comeBack 46 = .ok (.lcmp, 1) := by decide +kernel
theorem kd_L_comeBack_47 : decode kb_L_comeBack 47 = .ok (.ifCond .lt 5, 3) := by decide +kernel
theorem kd_L_comeBack_50 : decode kb_L_comeBack 50 = .ok (.iconst 0, 1) := by decide +kernel
theorem kd_L_comeBack_51 : decode kb_L_comeBack 51 = .ok (.ireturn, 1) := by decide +kernel
theorem kd_L_comeBack_52 : decode kb_L_comeBack 52 = .ok (.aload_n 0, 1) := by decide +kernel
theorem kd_L_comeBack_53 : decode kb_L_comeBack 53 = .ok (.getfield 18, 3) := by decide +kernel
theorem kd_L_comeBack_56 : decode kb_L_comeBack 56 = .ok (.iload_n 2, 1) := by decide +kernel
theorem kd_L_comeBack_57 : decode kb_L_comeBack 57 = .ok (.aload_n 0, 1) := by decide +kernel
theorem kd_L_comeBack_58 : decode kb_L_comeBack 58 = .ok (.getfield 9, 3) := by decide +kernel
theorem kd_L_comeBack_61 : decode kb_L_comeBack 61 = .ok (.iload_n 2, 1) := by decide +kernel
theorem kd_L_comeBack_62 : decode kb_L_comeBack 62 = .ok (.laload, 1) := by decide +kernel
theorem kd_L_comeBack_63 : decode kb_L_comeBack 63 = .ok (.lastore, 1) := by decide +kernel
theorem kd_L_comeBack_64 : decode kb_L_comeBack 64 = .ok (.iinc 2 1, 3) := by decide +kernel
theorem kd_L_comeBack_67 : decode kb_L_comeBack 67 = .ok (.goto (-54), 3) := by decide +kernel
theorem kd_L_comeBack_70 : decode kb_L_comeBack 70 = .ok (.aload_n 0, 1) := by decide +kernel
theorem kd_L_comeBack_71 : decode kb_L_comeBack 71 = .ok (.aload_n 0, 1) := by decide +kernel
theorem kd_L_comeBack_72 : decode kb_L_comeBack 72 = .ok (.getfield 18, 3) := by decide +kernel
theorem kd_L_comeBack_75 : decode kb_L_comeBack 75 = .ok (.iload_n 1, 1) := by decide +kernel
theorem kd_L_comeBack_76 : decode kb_L_comeBack 76 = .ok (.lconst 1, 1) := by decide +kernel
theorem kd_L_comeBack_77 : decode kb_L_comeBack 77 = .ok (.invokevirtual 52, 3) := by decide +kernel
theorem kd_L_comeBack_80 : decode kb_L_comeBack 80 = .ok (.aload_n 0, 1) := by decide +kernel
theorem kd_L_comeBack_81 : decode kb_L_comeBack 81 = .ok (.aload_n 0, 1) := by decide +kernel
theorem kd_L_comeBack_82 : decode kb_L_comeBack 82 = .ok (.getfield 18, 3) := by decide +kernel
theorem kd_L_comeBack_85 : decode kb_L_comeBack 85 = .ok (.aload_n 0, 1) := by decide +kernel
theorem kd_L_comeBack_86 : decode kb_L_comeBack 86 = .ok (.getfield 21, 3) := by decide +kernel
theorem kd_L_comeBack_89 : decode kb_L_comeBack 89 = .ok (.iload_n 1, 1) := by decide +kernel
theorem kd_L_comeBack_90 : decode kb_L_comeBack 90 = .ok (.invokevirtual 38, 3) := by decide +kernel
theorem kd_L_comeBack_93 : decode kb_L_comeBack 93 = .ok (.iconst 0, 1) := by decide +kernel
theorem kd_L_comeBack_94 : decode kb_L_comeBack 94 = .ok (.istore_n 2, 1) := by decide +kernel
theorem kd_L_comeBack_95 : decode kb_L_comeBack 95 = .ok (.iload_n 2, 1) := by decide +kernel
theorem kd_L_comeBack_96 : decode kb_L_comeBack 96 = .ok (.aload_n 0, 1) := by decide +kernel
theorem kd_L_comeBack_97 : decode kb_L_comeBack 97 = .ok (.getfield 24, 3) := by decide +kernel
theorem kd_L_comeBack_100 : decode kb_L_comeBack 100 = .ok (.getfield 42, 3) := by decide +kernel
theorem kd_L_comeBack_103 : decode kb_L_comeBack 103 = .ok (.if_icmp .ge 27, 3) := by decide +kernel
theorem kd_L_comeBack_106 : decode kb_L_comeBack 106 = .ok (.iload_n 2, 1) := by decide +kernel
theorem kd_L_comeBack_107 : decode kb_L_comeBack 107 = .ok (.iload_n 1, 1) := by decide +kernel
theorem kd_L_comeBack_108 : decode kb_L_comeBack 108 = .ok (.if_icmp .eq 16, 3) := by decide +kernel
theorem kd_L_comeBack_111 : decode kb_L_comeBack 111 = .ok (.aload_n 0, 1) := by decide +kernel
theorem kd_L_comeBack_112 : decode kb_L_comeBack 112 = .ok (.getfield 21, 3) := by decide +kernel
theorem kd_L_comeBack_115 : decode kb_L_comeBack 115 = .ok (.iload_n 2, 1) := by decide +kernel
theorem kd_L_comeBack_116 : decode kb_L_comeBack 116 = .ok (.laload, 1) := by decide +kernel
theorem kd_L_comeBack_117 : decode kb_L_comeBack 117 = .ok (.lconst 1, 1) := by decide +kernel
theorem kd_L_comeBack_118 : decode kb_L_comeBack 118 = .ok (.lcmp, 1) := by decide +kernel
theorem kd_L_comeBack_119 : decode kb_L_comeBack 119 = .ok (.ifCond .eq 5, 3) := by decide +kernel
theorem kd_L_comeBack_122 : decode kb_L_comeBack 122 = .ok (.iconst 0, 1) := by decide +kernel
theorem kd_L_comeBack_123 : decode kb_L_comeBack 123 = .ok (.ireturn, 1) := by decide +kernel
theorem kd_L_comeBack_124 : decode kb_L_comeBack 124 = .ok (.iinc 2 1, 3) := by decide +kernel
theorem kd_L_comeBack_127 : decode kb_L_comeBack 127 = .ok (.goto (-32), 3) := by decide +kernel
theorem kd_L_comeBack_130 : decode kb_L_comeBack 130 = .ok (.iconst 1, 1) := by decide +kernel
theorem kd_L_comeBack_131 : decode kb_L_comeBack 131 = .ok (.ireturn, 1) := by decide +kernel
theorem kd_L_run_0 : decode kb_L_run 0 = .ok (.iconst 0, 1) := by decide +kernel
theorem kd_L_run_1 : decode kb_L_run 1 = .ok (.istore 4, 2) := by decide +kernel
theorem kd_L_run_3 : decode kb_L_run 3 = .ok (.iload 4, 2) := by decide +kernel
theorem kd_L_run_5 : decode kb_L_run 5 = .ok (.bipush 10, 2) := by decide +kernel
theorem kd_L_run_7 : decode kb_L_run 7 = .ok (.if_icmp .ge 14, 3) := by decide +kernel
theorem kd_L_run_10 : decode kb_L_run 10 = .ok (.aload_n 2, 1) := by decide +kernel
theorem kd_L_run_11 : decode kb_L_run 11 = .ok (.iload 4, 2) := by decide +kernel
theorem kd_L_run_13 : decode kb_L_run 13 = .ok (.lconst 0, 1) := by decide +kernel
theorem kd_L_run_14 : decode kb_L_run 14 = .ok (.lastore, 1) := by decide +kernel
theorem kd_L_run_15 : decode kb_L_run 15 = .ok (.iinc 4 1, 3) := by decide +kernel
theorem kd_L_run_18 : decode kb_L_run 18 = .ok (.goto (-15), 3) := by decide +kernel
theorem kd_L_run_21 : decode kb_L_run 21 = .ok (.iconst 1, 1) := by decide +kernel
theorem kd_L_run_22 : decode kb_L_run 22 = .ok (.istore 4, 2) := by decide +kernel
theorem kd_L_run_24 : decode kb_L_run 24 = .ok (.iconst 0, 1) := by decide +kernel
theorem kd_L_run_25 : decode kb_L_run 25 = .ok (.istore 5, 2) := by decide +kernel
theorem kd_L_run_27 : decode kb_L_run 27 = .ok (.iload 5, 2) := by decide +kernel
theorem kd_L_run_29 : decode kb_L_run 29 = .ok (.ldc 56, 2) := by decide +kernel
theorem kd_L_run_31 : decode kb_L_run 31 = .ok (.if_icmp .ge 106, 3) := by decide +kernel
theorem kd_L_run_34 : decode kb_L_run 34 = .ok (.iload 4, 2) := by decide +kernel
theorem kd_L_run_36 : decode kb_L_run 36 = .ok (.ifCond .eq 101, 3) := by decide +kernel
theorem kd_L_run_39 : decode kb_L_run 39 = .ok (.iconst 0, 1) := by decide +kernel
theorem kd_L_run_40 : decode kb_L_run 40 = .ok (.istore 4, 2) := by decide +kernel
theorem kd_L_run_42 : decode kb_L_run 42 = .ok (.iconst 0, 1) := by decide +kernel
theorem kd_L_run_43 : decode kb_L_run 43 = .ok (.istore 6, 2) := by decide +kernel
theorem kd_L_run_45 : decode kb_L_run 45 = .ok (.iload 6, 2) := by decide +kernel
theorem kd_L_run_47 : decode kb_L_run 47 = .ok (.aload_n 0, 1) := by decide +kernel
theorem kd_L_run_48 : decode kb_L_run 48 = .ok (.getfield 24, 3) := by decide +kernel
theorem kd_L_run_51 : decode kb_L_run 51 = .ok (.getfield 42, 3) := by decide +kernel
theorem kd_L_run_54 : decode kb_L_run 54 = .ok (.if_icmp .ge 77, 3) := by decide +kernel
theorem kd_L_run_57 : decode kb_L_run 57 = .ok (.aload_n 0, 1) := by decide +kernel
theorem kd_L_run_58 : decode kb_L_run 58 = .ok (.getfield 28, 3) := by decide +kernel
theorem kd_L_run_61 : decode kb_L_run 61 = .ok (.getfield 48, 3) := by decide +kernel
theorem kd_L_run_64 : decode kb_L_run 64 = .ok (.iload 6, 2) := by decide +kernel
theorem kd_L_run_66 : decode kb_L_run 66 = .ok (.aaload, 1) := by decide +kernel
theorem kd_L_run_67 : decode kb_L_run 67 = .ok (.iload 6, 2) := by decide +kernel
theorem kd_L_run_69 : decode kb_L_run 69 = .ok (.laload, 1) := by decide +kernel
theorem kd_L_run_70 : decode kb_L_run 70 = .ok (.lstore 7, 2) := by decide +kernel
theorem kd_L_run_72 : decode kb_L_run 72 = .ok (.iload 6, 2) := by decide +kernel
theorem kd_L_run_74 : decode kb_L_run 74 = .ok (.iload_n 3, 1) := by decide +kernel
theorem kd_L_run_75 : decode kb_L_run 75 = .ok (.if_icmp .eq 50, 3) := by decide +kernel
theorem kd_L_run_78 : decode kb_L_run 78 = .ok (.lload 7, 2) := by decide +kernel
theorem kd_L_run_80 : decode kb_L_run 80 = .ok (.lconst 0, 1) := by decide +kernel
theorem kd_L_run_81 : decode kb_L_run 81 = .ok (.lcmp, 1) := by decide +kernel
theorem kd_L_run_82 : decode kb_L_run 82 = .ok (.ifCond .le 43, 3) := by decide +kernel
theorem kd_L_run_85 : decode kb_L_run 85 = .ok (.aload_n 1, 1) := by decide +kernel
theorem kd_L_run_86 : decode kb_L_run 86 = .ok (.iload 6, 2) := by decide +kernel
theorem kd_L_run_88 : decode kb_L_run 88 = .ok (.laload, 1) := by decide +kernel
theorem kd_L_run_89 : decode kb_L_run 89 = .ok (.lload 7, 2) := by decide +kernel
theorem kd_L_run_91 : decode kb_L_run 91 = .ok (.lcmp, 1) := by decide +kernel
theorem kd_L_run_92 : decode kb_L_run 92 = .ok (.ifCond .lt 33, 3) := by decide +kernel
theorem kd_L_run_95 : decode kb_L_run 95 = .ok (.aload_n 1, 1) := by decide +kernel
theorem kd_L_run_96 : decode kb_L_run 96 = .ok (.iload 6, 2) := by decide +kernel
theorem kd_L_run_98 : decode kb_L_run 98 = .ok (.laload, 1) := by decide +kernel
theorem kd_L_run_99 : decode kb_L_run 99 = .ok (.lload 7, 2) := by decide +kernel
theorem kd_L_run_101 : decode kb_L_run 101 = .ok (.ldiv, 1) := by decide +kernel
theorem kd_L_run_102 : decode kb_L_run 102 = .ok (.lstore 9, 2) := by decide +kernel
theorem kd_L_run_104 : decode kb_L_run 104 = .ok (.aload_n 0, 1) := by decide +kernel
theorem kd_L_run_105 : decode kb_L_run 105 = .ok (.aload_n 1, 1) := by decide +kernel
theorem kd_L_run_106 : decode kb_L_run 106 = .ok (.iload 6, 2) := by decide +kernel
theorem kd_L_run_108 : decode kb_L_run 108 = .ok (.lload 9, 2) := by decide +kernel
theorem kd_L_run_110 : decode kb_L_run 110 = .ok (.invokevirtual 52, 3) := by decide +kernel
theorem kd_L_run_113 : decode kb_L_run 113 = .ok (.aload_n 2, 1) := by decide +kernel
theorem kd_L_run_114 : decode kb_L_run 114 = .ok (.iload 6, 2) := by decide +kernel
theorem kd_L_run_116 : decode kb_L_run 116 = .ok (.dup2, 1) := by decide +kernel
theorem kd_L_run_117 : decode kb_L_run 117 = .ok (.laload, 1) := by decide +kernel
theorem kd_L_run_118 : decode kb_L_run 118 = .ok (.lload 9, 2) := by decide +kernel
theorem kd_L_run_120 : decode kb_L_run 120 = .ok (.ladd, 1) := by decide +kernel
theorem kd_L_run_121 : decode kb_L_run 121 = .ok (.lastore, 1) := by decide +kernel
theorem kd_L_run_122 : decode kb_L_run 122 = .ok (.iconst 1, 1) := by decide +kernel
theorem kd_L_run_123 : decode kb_L_run 123 = .ok (.istore 4, 2) := by decide +kernel
theorem kd_L_run_125 : decode kb_L_run 125 = .ok (.iinc 6 1, 3) := by decide +kernel
theorem kd_L_run_128 : decode kb_L_run 128 = .ok (.goto (-83), 3) := by decide +kernel
theorem kd_L_run_131 : decode kb_L_run 131 = .ok (.iinc 5 1, 3) := by decide +kernel
theorem kd_L_run_134 : decode kb_L_run 134 = .ok (.goto (-107), 3) := by decide +kernel
theorem kd_L_run_137 : decode kb_L_run 137 = .ok (.return_, 1) := by decide +kernel
theorem kd_L_fire_0 : decode kb_L_fire 0 = .ok (.iconst 0, 1) := by decide +kernel
theorem kd_L_fire_1 : decode kb_L_fire 1 = .ok (.istore 5, 2) := by decide +kernel
theorem kd_L_fire_3 : decode kb_L_fire 3 = .ok (.iload 5, 2) := by decide +kernel
theorem kd_L_fire_5 : decode kb_L_fire 5 = .ok (.aload_n 0, 1) := by decide +kernel
theorem kd_L_fire_6 : decode kb_L_fire 6 = .ok (.getfield 24, 3) := by decide +kernel
theorem kd_L_fire_9 : decode kb_L_fire 9 = .ok (.getfield 42, 3) := by decide +kernel
theorem kd_L_fire_12 : decode kb_L_fire 12 = .ok (.if_icmp .ge 30, 3) := by decide +kernel
theorem kd_L_fire_15 : decode kb_L_fire 15 = .ok (.aload_n 1, 1) := by decide +kernel
theorem kd_L_fire_16 : decode kb_L_fire 16 = .ok (.iload 5, 2) := by decide +kernel
theorem kd_L_fire_18 : decode kb_L_fire 18 = .ok (.dup2, 1) := by decide +kernel
theorem kd_L_fire_19 : decode kb_L_fire 19 = .ok (.laload, 1) := by decide +kernel
theorem kd_L_fire_20 : decode kb_L_fire 20 = .ok (.lload_n 3, 1) := by decide +kernel
theorem kd_L_fire_21 : decode kb_L_fire 21 = .ok (.aload_n 0, 1) := by decide +kernel
theorem kd_L_fire_22 : decode kb_L_fire 22 = .ok (.getfield 28, 3) := by decide +kernel
theorem kd_L_fire_25 : decode kb_L_fire 25 = .ok (.getfield 48, 3) := by decide +kernel
theorem kd_L_fire_28 : decode kb_L_fire 28 = .ok (.iload_n 2, 1) := by decide +kernel
theorem kd_L_fire_29 : decode kb_L_fire 29 = .ok (.aaload, 1) := by decide +kernel
theorem kd_L_fire_30 : decode kb_L_fire 30 = .ok (.iload 5, 2) := by decide +kernel
theorem kd_L_fire_32 : decode kb_L_fire 32 = .ok (.laload, 1) := by decide +kernel
theorem kd_L_fire_33 : decode kb_L_fire 33 = .ok (.lmul, 1) := by decide +kernel
theorem kd_L_fire_34 : decode kb_L_fire 34 = .ok (.lsub, 1) := by decide +kernel
theorem kd_L_fire_35 : decode kb_L_fire 35 = .ok (.lastore, 1) := by decide +kernel
theorem kd_L_fire_36 : decode kb_L_fire 36 = .ok (.iinc 5 1, 3) := by decide +kernel
theorem kd_L_fire_39 : decode kb_L_fire 39 = .ok (.goto (-36), 3) := by decide +kernel
theorem kd_L_fire_42 : decode kb_L_fire 42 = .ok (.return_, 1) := by decide +kernel
theorem kd_S_init_0 : decode kb_S_init 0 = .ok (.aload_n 0, 1) := by decide +kernel
theorem kd_S_init_1 : decode kb_S_init 1 = .ok (.invokespecial 3, 3) := by decide +kernel
theorem kd_S_init_4 : decode kb_S_init 4 = .ok (.aload_n 0, 1) := by decide +kernel
theorem kd_S_init_5 : decode kb_S_init 5 = .ok (.bipush 10, 2) := by decide +kernel
theorem kd_S_init_7 : decode kb_S_init 7 = .ok (.anewarray 9, 3) := by decide +kernel
theorem kd_S_init_10 : decode kb_S_init 10 = .ok (.putfield 11, 3) := by decide +kernel
theorem kd_S_init_13 : decode kb_S_init 13 = .ok (.aload_n 0, 1) := by decide +kernel
theorem kd_S_init_14 : decode kb_S_init 14 = .ok (.bipush 11, 2) := by decide +kernel
theorem kd_S_init_16 : decode kb_S_init 16 = .ok (.newarray .long, 2) := by decide +kernel
theorem kd_S_init_18 : decode kb_S_init 18 = .ok (.putfield 17, 3) := by decide +kernel
theorem kd_S_init_21 : decode kb_S_init 21 = .ok (.aload_n 0, 1) := by decide +kernel
theorem kd_S_init_22 : decode kb_S_init 22 = .ok (.bipush 15, 2) := by decide +kernel
theorem kd_S_init_24 : decode kb_S_init 24 = .ok (.newarray .long, 2) := by decide +kernel
theorem kd_S_init_26 : decode kb_S_init 26 = .ok (.putfield 21, 3) := by decide +kernel
theorem kd_S_init_29 : decode kb_S_init 29 = .ok (.aload_n 0, 1) := by decide +kernel
theorem kd_S_init_30 : decode kb_S_init 30 = .ok (.aload_n 1, 1) := by decide +kernel
theorem kd_S_init_31 : decode kb_S_init 31 = .ok (.putfield 24, 3) := by decide +kernel
theorem kd_S_init_34 : decode kb_S_init 34 = .ok (.aload_n 0, 1) := by decide +kernel
theorem kd_S_init_35 : decode kb_S_init 35 = .ok (.aload_n 2, 1) := by decide +kernel
theorem kd_S_init_36 : decode kb_S_init 36 = .ok (.putfield 28, 3) := by decide +kernel
theorem kd_S_init_39 : decode kb_S_init 39 = .ok (.iconst 0, 1) := by decide +kernel
theorem kd_S_init_40 : decode kb_S_init 40 = .ok (.istore_n 3, 1) := by decide +kernel
theorem kd_S_init_41 : decode kb_S_init 41 = .ok (.iload_n 3, 1) := by decide +kernel
theorem kd_S_init_42 : decode kb_S_init 42 = .ok (.bipush 10, 2) := by decide +kernel
theorem kd_S_init_44 : decode kb_S_init 44 = .ok (.if_icmp .ge 22, 3) := by decide +kernel
theorem kd_S_init_47 : decode kb_S_init 47 = .ok (.aload_n 0, 1) := by decide +kernel
theorem kd_S_init_48 : decode kb_S_init 48 = .ok (.getfield 11, 3) := by decide +kernel
theorem kd_S_init_51 : decode kb_S_init 51 = .ok (.iload_n 3, 1) := by decide +kernel
theorem kd_S_init_52 : decode kb_S_init 52 = .ok (.new 9, 3) := by decide +kernel
theorem kd_S_init_55 : decode kb_S_init 55 = .ok (.dup, 1) := by decide +kernel
theorem kd_S_init_56 : decode kb_S_init 56 = .ok (.invokespecial 32, 3) := by decide +kernel
theorem kd_S_init_59 : decode kb_S_init 59 = .ok (.aastore, 1) := by decide +kernel
theorem kd_S_init_60 : decode kb_S_init 60 = .ok (.iinc 3 1, 3) := by decide +kernel
theorem kd_S_init_63 : decode kb_S_init 63 = .ok (.goto (-22), 3) := by decide +kernel
theorem kd_S_init_66 : decode kb_S_init 66 = .ok (.return_, 1) := by decide +kernel
theorem kd_S_sumAt_0 : decode kb_S_sumAt 0 = .ok (.aload_n 0, 1) := by decide +kernel
theorem kd_S_sumAt_1 : decode kb_S_sumAt 1 = .ok (.getfield 17, 3) := by decide +kernel
theorem kd_S_sumAt_4 : decode kb_S_sumAt 4 = .ok (.lload_n 1, 1) := by decide +kernel
theorem kd_S_sumAt_5 : decode kb_S_sumAt 5 = .ok (.lconst 1, 1) := by decide +kernel
theorem kd_S_sumAt_6 : decode kb_S_sumAt 6 = .ok (.lsub, 1) := by decide +kernel
theorem kd_S_sumAt_7 : decode kb_S_sumAt 7 = .ok (.invokestatic 33, 3) := by decide +kernel
theorem kd_S_sumAt_10 : decode kb_S_sumAt 10 = .ok (.aload_n 0, 1) := by decide +kernel
theorem kd_S_sumAt_11 : decode kb_S_sumAt 11 = .ok (.getfield 21, 3) := by decide +kernel
theorem kd_S_sumAt_14 : decode kb_S_sumAt 14 = .ok (.lload_n 3, 1) := by decide +kernel
theorem kd_S_sumAt_15 : decode kb_S_sumAt 15 = .ok (.invokestatic 33, 3) := by decide +kernel
theorem kd_S_sumAt_18 : decode kb_S_sumAt 18 = .ok (.aload_n 0, 1) := by decide +kernel
theorem kd_S_sumAt_19 : decode kb_S_sumAt 19 = .ok (.getfield 24, 3) := by decide +kernel
theorem kd_S_sumAt_22 : decode kb_S_sumAt 22 = .ok (.aload_n 0, 1) := by decide +kernel
theorem kd_S_sumAt_23 : decode kb_S_sumAt 23 = .ok (.getfield 28, 3) := by decide +kernel
theorem kd_S_sumAt_26 : decode kb_S_sumAt 26 = .ok (.invokevirtual 37, 3) := by decide +kernel
theorem kd_S_sumAt_29 : decode kb_S_sumAt 29 = .ok (.pop, 1) := by decide +kernel
theorem kd_S_sumAt_30 : decode kb_S_sumAt 30 = .ok (.aload_n 0, 1) := by decide +kernel
theorem kd_S_sumAt_31 : decode kb_S_sumAt 31 = .ok (.aload_n 0, 1) := by decide +kernel
theorem kd_S_sumAt_32 : decode kb_S_sumAt 32 = .ok (.getfield 28, 3) := by decide +kernel
theorem kd_S_sumAt_35 : decode kb_S_sumAt 35 = .ok (.getfield 43, 3) := by decide +kernel
theorem kd_S_sumAt_38 : decode kb_S_sumAt 38 = .ok (.putfield 47, 3) := by decide +kernel
theorem kd_S_sumAt_41 : decode kb_S_sumAt 41 = .ok (.aload_n 0, 1) := by decide +kernel
theorem kd_S_sumAt_42 : decode kb_S_sumAt 42 = .ok (.getfield 11, 3) := by decide +kernel
theorem kd_S_sumAt_45 : decode kb_S_sumAt 45 = .ok (.iconst 0, 1) := by decide +kernel
theorem kd_S_sumAt_46 : decode kb_S_sumAt 46 = .ok (.aaload, 1) := by decide +kernel
theorem kd_S_sumAt_47 : decode kb_S_sumAt 47 = .ok (.aload_n 0, 1) := by decide +kernel
theorem kd_S_sumAt_48 : decode kb_S_sumAt 48 = .ok (.getfield 24, 3) := by decide +kernel
theorem kd_S_sumAt_51 : decode kb_S_sumAt 51 = .ok (.getfield 50, 3) := by decide +kernel
theorem kd_S_sumAt_54 : decode kb_S_sumAt 54 = .ok (.invokevirtual 53, 3) := by decide +kernel
theorem kd_S_sumAt_57 : decode kb_S_sumAt 57 = .ok (.aload_n 0, 1) := by decide +kernel
theorem kd_S_sumAt_58 : decode kb_S_sumAt 58 = .ok (.iconst 0, 1) := by decide +kernel
theorem kd_S_sumAt_59 : decode kb_S_sumAt 59 = .ok (.iconst 0, 1) := by decide +kernel
theorem kd_S_sumAt_60 : decode kb_S_sumAt 60 = .ok (.invokestatic 57, 3) := by decide +kernel
theorem kd_S_sumAt_63 : decode kb_S_sumAt 63 = .ok (.lreturn, 1) := by decide +kernel
theorem kd_S_fillPowers_0 : decode kb_S_fillPowers 0 = .ok (.lconst 1, 1) := by decide +kernel
theorem kd_S_fillPowers_1 : decode kb_S_fillPowers 1 = .ok (.lstore_n 3, 1) := by decide +kernel
theorem kd_S_fillPowers_2 : decode kb_S_fillPowers 2 = .ok (.iconst 0, 1) := by decide +kernel
theorem kd_S_fillPowers_3 : decode kb_S_fillPowers 3 = .ok (.istore 5, 2) := by decide +kernel
theorem kd_S_fillPowers_5 : decode kb_S_fillPowers 5 = .ok (.iload 5, 2) := by decide +kernel
theorem kd_S_fillPowers_7 : decode kb_S_fillPowers 7 = .ok (.aload_n 0, 1) := by decide +kernel
theorem kd_S_fillPowers_8 : decode kb_S_fillPowers 8 = .ok (.arraylength, 1) := by decide +kernel
theorem kd_S_fillPowers_9 : decode kb_S_fillPowers 9 = .ok (.if_icmp .ge 18, 3) := by decide +kernel
theorem kd_S_fillPowers_12 : decode kb_S_fillPowers 12 = .ok (.aload_n 0, 1) := by decide +kernel
theorem kd_S_fillPowers_13 : decode kb_S_fillPowers 13 = .ok (.iload 5, 2) := by decide +kernel
theorem kd_S_fillPowers_15 : decode kb_S_fillPowers 15 = .ok (.lload_n 3, 1) := by decide +kernel
theorem kd_S_fillPowers_16 : decode kb_S_fillPowers 16 = .ok (.lastore, 1) := by decide +kernel
theorem kd_S_fillPowers_17 : decode kb_S_fillPowers 17 = .ok (.lload_n 3, 1) := by decide +kernel
theorem kd_S_fillPowers_18 : decode kb_S_fillPowers 18 = .ok (.lload_n 1, 1) := by decide +kernel
theorem kd_S_fillPowers_19 : decode kb_S_fillPowers 19 = .ok (.lmul, 1) := by decide +kernel
theorem kd_S_fillPowers_20 : decode kb_S_fillPowers 20 = .ok (.lstore_n 3, 1) := by decide +kernel
theorem kd_S_fillPowers_21 : decode kb_S_fillPowers 21 = .ok (.iinc 5 1, 3) := by decide +kernel
theorem kd_S_fillPowers_24 : decode kb_S_fillPowers 24 = .ok (.goto (-19), 3) := by decide +kernel
theorem kd_S_fillPowers_27 : decode kb_S_fillPowers 27 = .ok (.return_, 1) := by decide +kernel
theorem kd_S_sumFrom_0 : decode kb_S_sumFrom 0 = .ok (.aload_n 0, 1) := by decide +kernel
theorem kd_S_sumFrom_1 : decode kb_S_sumFrom 1 = .ok (.getfield 24, 3) := by decide +kernel
theorem kd_S_sumFrom_4 : decode kb_S_sumFrom 4 = .ok (.astore_n 3, 1) := by decide +kernel
theorem kd_S_sumFrom_5 : decode kb_S_sumFrom 5 = .ok (.aload_n 0, 1) := by decide +kernel
theorem kd_S_sumFrom_6 : decode kb_S_sumFrom 6 = .ok (.getfield 11, 3) := by decide +kernel
theorem kd_S_sumFrom_9 : decode kb_S_sumFrom 9 = .ok (.iload_n 2, 1) := by decide +kernel
theorem kd_S_sumFrom_10 : decode kb_S_sumFrom 10 = .ok (.aaload, 1) := by decide +kernel
theorem kd_S_sumFrom_11 : decode kb_S_sumFrom 11 = .ok (.astore 4, 2) := by decide +kernel
theorem kd_S_sumFrom_13 : decode kb_S_sumFrom 13 = .ok (.aload 4, 2) := by decide +kernel
theorem kd_S_sumFrom_15 : decode kb_S_sumFrom 15 = .ok (.getfield 43, 3) := by decide +kernel
theorem kd_S_sumFrom_18 : decode kb_S_sumFrom 18 = .ok (.aload_n 0, 1) := by decide +kernel
theorem kd_S_sumFrom_19 : decode kb_S_sumFrom 19 = .ok (.getfield 47, 3) := by decide +kernel
theorem kd_S_sumFrom_22 : decode kb_S_sumFrom 22 = .ok (.isub, 1) := by decide +kernel
theorem kd_S_sumFrom_23 : decode kb_S_sumFrom 23 = .ok (.istore 5, 2) := by decide +kernel
theorem kd_S_sumFrom_25 : decode kb_S_sumFrom 25 = .ok (.iload 5, 2) := by decide +kernel
theorem kd_S_sumFrom_27 : decode kb_S_sumFrom 27 = .ok (.ifCond .ne 15, 3) := by decide +kernel
theorem kd_S_sumFrom_30 : decode kb_S_sumFrom 30 = .ok (.aload_n 0, 1) := by decide +kernel
theorem kd_S_sumFrom_31 : decode kb_S_sumFrom 31 = .ok (.getfield 21, 3) := by decide +kernel
theorem kd_S_sumFrom_34 : decode kb_S_sumFrom 34 = .ok (.aload_n 3, 1) := by decide +kernel
theorem kd_S_sumFrom_35 : decode kb_S_sumFrom 35 = .ok (.getfield 61, 3) := by decide +kernel
theorem kd_S_sumFrom_38 : decode kb_S_sumFrom 38 = .ok (.iload_n 1, 1) := by decide +kernel
theorem kd_S_sumFrom_39 : decode kb_S_sumFrom 39 = .ok (.isub, 1) := by decide +kernel
theorem kd_S_sumFrom_40 : decode kb_S_sumFrom 40 = .ok (.laload, 1) := by decide +kernel
theorem kd_S_sumFrom_41 : decode kb_S_sumFrom 41 = .ok (.lreturn, 1) := by decide +kernel
theorem kd_S_sumFrom_42 : decode kb_S_sumFrom 42 = .ok (.iload_n 1, 1) := by decide +kernel
theorem kd_S_sumFrom_43 : decode kb_S_sumFrom 43 = .ok (.aload_n 3, 1) := by decide +kernel
theorem kd_S_sumFrom_44 : decode kb_S_sumFrom 44 = .ok (.getfield 61, 3) := by decide +kernel
theorem kd_S_sumFrom_47 : decode kb_S_sumFrom 47 = .ok (.if_icmp .lt 11, 3) := by decide +kernel
theorem kd_S_sumFrom_50 : decode kb_S_sumFrom 50 = .ok (.aload_n 0, 1) := by decide +kernel
theorem kd_S_sumFrom_51 : decode kb_S_sumFrom 51 = .ok (.getfield 17, 3) := by decide +kernel
theorem kd_S_sumFrom_54 : decode kb_S_sumFrom 54 = .ok (.iload 5, 2) := by decide +kernel
theorem kd_S_sumFrom_56 : decode kb_S_sumFrom 56 = .ok (.laload, 1) := by decide +kernel
theorem kd_S_sumFrom_57 : decode kb_S_sumFrom 57 = .ok (.lreturn, 1) := by decide +kernel
theorem kd_S_sumFrom_58 : decode kb_S_sumFrom 58 = .ok (.aload_n 3, 1) := by decide +kernel
theorem kd_S_sumFrom_59 : decode kb_S_sumFrom 59 = .ok (.getfield 64, 3) := by decide +kernel
theorem kd_S_sumFrom_62 : decode kb_S_sumFrom 62 = .ok (.iload_n 1, 1) := by decide +kernel
theorem kd_S_sumFrom_63 : decode kb_S_sumFrom 63 = .ok (.iaload, 1) := by decide +kernel
theorem kd_S_sumFrom_64 : decode kb_S_sumFrom 64 = .ok (.istore 6, 2) := by decide +kernel
theorem kd_S_sumFrom_66 : decode kb_S_sumFrom 66 = .ok (.aload_n 3, 1) := by decide +kernel
theorem kd_S_sumFrom_67 : decode kb_S_sumFrom 67 = .ok (.getfield 68, 3) := by decide +kernel
theorem kd_S_sumFrom_70 : decode kb_S_sumFrom 70 = .ok (.iload_n 1, 1) := by decide +kernel
theorem kd_S_sumFrom_71 : decode kb_S_sumFrom 71 = .ok (.iaload, 1) := by decide +kernel
theorem kd_S_sumFrom_72 : decode kb_S_sumFrom 72 = .ok (.istore 7, 2) := by decide +kernel
theorem kd_S_sumFrom_74 : decode kb_S_sumFrom 74 = .ok (.aload 4, 2) := by decide +kernel
theorem kd_S_sumFrom_76 : decode kb_S_sumFrom 76 = .ok (.iload 6, 2) := by decide +kernel
theorem kd_S_sumFrom_78 : decode kb_S_sumFrom 78 = .ok (.iload 7, 2) := by decide +kernel
theorem kd_S_sumFrom_80 : decode kb_S_sumFrom 80 = .ok (.invokevirtual 71, 3) := by decide +kernel
theorem kd_S_sumFrom_83 : decode kb_S_sumFrom 83 = .ok (.ifCond .eq 19, 3) := by decide +kernel
theorem kd_S_sumFrom_86 : decode kb_S_sumFrom 86 = .ok (.aload_n 0, 1) := by decide +kernel
theorem kd_S_sumFrom_87 : decode kb_S_sumFrom 87 = .ok (.getfield 21, 3) := by decide +kernel
theorem kd_S_sumFrom_90 : decode kb_S_sumFrom 90 = .ok (.iconst 1, 1) := by decide +kernel
theorem kd_S_sumFrom_91 : decode kb_S_sumFrom 91 = .ok (.laload, 1) := by decide +kernel
theorem kd_S_sumFrom_92 : decode kb_S_sumFrom 92 = .ok (.aload_n 0, 1) := by decide +kernel
theorem kd_S_sumFrom_93 : decode kb_S_sumFrom 93 = .ok (.iload_n 1, 1) := by decide +kernel
theorem kd_S_sumFrom_94 : decode kb_S_sumFrom 94 = .ok (.iconst 1, 1) := by decide +kernel
theorem kd_S_sumFrom_95 : decode kb_S_sumFrom 95 = .ok (.iadd, 1) := by decide +kernel
theorem kd_S_sumFrom_96 : decode kb_S_sumFrom 96 = .ok (.iload_n 2, 1) := by decide +kernel
theorem kd_S_sumFrom_97 : decode kb_S_sumFrom 97 = .ok (.invokestatic 57, 3) := by decide +kernel
theorem kd_S_sumFrom_100 : decode kb_S_sumFrom 100 = .ok (.lmul, 1) := by decide +kernel
theorem kd_S_sumFrom_101 : decode kb_S_sumFrom 101 = .ok (.lreturn, 1) := by decide +kernel
theorem kd_S_sumFrom_102 : decode kb_S_sumFrom 102 = .ok (.aload_n 0, 1) := by decide +kernel
theorem kd_S_sumFrom_103 : decode kb_S_sumFrom 103 = .ok (.iload_n 1, 1) := by decide +kernel
theorem kd_S_sumFrom_104 : decode kb_S_sumFrom 104 = .ok (.iconst 1, 1) := by decide +kernel
theorem kd_S_sumFrom_105 : decode kb_S_sumFrom 105 = .ok (.iadd, 1) := by decide +kernel
theorem kd_S_sumFrom_106 : decode kb_S_sumFrom 106 = .ok (.iload_n 2, 1) := by decide +kernel
theorem kd_S_sumFrom_107 : decode kb_S_sumFrom 107 = .ok (.invokestatic 57, 3) := by decide +kernel
theorem kd_S_sumFrom_110 : decode kb_S_sumFrom 110 = .ok (.lstore 8, 2) := by decide +kernel
theorem kd_S_sumFrom_112 : decode kb_S_sumFrom 112 = .ok (.aload_n 0, 1) := by decide +kernel
theorem kd_S_sumFrom_113 : decode kb_S_sumFrom 113 = .ok (.getfield 11, 3) := by decide +kernel
theorem kd_S_sumFrom_116 : decode kb_S_sumFrom 116 = .ok (.iload_n 2, 1) := by decide +kernel
theorem kd_S_sumFrom_117 : decode kb_S_sumFrom 117 = .ok (.iconst 1, 1) := by decide +kernel
theorem kd_S_sumFrom_118 : decode kb_S_sumFrom 118 = .ok (.iadd, 1) := by decide +kernel
theorem kd_S_sumFrom_119 : decode kb_S_sumFrom 119 = .ok (.aaload, 1) := by decide +kernel
theorem kd_S_sumFrom_120 : decode kb_S_sumFrom 120 = .ok (.astore 10, 2) := by decide +kernel
theorem kd_S_sumFrom_122 : decode kb_S_sumFrom 122 = .ok (.aload 10, 2) := by decide +kernel
theorem kd_S_sumFrom_124 : decode kb_S_sumFrom 124 = .ok (.aload 4, 2) := by decide +kernel
theorem kd_S_sumFrom_126 : decode kb_S_sumFrom 126 = .ok (.invokevirtual 75, 3) := by decide +kernel
theorem kd_S_sumFrom_129 : decode kb_S_sumFrom 129 = .ok (.aload 10, 2) := by decide +kernel
theorem kd_S_sumFrom_131 : decode kb_S_sumFrom 131 = .ok (.iload 6, 2) := by decide +kernel
theorem kd_S_sumFrom_133 : decode kb_S_sumFrom 133 = .ok (.iload 7, 2) := by decide +kernel
theorem kd_S_sumFrom_135 : decode kb_S_sumFrom 135 = .ok (.invokevirtual 79, 3) := by decide +kernel
theorem kd_S_sumFrom_138 : decode kb_S_sumFrom 138 = .ok (.pop, 1) := by decide +kernel
theorem kd_S_sumFrom_139 : decode kb_S_sumFrom 139 = .ok (.lload 8, 2) := by decide +kernel
theorem kd_S_sumFrom_141 : decode kb_S_sumFrom 141 = .ok (.aload_n 0, 1) := by decide +kernel
theorem kd_S_sumFrom_142 : decode kb_S_sumFrom 142 = .ok (.iload_n 1, 1) := by decide +kernel
theorem kd_S_sumFrom_143 : decode kb_S_sumFrom 143 = .ok (.iconst 1, 1) := by decide +kernel
theorem kd_S_sumFrom_144 : decode kb_S_sumFrom 144 = .ok (.iadd, 1) := by decide +kernel
theorem kd_S_sumFrom_145 : decode kb_S_sumFrom 145 = .ok (.iload_n 2, 1) := by decide +kernel
theorem kd_S_sumFrom_146 : decode kb_S_sumFrom 146 = .ok (.iconst 1, 1) := by decide +kernel
theorem kd_S_sumFrom_147 : decode kb_S_sumFrom 147 = .ok (.iadd, 1) := by decide +kernel
theorem kd_S_sumFrom_148 : decode kb_S_sumFrom 148 = .ok (.invokestatic 57, 3) := by decide +kernel
theorem kd_S_sumFrom_151 : decode kb_S_sumFrom 151 = .ok (.ladd, 1) := by decide +kernel
theorem kd_S_sumFrom_152 : decode kb_S_sumFrom 152 = .ok (.lreturn, 1) := by decide +kernel
abbrev kb_W_point : ByteArray := method_3_code
theorem kd_W_point_0 : decode kb_W_point 0 = .ok (.aload 5, 2) := by decide +kernel
theorem kd_W_point_2 : decode kb_W_point 2 = .ok (.iconst 0, 1) := by decide +kernel
theorem kd_W_point_3 : decode kb_W_point 3 = .ok (.aload_n 0, 1) := by decide +kernel
theorem kd_W_point_4 : decode kb_W_point 4 = .ok (.lload_n 1, 1) := by decide +kernel
theorem kd_W_point_5 : decode kb_W_point 5 = .ok (.lload_n 3, 1) := by decide +kernel
theorem kd_W_point_6 : decode kb_W_point 6 = .ok (.invokevirtual 7, 3) := by decide +kernel
theorem kd_W_point_9 : decode kb_W_point 9 = .ok (.lastore, 1) := by decide +kernel
theorem kd_W_point_10 : decode kb_W_point 10 = .ok (.goto 7, 3) := by decide +kernel
theorem kd_W_point_13 : decode kb_W_point 13 = .ok (.astore 6, 2) := by decide +kernel
theorem kd_W_point_15 : decode kb_W_point 15 = .ok (.iconst 1, 1) := by decide +kernel
theorem kd_W_point_16 : decode kb_W_point 16 = .ok (.ireturn, 1) := by decide +kernel
theorem kd_W_point_17 : decode kb_W_point 17 = .ok (.iconst 0, 1) := by decide +kernel
theorem kd_W_point_18 : decode kb_W_point 18 = .ok (.ireturn, 1) := by decide +kernel
theorem kd_W_law_0 : decode code 0 = .ok (.new 8, 3) := by decide +kernel
theorem kd_W_law_3 : decode code 3 = .ok (.dup, 1) := by decide +kernel
theorem kd_W_law_4 : decode code 4 = .ok (.invokespecial 15, 3) := by decide +kernel
theorem kd_W_law_7 : decode code 7 = .ok (.astore_n 1, 1) := by decide +kernel
theorem kd_W_law_8 : decode code 8 = .ok (.new 16, 3) := by decide +kernel
theorem kd_W_law_11 : decode code 11 = .ok (.dup, 1) := by decide +kernel
theorem kd_W_law_12 : decode code 12 = .ok (.invokespecial 18, 3) := by decide +kernel
theorem kd_W_law_15 : decode code 15 = .ok (.astore_n 2, 1) := by decide +kernel
theorem kd_W_law_16 : decode code 16 = .ok (.iconst 1, 1) := by decide +kernel
theorem kd_W_law_17 : decode code 17 = .ok (.newarray .long, 2) := by decide +kernel
theorem kd_W_law_19 : decode code 19 = .ok (.astore_n 3, 1) := by decide +kernel
theorem kd_W_law_20 : decode code 20 = .ok (.iconst 0, 1) := by decide +kernel
theorem kd_W_law_21 : decode code 21 = .ok (.istore 4, 2) := by decide +kernel
theorem kd_W_law_23 : decode code 23 = .ok (.iload 4, 2) := by decide +kernel
theorem kd_W_law_25 : decode code 25 = .ok (.aload_n 0, 1) := by decide +kernel
theorem kd_W_law_26 : decode code 26 = .ok (.arraylength, 1) := by decide +kernel
theorem kd_W_law_27 : decode code 27 = .ok (.iconst 5, 1) := by decide +kernel
theorem kd_W_law_28 : decode code 28 = .ok (.isub, 1) := by decide +kernel
theorem kd_W_law_29 : decode code 29 = .ok (.if_icmp .gt 869, 3) := by decide +kernel
theorem kd_W_law_32 : decode code 32 = .ok (.aload_n 0, 1) := by decide +kernel
theorem kd_W_law_33 : decode code 33 = .ok (.iload 4, 2) := by decide +kernel
theorem kd_W_law_35 : decode code 35 = .ok (.iaload, 1) := by decide +kernel
theorem kd_W_law_36 : decode code 36 = .ok (.bipush 31, 2) := by decide +kernel
theorem kd_W_law_38 : decode code 38 = .ok (.iand, 1) := by decide +kernel
theorem kd_W_law_39 : decode code 39 = .ok (.tableswitch 853 0 22 #[105, 118, 167, 204, 217, 231, 257, 283, 297, 335, 385, 399, 456, 482, 519, 545, 583, 609, 635, 661, 686, 817, 842], 105) := by decide +kernel
theorem kd_W_law_144 : decode code 144 = .ok (.aload_n 1, 1) := by decide +kernel
theorem kd_W_law_145 : decode code 145 = .ok (.invokevirtual 19, 3) := by decide +kernel
theorem kd_W_law_148 : decode code 148 = .ok (.aload_n 2, 1) := by decide +kernel
theorem kd_W_law_149 : decode code 149 = .ok (.invokevirtual 23, 3) := by decide +kernel
theorem kd_W_law_152 : decode code 152 = .ok (.if_icmp .eq 740, 3) := by decide +kernel
theorem kd_W_law_155 : decode code 155 = .ok (.iconst 0, 1) := by decide +kernel
theorem kd_W_law_156 : decode code 156 = .ok (.ireturn, 1) := by decide +kernel
theorem kd_W_law_157 : decode code 157 = .ok (.aload_n 1, 1) := by decide +kernel
theorem kd_W_law_158 : decode code 158 = .ok (.aload_n 0, 1) := by decide +kernel
theorem kd_W_law_159 : decode code 159 = .ok (.iload 4, 2) := by decide +kernel
theorem kd_W_law_161 : decode code 161 = .ok (.iconst 1, 1) := by decide +kernel
theorem kd_W_law_162 : decode code 162 = .ok (.iadd, 1) := by decide +kernel
theorem kd_W_law_163 : decode code 163 = .ok (.iaload, 1) := by decide +kernel
theorem kd_W_law_164 : decode code 164 = .ok (.aload_n 0, 1) := by decide +kernel
theorem kd_W_law_165 : decode code 165 = .ok (.iload 4, 2) := by decide +kernel
theorem kd_W_law_167 : decode code 167 = .ok (.iconst 2, 1) := by decide +kernel
theorem kd_W_law_168 : decode code 168 = .ok (.iadd, 1) := by decide +kernel
theorem kd_W_law_169 : decode code 169 = .ok (.iaload, 1) := by decide +kernel
theorem kd_W_law_170 : decode code 170 = .ok (.aload_n 0, 1) := by decide +kernel
theorem kd_W_law_171 : decode code 171 = .ok (.iload 4, 2) := by decide +kernel
theorem kd_W_law_173 : decode code 173 = .ok (.iconst 3, 1) := by decide +kernel
theorem kd_W_law_174 : decode code 174 = .ok (.iadd, 1) := by decide +kernel
theorem kd_W_law_175 : decode code 175 = .ok (.iaload, 1) := by decide +kernel
theorem kd_W_law_176 : decode code 176 = .ok (.invokevirtual 24, 3) := by decide +kernel
theorem kd_W_law_179 : decode code 179 = .ok (.aload_n 2, 1) := by decide +kernel
theorem kd_W_law_180 : decode code 180 = .ok (.aload_n 0, 1) := by decide +kernel
theorem kd_W_law_181 : decode code 181 = .ok (.iload 4, 2) := by decide +kernel
theorem kd_W_law_183 : decode code 183 = .ok (.iconst 1, 1) := by decide +kernel
theorem kd_W_law_184 : decode code 184 = .ok (.iadd, 1) := by decide +kernel
theorem kd_W_law_185 : decode code 185 = .ok (.iaload, 1) := by decide +kernel
theorem kd_W_law_186 : decode code 186 = .ok (.aload_n 0, 1) := by decide +kernel
theorem kd_W_law_187 : decode code 187 = .ok (.iload 4, 2) := by decide +kernel
theorem kd_W_law_189 : decode code 189 = .ok (.iconst 2, 1) := by decide +kernel
theorem kd_W_law_190 : decode code 190 = .ok (.iadd, 1) := by decide +kernel
theorem kd_W_law_191 : decode code 191 = .ok (.iaload, 1) := by decide +kernel
theorem kd_W_law_192 : decode code 192 = .ok (.aload_n 0, 1) := by decide +kernel
theorem kd_W_law_193 : decode code 193 = .ok (.iload 4, 2) := by decide +kernel
theorem kd_W_law_195 : decode code 195 = .ok (.iconst 3, 1) := by decide +kernel
theorem kd_W_law_196 : decode code 196 = .ok (.iadd, 1) := by decide +kernel
theorem kd_W_law_197 : decode code 197 = .ok (.iaload, 1) := by decide +kernel
theorem kd_W_law_198 : decode code 198 = .ok (.invokevirtual 28, 3) := by decide +kernel
theorem kd_W_law_201 : decode code 201 = .ok (.if_icmp .eq 691, 3) := by decide +kernel
theorem kd_W_law_204 : decode code 204 = .ok (.iconst 0, 1) := by decide +kernel
theorem kd_W_law_205 : decode code 205 = .ok (.ireturn, 1) := by decide +kernel
theorem kd_W_law_206 : decode code 206 = .ok (.aload_n 1, 1) := by decide +kernel
theorem kd_W_law_207 : decode code 207 = .ok (.aload_n 0, 1) := by decide +kernel
theorem kd_W_law_208 : decode code 208 = .ok (.iload 4, 2) := by decide +kernel
theorem kd_W_law_210 : decode code 210 = .ok (.iconst 1, 1) := by decide +kernel
theorem kd_W_law_211 : decode code 211 = .ok (.iadd, 1) := by decide +kernel
theorem kd_W_law_212 : decode code 212 = .ok (.iaload, 1) := by decide +kernel
theorem kd_W_law_213 : decode code 213 = .ok (.aload_n 0, 1) := by decide +kernel
theorem kd_W_law_214 : decode code 214 = .ok (.iload 4, 2) := by decide +kernel
theorem kd_W_law_216 : decode code 216 = .ok (.iconst 2, 1) := by decide +kernel
theorem kd_W_law_217 : decode code 217 = .ok (.iadd, 1) := by decide +kernel
theorem kd_W_law_218 : decode code 218 = .ok (.iaload, 1) := by decide +kernel
theorem kd_W_law_219 : decode code 219 = .ok (.invokevirtual 29, 3) := by decide +kernel
theorem kd_W_law_222 : decode code 222 = .ok (.aload_n 2, 1) := by decide +kernel
theorem kd_W_law_223 : decode code 223 = .ok (.aload_n 0, 1) := by decide +kernel
theorem kd_W_law_224 : decode code 224 = .ok (.iload 4, 2) := by decide +kernel
theorem kd_W_law_226 : decode code 226 = .ok (.iconst 1, 1) := by decide +kernel
theorem kd_W_law_227 : decode code 227 = .ok (.iadd, 1) := by decide +kernel
theorem kd_W_law_228 : decode code 228 = .ok (.iaload, 1) := by decide +kernel
theorem kd_W_law_229 : decode code 229 = .ok (.aload_n 0, 1) := by decide +kernel
theorem kd_W_law_230 : decode code 230 = .ok (.iload 4, 2) := by decide +kernel
theorem kd_W_law_232 : decode code 232 = .ok (.iconst 2, 1) := by decide +kernel
theorem kd_W_law_233 : decode code 233 = .ok (.iadd, 1) := by decide +kernel
theorem kd_W_law_234 : decode code 234 = .ok (.iaload, 1) := by decide +kernel
theorem kd_W_law_235 : decode code 235 = .ok (.invokevirtual 33, 3) := by decide +kernel
theorem kd_W_law_238 : decode code 238 = .ok (.if_icmp .eq 654, 3) := by decide +kernel
theorem kd_W_law_241 : decode code 241 = .ok (.iconst 0, 1) := by decide +kernel
theorem kd_W_law_242 : decode code 242 = .ok (.ireturn, 1) := by decide +kernel
theorem kd_W_law_243 : decode code 243 = .ok (.aload_n 1, 1) := by decide +kernel
theorem kd_W_law_244 : decode code 244 = .ok (.invokevirtual 34, 3) := by decide +kernel
theorem kd_W_law_247 : decode code 247 = .ok (.aload_n 2, 1) := by decide +kernel
theorem kd_W_law_248 : decode code 248 = .ok (.invokevirtual 38, 3) := by decide +kernel
theorem kd_W_law_251 : decode code 251 = .ok (.if_icmp .eq 641, 3) := by decide +kernel
theorem kd_W_law_254 : decode code 254 = .ok (.iconst 0, 1) := by decide +kernel
theorem kd_W_law_255 : decode code 255 = .ok (.ireturn, 1) := by decide +kernel
theorem kd_W_law_256 : decode code 256 = .ok (.aload_n 1, 1) := by decide +kernel
theorem kd_W_law_257 : decode code 257 = .ok (.invokevirtual 39, 3) := by decide +kernel
theorem kd_W_law_260 : decode code 260 = .ok (.aload_n 2, 1) := by decide +kernel
theorem kd_W_law_261 : decode code 261 = .ok (.invokevirtual 43, 3) := by decide +kernel
theorem kd_W_law_264 : decode code 264 = .ok (.lcmp, 1) := by decide +kernel
theorem kd_W_law_265 : decode code 265 = .ok (.ifCond .eq 627, 3) := by decide +kernel
theorem kd_W_law_268 : decode code 268 = .ok (.iconst 0, 1) := by decide +kernel
theorem kd_W_law_269 : decode code 269 = .ok (.ireturn, 1) := by decide +kernel
theorem kd_W_law_270 : decode code 270 = .ok (.aload_n 1, 1) := by decide +kernel
theorem kd_W_law_271 : decode code 271 = .ok (.aload_n 0, 1) := by decide +kernel
theorem kd_W_law_272 : decode code 272 = .ok (.iload 4, 2) := by decide +kernel
theorem kd_W_law_274 : decode code 274 = .ok (.iconst 1, 1) := by decide +kernel
theorem kd_W_law_275 : decode code 275 = .ok (.iadd, 1) := by decide +kernel
theorem kd_W_law_276 : decode code 276 = .ok (.iaload, 1) := by decide +kernel
theorem kd_W_law_277 : decode code 277 = .ok (.invokevirtual 44, 3) := by decide +kernel
theorem kd_W_law_280 : decode code 280 = .ok (.aload_n 2, 1) := by decide +kernel
theorem kd_W_law_281 : decode code 281 = .ok (.aload_n 0, 1) := by decide +kernel
theorem kd_W_law_282 : decode code 282 = .ok (.iload 4, 2) := by decide +kernel
theorem kd_W_law_284 : decode code 284 = .ok (.iconst 1, 1) := by decide +kernel
theorem kd_W_law_285 : decode code 285 = .ok (.iadd, 1) := by decide +kernel
theorem kd_W_law_286 : decode code 286 = .ok (.iaload, 1) := by decide +kernel
theorem kd_W_law_287 : decode code 287 = .ok (.invokevirtual 48, 3) := by decide +kernel
theorem kd_W_law_290 : decode code 290 = .ok (.lcmp, 1) := by decide +kernel
theorem kd_W_law_291 : decode code 291 = .ok (.ifCond .eq 601, 3) := by decide +kernel
theorem kd_W_law_294 : decode code 294 = .ok (.iconst 0, 1) := by decide +kernel
theorem kd_W_law_295 : decode code 295 = .ok (.ireturn, 1) := by decide +kernel
theorem kd_W_law_296 : decode code 296 = .ok (.aload_n 1, 1) := by decide +kernel
theorem kd_W_law_297 : decode code 297 = .ok (.aload_n 0, 1) := by decide +kernel
theorem kd_W_law_298 : decode code 298 = .ok (.iload 4, 2) := by decide +kernel
theorem kd_W_law_300 : decode code 300 = .ok (.iconst 1, 1) := by decide +kernel
theorem kd_W_law_301 : decode code 301 = .ok (.iadd, 1) := by decide +kernel
theorem kd_W_law_302 : decode code 302 = .ok (.iaload, 1) := by decide +kernel
theorem kd_W_law_303 : decode code 303 = .ok (.invokevirtual 49, 3) := by decide +kernel
theorem kd_W_law_306 : decode code 306 = .ok (.aload_n 2, 1) := by decide +kernel
theorem kd_W_law_307 : decode code 307 = .ok (.aload_n 0, 1) := by decide +kernel
theorem kd_W_law_308 : decode code 308 = .ok (.iload 4, 2) := by decide +kernel
theorem kd_W_law_310 : decode code 310 = .ok (.iconst 1, 1) := by decide +kernel
theorem kd_W_law_311 : decode code 311 = .ok (.iadd, 1) := by decide +kernel
theorem kd_W_law_312 : decode code 312 = .ok (.iaload, 1) := by decide +kernel
theorem kd_W_law_313 : decode code 313 = .ok (.invokevirtual 52, 3) := by decide +kernel
theorem kd_W_law_316 : decode code 316 = .ok (.lcmp, 1) := by decide +kernel
theorem kd_W_law_317 : decode code 317 = .ok (.ifCond .eq 575, 3) := by decide +kernel
theorem kd_W_law_320 : decode code 320 = .ok (.iconst 0, 1) := by decide +kernel
theorem kd_W_law_321 : decode code 321 = .ok (.ireturn, 1) := by decide +kernel
theorem kd_W_law_322 : decode code 322 = .ok (.aload_n 1, 1) := by decide +kernel
theorem kd_W_law_323 : decode code 323 = .ok (.invokevirtual 53, 3) := by decide +kernel
theorem kd_W_law_326 : decode code 326 = .ok (.aload_n 2, 1) := by decide +kernel
theorem kd_W_law_327 : decode code 327 = .ok (.invokevirtual 56, 3) := by decide +kernel
theorem kd_W_law_330 : decode code 330 = .ok (.lcmp, 1) := by decide +kernel
theorem kd_W_law_331 : decode code 331 = .ok (.ifCond .eq 561, 3) := by decide +kernel
theorem kd_W_law_334 : decode code 334 = .ok (.iconst 0, 1) := by decide +kernel
theorem kd_W_law_335 : decode code 335 = .ok (.ireturn, 1) := by decide +kernel
theorem kd_W_law_336 : decode code 336 = .ok (.aload_n 1, 1) := by decide +kernel
theorem kd_W_law_337 : decode code 337 = .ok (.aload_n 0, 1) := by decide +kernel
theorem kd_W_law_338 : decode code 338 = .ok (.iload 4, 2) := by decide +kernel
theorem kd_W_law_340 : decode code 340 = .ok (.iconst 1, 1) := by decide +kernel
theorem kd_W_law_341 : decode code 341 = .ok (.iadd, 1) := by decide +kernel
theorem kd_W_law_342 : decode code 342 = .ok (.iaload, 1) := by decide +kernel
theorem kd_W_law_343 : decode code 343 = .ok (.aload_n 0, 1) := by decide +kernel
theorem kd_W_law_344 : decode code 344 = .ok (.iload 4, 2) := by decide +kernel
theorem kd_W_law_346 : decode code 346 = .ok (.iconst 2, 1) := by decide +kernel
theorem kd_W_law_347 : decode code 347 = .ok (.iadd, 1) := by decide +kernel
theorem kd_W_law_348 : decode code 348 = .ok (.iaload, 1) := by decide +kernel
theorem kd_W_law_349 : decode code 349 = .ok (.invokevirtual 57, 3) := by decide +kernel
theorem kd_W_law_352 : decode code 352 = .ok (.aload_n 2, 1) := by decide +kernel
theorem kd_W_law_353 : decode code 353 = .ok (.aload_n 0, 1) := by decide +kernel
theorem kd_W_law_354 : decode code 354 = .ok (.iload 4, 2) := by decide +kernel
theorem kd_W_law_356 : decode code 356 = .ok (.iconst 1, 1) := by decide +kernel
theorem kd_W_law_357 : decode code 357 = .ok (.iadd, 1) := by decide +kernel
theorem kd_W_law_358 : decode code 358 = .ok (.iaload, 1) := by decide +kernel
theorem kd_W_law_359 : decode code 359 = .ok (.aload_n 0, 1) := by decide +kernel
theorem kd_W_law_360 : decode code 360 = .ok (.iload 4, 2) := by decide +kernel
theorem kd_W_law_362 : decode code 362 = .ok (.iconst 2, 1) := by decide +kernel
theorem kd_W_law_363 : decode code 363 = .ok (.iadd, 1) := by decide +kernel
theorem kd_W_law_364 : decode code 364 = .ok (.iaload, 1) := by decide +kernel
theorem kd_W_law_365 : decode code 365 = .ok (.invokevirtual 61, 3) := by decide +kernel
theorem kd_W_law_368 : decode code 368 = .ok (.lcmp, 1) := by decide +kernel
theorem kd_W_law_369 : decode code 369 = .ok (.ifCond .eq 523, 3) := by decide +kernel
theorem kd_W_law_372 : decode code 372 = .ok (.iconst 0, 1) := by decide +kernel
theorem kd_W_law_373 : decode code 373 = .ok (.ireturn, 1) := by decide +kernel
theorem kd_W_law_374 : decode code 374 = .ok (.aload_n 1, 1) := by decide +kernel
theorem kd_W_law_375 : decode code 375 = .ok (.aload_n 0, 1) := by decide +kernel
theorem kd_W_law_376 : decode code 376 = .ok (.iload 4, 2) := by decide +kernel
theorem kd_W_law_378 : decode code 378 = .ok (.iconst 1, 1) := by decide +kernel
theorem kd_W_law_379 : decode code 379 = .ok (.iadd, 1) := by decide +kernel
theorem kd_W_law_380 : decode code 380 = .ok (.iaload, 1) := by decide +kernel
theorem kd_W_law_381 : decode code 381 = .ok (.aload_n 0, 1) := by decide +kernel
theorem kd_W_law_382 : decode code 382 = .ok (.iload 4, 2) := by decide +kernel
theorem kd_W_law_384 : decode code 384 = .ok (.iconst 2, 1) := by decide +kernel
theorem kd_W_law_385 : decode code 385 = .ok (.iadd, 1) := by decide +kernel
theorem kd_W_law_386 : decode code 386 = .ok (.iaload, 1) := by decide +kernel
theorem kd_W_law_387 : decode code 387 = .ok (.aload_n 0, 1) := by decide +kernel
theorem kd_W_law_388 : decode code 388 = .ok (.iload 4, 2) := by decide +kernel
theorem kd_W_law_390 : decode code 390 = .ok (.iconst 3, 1) := by decide +kernel
theorem kd_W_law_391 : decode code 391 = .ok (.iadd, 1) := by decide +kernel
theorem kd_W_law_392 : decode code 392 = .ok (.iaload, 1) := by decide +kernel
theorem kd_W_law_393 : decode code 393 = .ok (.invokevirtual 62, 3) := by decide +kernel
theorem kd_W_law_396 : decode code 396 = .ok (.aload_n 2, 1) := by decide +kernel
theorem kd_W_law_397 : decode code 397 = .ok (.aload_n 0, 1) := by decide +kernel
theorem kd_W_law_398 : decode code 398 = .ok (.iload 4, 2) := by decide +kernel
theorem kd_W_law_400 : decode code 400 = .ok (.iconst 1, 1) := by decide +kernel
theorem kd_W_law_401 : decode code 401 = .ok (.iadd, 1) := by decide +kernel
theorem kd_W_law_402 : decode code 402 = .ok (.iaload, 1) := by decide +kernel
theorem kd_W_law_403 : decode code 403 = .ok (.aload_n 0, 1) := by decide +kernel
theorem kd_W_law_404 : decode code 404 = .ok (.iload 4, 2) := by decide +kernel
theorem kd_W_law_406 : decode code 406 = .ok (.iconst 2, 1) := by decide +kernel
theorem kd_W_law_407 : decode code 407 = .ok (.iadd, 1) := by decide +kernel
theorem kd_W_law_408 : decode code 408 = .ok (.iaload, 1) := by decide +kernel
theorem kd_W_law_409 : decode code 409 = .ok (.aload_n 0, 1) := by decide +kernel
theorem kd_W_law_410 : decode code 410 = .ok (.iload 4, 2) := by decide +kernel
theorem kd_W_law_412 : decode code 412 = .ok (.iconst 3, 1) := by decide +kernel
theorem kd_W_law_413 : decode code 413 = .ok (.iadd, 1) := by decide +kernel
theorem kd_W_law_414 : decode code 414 = .ok (.iaload, 1) := by decide +kernel
theorem kd_W_law_415 : decode code 415 = .ok (.invokevirtual 66, 3) := by decide +kernel
theorem kd_W_law_418 : decode code 418 = .ok (.lcmp, 1) := by decide +kernel
theorem kd_W_law_419 : decode code 419 = .ok (.ifCond .eq 473, 3) := by decide +kernel
theorem kd_W_law_422 : decode code 422 = .ok (.iconst 0, 1) := by decide +kernel
theorem kd_W_law_423 : decode code 423 = .ok (.ireturn, 1) := by decide +kernel
theorem kd_W_law_424 : decode code 424 = .ok (.aload_n 1, 1) := by decide +kernel
theorem kd_W_law_425 : decode code 425 = .ok (.invokevirtual 67, 3) := by decide +kernel
theorem kd_W_law_428 : decode code 428 = .ok (.aload_n 2, 1) := by decide +kernel
theorem kd_W_law_429 : decode code 429 = .ok (.invokevirtual 70, 3) := by decide +kernel
theorem kd_W_law_432 : decode code 432 = .ok (.lcmp, 1) := by decide +kernel
theorem kd_W_law_433 : decode code 433 = .ok (.ifCond .eq 459, 3) := by decide +kernel
theorem kd_W_law_436 : decode code 436 = .ok (.iconst 0, 1) := by decide +kernel
theorem kd_W_law_437 : decode code 437 = .ok (.ireturn, 1) := by decide +kernel
theorem kd_W_law_438 : decode code 438 = .ok (.aload_n 1, 1) := by decide +kernel
theorem kd_W_law_439 : decode code 439 = .ok (.aload_n 0, 1) := by decide +kernel
theorem kd_W_law_440 : decode code 440 = .ok (.iload 4, 2) := by decide +kernel
theorem kd_W_law_442 : decode code 442 = .ok (.iconst 1, 1) := by decide +kernel
theorem kd_W_law_443 : decode code 443 = .ok (.iadd, 1) := by decide +kernel
theorem kd_W_law_444 : decode code 444 = .ok (.iaload, 1) := by decide +kernel
theorem kd_W_law_445 : decode code 445 = .ok (.i2l, 1) := by decide +kernel
theorem kd_W_law_446 : decode code 446 = .ok (.bipush 32, 2) := by decide +kernel
theorem kd_W_law_448 : decode code 448 = .ok (.lshl, 1) := by decide +kernel
theorem kd_W_law_449 : decode code 449 = .ok (.aload_n 0, 1) := by decide +kernel
theorem kd_W_law_450 : decode code 450 = .ok (.iload 4, 2) := by decide +kernel
theorem kd_W_law_452 : decode code 452 = .ok (.iconst 2, 1) := by decide +kernel
theorem kd_W_law_453 : decode code 453 = .ok (.iadd, 1) := by decide +kernel
theorem kd_W_law_454 : decode code 454 = .ok (.iaload, 1) := by decide +kernel
theorem kd_W_law_455 : decode code 455 = .ok (.i2l, 1) := by decide +kernel
theorem kd_W_law_456 : decode code 456 = .ok (.ldc2_w 71, 3) := by decide +kernel
theorem kd_W_law_459 : decode code 459 = .ok (.land, 1) := by decide +kernel
theorem kd_W_law_460 : decode code 460 = .ok (.lor, 1) := by decide +kernel
theorem kd_W_law_461 : decode code 461 = .ok (.invokevirtual 73, 3) := by decide +kernel
theorem kd_W_law_464 : decode code 464 = .ok (.aload_n 2, 1) := by decide +kernel
theorem kd_W_law_465 : decode code 465 = .ok (.aload_n 0, 1) := by decide +kernel
theorem kd_W_law_466 : decode code 466 = .ok (.iload 4, 2) := by decide +kernel
theorem kd_W_law_468 : decode code 468 = .ok (.iconst 1, 1) := by decide +kernel
theorem kd_W_law_469 : decode code 469 = .ok (.iadd, 1) := by decide +kernel
theorem kd_W_law_470 : decode code 470 = .ok (.iaload, 1) := by decide +kernel
theorem kd_W_law_471 : decode code 471 = .ok (.i2l, 1) := by decide +kernel
theorem kd_W_law_472 : decode code 472 = .ok (.bipush 32, 2) := by decide +kernel
theorem kd_W_law_474 : decode code 474 = .ok (.lshl, 1) := by decide +kernel
theorem kd_W_law_475 : decode code 475 = .ok (.aload_n 0, 1) := by decide +kernel
theorem kd_W_law_476 : decode code 476 = .ok (.iload 4, 2) := by decide +kernel
theorem kd_W_law_478 : decode code 478 = .ok (.iconst 2, 1) := by decide +kernel
theorem kd_W_law_479 : decode code 479 = .ok (.iadd, 1) := by decide +kernel
theorem kd_W_law_480 : decode code 480 = .ok (.iaload, 1) := by decide +kernel
theorem kd_W_law_481 : decode code 481 = .ok (.i2l, 1) := by decide +kernel
theorem kd_W_law_482 : decode code 482 = .ok (.ldc2_w 71, 3) := by decide +kernel
theorem kd_W_law_485 : decode code 485 = .ok (.land, 1) := by decide +kernel
theorem kd_W_law_486 : decode code 486 = .ok (.lor, 1) := by decide +kernel
theorem kd_W_law_487 : decode code 487 = .ok (.invokevirtual 77, 3) := by decide +kernel
theorem kd_W_law_490 : decode code 490 = .ok (.if_icmp .eq 402, 3) := by decide +kernel
theorem kd_W_law_493 : decode code 493 = .ok (.iconst 0, 1) := by decide +kernel
theorem kd_W_law_494 : decode code 494 = .ok (.ireturn, 1) := by decide +kernel
theorem kd_W_law_495 : decode code 495 = .ok (.aload_n 1, 1) := by decide +kernel
theorem kd_W_law_496 : decode code 496 = .ok (.aload_n 0, 1) := by decide +kernel
theorem kd_W_law_497 : decode code 497 = .ok (.iload 4, 2) := by decide +kernel
theorem kd_W_law_499 : decode code 499 = .ok (.iconst 1, 1) := by decide +kernel
theorem kd_W_law_500 : decode code 500 = .ok (.iadd, 1) := by decide +kernel
theorem kd_W_law_501 : decode code 501 = .ok (.iaload, 1) := by decide +kernel
theorem kd_W_law_502 : decode code 502 = .ok (.invokevirtual 78, 3) := by decide +kernel
theorem kd_W_law_505 : decode code 505 = .ok (.aload_n 2, 1) := by decide +kernel
theorem kd_W_law_506 : decode code 506 = .ok (.aload_n 0, 1) := by decide +kernel
theorem kd_W_law_507 : decode code 507 = .ok (.iload 4, 2) := by decide +kernel
theorem kd_W_law_509 : decode code 509 = .ok (.iconst 1, 1) := by decide +kernel
theorem kd_W_law_510 : decode code 510 = .ok (.iadd, 1) := by decide +kernel
theorem kd_W_law_511 : decode code 511 = .ok (.iaload, 1) := by decide +kernel
theorem kd_W_law_512 : decode code 512 = .ok (.invokevirtual 81, 3) := by decide +kernel
theorem kd_W_law_515 : decode code 515 = .ok (.lcmp, 1) := by decide +kernel
theorem kd_W_law_516 : decode code 516 = .ok (.ifCond .eq 376, 3) := by decide +kernel
theorem kd_W_law_519 : decode code 519 = .ok (.iconst 0, 1) := by decide +kernel
theorem kd_W_law_520 : decode code 520 = .ok (.ireturn, 1) := by decide +kernel
theorem kd_W_law_521 : decode code 521 = .ok (.aload_n 1, 1) := by decide +kernel
theorem kd_W_law_522 : decode code 522 = .ok (.aload_n 0, 1) := by decide +kernel
theorem kd_W_law_523 : decode code 523 = .ok (.iload 4, 2) := by decide +kernel
theorem kd_W_law_525 : decode code 525 = .ok (.iconst 1, 1) := by decide +kernel
theorem kd_W_law_526 : decode code 526 = .ok (.iadd, 1) := by decide +kernel
theorem kd_W_law_527 : decode code 527 = .ok (.iaload, 1) := by decide +kernel
theorem kd_W_law_528 : decode code 528 = .ok (.aload_n 0, 1) := by decide +kernel
theorem kd_W_law_529 : decode code 529 = .ok (.iload 4, 2) := by decide +kernel
theorem kd_W_law_531 : decode code 531 = .ok (.iconst 2, 1) := by decide +kernel
theorem kd_W_law_532 : decode code 532 = .ok (.iadd, 1) := by decide +kernel
theorem kd_W_law_533 : decode code 533 = .ok (.iaload, 1) := by decide +kernel
theorem kd_W_law_534 : decode code 534 = .ok (.invokevirtual 82, 3) := by decide +kernel
theorem kd_W_law_537 : decode code 537 = .ok (.aload_n 2, 1) := by decide +kernel
theorem kd_W_law_538 : decode code 538 = .ok (.aload_n 0, 1) := by decide +kernel
theorem kd_W_law_539 : decode code 539 = .ok (.iload 4, 2) := by decide +kernel
theorem kd_W_law_541 : decode code 541 = .ok (.iconst 1, 1) := by decide +kernel
theorem kd_W_law_542 : decode code 542 = .ok (.iadd, 1) := by decide +kernel
theorem kd_W_law_543 : decode code 543 = .ok (.iaload, 1) := by decide +kernel
theorem kd_W_law_544 : decode code 544 = .ok (.aload_n 0, 1) := by decide +kernel
theorem kd_W_law_545 : decode code 545 = .ok (.iload 4, 2) := by decide +kernel
theorem kd_W_law_547 : decode code 547 = .ok (.iconst 2, 1) := by decide +kernel
theorem kd_W_law_548 : decode code 548 = .ok (.iadd, 1) := by decide +kernel
theorem kd_W_law_549 : decode code 549 = .ok (.iaload, 1) := by decide +kernel
theorem kd_W_law_550 : decode code 550 = .ok (.invokevirtual 85, 3) := by decide +kernel
theorem kd_W_law_553 : decode code 553 = .ok (.if_icmp .eq 339, 3) := by decide +kernel
theorem kd_W_law_556 : decode code 556 = .ok (.iconst 0, 1) := by decide +kernel
theorem kd_W_law_557 : decode code 557 = .ok (.ireturn, 1) := by decide +kernel
theorem kd_W_law_558 : decode code 558 = .ok (.aload_n 1, 1) := by decide +kernel
theorem kd_W_law_559 : decode code 559 = .ok (.aload_n 0, 1) := by decide +kernel
theorem kd_W_law_560 : decode code 560 = .ok (.iload 4, 2) := by decide +kernel
theorem kd_W_law_562 : decode code 562 = .ok (.iconst 1, 1) := by decide +kernel
theorem kd_W_law_563 : decode code 563 = .ok (.iadd, 1) := by decide +kernel
theorem kd_W_law_564 : decode code 564 = .ok (.iaload, 1) := by decide +kernel
theorem kd_W_law_565 : decode code 565 = .ok (.invokevirtual 86, 3) := by decide +kernel
theorem kd_W_law_568 : decode code 568 = .ok (.aload_n 2, 1) := by decide +kernel
theorem kd_W_law_569 : decode code 569 = .ok (.aload_n 0, 1) := by decide +kernel
theorem kd_W_law_570 : decode code 570 = .ok (.iload 4, 2) := by decide +kernel
theorem kd_W_law_572 : decode code 572 = .ok (.iconst 1, 1) := by decide +kernel
theorem kd_W_law_573 : decode code 573 = .ok (.iadd, 1) := by decide +kernel
theorem kd_W_law_574 : decode code 574 = .ok (.iaload, 1) := by decide +kernel
theorem kd_W_law_575 : decode code 575 = .ok (.invokevirtual 89, 3) := by decide +kernel
theorem kd_W_law_578 : decode code 578 = .ok (.lcmp, 1) := by decide +kernel
theorem kd_W_law_579 : decode code 579 = .ok (.ifCond .eq 313, 3) := by decide +kernel
theorem kd_W_law_582 : decode code 582 = .ok (.iconst 0, 1) := by decide +kernel
theorem kd_W_law_583 : decode code 583 = .ok (.ireturn, 1) := by decide +kernel
theorem kd_W_law_584 : decode code 584 = .ok (.aload_n 1, 1) := by decide +kernel
theorem kd_W_law_585 : decode code 585 = .ok (.aload_n 0, 1) := by decide +kernel
theorem kd_W_law_586 : decode code 586 = .ok (.iload 4, 2) := by decide +kernel
theorem kd_W_law_588 : decode code 588 = .ok (.iconst 1, 1) := by decide +kernel
theorem kd_W_law_589 : decode code 589 = .ok (.iadd, 1) := by decide +kernel
theorem kd_W_law_590 : decode code 590 = .ok (.iaload, 1) := by decide +kernel
theorem kd_W_law_591 : decode code 591 = .ok (.aload_n 0, 1) := by decide +kernel
theorem kd_W_law_592 : decode code 592 = .ok (.iload 4, 2) := by decide +kernel
theorem kd_W_law_594 : decode code 594 = .ok (.iconst 2, 1) := by decide +kernel
theorem kd_W_law_595 : decode code 595 = .ok (.iadd, 1) := by decide +kernel
theorem kd_W_law_596 : decode code 596 = .ok (.iaload, 1) := by decide +kernel
theorem kd_W_law_597 : decode code 597 = .ok (.invokevirtual 90, 3) := by decide +kernel
theorem kd_W_law_600 : decode code 600 = .ok (.aload_n 2, 1) := by decide +kernel
theorem kd_W_law_601 : decode code 601 = .ok (.aload_n 0, 1) := by decide +kernel
theorem kd_W_law_602 : decode code 602 = .ok (.iload 4, 2) := by decide +kernel
theorem kd_W_law_604 : decode code 604 = .ok (.iconst 1, 1) := by decide +kernel
theorem kd_W_law_605 : decode code 605 = .ok (.iadd, 1) := by decide +kernel
theorem kd_W_law_606 : decode code 606 = .ok (.iaload, 1) := by decide +kernel
theorem kd_W_law_607 : decode code 607 = .ok (.aload_n 0, 1) := by decide +kernel
theorem kd_W_law_608 : decode code 608 = .ok (.iload 4, 2) := by decide +kernel
theorem kd_W_law_610 : decode code 610 = .ok (.iconst 2, 1) := by decide +kernel
theorem kd_W_law_611 : decode code 611 = .ok (.iadd, 1) := by decide +kernel
theorem kd_W_law_612 : decode code 612 = .ok (.iaload, 1) := by decide +kernel
theorem kd_W_law_613 : decode code 613 = .ok (.invokevirtual 93, 3) := by decide +kernel
theorem kd_W_law_616 : decode code 616 = .ok (.lcmp, 1) := by decide +kernel
theorem kd_W_law_617 : decode code 617 = .ok (.ifCond .eq 275, 3) := by decide +kernel
theorem kd_W_law_620 : decode code 620 = .ok (.iconst 0, 1) := by decide +kernel
theorem kd_W_law_621 : decode code 621 = .ok (.ireturn, 1) := by decide +kernel
theorem kd_W_law_622 : decode code 622 = .ok (.aload_n 1, 1) := by decide +kernel
theorem kd_W_law_623 : decode code 623 = .ok (.aload_n 0, 1) := by decide +kernel
theorem kd_W_law_624 : decode code 624 = .ok (.iload 4, 2) := by decide +kernel
theorem kd_W_law_626 : decode code 626 = .ok (.iconst 1, 1) := by decide +kernel
theorem kd_W_law_627 : decode code 627 = .ok (.iadd, 1) := by decide +kernel
theorem kd_W_law_628 : decode code 628 = .ok (.iaload, 1) := by decide +kernel
theorem kd_W_law_629 : decode code 629 = .ok (.invokevirtual 94, 3) := by decide +kernel
theorem kd_W_law_632 : decode code 632 = .ok (.aload_n 2, 1) := by decide +kernel
theorem kd_W_law_633 : decode code 633 = .ok (.aload_n 0, 1) := by decide +kernel
theorem kd_W_law_634 : decode code 634 = .ok (.iload 4, 2) := by decide +kernel
theorem kd_W_law_636 : decode code 636 = .ok (.iconst 1, 1) := by decide +kernel
theorem kd_W_law_637 : decode code 637 = .ok (.iadd, 1) := by decide +kernel
theorem kd_W_law_638 : decode code 638 = .ok (.iaload, 1) := by decide +kernel
theorem kd_W_law_639 : decode code 639 = .ok (.invokevirtual 97, 3) := by decide +kernel
theorem kd_W_law_642 : decode code 642 = .ok (.lcmp, 1) := by decide +kernel
theorem kd_W_law_643 : decode code 643 = .ok (.ifCond .eq 249, 3) := by decide +kernel
theorem kd_W_law_646 : decode code 646 = .ok (.iconst 0, 1) := by decide +kernel
theorem kd_W_law_647 : decode code 647 = .ok (.ireturn, 1) := by decide +kernel
theorem kd_W_law_648 : decode code 648 = .ok (.aload_n 1, 1) := by decide +kernel
theorem kd_W_law_649 : decode code 649 = .ok (.aload_n 0, 1) := by decide +kernel
theorem kd_W_law_650 : decode code 650 = .ok (.iload 4, 2) := by decide +kernel
theorem kd_W_law_652 : decode code 652 = .ok (.iconst 1, 1) := by decide +kernel
theorem kd_W_law_653 : decode code 653 = .ok (.iadd, 1) := by decide +kernel
theorem kd_W_law_654 : decode code 654 = .ok (.iaload, 1) := by decide +kernel
theorem kd_W_law_655 : decode code 655 = .ok (.invokevirtual 98, 3) := by decide +kernel
theorem kd_W_law_658 : decode code 658 = .ok (.aload_n 2, 1) := by decide +kernel
theorem kd_W_law_659 : decode code 659 = .ok (.aload_n 0, 1) := by decide +kernel
theorem kd_W_law_660 : decode code 660 = .ok (.iload 4, 2) := by decide +kernel
theorem kd_W_law_662 : decode code 662 = .ok (.iconst 1, 1) := by decide +kernel
theorem kd_W_law_663 : decode code 663 = .ok (.iadd, 1) := by decide +kernel
theorem kd_W_law_664 : decode code 664 = .ok (.iaload, 1) := by decide +kernel
theorem kd_W_law_665 : decode code 665 = .ok (.invokevirtual 101, 3) := by decide +kernel
theorem kd_W_law_668 : decode code 668 = .ok (.lcmp, 1) := by decide +kernel
theorem kd_W_law_669 : decode code 669 = .ok (.ifCond .eq 223, 3) := by decide +kernel
theorem kd_W_law_672 : decode code 672 = .ok (.iconst 0, 1) := by decide +kernel
theorem kd_W_law_673 : decode code 673 = .ok (.ireturn, 1) := by decide +kernel
theorem kd_W_law_674 : decode code 674 = .ok (.aload_n 1, 1) := by decide +kernel
theorem kd_W_law_675 : decode code 675 = .ok (.aload_n 0, 1) := by decide +kernel
theorem kd_W_law_676 : decode code 676 = .ok (.iload 4, 2) := by decide +kernel
theorem kd_W_law_678 : decode code 678 = .ok (.iconst 1, 1) := by decide +kernel
theorem kd_W_law_679 : decode code 679 = .ok (.iadd, 1) := by decide +kernel
theorem kd_W_law_680 : decode code 680 = .ok (.iaload, 1) := by decide +kernel
theorem kd_W_law_681 : decode code 681 = .ok (.invokevirtual 102, 3) := by decide +kernel
theorem kd_W_law_684 : decode code 684 = .ok (.aload_n 2, 1) := by decide +kernel
theorem kd_W_law_685 : decode code 685 = .ok (.aload_n 0, 1) := by decide +kernel
theorem kd_W_law_686 : decode code 686 = .ok (.iload 4, 2) := by decide +kernel
theorem kd_W_law_688 : decode code 688 = .ok (.iconst 1, 1) := by decide +kernel
theorem kd_W_law_689 : decode code 689 = .ok (.iadd, 1) := by decide +kernel
theorem kd_W_law_690 : decode code 690 = .ok (.iaload, 1) := by decide +kernel
theorem kd_W_law_691 : decode code 691 = .ok (.invokevirtual 105, 3) := by decide +kernel
theorem kd_W_law_694 : decode code 694 = .ok (.lcmp, 1) := by decide +kernel
theorem kd_W_law_695 : decode code 695 = .ok (.ifCond .eq 197, 3) := by decide +kernel
theorem kd_W_law_698 : decode code 698 = .ok (.iconst 0, 1) := by decide +kernel
theorem kd_W_law_699 : decode code 699 = .ok (.ireturn, 1) := by decide +kernel
theorem kd_W_law_700 : decode code 700 = .ok (.aload_n 1, 1) := by decide +kernel
theorem kd_W_law_701 : decode code 701 = .ok (.aload_n 0, 1) := by decide +kernel
theorem kd_W_law_702 : decode code 702 = .ok (.iload 4, 2) := by decide +kernel
theorem kd_W_law_704 : decode code 704 = .ok (.iconst 1, 1) := by decide +kernel
theorem kd_W_law_705 : decode code 705 = .ok (.iadd, 1) := by decide +kernel
theorem kd_W_law_706 : decode code 706 = .ok (.iaload, 1) := by decide +kernel
theorem kd_W_law_707 : decode code 707 = .ok (.invokevirtual 106, 3) := by decide +kernel
theorem kd_W_law_710 : decode code 710 = .ok (.aload_n 2, 1) := by decide +kernel
theorem kd_W_law_711 : decode code 711 = .ok (.aload_n 0, 1) := by decide +kernel
theorem kd_W_law_712 : decode code 712 = .ok (.iload 4, 2) := by decide +kernel
theorem kd_W_law_714 : decode code 714 = .ok (.iconst 1, 1) := by decide +kernel
theorem kd_W_law_715 : decode code 715 = .ok (.iadd, 1) := by decide +kernel
theorem kd_W_law_716 : decode code 716 = .ok (.iaload, 1) := by decide +kernel
theorem kd_W_law_717 : decode code 717 = .ok (.invokevirtual 110, 3) := by decide +kernel
theorem kd_W_law_720 : decode code 720 = .ok (.if_icmp .eq 172, 3) := by decide +kernel
theorem kd_W_law_723 : decode code 723 = .ok (.iconst 0, 1) := by decide +kernel
theorem kd_W_law_724 : decode code 724 = .ok (.ireturn, 1) := by decide +kernel
theorem kd_W_law_725 : decode code 725 = .ok (.aload_n 1, 1) := by decide +kernel
theorem kd_W_law_726 : decode code 726 = .ok (.aload_n 0, 1) := by decide +kernel
theorem kd_W_law_727 : decode code 727 = .ok (.iload 4, 2) := by decide +kernel
theorem kd_W_law_729 : decode code 729 = .ok (.iconst 1, 1) := by decide +kernel
theorem kd_W_law_730 : decode code 730 = .ok (.iadd, 1) := by decide +kernel
theorem kd_W_law_731 : decode code 731 = .ok (.iaload, 1) := by decide +kernel
theorem kd_W_law_732 : decode code 732 = .ok (.i2l, 1) := by decide +kernel
theorem kd_W_law_733 : decode code 733 = .ok (.bipush 32, 2) := by decide +kernel
theorem kd_W_law_735 : decode code 735 = .ok (.lshl, 1) := by decide +kernel
theorem kd_W_law_736 : decode code 736 = .ok (.aload_n 0, 1) := by decide +kernel
theorem kd_W_law_737 : decode code 737 = .ok (.iload 4, 2) := by decide +kernel
theorem kd_W_law_739 : decode code 739 = .ok (.iconst 2, 1) := by decide +kernel
theorem kd_W_law_740 : decode code 740 = .ok (.iadd, 1) := by decide +kernel
theorem kd_W_law_741 : decode code 741 = .ok (.iaload, 1) := by decide +kernel
theorem kd_W_law_742 : decode code 742 = .ok (.i2l, 1) := by decide +kernel
theorem kd_W_law_743 : decode code 743 = .ok (.ldc2_w 71, 3) := by decide +kernel
theorem kd_W_law_746 : decode code 746 = .ok (.land, 1) := by decide +kernel
theorem kd_W_law_747 : decode code 747 = .ok (.lor, 1) := by decide +kernel
theorem kd_W_law_748 : decode code 748 = .ok (.aload_n 0, 1) := by decide +kernel
theorem kd_W_law_749 : decode code 749 = .ok (.iload 4, 2) := by decide +kernel
theorem kd_W_law_751 : decode code 751 = .ok (.iconst 3, 1) := by decide +kernel
theorem kd_W_law_752 : decode code 752 = .ok (.iadd, 1) := by decide +kernel
theorem kd_W_law_753 : decode code 753 = .ok (.iaload, 1) := by decide +kernel
theorem kd_W_law_754 : decode code 754 = .ok (.i2l, 1) := by decide +kernel
theorem kd_W_law_755 : decode code 755 = .ok (.bipush 32, 2) := by decide +kernel
theorem kd_W_law_757 : decode code 757 = .ok (.lshl, 1) := by decide +kernel
theorem kd_W_law_758 : decode code 758 = .ok (.aload_n 0, 1) := by decide +kernel
theorem kd_W_law_759 : decode code 759 = .ok (.iload 4, 2) := by decide +kernel
theorem kd_W_law_761 : decode code 761 = .ok (.iconst 4, 1) := by decide +kernel
theorem kd_W_law_762 : decode code 762 = .ok (.iadd, 1) := by decide +kernel
theorem kd_W_law_763 : decode code 763 = .ok (.iaload, 1) := by decide +kernel
theorem kd_W_law_764 : decode code 764 = .ok (.i2l, 1) := by decide +kernel
theorem kd_W_law_765 : decode code 765 = .ok (.ldc2_w 71, 3) := by decide +kernel
theorem kd_W_law_768 : decode code 768 = .ok (.land, 1) := by decide +kernel
theorem kd_W_law_769 : decode code 769 = .ok (.lor, 1) := by decide +kernel
theorem kd_W_law_770 : decode code 770 = .ok (.aload_n 3, 1) := by decide +kernel
theorem kd_W_law_771 : decode code 771 = .ok (.invokestatic 111, 3) := by decide +kernel
theorem kd_W_law_774 : decode code 774 = .ok (.istore 5, 2) := by decide +kernel
theorem kd_W_law_776 : decode code 776 = .ok (.aload_n 2, 1) := by decide +kernel
theorem kd_W_law_777 : decode code 777 = .ok (.aload_n 0, 1) := by decide +kernel
theorem kd_W_law_778 : decode code 778 = .ok (.iload 4, 2) := by decide +kernel
theorem kd_W_law_780 : decode code 780 = .ok (.iconst 1, 1) := by decide +kernel
theorem kd_W_law_781 : decode code 781 = .ok (.iadd, 1) := by decide +kernel
theorem kd_W_law_782 : decode code 782 = .ok (.iaload, 1) := by decide +kernel
theorem kd_W_law_783 : decode code 783 = .ok (.i2l, 1) := by decide +kernel
theorem kd_W_law_784 : decode code 784 = .ok (.bipush 32, 2) := by decide +kernel
theorem kd_W_law_786 : decode code 786 = .ok (.lshl, 1) := by decide +kernel
theorem kd_W_law_787 : decode code 787 = .ok (.aload_n 0, 1) := by decide +kernel
theorem kd_W_law_788 : decode code 788 = .ok (.iload 4, 2) := by decide +kernel
theorem kd_W_law_790 : decode code 790 = .ok (.iconst 2, 1) := by decide +kernel
theorem kd_W_law_791 : decode code 791 = .ok (.iadd, 1) := by decide +kernel
theorem kd_W_law_792 : decode code 792 = .ok (.iaload, 1) := by decide +kernel
theorem kd_W_law_793 : decode code 793 = .ok (.i2l, 1) := by decide +kernel
theorem kd_W_law_794 : decode code 794 = .ok (.ldc2_w 71, 3) := by decide +kernel
theorem kd_W_law_797 : decode code 797 = .ok (.land, 1) := by decide +kernel
theorem kd_W_law_798 : decode code 798 = .ok (.lor, 1) := by decide +kernel
theorem kd_W_law_799 : decode code 799 = .ok (.aload_n 0, 1) := by decide +kernel
theorem kd_W_law_800 : decode code 800 = .ok (.iload 4, 2) := by decide +kernel
theorem kd_W_law_802 : decode code 802 = .ok (.iconst 3, 1) := by decide +kernel
theorem kd_W_law_803 : decode code 803 = .ok (.iadd, 1) := by decide +kernel
theorem kd_W_law_804 : decode code 804 = .ok (.iaload, 1) := by decide +kernel
theorem kd_W_law_805 : decode code 805 = .ok (.i2l, 1) := by decide +kernel
theorem kd_W_law_806 : decode code 806 = .ok (.bipush 32, 2) := by decide +kernel
theorem kd_W_law_808 : decode code 808 = .ok (.lshl, 1) := by decide +kernel
theorem kd_W_law_809 : decode code 809 = .ok (.aload_n 0, 1) := by decide +kernel
theorem kd_W_law_810 : decode code 810 = .ok (.iload 4, 2) := by decide +kernel
theorem kd_W_law_812 : decode code 812 = .ok (.iconst 4, 1) := by decide +kernel
theorem kd_W_law_813 : decode code 813 = .ok (.iadd, 1) := by decide +kernel
theorem kd_W_law_814 : decode code 814 = .ok (.iaload, 1) := by decide +kernel
theorem kd_W_law_815 : decode code 815 = .ok (.i2l, 1) := by decide +kernel
theorem kd_W_law_816 : decode code 816 = .ok (.ldc2_w 71, 3) := by decide +kernel
theorem kd_W_law_819 : decode code 819 = .ok (.land, 1) := by decide +kernel
theorem kd_W_law_820 : decode code 820 = .ok (.lor, 1) := by decide +kernel
theorem kd_W_law_821 : decode code 821 = .ok (.invokevirtual 116, 3) := by decide +kernel
theorem kd_W_law_824 : decode code 824 = .ok (.lstore 6, 2) := by decide +kernel
theorem kd_W_law_826 : decode code 826 = .ok (.aload_n 2, 1) := by decide +kernel
theorem kd_W_law_827 : decode code 827 = .ok (.invokevirtual 117, 3) := by decide +kernel
theorem kd_W_law_830 : decode code 830 = .ok (.iload 5, 2) := by decide +kernel
theorem kd_W_law_832 : decode code 832 = .ok (.if_icmp .eq 5, 3) := by decide +kernel
theorem kd_W_law_835 : decode code 835 = .ok (.iconst 0, 1) := by decide +kernel
theorem kd_W_law_836 : decode code 836 = .ok (.ireturn, 1) := by decide +kernel
theorem kd_W_law_837 : decode code 837 = .ok (.iload 5, 2) := by decide +kernel
theorem kd_W_law_839 : decode code 839 = .ok (.ifCond .ne 14, 3) := by decide +kernel
theorem kd_W_law_842 : decode code 842 = .ok (.aload_n 3, 1) := by decide +kernel
theorem kd_W_law_843 : decode code 843 = .ok (.iconst 0, 1) := by decide +kernel
theorem kd_W_law_844 : decode code 844 = .ok (.laload, 1) := by decide +kernel
theorem kd_W_law_845 : decode code 845 = .ok (.lload 6, 2) := by decide +kernel
theorem kd_W_law_847 : decode code 847 = .ok (.lcmp, 1) := by decide +kernel
theorem kd_W_law_848 : decode code 848 = .ok (.ifCond .eq 5, 3) := by decide +kernel
theorem kd_W_law_851 : decode code 851 = .ok (.iconst 0, 1) := by decide +kernel
theorem kd_W_law_852 : decode code 852 = .ok (.ireturn, 1) := by decide +kernel
theorem kd_W_law_853 : decode code 853 = .ok (.goto 39, 3) := by decide +kernel
theorem kd_W_law_856 : decode code 856 = .ok (.aload_n 1, 1) := by decide +kernel
theorem kd_W_law_857 : decode code 857 = .ok (.aload_n 0, 1) := by decide +kernel
theorem kd_W_law_858 : decode code 858 = .ok (.iload 4, 2) := by decide +kernel
theorem kd_W_law_860 : decode code 860 = .ok (.iconst 1, 1) := by decide +kernel
theorem kd_W_law_861 : decode code 861 = .ok (.iadd, 1) := by decide +kernel
theorem kd_W_law_862 : decode code 862 = .ok (.iaload, 1) := by decide +kernel
theorem kd_W_law_863 : decode code 863 = .ok (.invokevirtual 120, 3) := by decide +kernel
theorem kd_W_law_866 : decode code 866 = .ok (.aload_n 2, 1) := by decide +kernel
theorem kd_W_law_867 : decode code 867 = .ok (.aload_n 0, 1) := by decide +kernel
theorem kd_W_law_868 : decode code 868 = .ok (.iload 4, 2) := by decide +kernel
theorem kd_W_law_870 : decode code 870 = .ok (.iconst 1, 1) := by decide +kernel
theorem kd_W_law_871 : decode code 871 = .ok (.iadd, 1) := by decide +kernel
theorem kd_W_law_872 : decode code 872 = .ok (.iaload, 1) := by decide +kernel
theorem kd_W_law_873 : decode code 873 = .ok (.invokevirtual 123, 3) := by decide +kernel
theorem kd_W_law_876 : decode code 876 = .ok (.if_icmp .eq 16, 3) := by decide +kernel
theorem kd_W_law_879 : decode code 879 = .ok (.iconst 0, 1) := by decide +kernel
theorem kd_W_law_880 : decode code 880 = .ok (.ireturn, 1) := by decide +kernel
theorem kd_W_law_881 : decode code 881 = .ok (.aload_n 1, 1) := by decide +kernel
theorem kd_W_law_882 : decode code 882 = .ok (.invokevirtual 124, 3) := by decide +kernel
theorem kd_W_law_885 : decode code 885 = .ok (.aload_n 2, 1) := by decide +kernel
theorem kd_W_law_886 : decode code 886 = .ok (.invokevirtual 127, 3) := by decide +kernel
theorem kd_W_law_889 : decode code 889 = .ok (.goto 3, 3) := by decide +kernel
theorem kd_W_law_892 : decode code 892 = .ok (.iinc 4 5, 3) := by decide +kernel
theorem kd_W_law_895 : decode code 895 = .ok (.goto (-872), 3) := by decide +kernel
theorem kd_W_law_898 : decode code 898 = .ok (.iconst 1, 1) := by decide +kernel
theorem kd_W_law_899 : decode code 899 = .ok (.ireturn, 1) := by decide +kernel
end
section
theorem kd_M_init_0 : decode kb_M_init 0 = .ok (.aload_n 0, 1) := by decide +kernel
theorem kd_M_init_1 : decode kb_M_init 1 = .ok (.invokespecial 1, 3) := by decide +kernel
theorem kd_M_init_4 : decode kb_M_init 4 = .ok (.aload_n 0, 1) := by decide +kernel
theorem kd_M_init_5 : decode kb_M_init 5 = .ok (.bipush 30, 2) := by decide +kernel
theorem kd_M_init_7 : decode kb_M_init 7 = .ok (.newarray .int, 2) := by decide +kernel
theorem kd_M_init_9 : decode kb_M_init 9 = .ok (.putfield 7, 3) := by decide +kernel
theorem kd_M_init_12 : decode kb_M_init 12 = .ok (.aload_n 0, 1) := by decide +kernel
theorem kd_M_init_13 : decode kb_M_init 13 = .ok (.bipush 30, 2) := by decide +kernel
theorem kd_M_init_15 : decode kb_M_init 15 = .ok (.newarray .int, 2) := by decide +kernel
theorem kd_M_init_17 : decode kb_M_init 17 = .ok (.putfield 13, 3) := by decide +kernel
theorem kd_M_init_20 : decode kb_M_init 20 = .ok (.aload_n 0, 1) := by decide +kernel
theorem kd_M_init_21 : decode kb_M_init 21 = .ok (.bipush 30, 2) := by decide +kernel
theorem kd_M_init_23 : decode kb_M_init 23 = .ok (.newarray .int, 2) := by decide +kernel
theorem kd_M_init_25 : decode kb_M_init 25 = .ok (.putfield 16, 3) := by decide +kernel
theorem kd_M_init_28 : decode kb_M_init 28 = .ok (.aload_n 0, 1) := by decide +kernel
theorem kd_M_init_29 : decode kb_M_init 29 = .ok (.bipush 10, 2) := by decide +kernel
theorem kd_M_init_31 : decode kb_M_init 31 = .ok (.newarray .long, 2) := by decide +kernel
theorem kd_M_init_33 : decode kb_M_init 33 = .ok (.putfield 19, 3) := by decide +kernel
theorem kd_M_init_36 : decode kb_M_init 36 = .ok (.aload_n 0, 1) := by decide +kernel
theorem kd_M_init_37 : decode kb_M_init 37 = .ok (.bipush 10, 2) := by decide +kernel
theorem kd_M_init_39 : decode kb_M_init 39 = .ok (.newarray .long, 2) := by decide +kernel
theorem kd_M_init_41 : decode kb_M_init 41 = .ok (.putfield 23, 3) := by decide +kernel
theorem kd_M_init_44 : decode kb_M_init 44 = .ok (.aload_n 0, 1) := by decide +kernel
theorem kd_M_init_45 : decode kb_M_init 45 = .ok (.bipush 100, 2) := by decide +kernel
theorem kd_M_init_47 : decode kb_M_init 47 = .ok (.newarray .long, 2) := by decide +kernel
theorem kd_M_init_49 : decode kb_M_init 49 = .ok (.putfield 26, 3) := by decide +kernel
theorem kd_M_init_52 : decode kb_M_init 52 = .ok (.aload_n 0, 1) := by decide +kernel
theorem kd_M_init_53 : decode kb_M_init 53 = .ok (.bipush 100, 2) := by decide +kernel
theorem kd_M_init_55 : decode kb_M_init 55 = .ok (.newarray .long, 2) := by decide +kernel
theorem kd_M_init_57 : decode kb_M_init 57 = .ok (.putfield 29, 3) := by decide +kernel
theorem kd_M_init_60 : decode kb_M_init 60 = .ok (.aload_n 0, 1) := by decide +kernel
theorem kd_M_init_61 : decode kb_M_init 61 = .ok (.bipush 10, 2) := by decide +kernel
theorem kd_M_init_63 : decode kb_M_init 63 = .ok (.newarray .int, 2) := by decide +kernel
theorem kd_M_init_65 : decode kb_M_init 65 = .ok (.putfield 32, 3) := by decide +kernel
theorem kd_M_init_68 : decode kb_M_init 68 = .ok (.aload_n 0, 1) := by decide +kernel
theorem kd_M_init_69 : decode kb_M_init 69 = .ok (.bipush 30, 2) := by decide +kernel
theorem kd_M_init_71 : decode kb_M_init 71 = .ok (.newarray .boolean, 2) := by decide +kernel
theorem kd_M_init_73 : decode kb_M_init 73 = .ok (.putfield 35, 3) := by decide +kernel
theorem kd_M_init_76 : decode kb_M_init 76 = .ok (.aload_n 0, 1) := by decide +kernel
theorem kd_M_init_77 : decode kb_M_init 77 = .ok (.bipush 10, 2) := by decide +kernel
theorem kd_M_init_79 : decode kb_M_init 79 = .ok (.newarray .int, 2) := by decide +kernel
theorem kd_M_init_81 : decode kb_M_init 81 = .ok (.putfield 39, 3) := by decide +kernel
theorem kd_M_init_84 : decode kb_M_init 84 = .ok (.aload_n 0, 1) := by decide +kernel
theorem kd_M_init_85 : decode kb_M_init 85 = .ok (.bipush 10, 2) := by decide +kernel
theorem kd_M_init_87 : decode kb_M_init 87 = .ok (.newarray .int, 2) := by decide +kernel
theorem kd_M_init_89 : decode kb_M_init 89 = .ok (.putfield 42, 3) := by decide +kernel
theorem kd_M_init_92 : decode kb_M_init 92 = .ok (.aload_n 0, 1) := by decide +kernel
theorem kd_M_init_93 : decode kb_M_init 93 = .ok (.bipush 30, 2) := by decide +kernel
theorem kd_M_init_95 : decode kb_M_init 95 = .ok (.newarray .boolean, 2) := by decide +kernel
theorem kd_M_init_97 : decode kb_M_init 97 = .ok (.putfield 45, 3) := by decide +kernel
theorem kd_M_init_100 : decode kb_M_init 100 = .ok (.aload_n 0, 1) := by decide +kernel
theorem kd_M_init_101 : decode kb_M_init 101 = .ok (.bipush 30, 2) := by decide +kernel
theorem kd_M_init_103 : decode kb_M_init 103 = .ok (.newarray .int, 2) := by decide +kernel
theorem kd_M_init_105 : decode kb_M_init 105 = .ok (.putfield 48, 3) := by decide +kernel
theorem kd_M_init_108 : decode kb_M_init 108 = .ok (.aload_n 0, 1) := by decide +kernel
theorem kd_M_init_109 : decode kb_M_init 109 = .ok (.bipush 10, 2) := by decide +kernel
theorem kd_M_init_111 : decode kb_M_init 111 = .ok (.newarray .int, 2) := by decide +kernel
theorem kd_M_init_113 : decode kb_M_init 113 = .ok (.putfield 51, 3) := by decide +kernel
theorem kd_M_init_116 : decode kb_M_init 116 = .ok (.aload_n 0, 1) := by decide +kernel
theorem kd_M_init_117 : decode kb_M_init 117 = .ok (.bipush 10, 2) := by decide +kernel
theorem kd_M_init_119 : decode kb_M_init 119 = .ok (.newarray .boolean, 2) := by decide +kernel
theorem kd_M_init_121 : decode kb_M_init 121 = .ok (.putfield 54, 3) := by decide +kernel
theorem kd_M_init_124 : decode kb_M_init 124 = .ok (.aload_n 0, 1) := by decide +kernel
theorem kd_M_init_125 : decode kb_M_init 125 = .ok (.bipush 10, 2) := by decide +kernel
theorem kd_M_init_127 : decode kb_M_init 127 = .ok (.newarray .int, 2) := by decide +kernel
theorem kd_M_init_129 : decode kb_M_init 129 = .ok (.putfield 57, 3) := by decide +kernel
theorem kd_M_init_132 : decode kb_M_init 132 = .ok (.aload_n 0, 1) := by decide +kernel
theorem kd_M_init_133 : decode kb_M_init 133 = .ok (.bipush 10, 2) := by decide +kernel
theorem kd_M_init_135 : decode kb_M_init 135 = .ok (.newarray .long, 2) := by decide +kernel
theorem kd_M_init_137 : decode kb_M_init 137 = .ok (.putfield 60, 3) := by decide +kernel
theorem kd_M_init_140 : decode kb_M_init 140 = .ok (.aload_n 0, 1) := by decide +kernel
theorem kd_M_init_141 : decode kb_M_init 141 = .ok (.bipush 10, 2) := by decide +kernel
theorem kd_M_init_143 : decode kb_M_init 143 = .ok (.newarray .long, 2) := by decide +kernel
theorem kd_M_init_145 : decode kb_M_init 145 = .ok (.putfield 63, 3) := by decide +kernel
theorem kd_M_init_148 : decode kb_M_init 148 = .ok (.aload_n 0, 1) := by decide +kernel
theorem kd_M_init_149 : decode kb_M_init 149 = .ok (.bipush 10, 2) := by decide +kernel
theorem kd_M_init_151 : decode kb_M_init 151 = .ok (.newarray .long, 2) := by decide +kernel
theorem kd_M_init_153 : decode kb_M_init 153 = .ok (.putfield 66, 3) := by decide +kernel
theorem kd_M_init_156 : decode kb_M_init 156 = .ok (.aload_n 0, 1) := by decide +kernel
theorem kd_M_init_157 : decode kb_M_init 157 = .ok (.iconst 0, 1) := by decide +kernel
theorem kd_M_init_158 : decode kb_M_init 158 = .ok (.putfield 69, 3) := by decide +kernel
theorem kd_M_init_161 : decode kb_M_init 161 = .ok (.return_, 1) := by decide +kernel
theorem kd_M_thrown_0 : decode kb_M_thrown 0 = .ok (.aload_n 0, 1) := by decide +kernel
theorem kd_M_thrown_1 : decode kb_M_thrown 1 = .ok (.getfield 69, 3) := by decide +kernel
theorem kd_M_thrown_4 : decode kb_M_thrown 4 = .ok (.ireturn, 1) := by decide +kernel
theorem kd_M_isNode_0 : decode kb_M_isNode 0 = .ok (.iload_n 1, 1) := by decide +kernel
theorem kd_M_isNode_1 : decode kb_M_isNode 1 = .ok (.ifCond .lt 15, 3) := by decide +kernel
theorem kd_M_isNode_4 : decode kb_M_isNode 4 = .ok (.iload_n 1, 1) := by decide +kernel
theorem kd_M_isNode_5 : decode kb_M_isNode 5 = .ok (.aload_n 0, 1) := by decide +kernel
theorem kd_M_isNode_6 : decode kb_M_isNode 6 = .ok (.getfield 73, 3) := by decide +kernel
theorem kd_M_isNode_9 : decode kb_M_isNode 9 = .ok (.if_icmp .ge 7, 3) := by decide +kernel
theorem kd_M_isNode_12 : decode kb_M_isNode 12 = .ok (.iconst 1, 1) := by decide +kernel
theorem kd_M_isNode_13 : decode kb_M_isNode 13 = .ok (.goto 4, 3) := by decide +kernel
theorem kd_M_isNode_16 : decode kb_M_isNode 16 = .ok (.iconst 0, 1) := by decide +kernel
theorem kd_M_isNode_17 : decode kb_M_isNode 17 = .ok (.ireturn, 1) := by decide +kernel
theorem kd_M_node_0 : decode kb_M_node 0 = .ok (.aload_n 0, 1) := by decide +kernel
theorem kd_M_node_1 : decode kb_M_node 1 = .ok (.iconst 0, 1) := by decide +kernel
theorem kd_M_node_2 : decode kb_M_node 2 = .ok (.putfield 69, 3) := by decide +kernel
theorem kd_M_node_5 : decode kb_M_node 5 = .ok (.aload_n 0, 1) := by decide +kernel
theorem kd_M_node_6 : decode kb_M_node 6 = .ok (.getfield 73, 3) := by decide +kernel
theorem kd_M_node_9 : decode kb_M_node 9 = .ok (.bipush 10, 2) := by decide +kernel
theorem kd_M_node_11 : decode kb_M_node 11 = .ok (.if_icmp .ne 5, 3) := by decide +kernel
theorem kd_M_node_14 : decode kb_M_node 14 = .ok (.iconst (-1), 1) := by decide +kernel
theorem kd_M_node_15 : decode kb_M_node 15 = .ok (.ireturn, 1) := by decide +kernel
theorem kd_M_node_16 : decode kb_M_node 16 = .ok (.aload_n 0, 1) := by decide +kernel
theorem kd_M_node_17 : decode kb_M_node 17 = .ok (.getfield 19, 3) := by decide +kernel
theorem kd_M_node_20 : decode kb_M_node 20 = .ok (.aload_n 0, 1) := by decide +kernel
theorem kd_M_node_21 : decode kb_M_node 21 = .ok (.getfield 73, 3) := by decide +kernel
theorem kd_M_node_24 : decode kb_M_node 24 = .ok (.lconst 0, 1) := by decide +kernel
theorem kd_M_node_25 : decode kb_M_node 25 = .ok (.lastore, 1) := by decide +kernel
theorem kd_M_node_26 : decode kb_M_node 26 = .ok (.aload_n 0, 1) := by decide +kernel
theorem kd_M_node_27 : decode kb_M_node 27 = .ok (.getfield 23, 3) := by decide +kernel
theorem kd_M_node_30 : decode kb_M_node 30 = .ok (.aload_n 0, 1) := by decide +kernel
theorem kd_M_node_31 : decode kb_M_node 31 = .ok (.getfield 73, 3) := by decide +kernel
theorem kd_M_node_34 : decode kb_M_node 34 = .ok (.lconst 0, 1) := by decide +kernel
theorem kd_M_node_35 : decode kb_M_node 35 = .ok (.lastore, 1) := by decide +kernel
theorem kd_M_node_36 : decode kb_M_node 36 = .ok (.aload_n 0, 1) := by decide +kernel
theorem kd_M_node_37 : decode kb_M_node 37 = .ok (.dup, 1) := by decide +kernel
theorem kd_M_node_38 : decode kb_M_node 38 = .ok (.getfield 73, 3) := by decide +kernel
theorem kd_M_node_41 : decode kb_M_node 41 = .ok (.iconst 1, 1) := by decide +kernel
theorem kd_M_node_42 : decode kb_M_node 42 = .ok (.iadd, 1) := by decide +kernel
theorem kd_M_node_43 : decode kb_M_node 43 = .ok (.putfield 73, 3) := by decide +kernel
theorem kd_M_node_46 : decode kb_M_node 46 = .ok (.aload_n 0, 1) := by decide +kernel
theorem kd_M_node_47 : decode kb_M_node 47 = .ok (.getfield 73, 3) := by decide +kernel
theorem kd_M_node_50 : decode kb_M_node 50 = .ok (.iconst 1, 1) := by decide +kernel
theorem kd_M_node_51 : decode kb_M_node 51 = .ok (.isub, 1) := by decide +kernel
theorem kd_M_node_52 : decode kb_M_node 52 = .ok (.ireturn, 1) := by decide +kernel
theorem kd_M_arc_0 : decode kb_M_arc 0 = .ok (.aload_n 0, 1) := by decide +kernel
theorem kd_M_arc_1 : decode kb_M_arc 1 = .ok (.iconst 0, 1) := by decide +kernel
theorem kd_M_arc_2 : decode kb_M_arc 2 = .ok (.putfield 69, 3) := by decide +kernel
theorem kd_M_arc_5 : decode kb_M_arc 5 = .ok (.aload_n 0, 1) := by decide +kernel
theorem kd_M_arc_6 : decode kb_M_arc 6 = .ok (.iload_n 1, 1) := by decide +kernel
theorem kd_M_arc_7 : decode kb_M_arc 7 = .ok (.invokevirtual 76, 3) := by decide +kernel
theorem kd_M_arc_10 : decode kb_M_arc 10 = .ok (.ifCond .eq 31, 3) := by decide +kernel
theorem kd_M_arc_13 : decode kb_M_arc 13 = .ok (.aload_n 0, 1) := by decide +kernel
theorem kd_M_arc_14 : decode kb_M_arc 14 = .ok (.iload_n 2, 1) := by decide +kernel
theorem kd_M_arc_15 : decode kb_M_arc 15 = .ok (.invokevirtual 76, 3) := by decide +kernel
theorem kd_M_arc_18 : decode kb_M_arc 18 = .ok (.ifCond .eq 23, 3) := by decide +kernel
theorem kd_M_arc_21 : decode kb_M_arc 21 = .ok (.iload_n 3, 1) := by decide +kernel
theorem kd_M_arc_22 : decode kb_M_arc 22 = .ok (.iconst 1, 1) := by decide +kernel
theorem kd_M_arc_23 : decode kb_M_arc 23 = .ok (.if_icmp .lt 18, 3) := by decide +kernel
theorem kd_M_arc_26 : decode kb_M_arc 26 = .ok (.iload_n 3, 1) := by decide +kernel
theorem kd_M_arc_27 : decode kb_M_arc 27 = .ok (.bipush 9, 2) := by decide +kernel
theorem kd_M_arc_29 : decode kb_M_arc 29 = .ok (.if_icmp .gt 12, 3) := by decide +kernel
theorem kd_M_arc_32 : decode kb_M_arc 32 = .ok (.aload_n 0, 1) := by decide +kernel
theorem kd_M_arc_33 : decode kb_M_arc 33 = .ok (.getfield 80, 3) := by decide +kernel
theorem kd_M_arc_36 : decode kb_M_arc 36 = .ok (.bipush 30, 2) := by decide +kernel
theorem kd_M_arc_38 : decode kb_M_arc 38 = .ok (.if_icmp .ne 5, 3) := by decide +kernel
theorem kd_M_arc_41 : decode kb_M_arc 41 = .ok (.iconst (-1), 1) := by decide +kernel
theorem kd_M_arc_42 : decode kb_M_arc 42 = .ok (.ireturn, 1) := by decide +kernel
theorem kd_M_arc_43 : decode kb_M_arc 43 = .ok (.aload_n 0, 1) := by decide +kernel
theorem kd_M_arc_44 : decode kb_M_arc 44 = .ok (.getfield 7, 3) := by decide +kernel
theorem kd_M_arc_47 : decode kb_M_arc 47 = .ok (.aload_n 0, 1) := by decide +kernel
theorem kd_M_arc_48 : decode kb_M_arc 48 = .ok (.getfield 80, 3) := by decide +kernel
theorem kd_M_arc_51 : decode kb_M_arc 51 = .ok (.iload_n 1, 1) := by decide +kernel
theorem kd_M_arc_52 : decode kb_M_arc 52 = .ok (.iastore, 1) := by decide +kernel
theorem kd_M_arc_53 : decode kb_M_arc 53 = .ok (.aload_n 0, 1) := by decide +kernel
theorem kd_M_arc_54 : decode kb_M_arc 54 = .ok (.getfield 13, 3) := by decide +kernel
theorem kd_M_arc_57 : decode kb_M_arc 57 = .ok (.aload_n 0, 1) := by decide +kernel
theorem kd_M_arc_58 : decode kb_M_arc 58 = .ok (.getfield 80, 3) := by decide +kernel
theorem kd_M_arc_61 : decode kb_M_arc 61 = .ok (.iload_n 2, 1) := by decide +kernel
theorem kd_M_arc_62 : decode kb_M_arc 62 = .ok (.iastore, 1) := by decide +kernel
theorem kd_M_arc_63 : decode kb_M_arc 63 = .ok (.aload_n 0, 1) := by decide +kernel
theorem kd_M_arc_64 : decode kb_M_arc 64 = .ok (.getfield 16, 3) := by decide +kernel
theorem kd_M_arc_67 : decode kb_M_arc 67 = .ok (.aload_n 0, 1) := by decide +kernel
theorem kd_M_arc_68 : decode kb_M_arc 68 = .ok (.getfield 80, 3) := by decide +kernel
theorem kd_M_arc_71 : decode kb_M_arc 71 = .ok (.iload_n 3, 1) := by decide +kernel
theorem kd_M_arc_72 : decode kb_M_arc 72 = .ok (.iastore, 1) := by decide +kernel
theorem kd_M_arc_73 : decode kb_M_arc 73 = .ok (.aload_n 0, 1) := by decide +kernel
theorem kd_M_arc_74 : decode kb_M_arc 74 = .ok (.dup, 1) := by decide +kernel
theorem kd_M_arc_75 : decode kb_M_arc 75 = .ok (.getfield 80, 3) := by decide +kernel
theorem kd_M_arc_78 : decode kb_M_arc 78 = .ok (.iconst 1, 1) := by decide +kernel
theorem kd_M_arc_79 : decode kb_M_arc 79 = .ok (.iadd, 1) := by decide +kernel
theorem kd_M_arc_80 : decode kb_M_arc 80 = .ok (.putfield 80, 3) := by decide +kernel
theorem kd_M_arc_83 : decode kb_M_arc 83 = .ok (.aload_n 0, 1) := by decide +kernel
theorem kd_M_arc_84 : decode kb_M_arc 84 = .ok (.getfield 80, 3) := by decide +kernel
theorem kd_M_arc_87 : decode kb_M_arc 87 = .ok (.iconst 1, 1) := by decide +kernel
theorem kd_M_arc_88 : decode kb_M_arc 88 = .ok (.isub, 1) := by decide +kernel
theorem kd_M_arc_89 : decode kb_M_arc 89 = .ok (.ireturn, 1) := by decide +kernel
theorem kd_M_weigh_0 : decode kb_M_weigh 0 = .ok (.aload_n 0, 1) := by decide +kernel
theorem kd_M_weigh_1 : decode kb_M_weigh 1 = .ok (.iconst 0, 1) := by decide +kernel
theorem kd_M_weigh_2 : decode kb_M_weigh 2 = .ok (.putfield 69, 3) := by decide +kernel
theorem kd_M_weigh_5 : decode kb_M_weigh 5 = .ok (.iload_n 1, 1) := by decide +kernel
theorem kd_M_weigh_6 : decode kb_M_weigh 6 = .ok (.ifCond .lt 22, 3) := by decide +kernel
theorem kd_M_weigh_9 : decode kb_M_weigh 9 = .ok (.iload_n 1, 1) := by decide +kernel
theorem kd_M_weigh_10 : decode kb_M_weigh 10 = .ok (.aload_n 0, 1) := by decide +kernel
theorem kd_M_weigh_11 : decode kb_M_weigh 11 = .ok (.getfield 80, 3) := by decide +kernel
theorem kd_M_weigh_14 : decode kb_M_weigh 14 = .ok (.if_icmp .ge 14, 3) := by decide +kernel
theorem kd_M_weigh_17 : decode kb_M_weigh 17 = .ok (.iload_n 2, 1) := by decide +kernel
theorem kd_M_weigh_18 : decode kb_M_weigh 18 = .ok (.iconst 1, 1) := by decide +kernel
theorem kd_M_weigh_19 : decode kb_M_weigh 19 = .ok (.if_icmp .lt 9, 3) := by decide +kernel
theorem kd_M_weigh_22 : decode kb_M_weigh 22 = .ok (.iload_n 2, 1) := by decide +kernel
theorem kd_M_weigh_23 : decode kb_M_weigh 23 = .ok (.bipush 9, 2) := by decide +kernel
theorem kd_M_weigh_25 : decode kb_M_weigh 25 = .ok (.if_icmp .le 5, 3) := by decide +kernel
theorem kd_M_weigh_28 : decode kb_M_weigh 28 = .ok (.iconst (-1), 1) := by decide +kernel
theorem kd_M_weigh_29 : decode kb_M_weigh 29 = .ok (.ireturn, 1) := by decide +kernel
theorem kd_M_weigh_30 : decode kb_M_weigh 30 = .ok (.aload_n 0, 1) := by decide +kernel
theorem kd_M_weigh_31 : decode kb_M_weigh 31 = .ok (.getfield 16, 3) := by decide +kernel
theorem kd_M_weigh_34 : decode kb_M_weigh 34 = .ok (.iload_n 1, 1) := by decide +kernel
theorem kd_M_weigh_35 : decode kb_M_weigh 35 = .ok (.iaload, 1) := by decide +kernel
theorem kd_M_weigh_36 : decode kb_M_weigh 36 = .ok (.istore_n 3, 1) := by decide +kernel
theorem kd_M_weigh_37 : decode kb_M_weigh 37 = .ok (.aload_n 0, 1) := by decide +kernel
theorem kd_M_weigh_38 : decode kb_M_weigh 38 = .ok (.getfield 16, 3) := by decide +kernel
theorem kd_M_weigh_41 : decode kb_M_weigh 41 = .ok (.iload_n 1, 1) := by decide +kernel
theorem kd_M_weigh_42 : decode kb_M_weigh 42 = .ok (.iload_n 2, 1) := by decide +kernel
theorem kd_M_weigh_43 : decode kb_M_weigh 43 = .ok (.iastore, 1) := by decide +kernel
theorem kd_M_weigh_44 : decode kb_M_weigh 44 = .ok (.iload_n 3, 1) := by decide +kernel
theorem kd_M_weigh_45 : decode kb_M_weigh 45 = .ok (.ireturn, 1) := by decide +kernel
theorem kd_M_drop_0 : decode kb_M_drop 0 = .ok (.aload_n 0, 1) := by decide +kernel
theorem kd_M_drop_1 : decode kb_M_drop 1 = .ok (.iconst 0, 1) := by decide +kernel
theorem kd_M_drop_2 : decode kb_M_drop 2 = .ok (.putfield 69, 3) := by decide +kernel
theorem kd_M_drop_5 : decode kb_M_drop 5 = .ok (.aload_n 0, 1) := by decide +kernel
theorem kd_M_drop_6 : decode kb_M_drop 6 = .ok (.getfield 80, 3) := by decide +kernel
theorem kd_M_drop_9 : decode kb_M_drop 9 = .ok (.ifCond .ne 5, 3) := by decide +kernel
theorem kd_M_drop_12 : decode kb_M_drop 12 = .ok (.iconst 0, 1) := by decide +kernel
theorem kd_M_drop_13 : decode kb_M_drop 13 = .ok (.ireturn, 1) := by decide +kernel
theorem kd_M_drop_14 : decode kb_M_drop 14 = .ok (.aload_n 0, 1) := by decide +kernel
theorem kd_M_drop_15 : decode kb_M_drop 15 = .ok (.dup, 1) := by decide +kernel
theorem kd_M_drop_16 : decode kb_M_drop 16 = .ok (.getfield 80, 3) := by decide +kernel
theorem kd_M_drop_19 : decode kb_M_drop 19 = .ok (.iconst 1, 1) := by decide +kernel
theorem kd_M_drop_20 : decode kb_M_drop 20 = .ok (.isub, 1) := by decide +kernel
theorem kd_M_drop_21 : decode kb_M_drop 21 = .ok (.putfield 80, 3) := by decide +kernel
theorem kd_M_drop_24 : decode kb_M_drop 24 = .ok (.iconst 1, 1) := by decide +kernel
theorem kd_M_drop_25 : decode kb_M_drop 25 = .ok (.ireturn, 1) := by decide +kernel
theorem kd_M_power_0 : decode kb_M_power 0 = .ok (.lconst 1, 1) := by decide +kernel
theorem kd_M_power_1 : decode kb_M_power 1 = .ok (.lstore 6, 2) := by decide +kernel
theorem kd_M_power_3 : decode kb_M_power 3 = .ok (.lload_n 0, 1) := by decide +kernel
theorem kd_M_power_4 : decode kb_M_power 4 = .ok (.lload 4, 2) := by decide +kernel
theorem kd_M_power_6 : decode kb_M_power 6 = .ok (.lrem, 1) := by decide +kernel
theorem kd_M_power_7 : decode kb_M_power 7 = .ok (.lload 4, 2) := by decide +kernel
theorem kd_M_power_9 : decode kb_M_power 9 = .ok (.ladd, 1) := by decide +kernel
theorem kd_M_power_10 : decode kb_M_power 10 = .ok (.lload 4, 2) := by decide +kernel
theorem kd_M_power_12 : decode kb_M_power 12 = .ok (.lrem, 1) := by decide +kernel
theorem kd_M_power_13 : decode kb_M_power 13 = .ok (.lstore 8, 2) := by decide +kernel
theorem kd_M_power_15 : decode kb_M_power 15 = .ok (.lload_n 2, 1) := by decide +kernel
theorem kd_M_power_16 : decode kb_M_power 16 = .ok (.lstore 10, 2) := by decide +kernel
theorem kd_M_power_18 : decode kb_M_power 18 = .ok (.lload 10, 2) := by decide +kernel
theorem kd_M_power_20 : decode kb_M_power 20 = .ok (.lconst 0, 1) := by decide +kernel
theorem kd_M_power_21 : decode kb_M_power 21 = .ok (.lcmp, 1) := by decide +kernel
theorem kd_M_power_22 : decode kb_M_power 22 = .ok (.ifCond .le 41, 3) := by decide +kernel
theorem kd_M_power_25 : decode kb_M_power 25 = .ok (.lload 10, 2) := by decide +kernel
theorem kd_M_power_27 : decode kb_M_power 27 = .ok (.lconst 1, 1) := by decide +kernel
theorem kd_M_power_28 : decode kb_M_power 28 = .ok (.land, 1) := by decide +kernel
theorem kd_M_power_29 : decode kb_M_power 29 = .ok (.lconst 1, 1) := by decide +kernel
theorem kd_M_power_30 : decode kb_M_power 30 = .ok (.lcmp, 1) := by decide +kernel
theorem kd_M_power_31 : decode kb_M_power 31 = .ok (.ifCond .ne 13, 3) := by decide +kernel
theorem kd_M_power_34 : decode kb_M_power 34 = .ok (.lload 6, 2) := by decide +kernel
theorem kd_M_power_36 : decode kb_M_power 36 = .ok (.lload 8, 2) := by decide +kernel
theorem kd_M_power_38 : decode kb_M_power 38 = .ok (.lmul, 1) := by decide +kernel
theorem kd_M_power_39 : decode kb_M_power 39 = .ok (.lload 4, 2) := by decide +kernel
theorem kd_M_power_41 : decode kb_M_power 41 = .ok (.lrem, 1) := by decide +kernel
theorem kd_M_power_42 : decode kb_M_power 42 = .ok (.lstore 6, 2) := by decide +kernel
theorem kd_M_power_44 : decode kb_M_power 44 = .ok (.lload 8, 2) := by decide +kernel
theorem kd_M_power_46 : decode kb_M_power 46 = .ok (.lload 8, 2) := by decide +kernel
theorem kd_M_power_48 : decode kb_M_power 48 = .ok (.lmul, 1) := by decide +kernel
theorem kd_M_power_49 : decode kb_M_power 49 = .ok (.lload 4, 2) := by decide +kernel
theorem kd_M_power_51 : decode kb_M_power 51 = .ok (.lrem, 1) := by decide +kernel
theorem kd_M_power_52 : decode kb_M_power 52 = .ok (.lstore 8, 2) := by decide +kernel
theorem kd_M_power_54 : decode kb_M_power 54 = .ok (.lload 10, 2) := by decide +kernel
theorem kd_M_power_56 : decode kb_M_power 56 = .ok (.iconst 1, 1) := by decide +kernel
theorem kd_M_power_57 : decode kb_M_power 57 = .ok (.lshr, 1) := by decide +kernel
theorem kd_M_power_58 : decode kb_M_power 58 = .ok (.lstore 10, 2) := by decide +kernel
theorem kd_M_power_60 : decode kb_M_power 60 = .ok (.goto (-42), 3) := by decide +kernel
theorem kd_M_power_63 : decode kb_M_power 63 = .ok (.lload 6, 2) := by decide +kernel
theorem kd_M_power_65 : decode kb_M_power 65 = .ok (.lreturn, 1) := by decide +kernel
theorem kd_M_modulo_0 : decode kb_M_modulo 0 = .ok (.iconst 0, 1) := by decide +kernel
theorem kd_M_modulo_1 : decode kb_M_modulo 1 = .ok (.istore 4, 2) := by decide +kernel
theorem kd_M_modulo_3 : decode kb_M_modulo 3 = .ok (.iload 4, 2) := by decide +kernel
theorem kd_M_modulo_5 : decode kb_M_modulo 5 = .ok (.iload_n 1, 1) := by decide +kernel
theorem kd_M_modulo_6 : decode kb_M_modulo 6 = .ok (.if_icmp .ge 56, 3) := by decide +kernel
theorem kd_M_modulo_9 : decode kb_M_modulo 9 = .ok (.iconst 0, 1) := by decide +kernel
theorem kd_M_modulo_10 : decode kb_M_modulo 10 = .ok (.istore 5, 2) := by decide +kernel
theorem kd_M_modulo_12 : decode kb_M_modulo 12 = .ok (.iload 5, 2) := by decide +kernel
theorem kd_M_modulo_14 : decode kb_M_modulo 14 = .ok (.iload_n 1, 1) := by decide +kernel
theorem kd_M_modulo_15 : decode kb_M_modulo 15 = .ok (.if_icmp .ge 41, 3) := by decide +kernel
theorem kd_M_modulo_18 : decode kb_M_modulo 18 = .ok (.aload_n 0, 1) := by decide +kernel
theorem kd_M_modulo_19 : decode kb_M_modulo 19 = .ok (.getfield 29, 3) := by decide +kernel
theorem kd_M_modulo_22 : decode kb_M_modulo 22 = .ok (.bipush 10, 2) := by decide +kernel
theorem kd_M_modulo_24 : decode kb_M_modulo 24 = .ok (.iload 4, 2) := by decide +kernel
theorem kd_M_modulo_26 : decode kb_M_modulo 26 = .ok (.imul, 1) := by decide +kernel
theorem kd_M_modulo_27 : decode kb_M_modulo 27 = .ok (.iload 5, 2) := by decide +kernel
theorem kd_M_modulo_29 : decode kb_M_modulo 29 = .ok (.iadd, 1) := by decide +kernel
theorem kd_M_modulo_30 : decode kb_M_modulo 30 = .ok (.aload_n 0, 1) := by decide +kernel
theorem kd_M_modulo_31 : decode kb_M_modulo 31 = .ok (.getfield 26, 3) := by decide +kernel
theorem kd_M_modulo_34 : decode kb_M_modulo 34 = .ok (.bipush 10, 2) := by decide +kernel
theorem kd_M_modulo_36 : decode kb_M_modulo 36 = .ok (.iload 4, 2) := by decide +kernel
theorem kd_M_modulo_38 : decode kb_M_modulo 38 = .ok (.imul, 1) := by decide +kernel
theorem kd_M_modulo_39 : decode kb_M_modulo 39 = .ok (.iload 5, 2) := by decide +kernel
theorem kd_M_modulo_41 : decode kb_M_modulo 41 = .ok (.iadd, 1) := by decide +kernel
theorem kd_M_modulo_42 : decode kb_M_modulo 42 = .ok (.laload, 1) := by decide +kernel
theorem kd_M_modulo_43 : decode kb_M_modulo 43 = .ok (.lload_n 2, 1) := by decide +kernel
theorem kd_M_modulo_44 : decode kb_M_modulo 44 = .ok (.lrem, 1) := by decide +kernel
theorem kd_M_modulo_45 : decode kb_M_modulo 45 = .ok (.lload_n 2, 1) := by decide +kernel
theorem kd_M_modulo_46 : decode kb_M_modulo 46 = .ok (.ladd, 1) := by decide +kernel
theorem kd_M_modulo_47 : decode kb_M_modulo 47 = .ok (.lload_n 2, 1) := by decide +kernel
theorem kd_M_modulo_48 : decode kb_M_modulo 48 = .ok (.lrem, 1) := by decide +kernel
theorem kd_M_modulo_49 : decode kb_M_modulo 49 = .ok (.lastore, 1) := by decide +kernel
theorem kd_M_modulo_50 : decode kb_M_modulo 50 = .ok (.iinc 5 1, 3) := by decide +kernel
theorem kd_M_modulo_53 : decode kb_M_modulo 53 = .ok (.goto (-41), 3) := by decide +kernel
theorem kd_M_modulo_56 : decode kb_M_modulo 56 = .ok (.iinc 4 1, 3) := by decide +kernel
theorem kd_M_modulo_59 : decode kb_M_modulo 59 = .ok (.goto (-56), 3) := by decide +kernel
theorem kd_M_modulo_62 : decode kb_M_modulo 62 = .ok (.lconst 1, 1) := by decide +kernel
theorem kd_M_modulo_63 : decode kb_M_modulo 63 = .ok (.lstore 4, 2) := by decide +kernel
theorem kd_M_modulo_65 : decode kb_M_modulo 65 = .ok (.iconst 0, 1) := by decide +kernel
theorem kd_M_modulo_66 : decode kb_M_modulo 66 = .ok (.istore 6, 2) := by decide +kernel
theorem kd_M_modulo_68 : decode kb_M_modulo 68 = .ok (.iload 6, 2) := by decide +kernel
theorem kd_M_modulo_70 : decode kb_M_modulo 70 = .ok (.iload_n 1, 1) := by decide +kernel
theorem kd_M_modulo_71 : decode kb_M_modulo 71 = .ok (.if_icmp .ge 301, 3) := by decide +kernel
theorem kd_M_modulo_74 : decode kb_M_modulo 74 = .ok (.iload 6, 2) := by decide +kernel
theorem kd_M_modulo_76 : decode kb_M_modulo 76 = .ok (.istore 7, 2) := by decide +kernel
theorem kd_M_modulo_78 : decode kb_M_modulo 78 = .ok (.iload 7, 2) := by decide +kernel
theorem kd_M_modulo_80 : decode kb_M_modulo 80 = .ok (.iload_n 1, 1) := by decide +kernel
theorem kd_M_modulo_81 : decode kb_M_modulo 81 = .ok (.if_icmp .ge 27, 3) := by decide +kernel
theorem kd_M_modulo_84 : decode kb_M_modulo 84 = .ok (.aload_n 0, 1) := by decide +kernel
theorem kd_M_modulo_85 : decode kb_M_modulo 85 = .ok (.getfield 29, 3) := by decide +kernel
theorem kd_M_modulo_88 : decode kb_M_modulo 88 = .ok (.bipush 10, 2) := by decide +kernel
theorem kd_M_modulo_90 : decode kb_M_modulo 90 = .ok (.iload 7, 2) := by decide +kernel
theorem kd_M_modulo_92 : decode kb_M_modulo 92 = .ok (.imul, 1) := by decide +kernel
theorem kd_M_modulo_93 : decode kb_M_modulo 93 = .ok (.iload 6, 2) := by decide +kernel
theorem kd_M_modulo_95 : decode kb_M_modulo 95 = .ok (.iadd, 1) := by decide +kernel
theorem kd_M_modulo_96 : decode kb_M_modulo 96 = .ok (.laload, 1) := by decide +kernel
theorem kd_M_modulo_97 : decode kb_M_modulo 97 = .ok (.lconst 0, 1) := by decide +kernel
theorem kd_M_modulo_98 : decode kb_M_modulo 98 = .ok (.lcmp, 1) := by decide +kernel
theorem kd_M_modulo_99 : decode kb_M_modulo 99 = .ok (.ifCond .ne 9, 3) := by decide +kernel
theorem kd_M_modulo_102 : decode kb_M_modulo 102 = .ok (.iinc 7 1, 3) := by decide +kernel
theorem kd_M_modulo_105 : decode kb_M_modulo 105 = .ok (.goto (-27), 3) := by decide +kernel
theorem kd_M_modulo_108 : decode kb_M_modulo 108 = .ok (.iload 7, 2) := by decide +kernel
theorem kd_M_modulo_110 : decode kb_M_modulo 110 = .ok (.iload_n 1, 1) := by decide +kernel
theorem kd_M_modulo_111 : decode kb_M_modulo 111 = .ok (.if_icmp .ne 5, 3) := by decide +kernel
theorem kd_M_modulo_114 : decode kb_M_modulo 114 = .ok (.lconst 0, 1) := by decide +kernel
theorem kd_M_modulo_115 : decode kb_M_modulo 115 = .ok (.lreturn, 1) := by decide +kernel
theorem kd_M_modulo_116 : decode kb_M_modulo 116 = .ok (.iconst 0, 1) := by decide +kernel
theorem kd_M_modulo_117 : decode kb_M_modulo 117 = .ok (.istore 8, 2) := by decide +kernel
theorem kd_M_modulo_119 : decode kb_M_modulo 119 = .ok (.iload 8, 2) := by decide +kernel
theorem kd_M_modulo_121 : decode kb_M_modulo 121 = .ok (.iload_n 1, 1) := by decide +kernel
theorem kd_M_modulo_122 : decode kb_M_modulo 122 = .ok (.if_icmp .ge 72, 3) := by decide +kernel
theorem kd_M_modulo_125 : decode kb_M_modulo 125 = .ok (.iload 7, 2) := by decide +kernel
theorem kd_M_modulo_127 : decode kb_M_modulo 127 = .ok (.iload 6, 2) := by decide +kernel
theorem kd_M_modulo_129 : decode kb_M_modulo 129 = .ok (.if_icmp .eq 65, 3) := by decide +kernel
theorem kd_M_modulo_132 : decode kb_M_modulo 132 = .ok (.aload_n 0, 1) := by decide +kernel
theorem kd_M_modulo_133 : decode kb_M_modulo 133 = .ok (.getfield 29, 3) := by decide +kernel
theorem kd_M_modulo_136 : decode kb_M_modulo 136 = .ok (.bipush 10, 2) := by decide +kernel
theorem kd_M_modulo_138 : decode kb_M_modulo 138 = .ok (.iload 7, 2) := by decide +kernel
theorem kd_M_modulo_140 : decode kb_M_modulo 140 = .ok (.imul, 1) := by decide +kernel
theorem kd_M_modulo_141 : decode kb_M_modulo 141 = .ok (.iload 8, 2) := by decide +kernel
theorem kd_M_modulo_143 : decode kb_M_modulo 143 = .ok (.iadd, 1) := by decide +kernel
theorem kd_M_modulo_144 : decode kb_M_modulo 144 = .ok (.laload, 1) := by decide +kernel
theorem kd_M_modulo_145 : decode kb_M_modulo 145 = .ok (.lstore 9, 2) := by decide +kernel
theorem kd_M_modulo_147 : decode kb_M_modulo 147 = .ok (.aload_n 0, 1) := by decide +kernel
theorem kd_M_modulo_148 : decode kb_M_modulo 148 = .ok (.getfield 29, 3) := by decide +kernel
theorem kd_M_modulo_151 : decode kb_M_modulo 151 = .ok (.bipush 10, 2) := by decide +kernel
theorem kd_M_modulo_153 : decode kb_M_modulo 153 = .ok (.iload 7, 2) := by decide +kernel
theorem kd_M_modulo_155 : decode kb_M_modulo 155 = .ok (.imul, 1) := by decide +kernel
theorem kd_M_modulo_156 : decode kb_M_modulo 156 = .ok (.iload 8, 2) := by decide +kernel
theorem kd_M_modulo_158 : decode kb_M_modulo 158 = .ok (.iadd, 1) := by decide +kernel
theorem kd_M_modulo_159 : decode kb_M_modulo 159 = .ok (.aload_n 0, 1) := by decide +kernel
theorem kd_M_modulo_160 : decode kb_M_modulo 160 = .ok (.getfield 29, 3) := by decide +kernel
theorem kd_M_modulo_163 : decode kb_M_modulo 163 = .ok (.bipush 10, 2) := by decide +kernel
theorem kd_M_modulo_165 : decode kb_M_modulo 165 = .ok (.iload 6, 2) := by decide +kernel
theorem kd_M_modulo_167 : decode kb_M_modulo 167 = .ok (.imul, 1) := by decide +kernel
theorem kd_M_modulo_168 : decode kb_M_modulo 168 = .ok (.iload 8, 2) := by decide +kernel
theorem kd_M_modulo_170 : decode kb_M_modulo 170 = .ok (.iadd, 1) := by decide +kernel
theorem kd_M_modulo_171 : decode kb_M_modulo 171 = .ok (.laload, 1) := by decide +kernel
theorem kd_M_modulo_172 : decode kb_M_modulo 172 = .ok (.lastore, 1) := by decide +kernel
theorem kd_M_modulo_173 : decode kb_M_modulo 173 = .ok (.aload_n 0, 1) := by decide +kernel
theorem kd_M_modulo_174 : decode kb_M_modulo 174 = .ok (.getfield 29, 3) := by decide +kernel
theorem kd_M_modulo_177 : decode kb_M_modulo 177 = .ok (.bipush 10, 2) := by decide +kernel
theorem kd_M_modulo_179 : decode kb_M_modulo 179 = .ok (.iload 6, 2) := by decide +kernel
theorem kd_M_modulo_181 : decode kb_M_modulo 181 = .ok (.imul, 1) := by decide +kernel
theorem kd_M_modulo_182 : decode kb_M_modulo 182 = .ok (.iload 8, 2) := by decide +kernel
theorem kd_M_modulo_184 : decode kb_M_modulo 184 = .ok (.iadd, 1) := by decide +kernel
theorem kd_M_modulo_185 : decode kb_M_modulo 185 = .ok (.lload 9, 2) := by decide +kernel
theorem kd_M_modulo_187 : decode kb_M_modulo 187 = .ok (.lastore, 1) := by decide +kernel
theorem kd_M_modulo_188 : decode kb_M_modulo 188 = .ok (.iinc 8 1, 3) := by decide +kernel
theorem kd_M_modulo_191 : decode kb_M_modulo 191 = .ok (.goto (-72), 3) := by decide +kernel
theorem kd_M_modulo_194 : decode kb_M_modulo 194 = .ok (.iload 7, 2) := by decide +kernel
theorem kd_M_modulo_196 : decode kb_M_modulo 196 = .ok (.iload 6, 2) := by decide +kernel
theorem kd_M_modulo_198 : decode kb_M_modulo 198 = .ok (.if_icmp .ne 8, 3) := by decide +kernel
theorem kd_M_modulo_201 : decode kb_M_modulo 201 = .ok (.lload 4, 2) := by decide +kernel
theorem kd_M_modulo_203 : decode kb_M_modulo 203 = .ok (.goto 9, 3) := by decide +kernel
theorem kd_M_modulo_206 : decode kb_M_modulo 206 = .ok (.lload_n 2, 1) := by decide +kernel
theorem kd_M_modulo_207 : decode kb_M_modulo 207 = .ok (.lload 4, 2) := by decide +kernel
theorem kd_M_modulo_209 : decode kb_M_modulo 209 = .ok (.lsub, 1) := by decide +kernel
theorem kd_M_modulo_210 : decode kb_M_modulo 210 = .ok (.lload_n 2, 1) := by decide +kernel
theorem kd_M_modulo_211 : decode kb_M_modulo 211 = .ok (.lrem, 1) := by decide +kernel
theorem kd_M_modulo_212 : decode kb_M_modulo 212 = .ok (.lstore 4, 2) := by decide +kernel
theorem kd_M_modulo_214 : decode kb_M_modulo 214 = .ok (.lload 4, 2) := by decide +kernel
theorem kd_M_modulo_216 : decode kb_M_modulo 216 = .ok (.aload_n 0, 1) := by decide +kernel
theorem kd_M_modulo_217 : decode kb_M_modulo 217 = .ok (.getfield 29, 3) := by decide +kernel
theorem kd_M_modulo_220 : decode kb_M_modulo 220 = .ok (.bipush 10, 2) := by decide +kernel
theorem kd_M_modulo_222 : decode kb_M_modulo 222 = .ok (.iload 6, 2) := by decide +kernel
theorem kd_M_modulo_224 : decode kb_M_modulo 224 = .ok (.imul, 1) := by decide +kernel
theorem kd_M_modulo_225 : decode kb_M_modulo 225 = .ok (.iload 6, 2) := by decide +kernel
theorem kd_M_modulo_227 : decode kb_M_modulo 227 = .ok (.iadd, 1) := by decide +kernel
theorem kd_M_modulo_228 : decode kb_M_modulo 228 = .ok (.laload, 1) := by decide +kernel
theorem kd_M_modulo_229 : decode kb_M_modulo 229 = .ok (.lmul, 1) := by decide +kernel
theorem kd_M_modulo_230 : decode kb_M_modulo 230 = .ok (.lload_n 2, 1) := by decide +kernel
theorem kd_M_modulo_231 : decode kb_M_modulo 231 = .ok (.lrem, 1) := by decide +kernel
theorem kd_M_modulo_232 : decode kb_M_modulo 232 = .ok (.lstore 4, 2) := by decide +kernel
theorem kd_M_modulo_234 : decode kb_M_modulo 234 = .ok (.aload_n 0, 1) := by decide +kernel
theorem kd_M_modulo_235 : decode kb_M_modulo 235 = .ok (.getfield 29, 3) := by decide +kernel
theorem kd_M_modulo_238 : decode kb_M_modulo 238 = .ok (.bipush 10, 2) := by decide +kernel
theorem kd_M_modulo_240 : decode kb_M_modulo 240 = .ok (.iload 6, 2) := by decide +kernel
theorem kd_M_modulo_242 : decode kb_M_modulo 242 = .ok (.imul, 1) := by decide +kernel
theorem kd_M_modulo_243 : decode kb_M_modulo 243 = .ok (.iload 6, 2) := by decide +kernel
theorem kd_M_modulo_245 : decode kb_M_modulo 245 = .ok (.iadd, 1) := by decide +kernel
theorem kd_M_modulo_246 : decode kb_M_modulo 246 = .ok (.laload, 1) := by decide +kernel
theorem kd_M_modulo_247 : decode kb_M_modulo 247 = .ok (.lload_n 2, 1) := by decide +kernel
theorem kd_M_modulo_248 : decode kb_M_modulo 248 = .ok (.ldc2_w 83, 3) := by decide +kernel
theorem kd_M_modulo_251 : decode kb_M_modulo 251 = .ok (.lsub, 1) := by decide +kernel
theorem kd_M_modulo_252 : decode kb_M_modulo 252 = .ok (.lload_n 2, 1) := by decide +kernel
theorem kd_M_modulo_253 : decode kb_M_modulo 253 = .ok (.invokestatic 85, 3) := by decide +kernel
theorem kd_M_modulo_256 : decode kb_M_modulo 256 = .ok (.lstore 8, 2) := by decide +kernel
theorem kd_M_modulo_258 : decode kb_M_modulo 258 = .ok (.iload 6, 2) := by decide +kernel
theorem kd_M_modulo_260 : decode kb_M_modulo 260 = .ok (.iconst 1, 1) := by decide +kernel
theorem kd_M_modulo_261 : decode kb_M_modulo 261 = .ok (.iadd, 1) := by decide +kernel
theorem kd_M_modulo_262 : decode kb_M_modulo 262 = .ok (.istore 10, 2) := by decide +kernel
theorem kd_M_modulo_264 : decode kb_M_modulo 264 = .ok (.iload 10, 2) := by decide +kernel
theorem kd_M_modulo_266 : decode kb_M_modulo 266 = .ok (.iload_n 1, 1) := by decide +kernel
theorem kd_M_modulo_267 : decode kb_M_modulo 267 = .ok (.if_icmp .ge 99, 3) := by decide +kernel
theorem kd_M_modulo_270 : decode kb_M_modulo 270 = .ok (.aload_n 0, 1) := by decide +kernel
theorem kd_M_modulo_271 : decode kb_M_modulo 271 = .ok (.getfield 29, 3) := by decide +kernel
theorem kd_M_modulo_274 : decode kb_M_modulo 274 = .ok (.bipush 10, 2) := by decide +kernel
theorem kd_M_modulo_276 : decode kb_M_modulo 276 = .ok (.iload 10, 2) := by decide +kernel
theorem kd_M_modulo_278 : decode kb_M_modulo 278 = .ok (.imul, 1) := by decide +kernel
theorem kd_M_modulo_279 : decode kb_M_modulo 279 = .ok (.iload 6, 2) := by decide +kernel
theorem kd_M_modulo_281 : decode kb_M_modulo 281 = .ok (.iadd, 1) := by decide +kernel
theorem kd_M_modulo_282 : decode kb_M_modulo 282 = .ok (.laload, 1) := by decide +kernel
theorem kd_M_modulo_283 : decode kb_M_modulo 283 = .ok (.lload 8, 2) := by decide +kernel
theorem kd_M_modulo_285 : decode kb_M_modulo 285 = .ok (.lmul, 1) := by decide +kernel
theorem kd_M_modulo_286 : decode kb_M_modulo 286 = .ok (.lload_n 2, 1) := by decide +kernel
theorem kd_M_modulo_287 : decode kb_M_modulo 287 = .ok (.lrem, 1) := by decide +kernel
theorem kd_M_modulo_288 : decode kb_M_modulo 288 = .ok (.lstore 11, 2) := by decide +kernel
theorem kd_M_modulo_290 : decode kb_M_modulo 290 = .ok (.iload 6, 2) := by decide +kernel
theorem kd_M_modulo_292 : decode kb_M_modulo 292 = .ok (.istore 13, 2) := by decide +kernel
theorem kd_M_modulo_294 : decode kb_M_modulo 294 = .ok (.iload 13, 2) := by decide +kernel
theorem kd_M_modulo_296 : decode kb_M_modulo 296 = .ok (.iload_n 1, 1) := by decide +kernel
theorem kd_M_modulo_297 : decode kb_M_modulo 297 = .ok (.if_icmp .ge 63, 3) := by decide +kernel
theorem kd_M_modulo_300 : decode kb_M_modulo 300 = .ok (.lload 11, 2) := by decide +kernel
theorem kd_M_modulo_302 : decode kb_M_modulo 302 = .ok (.lconst 0, 1) := by decide +kernel
theorem kd_M_modulo_303 : decode kb_M_modulo 303 = .ok (.lcmp, 1) := by decide +kernel
theorem kd_M_modulo_304 : decode kb_M_modulo 304 = .ok (.ifCond .eq 56, 3) := by decide +kernel
theorem kd_M_modulo_307 : decode kb_M_modulo 307 = .ok (.aload_n 0, 1) := by decide +kernel
theorem kd_M_modulo_308 : decode kb_M_modulo 308 = .ok (.getfield 29, 3) := by decide +kernel
theorem kd_M_modulo_311 : decode kb_M_modulo 311 = .ok (.bipush 10, 2) := by decide +kernel
theorem kd_M_modulo_313 : decode kb_M_modulo 313 = .ok (.iload 10, 2) := by decide +kernel
theorem kd_M_modulo_315 : decode kb_M_modulo 315 = .ok (.imul, 1) := by decide +kernel
theorem kd_M_modulo_316 : decode kb_M_modulo 316 = .ok (.iload 13, 2) := by decide +kernel
theorem kd_M_modulo_318 : decode kb_M_modulo 318 = .ok (.iadd, 1) := by decide +kernel
theorem kd_M_modulo_319 : decode kb_M_modulo 319 = .ok (.aload_n 0, 1) := by decide +kernel
theorem kd_M_modulo_320 : decode kb_M_modulo 320 = .ok (.getfield 29, 3) := by decide +kernel
theorem kd_M_modulo_323 : decode kb_M_modulo 323 = .ok (.bipush 10, 2) := by decide +kernel
theorem kd_M_modulo_325 : decode kb_M_modulo 325 = .ok (.iload 10, 2) := by decide +kernel
theorem kd_M_modulo_327 : decode kb_M_modulo 327 = .ok (.imul, 1) := by decide +kernel
theorem kd_M_modulo_328 : decode kb_M_modulo 328 = .ok (.iload 13, 2) := by decide +kernel
theorem kd_M_modulo_330 : decode kb_M_modulo 330 = .ok (.iadd, 1) := by decide +kernel
theorem kd_M_modulo_331 : decode kb_M_modulo 331 = .ok (.laload, 1) := by decide +kernel
theorem kd_M_modulo_332 : decode kb_M_modulo 332 = .ok (.lload_n 2, 1) := by decide +kernel
theorem kd_M_modulo_333 : decode kb_M_modulo 333 = .ok (.lload 11, 2) := by decide +kernel
theorem kd_M_modulo_335 : decode kb_M_modulo 335 = .ok (.lsub, 1) := by decide +kernel
theorem kd_M_modulo_336 : decode kb_M_modulo 336 = .ok (.aload_n 0, 1) := by decide +kernel
theorem kd_M_modulo_337 : decode kb_M_modulo 337 = .ok (.getfield 29, 3) := by decide +kernel
theorem kd_M_modulo_340 : decode kb_M_modulo 340 = .ok (.bipush 10, 2) := by decide +kernel
theorem kd_M_modulo_342 : decode kb_M_modulo 342 = .ok (.iload 6, 2) := by decide +kernel
theorem kd_M_modulo_344 : decode kb_M_modulo 344 = .ok (.imul, 1) := by decide +kernel
theorem kd_M_modulo_345 : decode kb_M_modulo 345 = .ok (.iload 13, 2) := by decide +kernel
theorem kd_M_modulo_347 : decode kb_M_modulo 347 = .ok (.iadd, 1) := by decide +kernel
theorem kd_M_modulo_348 : decode kb_M_modulo 348 = .ok (.laload, 1) := by decide +kernel
theorem kd_M_modulo_349 : decode kb_M_modulo 349 = .ok (.lmul, 1) := by decide +kernel
theorem kd_M_modulo_350 : decode kb_M_modulo 350 = .ok (.ladd, 1) := by decide +kernel
theorem kd_M_modulo_351 : decode kb_M_modulo 351 = .ok (.lload_n 2, 1) := by decide +kernel
theorem kd_M_modulo_352 : decode kb_M_modulo 352 = .ok (.lrem, 1) := by decide +kernel
theorem kd_M_modulo_353 : decode kb_M_modulo 353 = .ok (.lastore, 1) := by decide +kernel
theorem kd_M_modulo_354 : decode kb_M_modulo 354 = .ok (.iinc 13 1, 3) := by decide +kernel
theorem kd_M_modulo_357 : decode kb_M_modulo 357 = .ok (.goto (-63), 3) := by decide +kernel
theorem kd_M_modulo_360 : decode kb_M_modulo 360 = .ok (.iinc 10 1, 3) := by decide +kernel
theorem kd_M_modulo_363 : decode kb_M_modulo 363 = .ok (.goto (-99), 3) := by decide +kernel
theorem kd_M_modulo_366 : decode kb_M_modulo 366 = .ok (.iinc 6 1, 3) := by decide +kernel
theorem kd_M_modulo_369 : decode kb_M_modulo 369 = .ok (.goto (-301), 3) := by decide +kernel
theorem kd_M_modulo_372 : decode kb_M_modulo 372 = .ok (.lload 4, 2) := by decide +kernel
theorem kd_M_modulo_374 : decode kb_M_modulo 374 = .ok (.lreturn, 1) := by decide +kernel
theorem kd_M_determinant_0 : decode kb_M_determinant 0 = .ok (.aload_n 0, 1) := by decide +kernel
theorem kd_M_determinant_1 : decode kb_M_determinant 1 = .ok (.iload_n 1, 1) := by decide +kernel
theorem kd_M_determinant_2 : decode kb_M_determinant 2 = .ok (.ldc2_w 89, 3) := by decide +kernel
theorem kd_M_determinant_5 : decode kb_M_determinant 5 = .ok (.invokevirtual 91, 3) := by decide +kernel
theorem kd_M_determinant_8 : decode kb_M_determinant 8 = .ok (.lstore_n 2, 1) := by decide +kernel
theorem kd_M_determinant_9 : decode kb_M_determinant 9 = .ok (.aload_n 0, 1) := by decide +kernel
theorem kd_M_determinant_10 : decode kb_M_determinant 10 = .ok (.iload_n 1, 1) := by decide +kernel
theorem kd_M_determinant_11 : decode kb_M_determinant 11 = .ok (.ldc2_w 95, 3) := by decide +kernel
theorem kd_M_determinant_14 : decode kb_M_determinant 14 = .ok (.invokevirtual 91, 3) := by decide +kernel
theorem kd_M_determinant_17 : decode kb_M_determinant 17 = .ok (.lstore 4, 2) := by decide +kernel
theorem kd_M_determinant_19 : decode kb_M_determinant 19 = .ok (.lload 4, 2) := by decide +kernel
theorem kd_M_determinant_21 : decode kb_M_determinant 21 = .ok (.lload_n 2, 1) := by decide +kernel
theorem kd_M_determinant_22 : decode kb_M_determinant 22 = .ok (.lsub, 1) := by decide +kernel
theorem kd_M_determinant_23 : decode kb_M_determinant 23 = .ok (.ldc2_w 95, 3) := by decide +kernel
theorem kd_M_determinant_26 : decode kb_M_determinant 26 = .ok (.lrem, 1) := by decide +kernel
theorem kd_M_determinant_27 : decode kb_M_determinant 27 = .ok (.ldc2_w 95, 3) := by decide +kernel
theorem kd_M_determinant_30 : decode kb_M_determinant 30 = .ok (.ladd, 1) := by decide +kernel
theorem kd_M_determinant_31 : decode kb_M_determinant 31 = .ok (.ldc2_w 95, 3) := by decide +kernel
theorem kd_M_determinant_34 : decode kb_M_determinant 34 = .ok (.lrem, 1) := by decide +kernel
theorem kd_M_determinant_35 : decode kb_M_determinant 35 = .ok (.ldc2_w 89, 3) := by decide +kernel
theorem kd_M_determinant_38 : decode kb_M_determinant 38 = .ok (.ldc2_w 97, 3) := by decide +kernel
theorem kd_M_determinant_41 : decode kb_M_determinant 41 = .ok (.ldc2_w 95, 3) := by decide +kernel
theorem kd_M_determinant_44 : decode kb_M_determinant 44 = .ok (.invokestatic 85, 3) := by decide +kernel
theorem kd_M_determinant_47 : decode kb_M_determinant 47 = .ok (.lmul, 1) := by decide +kernel
theorem kd_M_determinant_48 : decode kb_M_determinant 48 = .ok (.ldc2_w 95, 3) := by decide +kernel
theorem kd_M_determinant_51 : decode kb_M_determinant 51 = .ok (.lrem, 1) := by decide +kernel
theorem kd_M_determinant_52 : decode kb_M_determinant 52 = .ok (.lstore 6, 2) := by decide +kernel
theorem kd_M_determinant_54 : decode kb_M_determinant 54 = .ok (.lload_n 2, 1) := by decide +kernel
theorem kd_M_determinant_55 : decode kb_M_determinant 55 = .ok (.ldc2_w 89, 3) := by decide +kernel
theorem kd_M_determinant_58 : decode kb_M_determinant 58 = .ok (.lload 6, 2) := by decide +kernel
theorem kd_M_determinant_60 : decode kb_M_determinant 60 = .ok (.lmul, 1) := by decide +kernel
theorem kd_M_determinant_61 : decode kb_M_determinant 61 = .ok (.ladd, 1) := by decide +kernel
theorem kd_M_determinant_62 : decode kb_M_determinant 62 = .ok (.lreturn, 1) := by decide +kernel
theorem kd_M_clearRows_0 : decode kb_M_clearRows 0 = .ok (.iconst 0, 1) := by decide +kernel
theorem kd_M_clearRows_1 : decode kb_M_clearRows 1 = .ok (.istore_n 1, 1) := by decide +kernel
theorem kd_M_clearRows_2 : decode kb_M_clearRows 2 = .ok (.iload_n 1, 1) := by decide +kernel
theorem kd_M_clearRows_3 : decode kb_M_clearRows 3 = .ok (.bipush 100, 2) := by decide +kernel
theorem kd_M_clearRows_5 : decode kb_M_clearRows 5 = .ok (.if_icmp .ge 16, 3) := by decide +kernel
theorem kd_M_clearRows_8 : decode kb_M_clearRows 8 = .ok (.aload_n 0, 1) := by decide +kernel
theorem kd_M_clearRows_9 : decode kb_M_clearRows 9 = .ok (.getfield 26, 3) := by decide +kernel
theorem kd_M_clearRows_12 : decode kb_M_clearRows 12 = .ok (.iload_n 1, 1) := by decide +kernel
theorem kd_M_clearRows_13 : decode kb_M_clearRows 13 = .ok (.lconst 0, 1) := by decide +kernel
theorem kd_M_clearRows_14 : decode kb_M_clearRows 14 = .ok (.lastore, 1) := by decide +kernel
theorem kd_M_clearRows_15 : decode kb_M_clearRows 15 = .ok (.iinc 1 1, 3) := by decide +kernel
theorem kd_M_clearRows_18 : decode kb_M_clearRows 18 = .ok (.goto (-16), 3) := by decide +kernel
theorem kd_M_clearRows_21 : decode kb_M_clearRows 21 = .ok (.return_, 1) := by decide +kernel
theorem kd_M_apartAll_0 : decode kb_M_apartAll 0 = .ok (.iconst 0, 1) := by decide +kernel
theorem kd_M_apartAll_1 : decode kb_M_apartAll 1 = .ok (.istore_n 1, 1) := by decide +kernel
theorem kd_M_apartAll_2 : decode kb_M_apartAll 2 = .ok (.iload_n 1, 1) := by decide +kernel
theorem kd_M_apartAll_3 : decode kb_M_apartAll 3 = .ok (.aload_n 0, 1) := by decide +kernel
theorem kd_M_apartAll_4 : decode kb_M_apartAll 4 = .ok (.getfield 73, 3) := by decide +kernel
theorem kd_M_apartAll_7 : decode kb_M_apartAll 7 = .ok (.if_icmp .ge 16, 3) := by decide +kernel
theorem kd_M_apartAll_10 : decode kb_M_apartAll 10 = .ok (.aload_n 0, 1) := by decide +kernel
theorem kd_M_apartAll_11 : decode kb_M_apartAll 11 = .ok (.getfield 32, 3) := by decide +kernel
theorem kd_M_apartAll_14 : decode kb_M_apartAll 14 = .ok (.iload_n 1, 1) := by decide +kernel
theorem kd_M_apartAll_15 : decode kb_M_apartAll 15 = .ok (.iload_n 1, 1) := by decide +kernel
theorem kd_M_apartAll_16 : decode kb_M_apartAll 16 = .ok (.iastore, 1) := by decide +kernel
theorem kd_M_apartAll_17 : decode kb_M_apartAll 17 = .ok (.iinc 1 1, 3) := by decide +kernel
theorem kd_M_apartAll_20 : decode kb_M_apartAll 20 = .ok (.goto (-18), 3) := by decide +kernel
theorem kd_M_apartAll_23 : decode kb_M_apartAll 23 = .ok (.return_, 1) := by decide +kernel
theorem kd_M_join_0 : decode kb_M_join 0 = .ok (.aload_n 0, 1) := by decide +kernel
theorem kd_M_join_1 : decode kb_M_join 1 = .ok (.getfield 32, 3) := by decide +kernel
theorem kd_M_join_4 : decode kb_M_join 4 = .ok (.iload_n 1, 1) := by decide +kernel
theorem kd_M_join_5 : decode kb_M_join 5 = .ok (.iaload, 1) := by decide +kernel
theorem kd_M_join_6 : decode kb_M_join 6 = .ok (.istore_n 3, 1) := by decide +kernel
theorem kd_M_join_7 : decode kb_M_join 7 = .ok (.aload_n 0, 1) := by decide +kernel
theorem kd_M_join_8 : decode kb_M_join 8 = .ok (.getfield 32, 3) := by decide +kernel
theorem kd_M_join_11 : decode kb_M_join 11 = .ok (.iload_n 2, 1) := by decide +kernel
theorem kd_M_join_12 : decode kb_M_join 12 = .ok (.iaload, 1) := by decide +kernel
theorem kd_M_join_13 : decode kb_M_join 13 = .ok (.istore 4, 2) := by decide +kernel
theorem kd_M_join_15 : decode kb_M_join 15 = .ok (.iconst 0, 1) := by decide +kernel
theorem kd_M_join_16 : decode kb_M_join 16 = .ok (.istore 5, 2) := by decide +kernel
theorem kd_M_join_18 : decode kb_M_join 18 = .ok (.iload 5, 2) := by decide +kernel
theorem kd_M_join_20 : decode kb_M_join 20 = .ok (.aload_n 0, 1) := by decide +kernel
theorem kd_M_join_21 : decode kb_M_join 21 = .ok (.getfield 73, 3) := by decide +kernel
theorem kd_M_join_24 : decode kb_M_join 24 = .ok (.if_icmp .ge 45, 3) := by decide +kernel
theorem kd_M_join_27 : decode kb_M_join 27 = .ok (.iload_n 3, 1) := by decide +kernel
theorem kd_M_join_28 : decode kb_M_join 28 = .ok (.iload 4, 2) := by decide +kernel
theorem kd_M_join_30 : decode kb_M_join 30 = .ok (.if_icmp .eq 39, 3) := by decide +kernel
theorem kd_M_join_33 : decode kb_M_join 33 = .ok (.aload_n 0, 1) := by decide +kernel
theorem kd_M_join_34 : decode kb_M_join 34 = .ok (.getfield 32, 3) := by decide +kernel
theorem kd_M_join_37 : decode kb_M_join 37 = .ok (.iload 5, 2) := by decide +kernel
theorem kd_M_join_39 : decode kb_M_join 39 = .ok (.aload_n 0, 1) := by decide +kernel
theorem kd_M_join_40 : decode kb_M_join 40 = .ok (.getfield 32, 3) := by decide +kernel
theorem kd_M_join_43 : decode kb_M_join 43 = .ok (.iload 5, 2) := by decide +kernel
theorem kd_M_join_45 : decode kb_M_join 45 = .ok (.iaload, 1) := by decide +kernel
theorem kd_M_join_46 : decode kb_M_join 46 = .ok (.iload 4, 2) := by decide +kernel
theorem kd_M_join_48 : decode kb_M_join 48 = .ok (.if_icmp .ne 7, 3) := by decide +kernel
theorem kd_M_join_51 : decode kb_M_join 51 = .ok (.iload_n 3, 1) := by decide +kernel
theorem kd_M_join_52 : decode kb_M_join 52 = .ok (.goto 10, 3) := by decide +kernel
theorem kd_M_join_55 : decode kb_M_join 55 = .ok (.aload_n 0, 1) := by decide +kernel
theorem kd_M_join_56 : decode kb_M_join 56 = .ok (.getfield 32, 3) := by decide +kernel
theorem kd_M_join_59 : decode kb_M_join 59 = .ok (.iload 5, 2) := by decide +kernel
theorem kd_M_join_61 : decode kb_M_join 61 = .ok (.iaload, 1) := by decide +kernel
theorem kd_M_join_62 : decode kb_M_join 62 = .ok (.iastore, 1) := by decide +kernel
theorem kd_M_join_63 : decode kb_M_join 63 = .ok (.iinc 5 1, 3) := by decide +kernel
theorem kd_M_join_66 : decode kb_M_join 66 = .ok (.goto (-48), 3) := by decide +kernel
theorem kd_M_join_69 : decode kb_M_join 69 = .ok (.iload_n 3, 1) := by decide +kernel
theorem kd_M_join_70 : decode kb_M_join 70 = .ok (.iload 4, 2) := by decide +kernel
theorem kd_M_join_72 : decode kb_M_join 72 = .ok (.if_icmp .eq 7, 3) := by decide +kernel
theorem kd_M_join_75 : decode kb_M_join 75 = .ok (.iconst 1, 1) := by decide +kernel
theorem kd_M_join_76 : decode kb_M_join 76 = .ok (.goto 4, 3) := by decide +kernel
theorem kd_M_join_79 : decode kb_M_join 79 = .ok (.iconst 0, 1) := by decide +kernel
theorem kd_M_join_80 : decode kb_M_join 80 = .ok (.ireturn, 1) := by decide +kernel
theorem kd_M_noneOut_0 : decode kb_M_noneOut 0 = .ok (.iconst 0, 1) := by decide +kernel
theorem kd_M_noneOut_1 : decode kb_M_noneOut 1 = .ok (.istore_n 1, 1) := by decide +kernel
theorem kd_M_noneOut_2 : decode kb_M_noneOut 2 = .ok (.iload_n 1, 1) := by decide +kernel
theorem kd_M_noneOut_3 : decode kb_M_noneOut 3 = .ok (.bipush 30, 2) := by decide +kernel
theorem kd_M_noneOut_5 : decode kb_M_noneOut 5 = .ok (.if_icmp .ge 16, 3) := by decide +kernel
theorem kd_M_noneOut_8 : decode kb_M_noneOut 8 = .ok (.aload_n 0, 1) := by decide +kernel
theorem kd_M_noneOut_9 : decode kb_M_noneOut 9 = .ok (.getfield 35, 3) := by decide +kernel
theorem kd_M_noneOut_12 : decode kb_M_noneOut 12 = .ok (.iload_n 1, 1) := by decide +kernel
theorem kd_M_noneOut_13 : decode kb_M_noneOut 13 = .ok (.iconst 0, 1) := by decide +kernel
theorem kd_M_noneOut_14 : decode kb_M_noneOut 14 = .ok (.bastore, 1) := by decide +kernel
theorem kd_M_noneOut_15 : decode kb_M_noneOut 15 = .ok (.iinc 1 1, 3) := by decide +kernel
theorem kd_M_noneOut_18 : decode kb_M_noneOut 18 = .ok (.goto (-16), 3) := by decide +kernel
theorem kd_M_noneOut_21 : decode kb_M_noneOut 21 = .ok (.return_, 1) := by decide +kernel
theorem kd_M_number_0 : decode kb_M_number 0 = .ok (.iconst 0, 1) := by decide +kernel
theorem kd_M_number_1 : decode kb_M_number 1 = .ok (.istore_n 3, 1) := by decide +kernel
theorem kd_M_number_2 : decode kb_M_number 2 = .ok (.iconst 0, 1) := by decide +kernel
theorem kd_M_number_3 : decode kb_M_number 3 = .ok (.istore 4, 2) := by decide +kernel
theorem kd_M_number_5 : decode kb_M_number 5 = .ok (.iload 4, 2) := by decide +kernel
theorem kd_M_number_7 : decode kb_M_number 7 = .ok (.aload_n 0, 1) := by decide +kernel
theorem kd_M_number_8 : decode kb_M_number 8 = .ok (.getfield 73, 3) := by decide +kernel
theorem kd_M_number_11 : decode kb_M_number 11 = .ok (.if_icmp .ge 17, 3) := by decide +kernel
theorem kd_M_number_14 : decode kb_M_number 14 = .ok (.aload_n 0, 1) := by decide +kernel
theorem kd_M_number_15 : decode kb_M_number 15 = .ok (.getfield 39, 3) := by decide +kernel
theorem kd_M_number_18 : decode kb_M_number 18 = .ok (.iload 4, 2) := by decide +kernel
theorem kd_M_number_20 : decode kb_M_number 20 = .ok (.iconst (-1), 1) := by decide +kernel
theorem kd_M_number_21 : decode kb_M_number 21 = .ok (.iastore, 1) := by decide +kernel
theorem kd_M_number_22 : decode kb_M_number 22 = .ok (.iinc 4 1, 3) := by decide +kernel
theorem kd_M_number_25 : decode kb_M_number 25 = .ok (.goto (-20), 3) := by decide +kernel
theorem kd_M_number_28 : decode kb_M_number 28 = .ok (.iconst 0, 1) := by decide +kernel
theorem kd_M_number_29 : decode kb_M_number 29 = .ok (.istore 4, 2) := by decide +kernel
theorem kd_M_number_31 : decode kb_M_number 31 = .ok (.iload 4, 2) := by decide +kernel
theorem kd_M_number_33 : decode kb_M_number 33 = .ok (.aload_n 0, 1) := by decide +kernel
theorem kd_M_number_34 : decode kb_M_number 34 = .ok (.getfield 73, 3) := by decide +kernel
theorem kd_M_number_37 : decode kb_M_number 37 = .ok (.if_icmp .ge 118, 3) := by decide +kernel
theorem kd_M_number_40 : decode kb_M_number 40 = .ok (.aload_n 0, 1) := by decide +kernel
theorem kd_M_number_41 : decode kb_M_number 41 = .ok (.iload 4, 2) := by decide +kernel
theorem kd_M_number_43 : decode kb_M_number 43 = .ok (.invokevirtual 99, 3) := by decide +kernel
theorem kd_M_number_46 : decode kb_M_number 46 = .ok (.ifCond .eq 103, 3) := by decide +kernel
theorem kd_M_number_49 : decode kb_M_number 49 = .ok (.aload_n 0, 1) := by decide +kernel
theorem kd_M_number_50 : decode kb_M_number 50 = .ok (.getfield 32, 3) := by decide +kernel
theorem kd_M_number_53 : decode kb_M_number 53 = .ok (.iload 4, 2) := by decide +kernel
theorem kd_M_number_55 : decode kb_M_number 55 = .ok (.iaload, 1) := by decide +kernel
theorem kd_M_number_56 : decode kb_M_number 56 = .ok (.iload_n 1, 1) := by decide +kernel
theorem kd_M_number_57 : decode kb_M_number 57 = .ok (.if_icmp .eq 18, 3) := by decide +kernel
theorem kd_M_number_60 : decode kb_M_number 60 = .ok (.aload_n 0, 1) := by decide +kernel
theorem kd_M_number_61 : decode kb_M_number 61 = .ok (.getfield 32, 3) := by decide +kernel
theorem kd_M_number_64 : decode kb_M_number 64 = .ok (.iload 4, 2) := by decide +kernel
theorem kd_M_number_66 : decode kb_M_number 66 = .ok (.iaload, 1) := by decide +kernel
theorem kd_M_number_67 : decode kb_M_number 67 = .ok (.iload_n 2, 1) := by decide +kernel
theorem kd_M_number_68 : decode kb_M_number 68 = .ok (.if_icmp .eq 7, 3) := by decide +kernel
theorem kd_M_number_71 : decode kb_M_number 71 = .ok (.iconst 1, 1) := by decide +kernel
theorem kd_M_number_72 : decode kb_M_number 72 = .ok (.goto 4, 3) := by decide +kernel
theorem kd_M_number_75 : decode kb_M_number 75 = .ok (.iconst 0, 1) := by decide +kernel
theorem kd_M_number_76 : decode kb_M_number 76 = .ok (.istore 5, 2) := by decide +kernel
theorem kd_M_number_78 : decode kb_M_number 78 = .ok (.iconst 0, 1) := by decide +kernel
theorem kd_M_number_79 : decode kb_M_number 79 = .ok (.istore 6, 2) := by decide +kernel
theorem kd_M_number_81 : decode kb_M_number 81 = .ok (.iload 6, 2) := by decide +kernel
theorem kd_M_number_83 : decode kb_M_number 83 = .ok (.aload_n 0, 1) := by decide +kernel
theorem kd_M_number_84 : decode kb_M_number 84 = .ok (.getfield 73, 3) := by decide +kernel
theorem kd_M_number_87 : decode kb_M_number 87 = .ok (.if_icmp .ge 49, 3) := by decide +kernel
theorem kd_M_number_90 : decode kb_M_number 90 = .ok (.iload 5, 2) := by decide +kernel
theorem kd_M_number_92 : decode kb_M_number 92 = .ok (.ifCond .eq 44, 3) := by decide +kernel
theorem kd_M_number_95 : decode kb_M_number 95 = .ok (.aload_n 0, 1) := by decide +kernel
theorem kd_M_number_96 : decode kb_M_number 96 = .ok (.getfield 39, 3) := by decide +kernel
theorem kd_M_number_99 : decode kb_M_number 99 = .ok (.iload 6, 2) := by decide +kernel
theorem kd_M_number_101 : decode kb_M_number 101 = .ok (.aload_n 0, 1) := by decide +kernel
theorem kd_M_number_102 : decode kb_M_number 102 = .ok (.getfield 32, 3) := by decide +kernel
theorem kd_M_number_105 : decode kb_M_number 105 = .ok (.iload 6, 2) := by decide +kernel
theorem kd_M_number_107 : decode kb_M_number 107 = .ok (.iaload, 1) := by decide +kernel
theorem kd_M_number_108 : decode kb_M_number 108 = .ok (.aload_n 0, 1) := by decide +kernel
theorem kd_M_number_109 : decode kb_M_number 109 = .ok (.getfield 32, 3) := by decide +kernel
theorem kd_M_number_112 : decode kb_M_number 112 = .ok (.iload 4, 2) := by decide +kernel
theorem kd_M_number_114 : decode kb_M_number 114 = .ok (.iaload, 1) := by decide +kernel
theorem kd_M_number_115 : decode kb_M_number 115 = .ok (.if_icmp .ne 7, 3) := by decide +kernel
theorem kd_M_number_118 : decode kb_M_number 118 = .ok (.iload_n 3, 1) := by decide +kernel
theorem kd_M_number_119 : decode kb_M_number 119 = .ok (.goto 10, 3) := by decide +kernel
theorem kd_M_number_122 : decode kb_M_number 122 = .ok (.aload_n 0, 1) := by decide +kernel
theorem kd_M_number_123 : decode kb_M_number 123 = .ok (.getfield 39, 3) := by decide +kernel
theorem kd_M_number_126 : decode kb_M_number 126 = .ok (.iload 6, 2) := by decide +kernel
theorem kd_M_number_128 : decode kb_M_number 128 = .ok (.iaload, 1) := by decide +kernel
theorem kd_M_number_129 : decode kb_M_number 129 = .ok (.iastore, 1) := by decide +kernel
theorem kd_M_number_130 : decode kb_M_number 130 = .ok (.iinc 6 1, 3) := by decide +kernel
theorem kd_M_number_133 : decode kb_M_number 133 = .ok (.goto (-52), 3) := by decide +kernel
theorem kd_M_number_136 : decode kb_M_number 136 = .ok (.iload_n 3, 1) := by decide +kernel
theorem kd_M_number_137 : decode kb_M_number 137 = .ok (.iload 5, 2) := by decide +kernel
theorem kd_M_number_139 : decode kb_M_number 139 = .ok (.ifCond .eq 7, 3) := by decide +kernel
theorem kd_M_number_142 : decode kb_M_number 142 = .ok (.iconst 1, 1) := by decide +kernel
theorem kd_M_number_143 : decode kb_M_number 143 = .ok (.goto 4, 3) := by decide +kernel
theorem kd_M_number_146 : decode kb_M_number 146 = .ok (.iconst 0, 1) := by decide +kernel
theorem kd_M_number_147 : decode kb_M_number 147 = .ok (.iadd, 1) := by decide +kernel
theorem kd_M_number_148 : decode kb_M_number 148 = .ok (.istore_n 3, 1) := by decide +kernel
theorem kd_M_number_149 : decode kb_M_number 149 = .ok (.iinc 4 1, 3) := by decide +kernel
theorem kd_M_number_152 : decode kb_M_number 152 = .ok (.goto (-121), 3) := by decide +kernel
theorem kd_M_number_155 : decode kb_M_number 155 = .ok (.iload_n 3, 1) := by decide +kernel
theorem kd_M_number_156 : decode kb_M_number 156 = .ok (.ireturn, 1) := by decide +kernel
theorem kd_M_isFirst_0 : decode kb_M_isFirst 0 = .ok (.iconst 1, 1) := by decide +kernel
theorem kd_M_isFirst_1 : decode kb_M_isFirst 1 = .ok (.istore_n 2, 1) := by decide +kernel
theorem kd_M_isFirst_2 : decode kb_M_isFirst 2 = .ok (.iconst 0, 1) := by decide +kernel
theorem kd_M_isFirst_3 : decode kb_M_isFirst 3 = .ok (.istore_n 3, 1) := by decide +kernel
theorem kd_M_isFirst_4 : decode kb_M_isFirst 4 = .ok (.iload_n 3, 1) := by decide +kernel
theorem kd_M_isFirst_5 : decode kb_M_isFirst 5 = .ok (.iload_n 1, 1) := by decide +kernel
theorem kd_M_isFirst_6 : decode kb_M_isFirst 6 = .ok (.if_icmp .ge 34, 3) := by decide +kernel
theorem kd_M_isFirst_9 : decode kb_M_isFirst 9 = .ok (.iload_n 2, 1) := by decide +kernel
theorem kd_M_isFirst_10 : decode kb_M_isFirst 10 = .ok (.ifCond .eq 22, 3) := by decide +kernel
theorem kd_M_isFirst_13 : decode kb_M_isFirst 13 = .ok (.aload_n 0, 1) := by decide +kernel
theorem kd_M_isFirst_14 : decode kb_M_isFirst 14 = .ok (.getfield 32, 3) := by decide +kernel
theorem kd_M_isFirst_17 : decode kb_M_isFirst 17 = .ok (.iload_n 3, 1) := by decide +kernel
theorem kd_M_isFirst_18 : decode kb_M_isFirst 18 = .ok (.iaload, 1) := by decide +kernel
theorem kd_M_isFirst_19 : decode kb_M_isFirst 19 = .ok (.aload_n 0, 1) := by decide +kernel
theorem kd_M_isFirst_20 : decode kb_M_isFirst 20 = .ok (.getfield 32, 3) := by decide +kernel
theorem kd_M_isFirst_23 : decode kb_M_isFirst 23 = .ok (.iload_n 1, 1) := by decide +kernel
theorem kd_M_isFirst_24 : decode kb_M_isFirst 24 = .ok (.iaload, 1) := by decide +kernel
theorem kd_M_isFirst_25 : decode kb_M_isFirst 25 = .ok (.if_icmp .eq 7, 3) := by decide +kernel
theorem kd_M_isFirst_28 : decode kb_M_isFirst 28 = .ok (.iconst 1, 1) := by decide +kernel
theorem kd_M_isFirst_29 : decode kb_M_isFirst 29 = .ok (.goto 4, 3) := by decide +kernel
theorem kd_M_isFirst_32 : decode kb_M_isFirst 32 = .ok (.iconst 0, 1) := by decide +kernel
theorem kd_M_isFirst_33 : decode kb_M_isFirst 33 = .ok (.istore_n 2, 1) := by decide +kernel
theorem kd_M_isFirst_34 : decode kb_M_isFirst 34 = .ok (.iinc 3 1, 3) := by decide +kernel
theorem kd_M_isFirst_37 : decode kb_M_isFirst 37 = .ok (.goto (-33), 3) := by decide +kernel
theorem kd_M_isFirst_40 : decode kb_M_isFirst 40 = .ok (.iload_n 2, 1) := by decide +kernel
theorem kd_M_isFirst_41 : decode kb_M_isFirst 41 = .ok (.ireturn, 1) := by decide +kernel
theorem kd_M_addTo_0 : decode kb_M_addTo 0 = .ok (.iload_n 1, 1) := by decide +kernel
theorem kd_M_addTo_1 : decode kb_M_addTo 1 = .ok (.iconst (-1), 1) := by decide +kernel
theorem kd_M_addTo_2 : decode kb_M_addTo 2 = .ok (.if_icmp .eq 23, 3) := by decide +kernel
theorem kd_M_addTo_5 : decode kb_M_addTo 5 = .ok (.iload_n 2, 1) := by decide +kernel
theorem kd_M_addTo_6 : decode kb_M_addTo 6 = .ok (.iconst (-1), 1) := by decide +kernel
theorem kd_M_addTo_7 : decode kb_M_addTo 7 = .ok (.if_icmp .eq 18, 3) := by decide +kernel
theorem kd_M_addTo_10 : decode kb_M_addTo 10 = .ok (.aload_n 0, 1) := by decide +kernel
theorem kd_M_addTo_11 : decode kb_M_addTo 11 = .ok (.getfield 26, 3) := by decide +kernel
theorem kd_M_addTo_14 : decode kb_M_addTo 14 = .ok (.bipush 10, 2) := by decide +kernel
theorem kd_M_addTo_16 : decode kb_M_addTo 16 = .ok (.iload_n 1, 1) := by decide +kernel
theorem kd_M_addTo_17 : decode kb_M_addTo 17 = .ok (.imul, 1) := by decide +kernel
theorem kd_M_addTo_18 : decode kb_M_addTo 18 = .ok (.iload_n 2, 1) := by decide +kernel
theorem kd_M_addTo_19 : decode kb_M_addTo 19 = .ok (.iadd, 1) := by decide +kernel
theorem kd_M_addTo_20 : decode kb_M_addTo 20 = .ok (.dup2, 1) := by decide +kernel
theorem kd_M_addTo_21 : decode kb_M_addTo 21 = .ok (.laload, 1) := by decide +kernel
theorem kd_M_addTo_22 : decode kb_M_addTo 22 = .ok (.lload_n 3, 1) := by decide +kernel
theorem kd_M_addTo_23 : decode kb_M_addTo 23 = .ok (.ladd, 1) := by decide +kernel
theorem kd_M_addTo_24 : decode kb_M_addTo 24 = .ok (.lastore, 1) := by decide +kernel
theorem kd_M_addTo_25 : decode kb_M_addTo 25 = .ok (.return_, 1) := by decide +kernel
theorem kd_M_rows_0 : decode kb_M_rows 0 = .ok (.aload_n 0, 1) := by decide +kernel
theorem kd_M_rows_1 : decode kb_M_rows 1 = .ok (.invokevirtual 102, 3) := by decide +kernel
theorem kd_M_rows_4 : decode kb_M_rows 4 = .ok (.iconst 0, 1) := by decide +kernel
theorem kd_M_rows_5 : decode kb_M_rows 5 = .ok (.istore_n 3, 1) := by decide +kernel
theorem kd_M_rows_6 : decode kb_M_rows 6 = .ok (.iload_n 3, 1) := by decide +kernel
theorem kd_M_rows_7 : decode kb_M_rows 7 = .ok (.aload_n 0, 1) := by decide +kernel
theorem kd_M_rows_8 : decode kb_M_rows 8 = .ok (.getfield 80, 3) := by decide +kernel
theorem kd_M_rows_11 : decode kb_M_rows 11 = .ok (.if_icmp .ge 131, 3) := by decide +kernel
theorem kd_M_rows_14 : decode kb_M_rows 14 = .ok (.aload_n 0, 1) := by decide +kernel
theorem kd_M_rows_15 : decode kb_M_rows 15 = .ok (.getfield 39, 3) := by decide +kernel
theorem kd_M_rows_18 : decode kb_M_rows 18 = .ok (.aload_n 0, 1) := by decide +kernel
theorem kd_M_rows_19 : decode kb_M_rows 19 = .ok (.getfield 7, 3) := by decide +kernel
theorem kd_M_rows_22 : decode kb_M_rows 22 = .ok (.iload_n 3, 1) := by decide +kernel
theorem kd_M_rows_23 : decode kb_M_rows 23 = .ok (.iaload, 1) := by decide +kernel
theorem kd_M_rows_24 : decode kb_M_rows 24 = .ok (.iaload, 1) := by decide +kernel
theorem kd_M_rows_25 : decode kb_M_rows 25 = .ok (.istore 4, 2) := by decide +kernel
theorem kd_M_rows_27 : decode kb_M_rows 27 = .ok (.aload_n 0, 1) := by decide +kernel
theorem kd_M_rows_28 : decode kb_M_rows 28 = .ok (.getfield 39, 3) := by decide +kernel
theorem kd_M_rows_31 : decode kb_M_rows 31 = .ok (.aload_n 0, 1) := by decide +kernel
theorem kd_M_rows_32 : decode kb_M_rows 32 = .ok (.getfield 13, 3) := by decide +kernel
theorem kd_M_rows_35 : decode kb_M_rows 35 = .ok (.iload_n 3, 1) := by decide +kernel
theorem kd_M_rows_36 : decode kb_M_rows 36 = .ok (.iaload, 1) := by decide +kernel
theorem kd_M_rows_37 : decode kb_M_rows 37 = .ok (.iaload, 1) := by decide +kernel
theorem kd_M_rows_38 : decode kb_M_rows 38 = .ok (.istore 5, 2) := by decide +kernel
theorem kd_M_rows_40 : decode kb_M_rows 40 = .ok (.aload_n 0, 1) := by decide +kernel
theorem kd_M_rows_41 : decode kb_M_rows 41 = .ok (.getfield 35, 3) := by decide +kernel
theorem kd_M_rows_44 : decode kb_M_rows 44 = .ok (.iload_n 3, 1) := by decide +kernel
theorem kd_M_rows_45 : decode kb_M_rows 45 = .ok (.baload, 1) := by decide +kernel
theorem kd_M_rows_46 : decode kb_M_rows 46 = .ok (.ifCond .ne 90, 3) := by decide +kernel
theorem kd_M_rows_49 : decode kb_M_rows 49 = .ok (.aload_n 0, 1) := by decide +kernel
theorem kd_M_rows_50 : decode kb_M_rows 50 = .ok (.getfield 32, 3) := by decide +kernel
theorem kd_M_rows_53 : decode kb_M_rows 53 = .ok (.aload_n 0, 1) := by decide +kernel
theorem kd_M_rows_54 : decode kb_M_rows 54 = .ok (.getfield 7, 3) := by decide +kernel
theorem kd_M_rows_57 : decode kb_M_rows 57 = .ok (.iload_n 3, 1) := by decide +kernel
theorem kd_M_rows_58 : decode kb_M_rows 58 = .ok (.iaload, 1) := by decide +kernel
theorem kd_M_rows_59 : decode kb_M_rows 59 = .ok (.iaload, 1) := by decide +kernel
theorem kd_M_rows_60 : decode kb_M_rows 60 = .ok (.aload_n 0, 1) := by decide +kernel
theorem kd_M_rows_61 : decode kb_M_rows 61 = .ok (.getfield 32, 3) := by decide +kernel
theorem kd_M_rows_64 : decode kb_M_rows 64 = .ok (.aload_n 0, 1) := by decide +kernel
theorem kd_M_rows_65 : decode kb_M_rows 65 = .ok (.getfield 13, 3) := by decide +kernel
theorem kd_M_rows_68 : decode kb_M_rows 68 = .ok (.iload_n 3, 1) := by decide +kernel
theorem kd_M_rows_69 : decode kb_M_rows 69 = .ok (.iaload, 1) := by decide +kernel
theorem kd_M_rows_70 : decode kb_M_rows 70 = .ok (.iaload, 1) := by decide +kernel
theorem kd_M_rows_71 : decode kb_M_rows 71 = .ok (.if_icmp .eq 65, 3) := by decide +kernel
theorem kd_M_rows_74 : decode kb_M_rows 74 = .ok (.aload_n 0, 1) := by decide +kernel
theorem kd_M_rows_75 : decode kb_M_rows 75 = .ok (.iload 4, 2) := by decide +kernel
theorem kd_M_rows_77 : decode kb_M_rows 77 = .ok (.iload 4, 2) := by decide +kernel
theorem kd_M_rows_79 : decode kb_M_rows 79 = .ok (.aload_n 0, 1) := by decide +kernel
theorem kd_M_rows_80 : decode kb_M_rows 80 = .ok (.getfield 16, 3) := by decide +kernel
theorem kd_M_rows_83 : decode kb_M_rows 83 = .ok (.iload_n 3, 1) := by decide +kernel
theorem kd_M_rows_84 : decode kb_M_rows 84 = .ok (.iaload, 1) := by decide +kernel
theorem kd_M_rows_85 : decode kb_M_rows 85 = .ok (.i2l, 1) := by decide +kernel
theorem kd_M_rows_86 : decode kb_M_rows 86 = .ok (.invokevirtual 105, 3) := by decide +kernel
theorem kd_M_rows_89 : decode kb_M_rows 89 = .ok (.aload_n 0, 1) := by decide +kernel
theorem kd_M_rows_90 : decode kb_M_rows 90 = .ok (.iload 5, 2) := by decide +kernel
theorem kd_M_rows_92 : decode kb_M_rows 92 = .ok (.iload 5, 2) := by decide +kernel
theorem kd_M_rows_94 : decode kb_M_rows 94 = .ok (.aload_n 0, 1) := by decide +kernel
theorem kd_M_rows_95 : decode kb_M_rows 95 = .ok (.getfield 16, 3) := by decide +kernel
theorem kd_M_rows_98 : decode kb_M_rows 98 = .ok (.iload_n 3, 1) := by decide +kernel
theorem kd_M_rows_99 : decode kb_M_rows 99 = .ok (.iaload, 1) := by decide +kernel
theorem kd_M_rows_100 : decode kb_M_rows 100 = .ok (.i2l, 1) := by decide +kernel
theorem kd_M_rows_101 : decode kb_M_rows 101 = .ok (.invokevirtual 105, 3) := by decide +kernel
theorem kd_M_rows_104 : decode kb_M_rows 104 = .ok (.aload_n 0, 1) := by decide +kernel
theorem kd_M_rows_105 : decode kb_M_rows 105 = .ok (.iload 4, 2) := by decide +kernel
theorem kd_M_rows_107 : decode kb_M_rows 107 = .ok (.iload 5, 2) := by decide +kernel
theorem kd_M_rows_109 : decode kb_M_rows 109 = .ok (.aload_n 0, 1) := by decide +kernel
theorem kd_M_rows_110 : decode kb_M_rows 110 = .ok (.getfield 16, 3) := by decide +kernel
theorem kd_M_rows_113 : decode kb_M_rows 113 = .ok (.iload_n 3, 1) := by decide +kernel
theorem kd_M_rows_114 : decode kb_M_rows 114 = .ok (.iaload, 1) := by decide +kernel
theorem kd_M_rows_115 : decode kb_M_rows 115 = .ok (.ineg, 1) := by decide +kernel
theorem kd_M_rows_116 : decode kb_M_rows 116 = .ok (.i2l, 1) := by decide +kernel
theorem kd_M_rows_117 : decode kb_M_rows 117 = .ok (.invokevirtual 105, 3) := by decide +kernel
theorem kd_M_rows_120 : decode kb_M_rows 120 = .ok (.aload_n 0, 1) := by decide +kernel
theorem kd_M_rows_121 : decode kb_M_rows 121 = .ok (.iload 5, 2) := by decide +kernel
theorem kd_M_rows_123 : decode kb_M_rows 123 = .ok (.iload 4, 2) := by decide +kernel
theorem kd_M_rows_125 : decode kb_M_rows 125 = .ok (.aload_n 0, 1) := by decide +kernel
theorem kd_M_rows_126 : decode kb_M_rows 126 = .ok (.getfield 16, 3) := by decide +kernel
theorem kd_M_rows_129 : decode kb_M_rows 129 = .ok (.iload_n 3, 1) := by decide +kernel
theorem kd_M_rows_130 : decode kb_M_rows 130 = .ok (.iaload, 1) := by decide +kernel
theorem kd_M_rows_131 : decode kb_M_rows 131 = .ok (.ineg, 1) := by decide +kernel
theorem kd_M_rows_132 : decode kb_M_rows 132 = .ok (.i2l, 1) := by decide +kernel
theorem kd_M_rows_133 : decode kb_M_rows 133 = .ok (.invokevirtual 105, 3) := by decide +kernel
theorem kd_M_rows_136 : decode kb_M_rows 136 = .ok (.iinc 3 1, 3) := by decide +kernel
theorem kd_M_rows_139 : decode kb_M_rows 139 = .ok (.goto (-133), 3) := by decide +kernel
theorem kd_M_rows_142 : decode kb_M_rows 142 = .ok (.iconst 0, 1) := by decide +kernel
theorem kd_M_rows_143 : decode kb_M_rows 143 = .ok (.istore_n 3, 1) := by decide +kernel
theorem kd_M_rows_144 : decode kb_M_rows 144 = .ok (.iload_n 3, 1) := by decide +kernel
theorem kd_M_rows_145 : decode kb_M_rows 145 = .ok (.bipush 10, 2) := by decide +kernel
theorem kd_M_rows_147 : decode kb_M_rows 147 = .ok (.if_icmp .ge 22, 3) := by decide +kernel
theorem kd_M_rows_150 : decode kb_M_rows 150 = .ok (.aload_n 0, 1) := by decide +kernel
theorem kd_M_rows_151 : decode kb_M_rows 151 = .ok (.getfield 26, 3) := by decide +kernel
theorem kd_M_rows_154 : decode kb_M_rows 154 = .ok (.bipush 11, 2) := by decide +kernel
theorem kd_M_rows_156 : decode kb_M_rows 156 = .ok (.iload_n 3, 1) := by decide +kernel
theorem kd_M_rows_157 : decode kb_M_rows 157 = .ok (.imul, 1) := by decide +kernel
theorem kd_M_rows_158 : decode kb_M_rows 158 = .ok (.dup2, 1) := by decide +kernel
theorem kd_M_rows_159 : decode kb_M_rows 159 = .ok (.laload, 1) := by decide +kernel
theorem kd_M_rows_160 : decode kb_M_rows 160 = .ok (.lload_n 1, 1) := by decide +kernel
theorem kd_M_rows_161 : decode kb_M_rows 161 = .ok (.ladd, 1) := by decide +kernel
theorem kd_M_rows_162 : decode kb_M_rows 162 = .ok (.lastore, 1) := by decide +kernel
theorem kd_M_rows_163 : decode kb_M_rows 163 = .ok (.iinc 3 1, 3) := by decide +kernel
theorem kd_M_rows_166 : decode kb_M_rows 166 = .ok (.goto (-22), 3) := by decide +kernel
theorem kd_M_rows_169 : decode kb_M_rows 169 = .ok (.return_, 1) := by decide +kernel
theorem kd_M_count_0 : decode kb_M_count 0 = .ok (.aload_n 0, 1) := by decide +kernel
theorem kd_M_count_1 : decode kb_M_count 1 = .ok (.getfield 73, 3) := by decide +kernel
theorem kd_M_count_4 : decode kb_M_count 4 = .ok (.ifCond .ne 5, 3) := by decide +kernel
theorem kd_M_count_7 : decode kb_M_count 7 = .ok (.lconst 0, 1) := by decide +kernel
theorem kd_M_count_8 : decode kb_M_count 8 = .ok (.lreturn, 1) := by decide +kernel
theorem kd_M_count_9 : decode kb_M_count 9 = .ok (.aload_n 0, 1) := by decide +kernel
theorem kd_M_count_10 : decode kb_M_count 10 = .ok (.aload_n 0, 1) := by decide +kernel
theorem kd_M_count_11 : decode kb_M_count 11 = .ok (.getfield 32, 3) := by decide +kernel
theorem kd_M_count_14 : decode kb_M_count 14 = .ok (.iconst 0, 1) := by decide +kernel
theorem kd_M_count_15 : decode kb_M_count 15 = .ok (.iaload, 1) := by decide +kernel
theorem kd_M_count_16 : decode kb_M_count 16 = .ok (.iconst (-1), 1) := by decide +kernel
theorem kd_M_count_17 : decode kb_M_count 17 = .ok (.invokevirtual 109, 3) := by decide +kernel
theorem kd_M_count_20 : decode kb_M_count 20 = .ok (.istore_n 1, 1) := by decide +kernel
theorem kd_M_count_21 : decode kb_M_count 21 = .ok (.aload_n 0, 1) := by decide +kernel
theorem kd_M_count_22 : decode kb_M_count 22 = .ok (.lconst 0, 1) := by decide +kernel
theorem kd_M_count_23 : decode kb_M_count 23 = .ok (.invokevirtual 113, 3) := by decide +kernel
theorem kd_M_count_26 : decode kb_M_count 26 = .ok (.aload_n 0, 1) := by decide +kernel
theorem kd_M_count_27 : decode kb_M_count 27 = .ok (.iload_n 1, 1) := by decide +kernel
theorem kd_M_count_28 : decode kb_M_count 28 = .ok (.invokevirtual 117, 3) := by decide +kernel
theorem kd_M_count_31 : decode kb_M_count 31 = .ok (.lreturn, 1) := by decide +kernel
theorem kd_M_trees_0 : decode kb_M_trees 0 = .ok (.aload_n 0, 1) := by decide +kernel
theorem kd_M_trees_1 : decode kb_M_trees 1 = .ok (.iconst 0, 1) := by decide +kernel
theorem kd_M_trees_2 : decode kb_M_trees 2 = .ok (.putfield 69, 3) := by decide +kernel
theorem kd_M_trees_5 : decode kb_M_trees 5 = .ok (.aload_n 0, 1) := by decide +kernel
theorem kd_M_trees_6 : decode kb_M_trees 6 = .ok (.invokevirtual 121, 3) := by decide +kernel
theorem kd_M_trees_9 : decode kb_M_trees 9 = .ok (.aload_n 0, 1) := by decide +kernel
theorem kd_M_trees_10 : decode kb_M_trees 10 = .ok (.invokevirtual 124, 3) := by decide +kernel
theorem kd_M_trees_13 : decode kb_M_trees 13 = .ok (.aload_n 0, 1) := by decide +kernel
theorem kd_M_trees_14 : decode kb_M_trees 14 = .ok (.invokevirtual 127, 3) := by decide +kernel
theorem kd_M_trees_17 : decode kb_M_trees 17 = .ok (.lreturn, 1) := by decide +kernel
theorem kd_M_through_0 : decode kb_M_through 0 = .ok (.aload_n 0, 1) := by decide +kernel
theorem kd_M_through_1 : decode kb_M_through 1 = .ok (.iconst 0, 1) := by decide +kernel
theorem kd_M_through_2 : decode kb_M_through 2 = .ok (.putfield 69, 3) := by decide +kernel
theorem kd_M_through_5 : decode kb_M_through 5 = .ok (.iload_n 1, 1) := by decide +kernel
theorem kd_M_through_6 : decode kb_M_through 6 = .ok (.ifCond .lt 11, 3) := by decide +kernel
theorem kd_M_through_9 : decode kb_M_through 9 = .ok (.iload_n 1, 1) := by decide +kernel
theorem kd_M_through_10 : decode kb_M_through 10 = .ok (.aload_n 0, 1) := by decide +kernel
theorem kd_M_through_11 : decode kb_M_through 11 = .ok (.getfield 80, 3) := by decide +kernel
theorem kd_M_through_14 : decode kb_M_through 14 = .ok (.if_icmp .lt 7, 3) := by decide +kernel
theorem kd_M_through_17 : decode kb_M_through 17 = .ok (.ldc2_w 131, 3) := by decide +kernel
theorem kd_M_through_20 : decode kb_M_through 20 = .ok (.lreturn, 1) := by decide +kernel
theorem kd_M_through_21 : decode kb_M_through 21 = .ok (.aload_n 0, 1) := by decide +kernel
theorem kd_M_through_22 : decode kb_M_through 22 = .ok (.invokevirtual 133, 3) := by decide +kernel
theorem kd_M_through_25 : decode kb_M_through 25 = .ok (.lstore_n 2, 1) := by decide +kernel
theorem kd_M_through_26 : decode kb_M_through 26 = .ok (.aload_n 0, 1) := by decide +kernel
theorem kd_M_through_27 : decode kb_M_through 27 = .ok (.getfield 35, 3) := by decide +kernel
theorem kd_M_through_30 : decode kb_M_through 30 = .ok (.iload_n 1, 1) := by decide +kernel
theorem kd_M_through_31 : decode kb_M_through 31 = .ok (.iconst 1, 1) := by decide +kernel
theorem kd_M_through_32 : decode kb_M_through 32 = .ok (.bastore, 1) := by decide +kernel
theorem kd_M_through_33 : decode kb_M_through 33 = .ok (.lload_n 2, 1) := by decide +kernel
theorem kd_M_through_34 : decode kb_M_through 34 = .ok (.aload_n 0, 1) := by decide +kernel
theorem kd_M_through_35 : decode kb_M_through 35 = .ok (.invokevirtual 127, 3) := by decide +kernel
theorem kd_M_through_38 : decode kb_M_through 38 = .ok (.lsub, 1) := by decide +kernel
theorem kd_M_through_39 : decode kb_M_through 39 = .ok (.lreturn, 1) := by decide +kernel
theorem kd_M_rooted_0 : decode kb_M_rooted 0 = .ok (.aload_n 0, 1) := by decide +kernel
theorem kd_M_rooted_1 : decode kb_M_rooted 1 = .ok (.iconst 0, 1) := by decide +kernel
theorem kd_M_rooted_2 : decode kb_M_rooted 2 = .ok (.putfield 69, 3) := by decide +kernel
theorem kd_M_rooted_5 : decode kb_M_rooted 5 = .ok (.aload_n 0, 1) := by decide +kernel
theorem kd_M_rooted_6 : decode kb_M_rooted 6 = .ok (.iload_n 1, 1) := by decide +kernel
theorem kd_M_rooted_7 : decode kb_M_rooted 7 = .ok (.invokevirtual 76, 3) := by decide +kernel
theorem kd_M_rooted_10 : decode kb_M_rooted 10 = .ok (.ifCond .ne 7, 3) := by decide +kernel
theorem kd_M_rooted_13 : decode kb_M_rooted 13 = .ok (.ldc2_w 131, 3) := by decide +kernel
theorem kd_M_rooted_16 : decode kb_M_rooted 16 = .ok (.lreturn, 1) := by decide +kernel
theorem kd_M_rooted_17 : decode kb_M_rooted 17 = .ok (.aload_n 0, 1) := by decide +kernel
theorem kd_M_rooted_18 : decode kb_M_rooted 18 = .ok (.invokevirtual 121, 3) := by decide +kernel
theorem kd_M_rooted_21 : decode kb_M_rooted 21 = .ok (.aload_n 0, 1) := by decide +kernel
theorem kd_M_rooted_22 : decode kb_M_rooted 22 = .ok (.iload_n 1, 1) := by decide +kernel
theorem kd_M_rooted_23 : decode kb_M_rooted 23 = .ok (.iconst (-1), 1) := by decide +kernel
theorem kd_M_rooted_24 : decode kb_M_rooted 24 = .ok (.invokevirtual 109, 3) := by decide +kernel
theorem kd_M_rooted_27 : decode kb_M_rooted 27 = .ok (.istore_n 2, 1) := by decide +kernel
theorem kd_M_rooted_28 : decode kb_M_rooted 28 = .ok (.aload_n 0, 1) := by decide +kernel
theorem kd_M_rooted_29 : decode kb_M_rooted 29 = .ok (.invokevirtual 102, 3) := by decide +kernel
theorem kd_M_rooted_32 : decode kb_M_rooted 32 = .ok (.iconst 0, 1) := by decide +kernel
theorem kd_M_rooted_33 : decode kb_M_rooted 33 = .ok (.istore_n 3, 1) := by decide +kernel
theorem kd_M_rooted_34 : decode kb_M_rooted 34 = .ok (.iload_n 3, 1) := by decide +kernel
theorem kd_M_rooted_35 : decode kb_M_rooted 35 = .ok (.aload_n 0, 1) := by decide +kernel
theorem kd_M_rooted_36 : decode kb_M_rooted 36 = .ok (.getfield 80, 3) := by decide +kernel
theorem kd_M_rooted_39 : decode kb_M_rooted 39 = .ok (.if_icmp .ge 91, 3) := by decide +kernel
theorem kd_M_rooted_42 : decode kb_M_rooted 42 = .ok (.aload_n 0, 1) := by decide +kernel
theorem kd_M_rooted_43 : decode kb_M_rooted 43 = .ok (.getfield 7, 3) := by decide +kernel
theorem kd_M_rooted_46 : decode kb_M_rooted 46 = .ok (.iload_n 3, 1) := by decide +kernel
theorem kd_M_rooted_47 : decode kb_M_rooted 47 = .ok (.iaload, 1) := by decide +kernel
theorem kd_M_rooted_48 : decode kb_M_rooted 48 = .ok (.aload_n 0, 1) := by decide +kernel
theorem kd_M_rooted_49 : decode kb_M_rooted 49 = .ok (.getfield 13, 3) := by decide +kernel
theorem kd_M_rooted_52 : decode kb_M_rooted 52 = .ok (.iload_n 3, 1) := by decide +kernel
theorem kd_M_rooted_53 : decode kb_M_rooted 53 = .ok (.iaload, 1) := by decide +kernel
theorem kd_M_rooted_54 : decode kb_M_rooted 54 = .ok (.if_icmp .eq 70, 3) := by decide +kernel
theorem kd_M_rooted_57 : decode kb_M_rooted 57 = .ok (.aload_n 0, 1) := by decide +kernel
theorem kd_M_rooted_58 : decode kb_M_rooted 58 = .ok (.aload_n 0, 1) := by decide +kernel
theorem kd_M_rooted_59 : decode kb_M_rooted 59 = .ok (.getfield 39, 3) := by decide +kernel
theorem kd_M_rooted_62 : decode kb_M_rooted 62 = .ok (.aload_n 0, 1) := by decide +kernel
theorem kd_M_rooted_63 : decode kb_M_rooted 63 = .ok (.getfield 7, 3) := by decide +kernel
theorem kd_M_rooted_66 : decode kb_M_rooted 66 = .ok (.iload_n 3, 1) := by decide +kernel
theorem kd_M_rooted_67 : decode kb_M_rooted 67 = .ok (.iaload, 1) := by decide +kernel
theorem kd_M_rooted_68 : decode kb_M_rooted 68 = .ok (.iaload, 1) := by decide +kernel
theorem kd_M_rooted_69 : decode kb_M_rooted 69 = .ok (.aload_n 0, 1) := by decide +kernel
theorem kd_M_rooted_70 : decode kb_M_rooted 70 = .ok (.getfield 39, 3) := by decide +kernel
theorem kd_M_rooted_73 : decode kb_M_rooted 73 = .ok (.aload_n 0, 1) := by decide +kernel
theorem kd_M_rooted_74 : decode kb_M_rooted 74 = .ok (.getfield 7, 3) := by decide +kernel
theorem kd_M_rooted_77 : decode kb_M_rooted 77 = .ok (.iload_n 3, 1) := by decide +kernel
theorem kd_M_rooted_78 : decode kb_M_rooted 78 = .ok (.iaload, 1) := by decide +kernel
theorem kd_M_rooted_79 : decode kb_M_rooted 79 = .ok (.iaload, 1) := by decide +kernel
theorem kd_M_rooted_80 : decode kb_M_rooted 80 = .ok (.aload_n 0, 1) := by decide +kernel
theorem kd_M_rooted_81 : decode kb_M_rooted 81 = .ok (.getfield 16, 3) := by decide +kernel
theorem kd_M_rooted_84 : decode kb_M_rooted 84 = .ok (.iload_n 3, 1) := by decide +kernel
theorem kd_M_rooted_85 : decode kb_M_rooted 85 = .ok (.iaload, 1) := by decide +kernel
theorem kd_M_rooted_86 : decode kb_M_rooted 86 = .ok (.i2l, 1) := by decide +kernel
theorem kd_M_rooted_87 : decode kb_M_rooted 87 = .ok (.invokevirtual 105, 3) := by decide +kernel
theorem kd_M_rooted_90 : decode kb_M_rooted 90 = .ok (.aload_n 0, 1) := by decide +kernel
theorem kd_M_rooted_91 : decode kb_M_rooted 91 = .ok (.aload_n 0, 1) := by decide +kernel
theorem kd_M_rooted_92 : decode kb_M_rooted 92 = .ok (.getfield 39, 3) := by decide +kernel
theorem kd_M_rooted_95 : decode kb_M_rooted 95 = .ok (.aload_n 0, 1) := by decide +kernel
theorem kd_M_rooted_96 : decode kb_M_rooted 96 = .ok (.getfield 7, 3) := by decide +kernel
theorem kd_M_rooted_99 : decode kb_M_rooted 99 = .ok (.iload_n 3, 1) := by decide +kernel
theorem kd_M_rooted_100 : decode kb_M_rooted 100 = .ok (.iaload, 1) := by decide +kernel
theorem kd_M_rooted_101 : decode kb_M_rooted 101 = .ok (.iaload, 1) := by decide +kernel
theorem kd_M_rooted_102 : decode kb_M_rooted 102 = .ok (.aload_n 0, 1) := by decide +kernel
theorem kd_M_rooted_103 : decode kb_M_rooted 103 = .ok (.getfield 39, 3) := by decide +kernel
theorem kd_M_rooted_106 : decode kb_M_rooted 106 = .ok (.aload_n 0, 1) := by decide +kernel
theorem kd_M_rooted_107 : decode kb_M_rooted 107 = .ok (.getfield 13, 3) := by decide +kernel
theorem kd_M_rooted_110 : decode kb_M_rooted 110 = .ok (.iload_n 3, 1) := by decide +kernel
theorem kd_M_rooted_111 : decode kb_M_rooted 111 = .ok (.iaload, 1) := by decide +kernel
theorem kd_M_rooted_112 : decode kb_M_rooted 112 = .ok (.iaload, 1) := by decide +kernel
theorem kd_M_rooted_113 : decode kb_M_rooted 113 = .ok (.aload_n 0, 1) := by decide +kernel
theorem kd_M_rooted_114 : decode kb_M_rooted 114 = .ok (.getfield 16, 3) := by decide +kernel
theorem kd_M_rooted_117 : decode kb_M_rooted 117 = .ok (.iload_n 3, 1) := by decide +kernel
theorem kd_M_rooted_118 : decode kb_M_rooted 118 = .ok (.iaload, 1) := by decide +kernel
theorem kd_M_rooted_119 : decode kb_M_rooted 119 = .ok (.ineg, 1) := by decide +kernel
theorem kd_M_rooted_120 : decode kb_M_rooted 120 = .ok (.i2l, 1) := by decide +kernel
theorem kd_M_rooted_121 : decode kb_M_rooted 121 = .ok (.invokevirtual 105, 3) := by decide +kernel
theorem kd_M_rooted_124 : decode kb_M_rooted 124 = .ok (.iinc 3 1, 3) := by decide +kernel
theorem kd_M_rooted_127 : decode kb_M_rooted 127 = .ok (.goto (-93), 3) := by decide +kernel
theorem kd_M_rooted_130 : decode kb_M_rooted 130 = .ok (.aload_n 0, 1) := by decide +kernel
theorem kd_M_rooted_131 : decode kb_M_rooted 131 = .ok (.iload_n 2, 1) := by decide +kernel
theorem kd_M_rooted_132 : decode kb_M_rooted 132 = .ok (.invokevirtual 117, 3) := by decide +kernel
theorem kd_M_rooted_135 : decode kb_M_rooted 135 = .ok (.lreturn, 1) := by decide +kernel
theorem kd_M_forests_0 : decode kb_M_forests 0 = .ok (.aload_n 0, 1) := by decide +kernel
theorem kd_M_forests_1 : decode kb_M_forests 1 = .ok (.iconst 0, 1) := by decide +kernel
theorem kd_M_forests_2 : decode kb_M_forests 2 = .ok (.putfield 69, 3) := by decide +kernel
theorem kd_M_forests_5 : decode kb_M_forests 5 = .ok (.aload_n 0, 1) := by decide +kernel
theorem kd_M_forests_6 : decode kb_M_forests 6 = .ok (.invokevirtual 121, 3) := by decide +kernel
theorem kd_M_forests_9 : decode kb_M_forests 9 = .ok (.aload_n 0, 1) := by decide +kernel
theorem kd_M_forests_10 : decode kb_M_forests 10 = .ok (.invokevirtual 124, 3) := by decide +kernel
theorem kd_M_forests_13 : decode kb_M_forests 13 = .ok (.aload_n 0, 1) := by decide +kernel
theorem kd_M_forests_14 : decode kb_M_forests 14 = .ok (.iconst (-1), 1) := by decide +kernel
theorem kd_M_forests_15 : decode kb_M_forests 15 = .ok (.iconst (-1), 1) := by decide +kernel
theorem kd_M_forests_16 : decode kb_M_forests 16 = .ok (.invokevirtual 109, 3) := by decide +kernel
theorem kd_M_forests_19 : decode kb_M_forests 19 = .ok (.istore_n 1, 1) := by decide +kernel
theorem kd_M_forests_20 : decode kb_M_forests 20 = .ok (.aload_n 0, 1) := by decide +kernel
theorem kd_M_forests_21 : decode kb_M_forests 21 = .ok (.lconst 1, 1) := by decide +kernel
theorem kd_M_forests_22 : decode kb_M_forests 22 = .ok (.invokevirtual 113, 3) := by decide +kernel
theorem kd_M_forests_25 : decode kb_M_forests 25 = .ok (.aload_n 0, 1) := by decide +kernel
theorem kd_M_forests_26 : decode kb_M_forests 26 = .ok (.iload_n 1, 1) := by decide +kernel
theorem kd_M_forests_27 : decode kb_M_forests 27 = .ok (.invokevirtual 117, 3) := by decide +kernel
theorem kd_M_forests_30 : decode kb_M_forests 30 = .ok (.lreturn, 1) := by decide +kernel
theorem kd_M_apart_0 : decode kb_M_apart 0 = .ok (.aload_n 0, 1) := by decide +kernel
theorem kd_M_apart_1 : decode kb_M_apart 1 = .ok (.iconst 0, 1) := by decide +kernel
theorem kd_M_apart_2 : decode kb_M_apart 2 = .ok (.putfield 69, 3) := by decide +kernel
theorem kd_M_apart_5 : decode kb_M_apart 5 = .ok (.aload_n 0, 1) := by decide +kernel
theorem kd_M_apart_6 : decode kb_M_apart 6 = .ok (.iload_n 1, 1) := by decide +kernel
theorem kd_M_apart_7 : decode kb_M_apart 7 = .ok (.invokevirtual 76, 3) := by decide +kernel
theorem kd_M_apart_10 : decode kb_M_apart 10 = .ok (.ifCond .eq 16, 3) := by decide +kernel
theorem kd_M_apart_13 : decode kb_M_apart 13 = .ok (.aload_n 0, 1) := by decide +kernel
theorem kd_M_apart_14 : decode kb_M_apart 14 = .ok (.iload_n 2, 1) := by decide +kernel
theorem kd_M_apart_15 : decode kb_M_apart 15 = .ok (.invokevirtual 76, 3) := by decide +kernel
theorem kd_M_apart_18 : decode kb_M_apart 18 = .ok (.ifCond .eq 8, 3) := by decide +kernel
theorem kd_M_apart_21 : decode kb_M_apart 21 = .ok (.iload_n 1, 1) := by decide +kernel
theorem kd_M_apart_22 : decode kb_M_apart 22 = .ok (.iload_n 2, 1) := by decide +kernel
theorem kd_M_apart_23 : decode kb_M_apart 23 = .ok (.if_icmp .ne 5, 3) := by decide +kernel
theorem kd_M_apart_26 : decode kb_M_apart 26 = .ok (.lconst 0, 1) := by decide +kernel
theorem kd_M_apart_27 : decode kb_M_apart 27 = .ok (.lreturn, 1) := by decide +kernel
theorem kd_M_apart_28 : decode kb_M_apart 28 = .ok (.aload_n 0, 1) := by decide +kernel
theorem kd_M_apart_29 : decode kb_M_apart 29 = .ok (.invokevirtual 121, 3) := by decide +kernel
theorem kd_M_apart_32 : decode kb_M_apart 32 = .ok (.aload_n 0, 1) := by decide +kernel
theorem kd_M_apart_33 : decode kb_M_apart 33 = .ok (.invokevirtual 124, 3) := by decide +kernel
theorem kd_M_apart_36 : decode kb_M_apart 36 = .ok (.aload_n 0, 1) := by decide +kernel
theorem kd_M_apart_37 : decode kb_M_apart 37 = .ok (.iload_n 1, 1) := by decide +kernel
theorem kd_M_apart_38 : decode kb_M_apart 38 = .ok (.iload_n 2, 1) := by decide +kernel
theorem kd_M_apart_39 : decode kb_M_apart 39 = .ok (.invokevirtual 109, 3) := by decide +kernel
theorem kd_M_apart_42 : decode kb_M_apart 42 = .ok (.istore_n 3, 1) := by decide +kernel
theorem kd_M_apart_43 : decode kb_M_apart 43 = .ok (.aload_n 0, 1) := by decide +kernel
theorem kd_M_apart_44 : decode kb_M_apart 44 = .ok (.lconst 0, 1) := by decide +kernel
theorem kd_M_apart_45 : decode kb_M_apart 45 = .ok (.invokevirtual 113, 3) := by decide +kernel
theorem kd_M_apart_48 : decode kb_M_apart 48 = .ok (.aload_n 0, 1) := by decide +kernel
theorem kd_M_apart_49 : decode kb_M_apart 49 = .ok (.iload_n 3, 1) := by decide +kernel
theorem kd_M_apart_50 : decode kb_M_apart 50 = .ok (.invokevirtual 117, 3) := by decide +kernel
theorem kd_M_apart_53 : decode kb_M_apart 53 = .ok (.lreturn, 1) := by decide +kernel
theorem kd_M_gcd_0 : decode kb_M_gcd 0 = .ok (.lload_n 0, 1) := by decide +kernel
theorem kd_M_gcd_1 : decode kb_M_gcd 1 = .ok (.lstore 4, 2) := by decide +kernel
theorem kd_M_gcd_3 : decode kb_M_gcd 3 = .ok (.lload_n 2, 1) := by decide +kernel
theorem kd_M_gcd_4 : decode kb_M_gcd 4 = .ok (.lstore 6, 2) := by decide +kernel
theorem kd_M_gcd_6 : decode kb_M_gcd 6 = .ok (.lload 6, 2) := by decide +kernel
theorem kd_M_gcd_8 : decode kb_M_gcd 8 = .ok (.lconst 0, 1) := by decide +kernel
theorem kd_M_gcd_9 : decode kb_M_gcd 9 = .ok (.lcmp, 1) := by decide +kernel
theorem kd_M_gcd_10 : decode kb_M_gcd 10 = .ok (.ifCond .eq 21, 3) := by decide +kernel
theorem kd_M_gcd_13 : decode kb_M_gcd 13 = .ok (.lload 4, 2) := by decide +kernel
theorem kd_M_gcd_15 : decode kb_M_gcd 15 = .ok (.lload 6, 2) := by decide +kernel
theorem kd_M_gcd_17 : decode kb_M_gcd 17 = .ok (.lrem, 1) := by decide +kernel
theorem kd_M_gcd_18 : decode kb_M_gcd 18 = .ok (.lstore 8, 2) := by decide +kernel
theorem kd_M_gcd_20 : decode kb_M_gcd 20 = .ok (.lload 6, 2) := by decide +kernel
theorem kd_M_gcd_22 : decode kb_M_gcd 22 = .ok (.lstore 4, 2) := by decide +kernel
theorem kd_M_gcd_24 : decode kb_M_gcd 24 = .ok (.lload 8, 2) := by decide +kernel
theorem kd_M_gcd_26 : decode kb_M_gcd 26 = .ok (.lstore 6, 2) := by decide +kernel
theorem kd_M_gcd_28 : decode kb_M_gcd 28 = .ok (.goto (-22), 3) := by decide +kernel
theorem kd_M_gcd_31 : decode kb_M_gcd 31 = .ok (.lload 4, 2) := by decide +kernel
theorem kd_M_gcd_33 : decode kb_M_gcd 33 = .ok (.lreturn, 1) := by decide +kernel
theorem kd_M_resistance_0 : decode kb_M_resistance 0 = .ok (.aload_n 0, 1) := by decide +kernel
theorem kd_M_resistance_1 : decode kb_M_resistance 1 = .ok (.iconst 0, 1) := by decide +kernel
theorem kd_M_resistance_2 : decode kb_M_resistance 2 = .ok (.putfield 69, 3) := by decide +kernel
theorem kd_M_resistance_5 : decode kb_M_resistance 5 = .ok (.aload_n 0, 1) := by decide +kernel
theorem kd_M_resistance_6 : decode kb_M_resistance 6 = .ok (.iload_n 1, 1) := by decide +kernel
theorem kd_M_resistance_7 : decode kb_M_resistance 7 = .ok (.invokevirtual 76, 3) := by decide +kernel
theorem kd_M_resistance_10 : decode kb_M_resistance 10 = .ok (.ifCond .eq 29, 3) := by decide +kernel
theorem kd_M_resistance_13 : decode kb_M_resistance 13 = .ok (.aload_n 0, 1) := by decide +kernel
theorem kd_M_resistance_14 : decode kb_M_resistance 14 = .ok (.iload_n 2, 1) := by decide +kernel
theorem kd_M_resistance_15 : decode kb_M_resistance 15 = .ok (.invokevirtual 76, 3) := by decide +kernel
theorem kd_M_resistance_18 : decode kb_M_resistance 18 = .ok (.ifCond .eq 21, 3) := by decide +kernel
theorem kd_M_resistance_21 : decode kb_M_resistance 21 = .ok (.iload_n 3, 1) := by decide +kernel
theorem kd_M_resistance_22 : decode kb_M_resistance 22 = .ok (.ifCond .lt 17, 3) := by decide +kernel
theorem kd_M_resistance_25 : decode kb_M_resistance 25 = .ok (.iload_n 3, 1) := by decide +kernel
theorem kd_M_resistance_26 : decode kb_M_resistance 26 = .ok (.iconst 1, 1) := by decide +kernel
theorem kd_M_resistance_27 : decode kb_M_resistance 27 = .ok (.if_icmp .gt 12, 3) := by decide +kernel
theorem kd_M_resistance_30 : decode kb_M_resistance 30 = .ok (.aload_n 0, 1) := by decide +kernel
theorem kd_M_resistance_31 : decode kb_M_resistance 31 = .ok (.invokevirtual 133, 3) := by decide +kernel
theorem kd_M_resistance_34 : decode kb_M_resistance 34 = .ok (.lconst 0, 1) := by decide +kernel
theorem kd_M_resistance_35 : decode kb_M_resistance 35 = .ok (.lcmp, 1) := by decide +kernel
theorem kd_M_resistance_36 : decode kb_M_resistance 36 = .ok (.ifCond .ne 7, 3) := by decide +kernel
theorem kd_M_resistance_39 : decode kb_M_resistance 39 = .ok (.ldc2_w 131, 3) := by decide +kernel
theorem kd_M_resistance_42 : decode kb_M_resistance 42 = .ok (.lreturn, 1) := by decide +kernel
theorem kd_M_resistance_43 : decode kb_M_resistance 43 = .ok (.aload_n 0, 1) := by decide +kernel
theorem kd_M_resistance_44 : decode kb_M_resistance 44 = .ok (.iload_n 1, 1) := by decide +kernel
theorem kd_M_resistance_45 : decode kb_M_resistance 45 = .ok (.iload_n 2, 1) := by decide +kernel
theorem kd_M_resistance_46 : decode kb_M_resistance 46 = .ok (.invokevirtual 136, 3) := by decide +kernel
theorem kd_M_resistance_49 : decode kb_M_resistance 49 = .ok (.lstore 4, 2) := by decide +kernel
theorem kd_M_resistance_51 : decode kb_M_resistance 51 = .ok (.aload_n 0, 1) := by decide +kernel
theorem kd_M_resistance_52 : decode kb_M_resistance 52 = .ok (.invokevirtual 133, 3) := by decide +kernel
theorem kd_M_resistance_55 : decode kb_M_resistance 55 = .ok (.lstore 6, 2) := by decide +kernel
theorem kd_M_resistance_57 : decode kb_M_resistance 57 = .ok (.lload 4, 2) := by decide +kernel
theorem kd_M_resistance_59 : decode kb_M_resistance 59 = .ok (.lload 6, 2) := by decide +kernel
theorem kd_M_resistance_61 : decode kb_M_resistance 61 = .ok (.invokestatic 140, 3) := by decide +kernel
theorem kd_M_resistance_64 : decode kb_M_resistance 64 = .ok (.lstore 8, 2) := by decide +kernel
theorem kd_M_resistance_66 : decode kb_M_resistance 66 = .ok (.iload_n 3, 1) := by decide +kernel
theorem kd_M_resistance_67 : decode kb_M_resistance 67 = .ok (.ifCond .ne 11, 3) := by decide +kernel
theorem kd_M_resistance_70 : decode kb_M_resistance 70 = .ok (.lload 4, 2) := by decide +kernel
theorem kd_M_resistance_72 : decode kb_M_resistance 72 = .ok (.lload 8, 2) := by decide +kernel
theorem kd_M_resistance_74 : decode kb_M_resistance 74 = .ok (.ldiv, 1) := by decide +kernel
theorem kd_M_resistance_75 : decode kb_M_resistance 75 = .ok (.goto 8, 3) := by decide +kernel
theorem kd_M_resistance_78 : decode kb_M_resistance 78 = .ok (.lload 6, 2) := by decide +kernel
theorem kd_M_resistance_80 : decode kb_M_resistance 80 = .ok (.lload 8, 2) := by decide +kernel
theorem kd_M_resistance_82 : decode kb_M_resistance 82 = .ok (.ldiv, 1) := by decide +kernel
theorem kd_M_resistance_83 : decode kb_M_resistance 83 = .ok (.lreturn, 1) := by decide +kernel
theorem kd_M_tours_0 : decode kb_M_tours 0 = .ok (.aload_n 0, 1) := by decide +kernel
theorem kd_M_tours_1 : decode kb_M_tours 1 = .ok (.iconst 0, 1) := by decide +kernel
theorem kd_M_tours_2 : decode kb_M_tours 2 = .ok (.putfield 69, 3) := by decide +kernel
theorem kd_M_tours_5 : decode kb_M_tours 5 = .ok (.aload_n 0, 1) := by decide +kernel
theorem kd_M_tours_6 : decode kb_M_tours 6 = .ok (.getfield 80, 3) := by decide +kernel
theorem kd_M_tours_9 : decode kb_M_tours 9 = .ok (.ifCond .ne 5, 3) := by decide +kernel
theorem kd_M_tours_12 : decode kb_M_tours 12 = .ok (.lconst 0, 1) := by decide +kernel
theorem kd_M_tours_13 : decode kb_M_tours 13 = .ok (.lreturn, 1) := by decide +kernel
theorem kd_M_tours_14 : decode kb_M_tours 14 = .ok (.aload_n 0, 1) := by decide +kernel
theorem kd_M_tours_15 : decode kb_M_tours 15 = .ok (.invokevirtual 121, 3) := by decide +kernel
theorem kd_M_tours_18 : decode kb_M_tours 18 = .ok (.iconst 0, 1) := by decide +kernel
theorem kd_M_tours_19 : decode kb_M_tours 19 = .ok (.istore_n 1, 1) := by decide +kernel
theorem kd_M_tours_20 : decode kb_M_tours 20 = .ok (.iload_n 1, 1) := by decide +kernel
theorem kd_M_tours_21 : decode kb_M_tours 21 = .ok (.aload_n 0, 1) := by decide +kernel
theorem kd_M_tours_22 : decode kb_M_tours 22 = .ok (.getfield 80, 3) := by decide +kernel
theorem kd_M_tours_25 : decode kb_M_tours 25 = .ok (.if_icmp .ge 26, 3) := by decide +kernel
theorem kd_M_tours_28 : decode kb_M_tours 28 = .ok (.aload_n 0, 1) := by decide +kernel
theorem kd_M_tours_29 : decode kb_M_tours 29 = .ok (.aload_n 0, 1) := by decide +kernel
theorem kd_M_tours_30 : decode kb_M_tours 30 = .ok (.getfield 7, 3) := by decide +kernel
theorem kd_M_tours_33 : decode kb_M_tours 33 = .ok (.iload_n 1, 1) := by decide +kernel
theorem kd_M_tours_34 : decode kb_M_tours 34 = .ok (.iaload, 1) := by decide +kernel
theorem kd_M_tours_35 : decode kb_M_tours 35 = .ok (.aload_n 0, 1) := by decide +kernel
theorem kd_M_tours_36 : decode kb_M_tours 36 = .ok (.getfield 13, 3) := by decide +kernel
theorem kd_M_tours_39 : decode kb_M_tours 39 = .ok (.iload_n 1, 1) := by decide +kernel
theorem kd_M_tours_40 : decode kb_M_tours 40 = .ok (.iaload, 1) := by decide +kernel
theorem kd_M_tours_41 : decode kb_M_tours 41 = .ok (.invokevirtual 144, 3) := by decide +kernel
theorem kd_M_tours_44 : decode kb_M_tours 44 = .ok (.istore_n 2, 1) := by decide +kernel
theorem kd_M_tours_45 : decode kb_M_tours 45 = .ok (.iinc 1 1, 3) := by decide +kernel
theorem kd_M_tours_48 : decode kb_M_tours 48 = .ok (.goto (-28), 3) := by decide +kernel
theorem kd_M_tours_51 : decode kb_M_tours 51 = .ok (.aload_n 0, 1) := by decide +kernel
theorem kd_M_tours_52 : decode kb_M_tours 52 = .ok (.getfield 7, 3) := by decide +kernel
theorem kd_M_tours_55 : decode kb_M_tours 55 = .ok (.iconst 0, 1) := by decide +kernel
theorem kd_M_tours_56 : decode kb_M_tours 56 = .ok (.iaload, 1) := by decide +kernel
theorem kd_M_tours_57 : decode kb_M_tours 57 = .ok (.istore_n 1, 1) := by decide +kernel
theorem kd_M_tours_58 : decode kb_M_tours 58 = .ok (.lconst 1, 1) := by decide +kernel
theorem kd_M_tours_59 : decode kb_M_tours 59 = .ok (.lstore_n 2, 1) := by decide +kernel
theorem kd_M_tours_60 : decode kb_M_tours 60 = .ok (.iconst 0, 1) := by decide +kernel
theorem kd_M_tours_61 : decode kb_M_tours 61 = .ok (.istore 4, 2) := by decide +kernel
theorem kd_M_tours_63 : decode kb_M_tours 63 = .ok (.iload 4, 2) := by decide +kernel
theorem kd_M_tours_65 : decode kb_M_tours 65 = .ok (.aload_n 0, 1) := by decide +kernel
theorem kd_M_tours_66 : decode kb_M_tours 66 = .ok (.getfield 73, 3) := by decide +kernel
theorem kd_M_tours_69 : decode kb_M_tours 69 = .ok (.if_icmp .ge 147, 3) := by decide +kernel
theorem kd_M_tours_72 : decode kb_M_tours 72 = .ok (.iconst 0, 1) := by decide +kernel
theorem kd_M_tours_73 : decode kb_M_tours 73 = .ok (.istore 5, 2) := by decide +kernel
theorem kd_M_tours_75 : decode kb_M_tours 75 = .ok (.iconst 0, 1) := by decide +kernel
theorem kd_M_tours_76 : decode kb_M_tours 76 = .ok (.istore 6, 2) := by decide +kernel
theorem kd_M_tours_78 : decode kb_M_tours 78 = .ok (.iconst 0, 1) := by decide +kernel
theorem kd_M_tours_79 : decode kb_M_tours 79 = .ok (.istore 7, 2) := by decide +kernel
theorem kd_M_tours_81 : decode kb_M_tours 81 = .ok (.iload 7, 2) := by decide +kernel
theorem kd_M_tours_83 : decode kb_M_tours 83 = .ok (.aload_n 0, 1) := by decide +kernel
theorem kd_M_tours_84 : decode kb_M_tours 84 = .ok (.getfield 80, 3) := by decide +kernel
theorem kd_M_tours_87 : decode kb_M_tours 87 = .ok (.if_icmp .ge 65, 3) := by decide +kernel
theorem kd_M_tours_90 : decode kb_M_tours 90 = .ok (.iload 6, 2) := by decide +kernel
theorem kd_M_tours_92 : decode kb_M_tours 92 = .ok (.aload_n 0, 1) := by decide +kernel
theorem kd_M_tours_93 : decode kb_M_tours 93 = .ok (.getfield 7, 3) := by decide +kernel
theorem kd_M_tours_96 : decode kb_M_tours 96 = .ok (.iload 7, 2) := by decide +kernel
theorem kd_M_tours_98 : decode kb_M_tours 98 = .ok (.iaload, 1) := by decide +kernel
theorem kd_M_tours_99 : decode kb_M_tours 99 = .ok (.iload 4, 2) := by decide +kernel
theorem kd_M_tours_101 : decode kb_M_tours 101 = .ok (.if_icmp .ne 13, 3) := by decide +kernel
theorem kd_M_tours_104 : decode kb_M_tours 104 = .ok (.aload_n 0, 1) := by decide +kernel
theorem kd_M_tours_105 : decode kb_M_tours 105 = .ok (.getfield 16, 3) := by decide +kernel
theorem kd_M_tours_108 : decode kb_M_tours 108 = .ok (.iload 7, 2) := by decide +kernel
theorem kd_M_tours_110 : decode kb_M_tours 110 = .ok (.iaload, 1) := by decide +kernel
theorem kd_M_tours_111 : decode kb_M_tours 111 = .ok (.goto 4, 3) := by decide +kernel
theorem kd_M_tours_114 : decode kb_M_tours 114 = .ok (.iconst 0, 1) := by decide +kernel
theorem kd_M_tours_115 : decode kb_M_tours 115 = .ok (.iadd, 1) := by decide +kernel
theorem kd_M_tours_116 : decode kb_M_tours 116 = .ok (.istore 6, 2) := by decide +kernel
theorem kd_M_tours_118 : decode kb_M_tours 118 = .ok (.iload 5, 2) := by decide +kernel
theorem kd_M_tours_120 : decode kb_M_tours 120 = .ok (.aload_n 0, 1) := by decide +kernel
theorem kd_M_tours_121 : decode kb_M_tours 121 = .ok (.getfield 13, 3) := by decide +kernel
theorem kd_M_tours_124 : decode kb_M_tours 124 = .ok (.iload 7, 2) := by decide +kernel
theorem kd_M_tours_126 : decode kb_M_tours 126 = .ok (.iaload, 1) := by decide +kernel
theorem kd_M_tours_127 : decode kb_M_tours 127 = .ok (.iload 4, 2) := by decide +kernel
theorem kd_M_tours_129 : decode kb_M_tours 129 = .ok (.if_icmp .ne 13, 3) := by decide +kernel
theorem kd_M_tours_132 : decode kb_M_tours 132 = .ok (.aload_n 0, 1) := by decide +kernel
theorem kd_M_tours_133 : decode kb_M_tours 133 = .ok (.getfield 16, 3) := by decide +kernel
theorem kd_M_tours_136 : decode kb_M_tours 136 = .ok (.iload 7, 2) := by decide +kernel
theorem kd_M_tours_138 : decode kb_M_tours 138 = .ok (.iaload, 1) := by decide +kernel
theorem kd_M_tours_139 : decode kb_M_tours 139 = .ok (.goto 4, 3) := by decide +kernel
theorem kd_M_tours_142 : decode kb_M_tours 142 = .ok (.iconst 0, 1) := by decide +kernel
theorem kd_M_tours_143 : decode kb_M_tours 143 = .ok (.iadd, 1) := by decide +kernel
theorem kd_M_tours_144 : decode kb_M_tours 144 = .ok (.istore 5, 2) := by decide +kernel
theorem kd_M_tours_146 : decode kb_M_tours 146 = .ok (.iinc 7 1, 3) := by decide +kernel
theorem kd_M_tours_149 : decode kb_M_tours 149 = .ok (.goto (-68), 3) := by decide +kernel
theorem kd_M_tours_152 : decode kb_M_tours 152 = .ok (.iload 5, 2) := by decide +kernel
theorem kd_M_tours_154 : decode kb_M_tours 154 = .ok (.iload 6, 2) := by decide +kernel
theorem kd_M_tours_156 : decode kb_M_tours 156 = .ok (.if_icmp .ne 24, 3) := by decide +kernel
theorem kd_M_tours_159 : decode kb_M_tours 159 = .ok (.iload 6, 2) := by decide +kernel
theorem kd_M_tours_161 : decode kb_M_tours 161 = .ok (.ifCond .le 21, 3) := by decide +kernel
theorem kd_M_tours_164 : decode kb_M_tours 164 = .ok (.aload_n 0, 1) := by decide +kernel
theorem kd_M_tours_165 : decode kb_M_tours 165 = .ok (.getfield 32, 3) := by decide +kernel
theorem kd_M_tours_168 : decode kb_M_tours 168 = .ok (.iload 4, 2) := by decide +kernel
theorem kd_M_tours_170 : decode kb_M_tours 170 = .ok (.iaload, 1) := by decide +kernel
theorem kd_M_tours_171 : decode kb_M_tours 171 = .ok (.aload_n 0, 1) := by decide +kernel
theorem kd_M_tours_172 : decode kb_M_tours 172 = .ok (.getfield 32, 3) := by decide +kernel
theorem kd_M_tours_175 : decode kb_M_tours 175 = .ok (.iload_n 1, 1) := by decide +kernel
theorem kd_M_tours_176 : decode kb_M_tours 176 = .ok (.iaload, 1) := by decide +kernel
theorem kd_M_tours_177 : decode kb_M_tours 177 = .ok (.if_icmp .eq 5, 3) := by decide +kernel
theorem kd_M_tours_180 : decode kb_M_tours 180 = .ok (.lconst 0, 1) := by decide +kernel
theorem kd_M_tours_181 : decode kb_M_tours 181 = .ok (.lreturn, 1) := by decide +kernel
theorem kd_M_tours_182 : decode kb_M_tours 182 = .ok (.ldc2_w 83, 3) := by decide +kernel
theorem kd_M_tours_185 : decode kb_M_tours 185 = .ok (.lstore 7, 2) := by decide +kernel
theorem kd_M_tours_187 : decode kb_M_tours 187 = .ok (.lload 7, 2) := by decide +kernel
theorem kd_M_tours_189 : decode kb_M_tours 189 = .ok (.iload 6, 2) := by decide +kernel
theorem kd_M_tours_191 : decode kb_M_tours 191 = .ok (.i2l, 1) := by decide +kernel
theorem kd_M_tours_192 : decode kb_M_tours 192 = .ok (.lcmp, 1) := by decide +kernel
theorem kd_M_tours_193 : decode kb_M_tours 193 = .ok (.ifCond .ge 17, 3) := by decide +kernel
theorem kd_M_tours_196 : decode kb_M_tours 196 = .ok (.lload_n 2, 1) := by decide +kernel
theorem kd_M_tours_197 : decode kb_M_tours 197 = .ok (.lload 7, 2) := by decide +kernel
theorem kd_M_tours_199 : decode kb_M_tours 199 = .ok (.lmul, 1) := by decide +kernel
theorem kd_M_tours_200 : decode kb_M_tours 200 = .ok (.lstore_n 2, 1) := by decide +kernel
theorem kd_M_tours_201 : decode kb_M_tours 201 = .ok (.lload 7, 2) := by decide +kernel
theorem kd_M_tours_203 : decode kb_M_tours 203 = .ok (.lconst 1, 1) := by decide +kernel
theorem kd_M_tours_204 : decode kb_M_tours 204 = .ok (.ladd, 1) := by decide +kernel
theorem kd_M_tours_205 : decode kb_M_tours 205 = .ok (.lstore 7, 2) := by decide +kernel
theorem kd_M_tours_207 : decode kb_M_tours 207 = .ok (.goto (-20), 3) := by decide +kernel
theorem kd_M_tours_210 : decode kb_M_tours 210 = .ok (.iinc 4 1, 3) := by decide +kernel
theorem kd_M_tours_213 : decode kb_M_tours 213 = .ok (.goto (-150), 3) := by decide +kernel
theorem kd_M_tours_216 : decode kb_M_tours 216 = .ok (.iconst 0, 1) := by decide +kernel
theorem kd_M_tours_217 : decode kb_M_tours 217 = .ok (.istore 4, 2) := by decide +kernel
theorem kd_M_tours_219 : decode kb_M_tours 219 = .ok (.iconst 0, 1) := by decide +kernel
theorem kd_M_tours_220 : decode kb_M_tours 220 = .ok (.istore 5, 2) := by decide +kernel
theorem kd_M_tours_222 : decode kb_M_tours 222 = .ok (.iload 5, 2) := by decide +kernel
theorem kd_M_tours_224 : decode kb_M_tours 224 = .ok (.aload_n 0, 1) := by decide +kernel
theorem kd_M_tours_225 : decode kb_M_tours 225 = .ok (.getfield 73, 3) := by decide +kernel
theorem kd_M_tours_228 : decode kb_M_tours 228 = .ok (.if_icmp .ge 71, 3) := by decide +kernel
theorem kd_M_tours_231 : decode kb_M_tours 231 = .ok (.aload_n 0, 1) := by decide +kernel
theorem kd_M_tours_232 : decode kb_M_tours 232 = .ok (.getfield 32, 3) := by decide +kernel
theorem kd_M_tours_235 : decode kb_M_tours 235 = .ok (.iload 5, 2) := by decide +kernel
theorem kd_M_tours_237 : decode kb_M_tours 237 = .ok (.iaload, 1) := by decide +kernel
theorem kd_M_tours_238 : decode kb_M_tours 238 = .ok (.aload_n 0, 1) := by decide +kernel
theorem kd_M_tours_239 : decode kb_M_tours 239 = .ok (.getfield 32, 3) := by decide +kernel
theorem kd_M_tours_242 : decode kb_M_tours 242 = .ok (.iload_n 1, 1) := by decide +kernel
theorem kd_M_tours_243 : decode kb_M_tours 243 = .ok (.iaload, 1) := by decide +kernel
theorem kd_M_tours_244 : decode kb_M_tours 244 = .ok (.if_icmp .ne 13, 3) := by decide +kernel
theorem kd_M_tours_247 : decode kb_M_tours 247 = .ok (.iload 5, 2) := by decide +kernel
theorem kd_M_tours_249 : decode kb_M_tours 249 = .ok (.iload_n 1, 1) := by decide +kernel
theorem kd_M_tours_250 : decode kb_M_tours 250 = .ok (.if_icmp .eq 7, 3) := by decide +kernel
theorem kd_M_tours_253 : decode kb_M_tours 253 = .ok (.iconst 1, 1) := by decide +kernel
theorem kd_M_tours_254 : decode kb_M_tours 254 = .ok (.goto 4, 3) := by decide +kernel
theorem kd_M_tours_257 : decode kb_M_tours 257 = .ok (.iconst 0, 1) := by decide +kernel
theorem kd_M_tours_258 : decode kb_M_tours 258 = .ok (.istore 6, 2) := by decide +kernel
theorem kd_M_tours_260 : decode kb_M_tours 260 = .ok (.aload_n 0, 1) := by decide +kernel
theorem kd_M_tours_261 : decode kb_M_tours 261 = .ok (.getfield 39, 3) := by decide +kernel
theorem kd_M_tours_264 : decode kb_M_tours 264 = .ok (.iload 5, 2) := by decide +kernel
theorem kd_M_tours_266 : decode kb_M_tours 266 = .ok (.iload 6, 2) := by decide +kernel
theorem kd_M_tours_268 : decode kb_M_tours 268 = .ok (.ifCond .eq 8, 3) := by decide +kernel
theorem kd_M_tours_271 : decode kb_M_tours 271 = .ok (.iload 4, 2) := by decide +kernel
theorem kd_M_tours_273 : decode kb_M_tours 273 = .ok (.goto 4, 3) := by decide +kernel
theorem kd_M_tours_276 : decode kb_M_tours 276 = .ok (.iconst (-1), 1) := by decide +kernel
theorem kd_M_tours_277 : decode kb_M_tours 277 = .ok (.iastore, 1) := by decide +kernel
theorem kd_M_tours_278 : decode kb_M_tours 278 = .ok (.iload 4, 2) := by decide +kernel
theorem kd_M_tours_280 : decode kb_M_tours 280 = .ok (.iload 6, 2) := by decide +kernel
theorem kd_M_tours_282 : decode kb_M_tours 282 = .ok (.ifCond .eq 7, 3) := by decide +kernel
theorem kd_M_tours_285 : decode kb_M_tours 285 = .ok (.iconst 1, 1) := by decide +kernel
theorem kd_M_tours_286 : decode kb_M_tours 286 = .ok (.goto 4, 3) := by decide +kernel
theorem kd_M_tours_289 : decode kb_M_tours 289 = .ok (.iconst 0, 1) := by decide +kernel
theorem kd_M_tours_290 : decode kb_M_tours 290 = .ok (.iadd, 1) := by decide +kernel
theorem kd_M_tours_291 : decode kb_M_tours 291 = .ok (.istore 4, 2) := by decide +kernel
theorem kd_M_tours_293 : decode kb_M_tours 293 = .ok (.iinc 5 1, 3) := by decide +kernel
theorem kd_M_tours_296 : decode kb_M_tours 296 = .ok (.goto (-74), 3) := by decide +kernel
theorem kd_M_tours_299 : decode kb_M_tours 299 = .ok (.aload_n 0, 1) := by decide +kernel
theorem kd_M_tours_300 : decode kb_M_tours 300 = .ok (.invokevirtual 102, 3) := by decide +kernel
theorem kd_M_tours_303 : decode kb_M_tours 303 = .ok (.iconst 0, 1) := by decide +kernel
theorem kd_M_tours_304 : decode kb_M_tours 304 = .ok (.istore 5, 2) := by decide +kernel
theorem kd_M_tours_306 : decode kb_M_tours 306 = .ok (.iload 5, 2) := by decide +kernel
theorem kd_M_tours_308 : decode kb_M_tours 308 = .ok (.aload_n 0, 1) := by decide +kernel
theorem kd_M_tours_309 : decode kb_M_tours 309 = .ok (.getfield 80, 3) := by decide +kernel
theorem kd_M_tours_312 : decode kb_M_tours 312 = .ok (.if_icmp .ge 99, 3) := by decide +kernel
theorem kd_M_tours_315 : decode kb_M_tours 315 = .ok (.aload_n 0, 1) := by decide +kernel
theorem kd_M_tours_316 : decode kb_M_tours 316 = .ok (.getfield 7, 3) := by decide +kernel
theorem kd_M_tours_319 : decode kb_M_tours 319 = .ok (.iload 5, 2) := by decide +kernel
theorem kd_M_tours_321 : decode kb_M_tours 321 = .ok (.iaload, 1) := by decide +kernel
theorem kd_M_tours_322 : decode kb_M_tours 322 = .ok (.aload_n 0, 1) := by decide +kernel
theorem kd_M_tours_323 : decode kb_M_tours 323 = .ok (.getfield 13, 3) := by decide +kernel
theorem kd_M_tours_326 : decode kb_M_tours 326 = .ok (.iload 5, 2) := by decide +kernel
theorem kd_M_tours_328 : decode kb_M_tours 328 = .ok (.iaload, 1) := by decide +kernel
theorem kd_M_tours_329 : decode kb_M_tours 329 = .ok (.if_icmp .eq 76, 3) := by decide +kernel
theorem kd_M_tours_332 : decode kb_M_tours 332 = .ok (.aload_n 0, 1) := by decide +kernel
theorem kd_M_tours_333 : decode kb_M_tours 333 = .ok (.aload_n 0, 1) := by decide +kernel
theorem kd_M_tours_334 : decode kb_M_tours 334 = .ok (.getfield 39, 3) := by decide +kernel
theorem kd_M_tours_337 : decode kb_M_tours 337 = .ok (.aload_n 0, 1) := by decide +kernel
theorem kd_M_tours_338 : decode kb_M_tours 338 = .ok (.getfield 7, 3) := by decide +kernel
theorem kd_M_tours_341 : decode kb_M_tours 341 = .ok (.iload 5, 2) := by decide +kernel
theorem kd_M_tours_343 : decode kb_M_tours 343 = .ok (.iaload, 1) := by decide +kernel
theorem kd_M_tours_344 : decode kb_M_tours 344 = .ok (.iaload, 1) := by decide +kernel
theorem kd_M_tours_345 : decode kb_M_tours 345 = .ok (.aload_n 0, 1) := by decide +kernel
theorem kd_M_tours_346 : decode kb_M_tours 346 = .ok (.getfield 39, 3) := by decide +kernel
theorem kd_M_tours_349 : decode kb_M_tours 349 = .ok (.aload_n 0, 1) := by decide +kernel
theorem kd_M_tours_350 : decode kb_M_tours 350 = .ok (.getfield 7, 3) := by decide +kernel
theorem kd_M_tours_353 : decode kb_M_tours 353 = .ok (.iload 5, 2) := by decide +kernel
theorem kd_M_tours_355 : decode kb_M_tours 355 = .ok (.iaload, 1) := by decide +kernel
theorem kd_M_tours_356 : decode kb_M_tours 356 = .ok (.iaload, 1) := by decide +kernel
theorem kd_M_tours_357 : decode kb_M_tours 357 = .ok (.aload_n 0, 1) := by decide +kernel
theorem kd_M_tours_358 : decode kb_M_tours 358 = .ok (.getfield 16, 3) := by decide +kernel
theorem kd_M_tours_361 : decode kb_M_tours 361 = .ok (.iload 5, 2) := by decide +kernel
theorem kd_M_tours_363 : decode kb_M_tours 363 = .ok (.iaload, 1) := by decide +kernel
theorem kd_M_tours_364 : decode kb_M_tours 364 = .ok (.i2l, 1) := by decide +kernel
theorem kd_M_tours_365 : decode kb_M_tours 365 = .ok (.invokevirtual 105, 3) := by decide +kernel
theorem kd_M_tours_368 : decode kb_M_tours 368 = .ok (.aload_n 0, 1) := by decide +kernel
theorem kd_M_tours_369 : decode kb_M_tours 369 = .ok (.aload_n 0, 1) := by decide +kernel
theorem kd_M_tours_370 : decode kb_M_tours 370 = .ok (.getfield 39, 3) := by decide +kernel
theorem kd_M_tours_373 : decode kb_M_tours 373 = .ok (.aload_n 0, 1) := by decide +kernel
theorem kd_M_tours_374 : decode kb_M_tours 374 = .ok (.getfield 7, 3) := by decide +kernel
theorem kd_M_tours_377 : decode kb_M_tours 377 = .ok (.iload 5, 2) := by decide +kernel
theorem kd_M_tours_379 : decode kb_M_tours 379 = .ok (.iaload, 1) := by decide +kernel
theorem kd_M_tours_380 : decode kb_M_tours 380 = .ok (.iaload, 1) := by decide +kernel
theorem kd_M_tours_381 : decode kb_M_tours 381 = .ok (.aload_n 0, 1) := by decide +kernel
theorem kd_M_tours_382 : decode kb_M_tours 382 = .ok (.getfield 39, 3) := by decide +kernel
theorem kd_M_tours_385 : decode kb_M_tours 385 = .ok (.aload_n 0, 1) := by decide +kernel
theorem kd_M_tours_386 : decode kb_M_tours 386 = .ok (.getfield 13, 3) := by decide +kernel
theorem kd_M_tours_389 : decode kb_M_tours 389 = .ok (.iload 5, 2) := by decide +kernel
theorem kd_M_tours_391 : decode kb_M_tours 391 = .ok (.iaload, 1) := by decide +kernel
theorem kd_M_tours_392 : decode kb_M_tours 392 = .ok (.iaload, 1) := by decide +kernel
theorem kd_M_tours_393 : decode kb_M_tours 393 = .ok (.aload_n 0, 1) := by decide +kernel
theorem kd_M_tours_394 : decode kb_M_tours 394 = .ok (.getfield 16, 3) := by decide +kernel
theorem kd_M_tours_397 : decode kb_M_tours 397 = .ok (.iload 5, 2) := by decide +kernel
theorem kd_M_tours_399 : decode kb_M_tours 399 = .ok (.iaload, 1) := by decide +kernel
theorem kd_M_tours_400 : decode kb_M_tours 400 = .ok (.ineg, 1) := by decide +kernel
theorem kd_M_tours_401 : decode kb_M_tours 401 = .ok (.i2l, 1) := by decide +kernel
theorem kd_M_tours_402 : decode kb_M_tours 402 = .ok (.invokevirtual 105, 3) := by decide +kernel
theorem kd_M_tours_405 : decode kb_M_tours 405 = .ok (.iinc 5 1, 3) := by decide +kernel
theorem kd_M_tours_408 : decode kb_M_tours 408 = .ok (.goto (-102), 3) := by decide +kernel
theorem kd_M_tours_411 : decode kb_M_tours 411 = .ok (.aload_n 0, 1) := by decide +kernel
theorem kd_M_tours_412 : decode kb_M_tours 412 = .ok (.iload 4, 2) := by decide +kernel
theorem kd_M_tours_414 : decode kb_M_tours 414 = .ok (.invokevirtual 117, 3) := by decide +kernel
theorem kd_M_tours_417 : decode kb_M_tours 417 = .ok (.lload_n 2, 1) := by decide +kernel
theorem kd_M_tours_418 : decode kb_M_tours 418 = .ok (.lmul, 1) := by decide +kernel
theorem kd_M_tours_419 : decode kb_M_tours 419 = .ok (.lreturn, 1) := by decide +kernel
theorem kd_M_with_0 : decode kb_M_with 0 = .ok (.aload_n 0, 1) := by decide +kernel
theorem kd_M_with_1 : decode kb_M_with 1 = .ok (.getfield 32, 3) := by decide +kernel
theorem kd_M_with_4 : decode kb_M_with 4 = .ok (.aload_n 0, 1) := by decide +kernel
theorem kd_M_with_5 : decode kb_M_with 5 = .ok (.getfield 7, 3) := by decide +kernel
theorem kd_M_with_8 : decode kb_M_with 8 = .ok (.iload_n 1, 1) := by decide +kernel
theorem kd_M_with_9 : decode kb_M_with 9 = .ok (.iaload, 1) := by decide +kernel
theorem kd_M_with_10 : decode kb_M_with 10 = .ok (.iaload, 1) := by decide +kernel
theorem kd_M_with_11 : decode kb_M_with 11 = .ok (.aload_n 0, 1) := by decide +kernel
theorem kd_M_with_12 : decode kb_M_with 12 = .ok (.getfield 32, 3) := by decide +kernel
theorem kd_M_with_15 : decode kb_M_with 15 = .ok (.aload_n 0, 1) := by decide +kernel
theorem kd_M_with_16 : decode kb_M_with 16 = .ok (.getfield 13, 3) := by decide +kernel
theorem kd_M_with_19 : decode kb_M_with 19 = .ok (.iload_n 1, 1) := by decide +kernel
theorem kd_M_with_20 : decode kb_M_with 20 = .ok (.iaload, 1) := by decide +kernel
theorem kd_M_with_21 : decode kb_M_with 21 = .ok (.iaload, 1) := by decide +kernel
theorem kd_M_with_22 : decode kb_M_with 22 = .ok (.if_icmp .ne 5, 3) := by decide +kernel
theorem kd_M_with_25 : decode kb_M_with 25 = .ok (.lconst 0, 1) := by decide +kernel
theorem kd_M_with_26 : decode kb_M_with 26 = .ok (.lreturn, 1) := by decide +kernel
theorem kd_M_with_27 : decode kb_M_with 27 = .ok (.iconst 0, 1) := by decide +kernel
theorem kd_M_with_28 : decode kb_M_with 28 = .ok (.istore_n 2, 1) := by decide +kernel
theorem kd_M_with_29 : decode kb_M_with 29 = .ok (.iload_n 2, 1) := by decide +kernel
theorem kd_M_with_30 : decode kb_M_with 30 = .ok (.aload_n 0, 1) := by decide +kernel
theorem kd_M_with_31 : decode kb_M_with 31 = .ok (.getfield 73, 3) := by decide +kernel
theorem kd_M_with_34 : decode kb_M_with 34 = .ok (.if_icmp .ge 21, 3) := by decide +kernel
theorem kd_M_with_37 : decode kb_M_with 37 = .ok (.aload_n 0, 1) := by decide +kernel
theorem kd_M_with_38 : decode kb_M_with 38 = .ok (.getfield 42, 3) := by decide +kernel
theorem kd_M_with_41 : decode kb_M_with 41 = .ok (.iload_n 2, 1) := by decide +kernel
theorem kd_M_with_42 : decode kb_M_with 42 = .ok (.aload_n 0, 1) := by decide +kernel
theorem kd_M_with_43 : decode kb_M_with 43 = .ok (.getfield 32, 3) := by decide +kernel
theorem kd_M_with_46 : decode kb_M_with 46 = .ok (.iload_n 2, 1) := by decide +kernel
theorem kd_M_with_47 : decode kb_M_with 47 = .ok (.iaload, 1) := by decide +kernel
theorem kd_M_with_48 : decode kb_M_with 48 = .ok (.iastore, 1) := by decide +kernel
theorem kd_M_with_49 : decode kb_M_with 49 = .ok (.iinc 2 1, 3) := by decide +kernel
theorem kd_M_with_52 : decode kb_M_with 52 = .ok (.goto (-23), 3) := by decide +kernel
theorem kd_M_with_55 : decode kb_M_with 55 = .ok (.aload_n 0, 1) := by decide +kernel
theorem kd_M_with_56 : decode kb_M_with 56 = .ok (.aload_n 0, 1) := by decide +kernel
theorem kd_M_with_57 : decode kb_M_with 57 = .ok (.getfield 7, 3) := by decide +kernel
theorem kd_M_with_60 : decode kb_M_with 60 = .ok (.iload_n 1, 1) := by decide +kernel
theorem kd_M_with_61 : decode kb_M_with 61 = .ok (.iaload, 1) := by decide +kernel
theorem kd_M_with_62 : decode kb_M_with 62 = .ok (.aload_n 0, 1) := by decide +kernel
theorem kd_M_with_63 : decode kb_M_with 63 = .ok (.getfield 13, 3) := by decide +kernel
theorem kd_M_with_66 : decode kb_M_with 66 = .ok (.iload_n 1, 1) := by decide +kernel
theorem kd_M_with_67 : decode kb_M_with 67 = .ok (.iaload, 1) := by decide +kernel
theorem kd_M_with_68 : decode kb_M_with 68 = .ok (.invokevirtual 144, 3) := by decide +kernel
theorem kd_M_with_71 : decode kb_M_with 71 = .ok (.istore_n 2, 1) := by decide +kernel
theorem kd_M_with_72 : decode kb_M_with 72 = .ok (.aload_n 0, 1) := by decide +kernel
theorem kd_M_with_73 : decode kb_M_with 73 = .ok (.getfield 35, 3) := by decide +kernel
theorem kd_M_with_76 : decode kb_M_with 76 = .ok (.iload_n 1, 1) := by decide +kernel
theorem kd_M_with_77 : decode kb_M_with 77 = .ok (.iconst 1, 1) := by decide +kernel
theorem kd_M_with_78 : decode kb_M_with 78 = .ok (.bastore, 1) := by decide +kernel
theorem kd_M_with_79 : decode kb_M_with 79 = .ok (.aload_n 0, 1) := by decide +kernel
theorem kd_M_with_80 : decode kb_M_with 80 = .ok (.invokevirtual 127, 3) := by decide +kernel
theorem kd_M_with_83 : decode kb_M_with 83 = .ok (.aload_n 0, 1) := by decide +kernel
theorem kd_M_with_84 : decode kb_M_with 84 = .ok (.getfield 16, 3) := by decide +kernel
theorem kd_M_with_87 : decode kb_M_with 87 = .ok (.iload_n 1, 1) := by decide +kernel
theorem kd_M_with_88 : decode kb_M_with 88 = .ok (.iaload, 1) := by decide +kernel
theorem kd_M_with_89 : decode kb_M_with 89 = .ok (.i2l, 1) := by decide +kernel
theorem kd_M_with_90 : decode kb_M_with 90 = .ok (.lmul, 1) := by decide +kernel
theorem kd_M_with_91 : decode kb_M_with 91 = .ok (.lstore_n 3, 1) := by decide +kernel
theorem kd_M_with_92 : decode kb_M_with 92 = .ok (.iconst 0, 1) := by decide +kernel
theorem kd_M_with_93 : decode kb_M_with 93 = .ok (.istore 5, 2) := by decide +kernel
theorem kd_M_with_95 : decode kb_M_with 95 = .ok (.iload 5, 2) := by decide +kernel
theorem kd_M_with_97 : decode kb_M_with 97 = .ok (.aload_n 0, 1) := by decide +kernel
theorem kd_M_with_98 : decode kb_M_with 98 = .ok (.getfield 73, 3) := by decide +kernel
theorem kd_M_with_101 : decode kb_M_with 101 = .ok (.if_icmp .ge 23, 3) := by decide +kernel
theorem kd_M_with_104 : decode kb_M_with 104 = .ok (.aload_n 0, 1) := by decide +kernel
theorem kd_M_with_105 : decode kb_M_with 105 = .ok (.getfield 32, 3) := by decide +kernel
theorem kd_M_with_108 : decode kb_M_with 108 = .ok (.iload 5, 2) := by decide +kernel
theorem kd_M_with_110 : decode kb_M_with 110 = .ok (.aload_n 0, 1) := by decide +kernel
theorem kd_M_with_111 : decode kb_M_with 111 = .ok (.getfield 42, 3) := by decide +kernel
theorem kd_M_with_114 : decode kb_M_with 114 = .ok (.iload 5, 2) := by decide +kernel
theorem kd_M_with_116 : decode kb_M_with 116 = .ok (.iaload, 1) := by decide +kernel
theorem kd_M_with_117 : decode kb_M_with 117 = .ok (.iastore, 1) := by decide +kernel
theorem kd_M_with_118 : decode kb_M_with 118 = .ok (.iinc 5 1, 3) := by decide +kernel
theorem kd_M_with_121 : decode kb_M_with 121 = .ok (.goto (-26), 3) := by decide +kernel
theorem kd_M_with_124 : decode kb_M_with 124 = .ok (.aload_n 0, 1) := by decide +kernel
theorem kd_M_with_125 : decode kb_M_with 125 = .ok (.getfield 35, 3) := by decide +kernel
theorem kd_M_with_128 : decode kb_M_with 128 = .ok (.iload_n 1, 1) := by decide +kernel
theorem kd_M_with_129 : decode kb_M_with 129 = .ok (.iconst 0, 1) := by decide +kernel
theorem kd_M_with_130 : decode kb_M_with 130 = .ok (.bastore, 1) := by decide +kernel
theorem kd_M_with_131 : decode kb_M_with 131 = .ok (.lload_n 3, 1) := by decide +kernel
theorem kd_M_with_132 : decode kb_M_with 132 = .ok (.lreturn, 1) := by decide +kernel
theorem kd_M_drawn_0 : decode kb_M_drawn 0 = .ok (.aload_n 0, 1) := by decide +kernel
theorem kd_M_drawn_1 : decode kb_M_drawn 1 = .ok (.iconst 0, 1) := by decide +kernel
theorem kd_M_drawn_2 : decode kb_M_drawn 2 = .ok (.putfield 69, 3) := by decide +kernel
theorem kd_M_drawn_5 : decode kb_M_drawn 5 = .ok (.lload_n 1, 1) := by decide +kernel
theorem kd_M_drawn_6 : decode kb_M_drawn 6 = .ok (.lconst 0, 1) := by decide +kernel
theorem kd_M_drawn_7 : decode kb_M_drawn 7 = .ok (.lcmp, 1) := by decide +kernel
theorem kd_M_drawn_8 : decode kb_M_drawn 8 = .ok (.ifCond .lt 12, 3) := by decide +kernel
theorem kd_M_drawn_11 : decode kb_M_drawn 11 = .ok (.lload_n 1, 1) := by decide +kernel
theorem kd_M_drawn_12 : decode kb_M_drawn 12 = .ok (.aload_n 0, 1) := by decide +kernel
theorem kd_M_drawn_13 : decode kb_M_drawn 13 = .ok (.invokevirtual 133, 3) := by decide +kernel
theorem kd_M_drawn_16 : decode kb_M_drawn 16 = .ok (.lcmp, 1) := by decide +kernel
theorem kd_M_drawn_17 : decode kb_M_drawn 17 = .ok (.ifCond .lt 5, 3) := by decide +kernel
theorem kd_M_drawn_20 : decode kb_M_drawn 20 = .ok (.iconst (-1), 1) := by decide +kernel
theorem kd_M_drawn_21 : decode kb_M_drawn 21 = .ok (.ireturn, 1) := by decide +kernel
theorem kd_M_drawn_22 : decode kb_M_drawn 22 = .ok (.aload_n 0, 1) := by decide +kernel
theorem kd_M_drawn_23 : decode kb_M_drawn 23 = .ok (.invokevirtual 121, 3) := by decide +kernel
theorem kd_M_drawn_26 : decode kb_M_drawn 26 = .ok (.aload_n 0, 1) := by decide +kernel
theorem kd_M_drawn_27 : decode kb_M_drawn 27 = .ok (.invokevirtual 124, 3) := by decide +kernel
theorem kd_M_drawn_30 : decode kb_M_drawn 30 = .ok (.lload_n 1, 1) := by decide +kernel
theorem kd_M_drawn_31 : decode kb_M_drawn 31 = .ok (.lstore_n 3, 1) := by decide +kernel
theorem kd_M_drawn_32 : decode kb_M_drawn 32 = .ok (.iconst 0, 1) := by decide +kernel
theorem kd_M_drawn_33 : decode kb_M_drawn 33 = .ok (.istore 5, 2) := by decide +kernel
theorem kd_M_drawn_35 : decode kb_M_drawn 35 = .ok (.aload_n 0, 1) := by decide +kernel
theorem kd_M_drawn_36 : decode kb_M_drawn 36 = .ok (.lconst 1, 1) := by decide +kernel
theorem kd_M_drawn_37 : decode kb_M_drawn 37 = .ok (.putfield 148, 3) := by decide +kernel
theorem kd_M_drawn_40 : decode kb_M_drawn 40 = .ok (.iconst 0, 1) := by decide +kernel
theorem kd_M_drawn_41 : decode kb_M_drawn 41 = .ok (.istore 6, 2) := by decide +kernel
theorem kd_M_drawn_43 : decode kb_M_drawn 43 = .ok (.iload 6, 2) := by decide +kernel
theorem kd_M_drawn_45 : decode kb_M_drawn 45 = .ok (.aload_n 0, 1) := by decide +kernel
theorem kd_M_drawn_46 : decode kb_M_drawn 46 = .ok (.getfield 80, 3) := by decide +kernel
theorem kd_M_drawn_49 : decode kb_M_drawn 49 = .ok (.if_icmp .ge 91, 3) := by decide +kernel
theorem kd_M_drawn_52 : decode kb_M_drawn 52 = .ok (.aload_n 0, 1) := by decide +kernel
theorem kd_M_drawn_53 : decode kb_M_drawn 53 = .ok (.iload 6, 2) := by decide +kernel
theorem kd_M_drawn_55 : decode kb_M_drawn 55 = .ok (.invokevirtual 152, 3) := by decide +kernel
theorem kd_M_drawn_58 : decode kb_M_drawn 58 = .ok (.aload_n 0, 1) := by decide +kernel
theorem kd_M_drawn_59 : decode kb_M_drawn 59 = .ok (.getfield 148, 3) := by decide +kernel
theorem kd_M_drawn_62 : decode kb_M_drawn 62 = .ok (.lmul, 1) := by decide +kernel
theorem kd_M_drawn_63 : decode kb_M_drawn 63 = .ok (.lstore 7, 2) := by decide +kernel
theorem kd_M_drawn_65 : decode kb_M_drawn 65 = .ok (.aload_n 0, 1) := by decide +kernel
theorem kd_M_drawn_66 : decode kb_M_drawn 66 = .ok (.getfield 35, 3) := by decide +kernel
theorem kd_M_drawn_69 : decode kb_M_drawn 69 = .ok (.iload 6, 2) := by decide +kernel
theorem kd_M_drawn_71 : decode kb_M_drawn 71 = .ok (.iconst 1, 1) := by decide +kernel
theorem kd_M_drawn_72 : decode kb_M_drawn 72 = .ok (.bastore, 1) := by decide +kernel
theorem kd_M_drawn_73 : decode kb_M_drawn 73 = .ok (.lload_n 3, 1) := by decide +kernel
theorem kd_M_drawn_74 : decode kb_M_drawn 74 = .ok (.lload 7, 2) := by decide +kernel
theorem kd_M_drawn_76 : decode kb_M_drawn 76 = .ok (.lcmp, 1) := by decide +kernel
theorem kd_M_drawn_77 : decode kb_M_drawn 77 = .ok (.ifCond .ge 52, 3) := by decide +kernel
theorem kd_M_drawn_80 : decode kb_M_drawn 80 = .ok (.aload_n 0, 1) := by decide +kernel
theorem kd_M_drawn_81 : decode kb_M_drawn 81 = .ok (.aload_n 0, 1) := by decide +kernel
theorem kd_M_drawn_82 : decode kb_M_drawn 82 = .ok (.getfield 7, 3) := by decide +kernel
theorem kd_M_drawn_85 : decode kb_M_drawn 85 = .ok (.iload 6, 2) := by decide +kernel
theorem kd_M_drawn_87 : decode kb_M_drawn 87 = .ok (.iaload, 1) := by decide +kernel
theorem kd_M_drawn_88 : decode kb_M_drawn 88 = .ok (.aload_n 0, 1) := by decide +kernel
theorem kd_M_drawn_89 : decode kb_M_drawn 89 = .ok (.getfield 13, 3) := by decide +kernel
theorem kd_M_drawn_92 : decode kb_M_drawn 92 = .ok (.iload 6, 2) := by decide +kernel
theorem kd_M_drawn_94 : decode kb_M_drawn 94 = .ok (.iaload, 1) := by decide +kernel
theorem kd_M_drawn_95 : decode kb_M_drawn 95 = .ok (.invokevirtual 144, 3) := by decide +kernel
theorem kd_M_drawn_98 : decode kb_M_drawn 98 = .ok (.istore 9, 2) := by decide +kernel
theorem kd_M_drawn_100 : decode kb_M_drawn 100 = .ok (.iload 5, 2) := by decide +kernel
theorem kd_M_drawn_102 : decode kb_M_drawn 102 = .ok (.iconst 1, 1) := by decide +kernel
theorem kd_M_drawn_103 : decode kb_M_drawn 103 = .ok (.iload 6, 2) := by decide +kernel
theorem kd_M_drawn_105 : decode kb_M_drawn 105 = .ok (.ishl, 1) := by decide +kernel
theorem kd_M_drawn_106 : decode kb_M_drawn 106 = .ok (.ior, 1) := by decide +kernel
theorem kd_M_drawn_107 : decode kb_M_drawn 107 = .ok (.istore 5, 2) := by decide +kernel
theorem kd_M_drawn_109 : decode kb_M_drawn 109 = .ok (.aload_n 0, 1) := by decide +kernel
theorem kd_M_drawn_110 : decode kb_M_drawn 110 = .ok (.dup, 1) := by decide +kernel
theorem kd_M_drawn_111 : decode kb_M_drawn 111 = .ok (.getfield 148, 3) := by decide +kernel
theorem kd_M_drawn_114 : decode kb_M_drawn 114 = .ok (.aload_n 0, 1) := by decide +kernel
theorem kd_M_drawn_115 : decode kb_M_drawn 115 = .ok (.getfield 16, 3) := by decide +kernel
theorem kd_M_drawn_118 : decode kb_M_drawn 118 = .ok (.iload 6, 2) := by decide +kernel
theorem kd_M_drawn_120 : decode kb_M_drawn 120 = .ok (.iaload, 1) := by decide +kernel
theorem kd_M_drawn_121 : decode kb_M_drawn 121 = .ok (.i2l, 1) := by decide +kernel
theorem kd_M_drawn_122 : decode kb_M_drawn 122 = .ok (.lmul, 1) := by decide +kernel
theorem kd_M_drawn_123 : decode kb_M_drawn 123 = .ok (.putfield 148, 3) := by decide +kernel
theorem kd_M_drawn_126 : decode kb_M_drawn 126 = .ok (.goto 8, 3) := by decide +kernel
theorem kd_M_drawn_129 : decode kb_M_drawn 129 = .ok (.lload_n 3, 1) := by decide +kernel
theorem kd_M_drawn_130 : decode kb_M_drawn 130 = .ok (.lload 7, 2) := by decide +kernel
theorem kd_M_drawn_132 : decode kb_M_drawn 132 = .ok (.lsub, 1) := by decide +kernel
theorem kd_M_drawn_133 : decode kb_M_drawn 133 = .ok (.lstore_n 3, 1) := by decide +kernel
theorem kd_M_drawn_134 : decode kb_M_drawn 134 = .ok (.iinc 6 1, 3) := by decide +kernel
theorem kd_M_drawn_137 : decode kb_M_drawn 137 = .ok (.goto (-94), 3) := by decide +kernel
theorem kd_M_drawn_140 : decode kb_M_drawn 140 = .ok (.iload 5, 2) := by decide +kernel
theorem kd_M_drawn_142 : decode kb_M_drawn 142 = .ok (.ireturn, 1) := by decide +kernel
theorem kd_M_place_0 : decode kb_M_place 0 = .ok (.aload_n 0, 1) := by decide +kernel
theorem kd_M_place_1 : decode kb_M_place 1 = .ok (.iconst 0, 1) := by decide +kernel
theorem kd_M_place_2 : decode kb_M_place 2 = .ok (.putfield 69, 3) := by decide +kernel
theorem kd_M_place_5 : decode kb_M_place 5 = .ok (.aload_n 0, 1) := by decide +kernel
theorem kd_M_place_6 : decode kb_M_place 6 = .ok (.getfield 73, 3) := by decide +kernel
theorem kd_M_place_9 : decode kb_M_place 9 = .ok (.ifCond .eq 16, 3) := by decide +kernel
theorem kd_M_place_12 : decode kb_M_place 12 = .ok (.iload_n 1, 1) := by decide +kernel
theorem kd_M_place_13 : decode kb_M_place 13 = .ok (.ifCond .lt 12, 3) := by decide +kernel
theorem kd_M_place_16 : decode kb_M_place 16 = .ok (.iload_n 1, 1) := by decide +kernel
theorem kd_M_place_17 : decode kb_M_place 17 = .ok (.aload_n 0, 1) := by decide +kernel
theorem kd_M_place_18 : decode kb_M_place 18 = .ok (.getfield 80, 3) := by decide +kernel
theorem kd_M_place_21 : decode kb_M_place 21 = .ok (.ishr, 1) := by decide +kernel
theorem kd_M_place_22 : decode kb_M_place 22 = .ok (.ifCond .eq 7, 3) := by decide +kernel
theorem kd_M_place_25 : decode kb_M_place 25 = .ok (.ldc2_w 131, 3) := by decide +kernel
theorem kd_M_place_28 : decode kb_M_place 28 = .ok (.lreturn, 1) := by decide +kernel
theorem kd_M_place_29 : decode kb_M_place 29 = .ok (.aload_n 0, 1) := by decide +kernel
theorem kd_M_place_30 : decode kb_M_place 30 = .ok (.invokevirtual 121, 3) := by decide +kernel
theorem kd_M_place_33 : decode kb_M_place 33 = .ok (.iconst 0, 1) := by decide +kernel
theorem kd_M_place_34 : decode kb_M_place 34 = .ok (.istore_n 2, 1) := by decide +kernel
theorem kd_M_place_35 : decode kb_M_place 35 = .ok (.iconst 1, 1) := by decide +kernel
theorem kd_M_place_36 : decode kb_M_place 36 = .ok (.istore_n 3, 1) := by decide +kernel
theorem kd_M_place_37 : decode kb_M_place 37 = .ok (.iconst 0, 1) := by decide +kernel
theorem kd_M_place_38 : decode kb_M_place 38 = .ok (.istore 4, 2) := by decide +kernel
theorem kd_M_place_40 : decode kb_M_place 40 = .ok (.iload 4, 2) := by decide +kernel
theorem kd_M_place_42 : decode kb_M_place 42 = .ok (.aload_n 0, 1) := by decide +kernel
theorem kd_M_place_43 : decode kb_M_place 43 = .ok (.getfield 80, 3) := by decide +kernel
theorem kd_M_place_46 : decode kb_M_place 46 = .ok (.if_icmp .ge 53, 3) := by decide +kernel
theorem kd_M_place_49 : decode kb_M_place 49 = .ok (.iload_n 1, 1) := by decide +kernel
theorem kd_M_place_50 : decode kb_M_place 50 = .ok (.iload 4, 2) := by decide +kernel
theorem kd_M_place_52 : decode kb_M_place 52 = .ok (.ishr, 1) := by decide +kernel
theorem kd_M_place_53 : decode kb_M_place 53 = .ok (.iconst 1, 1) := by decide +kernel
theorem kd_M_place_54 : decode kb_M_place 54 = .ok (.iand, 1) := by decide +kernel
theorem kd_M_place_55 : decode kb_M_place 55 = .ok (.iconst 1, 1) := by decide +kernel
theorem kd_M_place_56 : decode kb_M_place 56 = .ok (.if_icmp .ne 37, 3) := by decide +kernel
theorem kd_M_place_59 : decode kb_M_place 59 = .ok (.iload_n 3, 1) := by decide +kernel
theorem kd_M_place_60 : decode kb_M_place 60 = .ok (.ifCond .eq 28, 3) := by decide +kernel
theorem kd_M_place_63 : decode kb_M_place 63 = .ok (.aload_n 0, 1) := by decide +kernel
theorem kd_M_place_64 : decode kb_M_place 64 = .ok (.aload_n 0, 1) := by decide +kernel
theorem kd_M_place_65 : decode kb_M_place 65 = .ok (.getfield 7, 3) := by decide +kernel
theorem kd_M_place_68 : decode kb_M_place 68 = .ok (.iload 4, 2) := by decide +kernel
theorem kd_M_place_70 : decode kb_M_place 70 = .ok (.iaload, 1) := by decide +kernel
theorem kd_M_place_71 : decode kb_M_place 71 = .ok (.aload_n 0, 1) := by decide +kernel
theorem kd_M_place_72 : decode kb_M_place 72 = .ok (.getfield 13, 3) := by decide +kernel
theorem kd_M_place_75 : decode kb_M_place 75 = .ok (.iload 4, 2) := by decide +kernel
theorem kd_M_place_77 : decode kb_M_place 77 = .ok (.iaload, 1) := by decide +kernel
theorem kd_M_place_78 : decode kb_M_place 78 = .ok (.invokevirtual 144, 3) := by decide +kernel
theorem kd_M_place_81 : decode kb_M_place 81 = .ok (.ifCond .eq 7, 3) := by decide +kernel
theorem kd_M_place_84 : decode kb_M_place 84 = .ok (.iconst 1, 1) := by decide +kernel
theorem kd_M_place_85 : decode kb_M_place 85 = .ok (.goto 4, 3) := by decide +kernel
theorem kd_M_place_88 : decode kb_M_place 88 = .ok (.iconst 0, 1) := by decide +kernel
theorem kd_M_place_89 : decode kb_M_place 89 = .ok (.istore_n 3, 1) := by decide +kernel
theorem kd_M_place_90 : decode kb_M_place 90 = .ok (.iinc 2 1, 3) := by decide +kernel
theorem kd_M_place_93 : decode kb_M_place 93 = .ok (.iinc 4 1, 3) := by decide +kernel
theorem kd_M_place_96 : decode kb_M_place 96 = .ok (.goto (-56), 3) := by decide +kernel
theorem kd_M_place_99 : decode kb_M_place 99 = .ok (.iload_n 3, 1) := by decide +kernel
theorem kd_M_place_100 : decode kb_M_place 100 = .ok (.ifCond .eq 13, 3) := by decide +kernel
theorem kd_M_place_103 : decode kb_M_place 103 = .ok (.iload_n 2, 1) := by decide +kernel
theorem kd_M_place_104 : decode kb_M_place 104 = .ok (.aload_n 0, 1) := by decide +kernel
theorem kd_M_place_105 : decode kb_M_place 105 = .ok (.getfield 73, 3) := by decide +kernel
theorem kd_M_place_108 : decode kb_M_place 108 = .ok (.iconst 1, 1) := by decide +kernel
theorem kd_M_place_109 : decode kb_M_place 109 = .ok (.isub, 1) := by decide +kernel
theorem kd_M_place_110 : decode kb_M_place 110 = .ok (.if_icmp .eq 7, 3) := by decide +kernel
theorem kd_M_place_113 : decode kb_M_place 113 = .ok (.ldc2_w 131, 3) := by decide +kernel
theorem kd_M_place_116 : decode kb_M_place 116 = .ok (.lreturn, 1) := by decide +kernel
theorem kd_M_place_117 : decode kb_M_place 117 = .ok (.aload_n 0, 1) := by decide +kernel
theorem kd_M_place_118 : decode kb_M_place 118 = .ok (.invokevirtual 121, 3) := by decide +kernel
theorem kd_M_place_121 : decode kb_M_place 121 = .ok (.aload_n 0, 1) := by decide +kernel
theorem kd_M_place_122 : decode kb_M_place 122 = .ok (.invokevirtual 124, 3) := by decide +kernel
theorem kd_M_place_125 : decode kb_M_place 125 = .ok (.lconst 0, 1) := by decide +kernel
theorem kd_M_place_126 : decode kb_M_place 126 = .ok (.lstore 4, 2) := by decide +kernel
theorem kd_M_place_128 : decode kb_M_place 128 = .ok (.aload_n 0, 1) := by decide +kernel
theorem kd_M_place_129 : decode kb_M_place 129 = .ok (.lconst 1, 1) := by decide +kernel
theorem kd_M_place_130 : decode kb_M_place 130 = .ok (.putfield 148, 3) := by decide +kernel
theorem kd_M_place_133 : decode kb_M_place 133 = .ok (.iconst 0, 1) := by decide +kernel
theorem kd_M_place_134 : decode kb_M_place 134 = .ok (.istore 6, 2) := by decide +kernel
theorem kd_M_place_136 : decode kb_M_place 136 = .ok (.iload 6, 2) := by decide +kernel
theorem kd_M_place_138 : decode kb_M_place 138 = .ok (.aload_n 0, 1) := by decide +kernel
theorem kd_M_place_139 : decode kb_M_place 139 = .ok (.getfield 80, 3) := by decide +kernel
theorem kd_M_place_142 : decode kb_M_place 142 = .ok (.if_icmp .ge 105, 3) := by decide +kernel
theorem kd_M_place_145 : decode kb_M_place 145 = .ok (.iload_n 1, 1) := by decide +kernel
theorem kd_M_place_146 : decode kb_M_place 146 = .ok (.iload 6, 2) := by decide +kernel
theorem kd_M_place_148 : decode kb_M_place 148 = .ok (.ishr, 1) := by decide +kernel
theorem kd_M_place_149 : decode kb_M_place 149 = .ok (.iconst 1, 1) := by decide +kernel
theorem kd_M_place_150 : decode kb_M_place 150 = .ok (.iand, 1) := by decide +kernel
theorem kd_M_place_151 : decode kb_M_place 151 = .ok (.iconst 1, 1) := by decide +kernel
theorem kd_M_place_152 : decode kb_M_place 152 = .ok (.if_icmp .ne 7, 3) := by decide +kernel
theorem kd_M_place_155 : decode kb_M_place 155 = .ok (.iconst 1, 1) := by decide +kernel
theorem kd_M_place_156 : decode kb_M_place 156 = .ok (.goto 4, 3) := by decide +kernel
theorem kd_M_place_159 : decode kb_M_place 159 = .ok (.iconst 0, 1) := by decide +kernel
theorem kd_M_place_160 : decode kb_M_place 160 = .ok (.istore 7, 2) := by decide +kernel
theorem kd_M_place_162 : decode kb_M_place 162 = .ok (.iload 7, 2) := by decide +kernel
theorem kd_M_place_164 : decode kb_M_place 164 = .ok (.ifCond .eq 7, 3) := by decide +kernel
theorem kd_M_place_167 : decode kb_M_place 167 = .ok (.lconst 0, 1) := by decide +kernel
theorem kd_M_place_168 : decode kb_M_place 168 = .ok (.goto 14, 3) := by decide +kernel
theorem kd_M_place_171 : decode kb_M_place 171 = .ok (.aload_n 0, 1) := by decide +kernel
theorem kd_M_place_172 : decode kb_M_place 172 = .ok (.iload 6, 2) := by decide +kernel
theorem kd_M_place_174 : decode kb_M_place 174 = .ok (.invokevirtual 152, 3) := by decide +kernel
theorem kd_M_place_177 : decode kb_M_place 177 = .ok (.aload_n 0, 1) := by decide +kernel
theorem kd_M_place_178 : decode kb_M_place 178 = .ok (.getfield 148, 3) := by decide +kernel
theorem kd_M_place_181 : decode kb_M_place 181 = .ok (.lmul, 1) := by decide +kernel
theorem kd_M_place_182 : decode kb_M_place 182 = .ok (.lstore 8, 2) := by decide +kernel
theorem kd_M_place_184 : decode kb_M_place 184 = .ok (.aload_n 0, 1) := by decide +kernel
theorem kd_M_place_185 : decode kb_M_place 185 = .ok (.getfield 35, 3) := by decide +kernel
theorem kd_M_place_188 : decode kb_M_place 188 = .ok (.iload 6, 2) := by decide +kernel
theorem kd_M_place_190 : decode kb_M_place 190 = .ok (.iconst 1, 1) := by decide +kernel
theorem kd_M_place_191 : decode kb_M_place 191 = .ok (.bastore, 1) := by decide +kernel
theorem kd_M_place_192 : decode kb_M_place 192 = .ok (.iload 7, 2) := by decide +kernel
theorem kd_M_place_194 : decode kb_M_place 194 = .ok (.ifCond .eq 40, 3) := by decide +kernel
theorem kd_M_place_197 : decode kb_M_place 197 = .ok (.aload_n 0, 1) := by decide +kernel
theorem kd_M_place_198 : decode kb_M_place 198 = .ok (.aload_n 0, 1) := by decide +kernel
theorem kd_M_place_199 : decode kb_M_place 199 = .ok (.getfield 7, 3) := by decide +kernel
theorem kd_M_place_202 : decode kb_M_place 202 = .ok (.iload 6, 2) := by decide +kernel
theorem kd_M_place_204 : decode kb_M_place 204 = .ok (.iaload, 1) := by decide +kernel
theorem kd_M_place_205 : decode kb_M_place 205 = .ok (.aload_n 0, 1) := by decide +kernel
theorem kd_M_place_206 : decode kb_M_place 206 = .ok (.getfield 13, 3) := by decide +kernel
theorem kd_M_place_209 : decode kb_M_place 209 = .ok (.iload 6, 2) := by decide +kernel
theorem kd_M_place_211 : decode kb_M_place 211 = .ok (.iaload, 1) := by decide +kernel
theorem kd_M_place_212 : decode kb_M_place 212 = .ok (.invokevirtual 144, 3) := by decide +kernel
theorem kd_M_place_215 : decode kb_M_place 215 = .ok (.istore 10, 2) := by decide +kernel
theorem kd_M_place_217 : decode kb_M_place 217 = .ok (.aload_n 0, 1) := by decide +kernel
theorem kd_M_place_218 : decode kb_M_place 218 = .ok (.dup, 1) := by decide +kernel
theorem kd_M_place_219 : decode kb_M_place 219 = .ok (.getfield 148, 3) := by decide +kernel
theorem kd_M_place_222 : decode kb_M_place 222 = .ok (.aload_n 0, 1) := by decide +kernel
theorem kd_M_place_223 : decode kb_M_place 223 = .ok (.getfield 16, 3) := by decide +kernel
theorem kd_M_place_226 : decode kb_M_place 226 = .ok (.iload 6, 2) := by decide +kernel
theorem kd_M_place_228 : decode kb_M_place 228 = .ok (.iaload, 1) := by decide +kernel
theorem kd_M_place_229 : decode kb_M_place 229 = .ok (.i2l, 1) := by decide +kernel
theorem kd_M_place_230 : decode kb_M_place 230 = .ok (.lmul, 1) := by decide +kernel
theorem kd_M_place_231 : decode kb_M_place 231 = .ok (.putfield 148, 3) := by decide +kernel
theorem kd_M_place_234 : decode kb_M_place 234 = .ok (.lload 4, 2) := by decide +kernel
theorem kd_M_place_236 : decode kb_M_place 236 = .ok (.lload 8, 2) := by decide +kernel
theorem kd_M_place_238 : decode kb_M_place 238 = .ok (.ladd, 1) := by decide +kernel
theorem kd_M_place_239 : decode kb_M_place 239 = .ok (.lstore 4, 2) := by decide +kernel
theorem kd_M_place_241 : decode kb_M_place 241 = .ok (.iinc 6 1, 3) := by decide +kernel
theorem kd_M_place_244 : decode kb_M_place 244 = .ok (.goto (-108), 3) := by decide +kernel
theorem kd_M_place_247 : decode kb_M_place 247 = .ok (.lload 4, 2) := by decide +kernel
theorem kd_M_place_249 : decode kb_M_place 249 = .ok (.lreturn, 1) := by decide +kernel
theorem kd_M_takeTrees_0 : decode kb_M_takeTrees 0 = .ok (.iconst 0, 1) := by decide +kernel
theorem kd_M_takeTrees_1 : decode kb_M_takeTrees 1 = .ok (.istore_n 1, 1) := by decide +kernel
theorem kd_M_takeTrees_2 : decode kb_M_takeTrees 2 = .ok (.aload_n 0, 1) := by decide +kernel
theorem kd_M_takeTrees_3 : decode kb_M_takeTrees 3 = .ok (.invokevirtual 121, 3) := by decide +kernel
theorem kd_M_takeTrees_6 : decode kb_M_takeTrees 6 = .ok (.iconst 0, 1) := by decide +kernel
theorem kd_M_takeTrees_7 : decode kb_M_takeTrees 7 = .ok (.istore_n 2, 1) := by decide +kernel
theorem kd_M_takeTrees_8 : decode kb_M_takeTrees 8 = .ok (.iload_n 2, 1) := by decide +kernel
theorem kd_M_takeTrees_9 : decode kb_M_takeTrees 9 = .ok (.aload_n 0, 1) := by decide +kernel
theorem kd_M_takeTrees_10 : decode kb_M_takeTrees 10 = .ok (.getfield 80, 3) := by decide +kernel
theorem kd_M_takeTrees_13 : decode kb_M_takeTrees 13 = .ok (.if_icmp .ge 48, 3) := by decide +kernel
theorem kd_M_takeTrees_16 : decode kb_M_takeTrees 16 = .ok (.aload_n 0, 1) := by decide +kernel
theorem kd_M_takeTrees_17 : decode kb_M_takeTrees 17 = .ok (.getfield 45, 3) := by decide +kernel
theorem kd_M_takeTrees_20 : decode kb_M_takeTrees 20 = .ok (.iload_n 2, 1) := by decide +kernel
theorem kd_M_takeTrees_21 : decode kb_M_takeTrees 21 = .ok (.aload_n 0, 1) := by decide +kernel
theorem kd_M_takeTrees_22 : decode kb_M_takeTrees 22 = .ok (.aload_n 0, 1) := by decide +kernel
theorem kd_M_takeTrees_23 : decode kb_M_takeTrees 23 = .ok (.getfield 7, 3) := by decide +kernel
theorem kd_M_takeTrees_26 : decode kb_M_takeTrees 26 = .ok (.iload_n 2, 1) := by decide +kernel
theorem kd_M_takeTrees_27 : decode kb_M_takeTrees 27 = .ok (.iaload, 1) := by decide +kernel
theorem kd_M_takeTrees_28 : decode kb_M_takeTrees 28 = .ok (.aload_n 0, 1) := by decide +kernel
theorem kd_M_takeTrees_29 : decode kb_M_takeTrees 29 = .ok (.getfield 13, 3) := by decide +kernel
theorem kd_M_takeTrees_32 : decode kb_M_takeTrees 32 = .ok (.iload_n 2, 1) := by decide +kernel
theorem kd_M_takeTrees_33 : decode kb_M_takeTrees 33 = .ok (.iaload, 1) := by decide +kernel
theorem kd_M_takeTrees_34 : decode kb_M_takeTrees 34 = .ok (.invokevirtual 144, 3) := by decide +kernel
theorem kd_M_takeTrees_37 : decode kb_M_takeTrees 37 = .ok (.bastore, 1) := by decide +kernel
theorem kd_M_takeTrees_38 : decode kb_M_takeTrees 38 = .ok (.iload_n 1, 1) := by decide +kernel
theorem kd_M_takeTrees_39 : decode kb_M_takeTrees 39 = .ok (.aload_n 0, 1) := by decide +kernel
theorem kd_M_takeTrees_40 : decode kb_M_takeTrees 40 = .ok (.getfield 45, 3) := by decide +kernel
theorem kd_M_takeTrees_43 : decode kb_M_takeTrees 43 = .ok (.iload_n 2, 1) := by decide +kernel
theorem kd_M_takeTrees_44 : decode kb_M_takeTrees 44 = .ok (.baload, 1) := by decide +kernel
theorem kd_M_takeTrees_45 : decode kb_M_takeTrees 45 = .ok (.ifCond .eq 7, 3) := by decide +kernel
theorem kd_M_takeTrees_48 : decode kb_M_takeTrees 48 = .ok (.iconst 0, 1) := by decide +kernel
theorem kd_M_takeTrees_49 : decode kb_M_takeTrees 49 = .ok (.goto 4, 3) := by decide +kernel
theorem kd_M_takeTrees_52 : decode kb_M_takeTrees 52 = .ok (.iconst 1, 1) := by decide +kernel
theorem kd_M_takeTrees_53 : decode kb_M_takeTrees 53 = .ok (.iadd, 1) := by decide +kernel
theorem kd_M_takeTrees_54 : decode kb_M_takeTrees 54 = .ok (.istore_n 1, 1) := by decide +kernel
theorem kd_M_takeTrees_55 : decode kb_M_takeTrees 55 = .ok (.iinc 2 1, 3) := by decide +kernel
theorem kd_M_takeTrees_58 : decode kb_M_takeTrees 58 = .ok (.goto (-50), 3) := by decide +kernel
theorem kd_M_takeTrees_61 : decode kb_M_takeTrees 61 = .ok (.iload_n 1, 1) := by decide +kernel
theorem kd_M_takeTrees_62 : decode kb_M_takeTrees 62 = .ok (.ireturn, 1) := by decide +kernel
theorem kd_M_ringOf_0 : decode kb_M_ringOf 0 = .ok (.iload_n 1, 1) := by decide +kernel
theorem kd_M_ringOf_1 : decode kb_M_ringOf 1 = .ok (.istore_n 2, 1) := by decide +kernel
theorem kd_M_ringOf_2 : decode kb_M_ringOf 2 = .ok (.iconst 0, 1) := by decide +kernel
theorem kd_M_ringOf_3 : decode kb_M_ringOf 3 = .ok (.istore_n 3, 1) := by decide +kernel
theorem kd_M_ringOf_4 : decode kb_M_ringOf 4 = .ok (.aload_n 0, 1) := by decide +kernel
theorem kd_M_ringOf_5 : decode kb_M_ringOf 5 = .ok (.getfield 45, 3) := by decide +kernel
theorem kd_M_ringOf_8 : decode kb_M_ringOf 8 = .ok (.iload_n 3, 1) := by decide +kernel
theorem kd_M_ringOf_9 : decode kb_M_ringOf 9 = .ok (.baload, 1) := by decide +kernel
theorem kd_M_ringOf_10 : decode kb_M_ringOf 10 = .ok (.ifCond .ne 7, 3) := by decide +kernel
theorem kd_M_ringOf_13 : decode kb_M_ringOf 13 = .ok (.iload_n 2, 1) := by decide +kernel
theorem kd_M_ringOf_14 : decode kb_M_ringOf 14 = .ok (.ifCond .le 26, 3) := by decide +kernel
theorem kd_M_ringOf_17 : decode kb_M_ringOf 17 = .ok (.iload_n 2, 1) := by decide +kernel
theorem kd_M_ringOf_18 : decode kb_M_ringOf 18 = .ok (.aload_n 0, 1) := by decide +kernel
theorem kd_M_ringOf_19 : decode kb_M_ringOf 19 = .ok (.getfield 45, 3) := by decide +kernel
theorem kd_M_ringOf_22 : decode kb_M_ringOf 22 = .ok (.iload_n 3, 1) := by decide +kernel
theorem kd_M_ringOf_23 : decode kb_M_ringOf 23 = .ok (.baload, 1) := by decide +kernel
theorem kd_M_ringOf_24 : decode kb_M_ringOf 24 = .ok (.ifCond .eq 7, 3) := by decide +kernel
theorem kd_M_ringOf_27 : decode kb_M_ringOf 27 = .ok (.iconst 0, 1) := by decide +kernel
theorem kd_M_ringOf_28 : decode kb_M_ringOf 28 = .ok (.goto 4, 3) := by decide +kernel
theorem kd_M_ringOf_31 : decode kb_M_ringOf 31 = .ok (.iconst 1, 1) := by decide +kernel
theorem kd_M_ringOf_32 : decode kb_M_ringOf 32 = .ok (.isub, 1) := by decide +kernel
theorem kd_M_ringOf_33 : decode kb_M_ringOf 33 = .ok (.istore_n 2, 1) := by decide +kernel
theorem kd_M_ringOf_34 : decode kb_M_ringOf 34 = .ok (.iinc 3 1, 3) := by decide +kernel
theorem kd_M_ringOf_37 : decode kb_M_ringOf 37 = .ok (.goto (-33), 3) := by decide +kernel
theorem kd_M_ringOf_40 : decode kb_M_ringOf 40 = .ok (.aload_n 0, 1) := by decide +kernel
theorem kd_M_ringOf_41 : decode kb_M_ringOf 41 = .ok (.getfield 48, 3) := by decide +kernel
theorem kd_M_ringOf_44 : decode kb_M_ringOf 44 = .ok (.iconst 0, 1) := by decide +kernel
theorem kd_M_ringOf_45 : decode kb_M_ringOf 45 = .ok (.iload_n 3, 1) := by decide +kernel
theorem kd_M_ringOf_46 : decode kb_M_ringOf 46 = .ok (.iastore, 1) := by decide +kernel
theorem kd_M_ringOf_47 : decode kb_M_ringOf 47 = .ok (.aload_n 0, 1) := by decide +kernel
theorem kd_M_ringOf_48 : decode kb_M_ringOf 48 = .ok (.iconst 1, 1) := by decide +kernel
theorem kd_M_ringOf_49 : decode kb_M_ringOf 49 = .ok (.putfield 155, 3) := by decide +kernel
theorem kd_M_ringOf_52 : decode kb_M_ringOf 52 = .ok (.iconst 0, 1) := by decide +kernel
theorem kd_M_ringOf_53 : decode kb_M_ringOf 53 = .ok (.istore 4, 2) := by decide +kernel
theorem kd_M_ringOf_55 : decode kb_M_ringOf 55 = .ok (.iload 4, 2) := by decide +kernel
theorem kd_M_ringOf_57 : decode kb_M_ringOf 57 = .ok (.aload_n 0, 1) := by decide +kernel
theorem kd_M_ringOf_58 : decode kb_M_ringOf 58 = .ok (.getfield 73, 3) := by decide +kernel
theorem kd_M_ringOf_61 : decode kb_M_ringOf 61 = .ok (.if_icmp .ge 32, 3) := by decide +kernel
theorem kd_M_ringOf_64 : decode kb_M_ringOf 64 = .ok (.aload_n 0, 1) := by decide +kernel
theorem kd_M_ringOf_65 : decode kb_M_ringOf 65 = .ok (.getfield 54, 3) := by decide +kernel
theorem kd_M_ringOf_68 : decode kb_M_ringOf 68 = .ok (.iload 4, 2) := by decide +kernel
theorem kd_M_ringOf_70 : decode kb_M_ringOf 70 = .ok (.iload 4, 2) := by decide +kernel
theorem kd_M_ringOf_72 : decode kb_M_ringOf 72 = .ok (.aload_n 0, 1) := by decide +kernel
theorem kd_M_ringOf_73 : decode kb_M_ringOf 73 = .ok (.getfield 7, 3) := by decide +kernel
theorem kd_M_ringOf_76 : decode kb_M_ringOf 76 = .ok (.iload_n 3, 1) := by decide +kernel
theorem kd_M_ringOf_77 : decode kb_M_ringOf 77 = .ok (.iaload, 1) := by decide +kernel
theorem kd_M_ringOf_78 : decode kb_M_ringOf 78 = .ok (.if_icmp .ne 7, 3) := by decide +kernel
theorem kd_M_ringOf_81 : decode kb_M_ringOf 81 = .ok (.iconst 1, 1) := by decide +kernel
theorem kd_M_ringOf_82 : decode kb_M_ringOf 82 = .ok (.goto 4, 3) := by decide +kernel
theorem kd_M_ringOf_85 : decode kb_M_ringOf 85 = .ok (.iconst 0, 1) := by decide +kernel
theorem kd_M_ringOf_86 : decode kb_M_ringOf 86 = .ok (.bastore, 1) := by decide +kernel
theorem kd_M_ringOf_87 : decode kb_M_ringOf 87 = .ok (.iinc 4 1, 3) := by decide +kernel
theorem kd_M_ringOf_90 : decode kb_M_ringOf 90 = .ok (.goto (-35), 3) := by decide +kernel
theorem kd_M_ringOf_93 : decode kb_M_ringOf 93 = .ok (.iconst 1, 1) := by decide +kernel
theorem kd_M_ringOf_94 : decode kb_M_ringOf 94 = .ok (.istore 4, 2) := by decide +kernel
theorem kd_M_ringOf_96 : decode kb_M_ringOf 96 = .ok (.aload_n 0, 1) := by decide +kernel
theorem kd_M_ringOf_97 : decode kb_M_ringOf 97 = .ok (.getfield 57, 3) := by decide +kernel
theorem kd_M_ringOf_100 : decode kb_M_ringOf 100 = .ok (.iconst 0, 1) := by decide +kernel
theorem kd_M_ringOf_101 : decode kb_M_ringOf 101 = .ok (.aload_n 0, 1) := by decide +kernel
theorem kd_M_ringOf_102 : decode kb_M_ringOf 102 = .ok (.getfield 7, 3) := by decide +kernel
theorem kd_M_ringOf_105 : decode kb_M_ringOf 105 = .ok (.iload_n 3, 1) := by decide +kernel
theorem kd_M_ringOf_106 : decode kb_M_ringOf 106 = .ok (.iaload, 1) := by decide +kernel
theorem kd_M_ringOf_107 : decode kb_M_ringOf 107 = .ok (.iastore, 1) := by decide +kernel
theorem kd_M_ringOf_108 : decode kb_M_ringOf 108 = .ok (.iconst 0, 1) := by decide +kernel
theorem kd_M_ringOf_109 : decode kb_M_ringOf 109 = .ok (.istore 5, 2) := by decide +kernel
theorem kd_M_ringOf_111 : decode kb_M_ringOf 111 = .ok (.iload 5, 2) := by decide +kernel
theorem kd_M_ringOf_113 : decode kb_M_ringOf 113 = .ok (.iload 4, 2) := by decide +kernel
theorem kd_M_ringOf_115 : decode kb_M_ringOf 115 = .ok (.if_icmp .ge 146, 3) := by decide +kernel
theorem kd_M_ringOf_118 : decode kb_M_ringOf 118 = .ok (.iconst 0, 1) := by decide +kernel
theorem kd_M_ringOf_119 : decode kb_M_ringOf 119 = .ok (.istore 6, 2) := by decide +kernel
theorem kd_M_ringOf_121 : decode kb_M_ringOf 121 = .ok (.iload 6, 2) := by decide +kernel
theorem kd_M_ringOf_123 : decode kb_M_ringOf 123 = .ok (.aload_n 0, 1) := by decide +kernel
theorem kd_M_ringOf_124 : decode kb_M_ringOf 124 = .ok (.getfield 80, 3) := by decide +kernel
theorem kd_M_ringOf_127 : decode kb_M_ringOf 127 = .ok (.if_icmp .ge 128, 3) := by decide +kernel
theorem kd_M_ringOf_130 : decode kb_M_ringOf 130 = .ok (.aload_n 0, 1) := by decide +kernel
theorem kd_M_ringOf_131 : decode kb_M_ringOf 131 = .ok (.getfield 45, 3) := by decide +kernel
theorem kd_M_ringOf_134 : decode kb_M_ringOf 134 = .ok (.iload 6, 2) := by decide +kernel
theorem kd_M_ringOf_136 : decode kb_M_ringOf 136 = .ok (.baload, 1) := by decide +kernel
theorem kd_M_ringOf_137 : decode kb_M_ringOf 137 = .ok (.ifCond .eq 112, 3) := by decide +kernel
theorem kd_M_ringOf_140 : decode kb_M_ringOf 140 = .ok (.aload_n 0, 1) := by decide +kernel
theorem kd_M_ringOf_141 : decode kb_M_ringOf 141 = .ok (.getfield 7, 3) := by decide +kernel
theorem kd_M_ringOf_144 : decode kb_M_ringOf 144 = .ok (.iload 6, 2) := by decide +kernel
theorem kd_M_ringOf_146 : decode kb_M_ringOf 146 = .ok (.iaload, 1) := by decide +kernel
theorem kd_M_ringOf_147 : decode kb_M_ringOf 147 = .ok (.aload_n 0, 1) := by decide +kernel
theorem kd_M_ringOf_148 : decode kb_M_ringOf 148 = .ok (.getfield 57, 3) := by decide +kernel
theorem kd_M_ringOf_151 : decode kb_M_ringOf 151 = .ok (.iload 5, 2) := by decide +kernel
theorem kd_M_ringOf_153 : decode kb_M_ringOf 153 = .ok (.iaload, 1) := by decide +kernel
theorem kd_M_ringOf_154 : decode kb_M_ringOf 154 = .ok (.if_icmp .eq 20, 3) := by decide +kernel
theorem kd_M_ringOf_157 : decode kb_M_ringOf 157 = .ok (.aload_n 0, 1) := by decide +kernel
theorem kd_M_ringOf_158 : decode kb_M_ringOf 158 = .ok (.getfield 13, 3) := by decide +kernel
theorem kd_M_ringOf_161 : decode kb_M_ringOf 161 = .ok (.iload 6, 2) := by decide +kernel
theorem kd_M_ringOf_163 : decode kb_M_ringOf 163 = .ok (.iaload, 1) := by decide +kernel
theorem kd_M_ringOf_164 : decode kb_M_ringOf 164 = .ok (.aload_n 0, 1) := by decide +kernel
theorem kd_M_ringOf_165 : decode kb_M_ringOf 165 = .ok (.getfield 57, 3) := by decide +kernel
theorem kd_M_ringOf_168 : decode kb_M_ringOf 168 = .ok (.iload 5, 2) := by decide +kernel
theorem kd_M_ringOf_170 : decode kb_M_ringOf 170 = .ok (.iaload, 1) := by decide +kernel
theorem kd_M_ringOf_171 : decode kb_M_ringOf 171 = .ok (.if_icmp .ne 78, 3) := by decide +kernel
theorem kd_M_ringOf_174 : decode kb_M_ringOf 174 = .ok (.aload_n 0, 1) := by decide +kernel
theorem kd_M_ringOf_175 : decode kb_M_ringOf 175 = .ok (.getfield 7, 3) := by decide +kernel
theorem kd_M_ringOf_178 : decode kb_M_ringOf 178 = .ok (.iload 6, 2) := by decide +kernel
theorem kd_M_ringOf_180 : decode kb_M_ringOf 180 = .ok (.iaload, 1) := by decide +kernel
theorem kd_M_ringOf_181 : decode kb_M_ringOf 181 = .ok (.aload_n 0, 1) := by decide +kernel
theorem kd_M_ringOf_182 : decode kb_M_ringOf 182 = .ok (.getfield 57, 3) := by decide +kernel
theorem kd_M_ringOf_185 : decode kb_M_ringOf 185 = .ok (.iload 5, 2) := by decide +kernel
theorem kd_M_ringOf_187 : decode kb_M_ringOf 187 = .ok (.iaload, 1) := by decide +kernel
theorem kd_M_ringOf_188 : decode kb_M_ringOf 188 = .ok (.if_icmp .ne 13, 3) := by decide +kernel
theorem kd_M_ringOf_191 : decode kb_M_ringOf 191 = .ok (.aload_n 0, 1) := by decide +kernel
theorem kd_M_ringOf_192 : decode kb_M_ringOf 192 = .ok (.getfield 13, 3) := by decide +kernel
theorem kd_M_ringOf_195 : decode kb_M_ringOf 195 = .ok (.iload 6, 2) := by decide +kernel
theorem kd_M_ringOf_197 : decode kb_M_ringOf 197 = .ok (.iaload, 1) := by decide +kernel
theorem kd_M_ringOf_198 : decode kb_M_ringOf 198 = .ok (.goto 10, 3) := by decide +kernel
theorem kd_M_ringOf_201 : decode kb_M_ringOf 201 = .ok (.aload_n 0, 1) := by decide +kernel
theorem kd_M_ringOf_202 : decode kb_M_ringOf 202 = .ok (.getfield 7, 3) := by decide +kernel
theorem kd_M_ringOf_205 : decode kb_M_ringOf 205 = .ok (.iload 6, 2) := by decide +kernel
theorem kd_M_ringOf_207 : decode kb_M_ringOf 207 = .ok (.iaload, 1) := by decide +kernel
theorem kd_M_ringOf_208 : decode kb_M_ringOf 208 = .ok (.istore 7, 2) := by decide +kernel
theorem kd_M_ringOf_210 : decode kb_M_ringOf 210 = .ok (.aload_n 0, 1) := by decide +kernel
theorem kd_M_ringOf_211 : decode kb_M_ringOf 211 = .ok (.getfield 54, 3) := by decide +kernel
theorem kd_M_ringOf_214 : decode kb_M_ringOf 214 = .ok (.iload 7, 2) := by decide +kernel
theorem kd_M_ringOf_216 : decode kb_M_ringOf 216 = .ok (.baload, 1) := by decide +kernel
theorem kd_M_ringOf_217 : decode kb_M_ringOf 217 = .ok (.ifCond .ne 32, 3) := by decide +kernel
theorem kd_M_ringOf_220 : decode kb_M_ringOf 220 = .ok (.aload_n 0, 1) := by decide +kernel
theorem kd_M_ringOf_221 : decode kb_M_ringOf 221 = .ok (.getfield 54, 3) := by decide +kernel
theorem kd_M_ringOf_224 : decode kb_M_ringOf 224 = .ok (.iload 7, 2) := by decide +kernel
theorem kd_M_ringOf_226 : decode kb_M_ringOf 226 = .ok (.iconst 1, 1) := by decide +kernel
theorem kd_M_ringOf_227 : decode kb_M_ringOf 227 = .ok (.bastore, 1) := by decide +kernel
theorem kd_M_ringOf_228 : decode kb_M_ringOf 228 = .ok (.aload_n 0, 1) := by decide +kernel
theorem kd_M_ringOf_229 : decode kb_M_ringOf 229 = .ok (.getfield 51, 3) := by decide +kernel
theorem kd_M_ringOf_232 : decode kb_M_ringOf 232 = .ok (.iload 7, 2) := by decide +kernel
theorem kd_M_ringOf_234 : decode kb_M_ringOf 234 = .ok (.iload 6, 2) := by decide +kernel
theorem kd_M_ringOf_236 : decode kb_M_ringOf 236 = .ok (.iastore, 1) := by decide +kernel
theorem kd_M_ringOf_237 : decode kb_M_ringOf 237 = .ok (.aload_n 0, 1) := by decide +kernel
theorem kd_M_ringOf_238 : decode kb_M_ringOf 238 = .ok (.getfield 57, 3) := by decide +kernel
theorem kd_M_ringOf_241 : decode kb_M_ringOf 241 = .ok (.iload 4, 2) := by decide +kernel
theorem kd_M_ringOf_243 : decode kb_M_ringOf 243 = .ok (.iload 7, 2) := by decide +kernel
theorem kd_M_ringOf_245 : decode kb_M_ringOf 245 = .ok (.iastore, 1) := by decide +kernel
theorem kd_M_ringOf_246 : decode kb_M_ringOf 246 = .ok (.iinc 4 1, 3) := by decide +kernel
theorem kd_M_ringOf_249 : decode kb_M_ringOf 249 = .ok (.iinc 6 1, 3) := by decide +kernel
theorem kd_M_ringOf_252 : decode kb_M_ringOf 252 = .ok (.goto (-131), 3) := by decide +kernel
theorem kd_M_ringOf_255 : decode kb_M_ringOf 255 = .ok (.iinc 5 1, 3) := by decide +kernel
theorem kd_M_ringOf_258 : decode kb_M_ringOf 258 = .ok (.goto (-147), 3) := by decide +kernel
theorem kd_M_ringOf_261 : decode kb_M_ringOf 261 = .ok (.aload_n 0, 1) := by decide +kernel
theorem kd_M_ringOf_262 : decode kb_M_ringOf 262 = .ok (.getfield 13, 3) := by decide +kernel
theorem kd_M_ringOf_265 : decode kb_M_ringOf 265 = .ok (.iload_n 3, 1) := by decide +kernel
theorem kd_M_ringOf_266 : decode kb_M_ringOf 266 = .ok (.iaload, 1) := by decide +kernel
theorem kd_M_ringOf_267 : decode kb_M_ringOf 267 = .ok (.istore 5, 2) := by decide +kernel
theorem kd_M_ringOf_269 : decode kb_M_ringOf 269 = .ok (.iload 5, 2) := by decide +kernel
theorem kd_M_ringOf_271 : decode kb_M_ringOf 271 = .ok (.aload_n 0, 1) := by decide +kernel
theorem kd_M_ringOf_272 : decode kb_M_ringOf 272 = .ok (.getfield 7, 3) := by decide +kernel
theorem kd_M_ringOf_275 : decode kb_M_ringOf 275 = .ok (.iload_n 3, 1) := by decide +kernel
theorem kd_M_ringOf_276 : decode kb_M_ringOf 276 = .ok (.iaload, 1) := by decide +kernel
theorem kd_M_ringOf_277 : decode kb_M_ringOf 277 = .ok (.if_icmp .eq 78, 3) := by decide +kernel
theorem kd_M_ringOf_280 : decode kb_M_ringOf 280 = .ok (.aload_n 0, 1) := by decide +kernel
theorem kd_M_ringOf_281 : decode kb_M_ringOf 281 = .ok (.getfield 48, 3) := by decide +kernel
theorem kd_M_ringOf_284 : decode kb_M_ringOf 284 = .ok (.aload_n 0, 1) := by decide +kernel
theorem kd_M_ringOf_285 : decode kb_M_ringOf 285 = .ok (.getfield 155, 3) := by decide +kernel
theorem kd_M_ringOf_288 : decode kb_M_ringOf 288 = .ok (.aload_n 0, 1) := by decide +kernel
theorem kd_M_ringOf_289 : decode kb_M_ringOf 289 = .ok (.getfield 51, 3) := by decide +kernel
theorem kd_M_ringOf_292 : decode kb_M_ringOf 292 = .ok (.iload 5, 2) := by decide +kernel
theorem kd_M_ringOf_294 : decode kb_M_ringOf 294 = .ok (.iaload, 1) := by decide +kernel
theorem kd_M_ringOf_295 : decode kb_M_ringOf 295 = .ok (.iastore, 1) := by decide +kernel
theorem kd_M_ringOf_296 : decode kb_M_ringOf 296 = .ok (.aload_n 0, 1) := by decide +kernel
theorem kd_M_ringOf_297 : decode kb_M_ringOf 297 = .ok (.dup, 1) := by decide +kernel
theorem kd_M_ringOf_298 : decode kb_M_ringOf 298 = .ok (.getfield 155, 3) := by decide +kernel
theorem kd_M_ringOf_301 : decode kb_M_ringOf 301 = .ok (.iconst 1, 1) := by decide +kernel
theorem kd_M_ringOf_302 : decode kb_M_ringOf 302 = .ok (.iadd, 1) := by decide +kernel
theorem kd_M_ringOf_303 : decode kb_M_ringOf 303 = .ok (.putfield 155, 3) := by decide +kernel
theorem kd_M_ringOf_306 : decode kb_M_ringOf 306 = .ok (.aload_n 0, 1) := by decide +kernel
theorem kd_M_ringOf_307 : decode kb_M_ringOf 307 = .ok (.getfield 7, 3) := by decide +kernel
theorem kd_M_ringOf_310 : decode kb_M_ringOf 310 = .ok (.aload_n 0, 1) := by decide +kernel
theorem kd_M_ringOf_311 : decode kb_M_ringOf 311 = .ok (.getfield 51, 3) := by decide +kernel
theorem kd_M_ringOf_314 : decode kb_M_ringOf 314 = .ok (.iload 5, 2) := by decide +kernel
theorem kd_M_ringOf_316 : decode kb_M_ringOf 316 = .ok (.iaload, 1) := by decide +kernel
theorem kd_M_ringOf_317 : decode kb_M_ringOf 317 = .ok (.iaload, 1) := by decide +kernel
theorem kd_M_ringOf_318 : decode kb_M_ringOf 318 = .ok (.iload 5, 2) := by decide +kernel
theorem kd_M_ringOf_320 : decode kb_M_ringOf 320 = .ok (.if_icmp .ne 18, 3) := by decide +kernel
theorem kd_M_ringOf_323 : decode kb_M_ringOf 323 = .ok (.aload_n 0, 1) := by decide +kernel
theorem kd_M_ringOf_324 : decode kb_M_ringOf 324 = .ok (.getfield 13, 3) := by decide +kernel
theorem kd_M_ringOf_327 : decode kb_M_ringOf 327 = .ok (.aload_n 0, 1) := by decide +kernel
theorem kd_M_ringOf_328 : decode kb_M_ringOf 328 = .ok (.getfield 51, 3) := by decide +kernel
theorem kd_M_ringOf_331 : decode kb_M_ringOf 331 = .ok (.iload 5, 2) := by decide +kernel
theorem kd_M_ringOf_333 : decode kb_M_ringOf 333 = .ok (.iaload, 1) := by decide +kernel
theorem kd_M_ringOf_334 : decode kb_M_ringOf 334 = .ok (.iaload, 1) := by decide +kernel
theorem kd_M_ringOf_335 : decode kb_M_ringOf 335 = .ok (.goto 15, 3) := by decide +kernel
theorem kd_M_ringOf_338 : decode kb_M_ringOf 338 = .ok (.aload_n 0, 1) := by decide +kernel
theorem kd_M_ringOf_339 : decode kb_M_ringOf 339 = .ok (.getfield 7, 3) := by decide +kernel
theorem kd_M_ringOf_342 : decode kb_M_ringOf 342 = .ok (.aload_n 0, 1) := by decide +kernel
theorem kd_M_ringOf_343 : decode kb_M_ringOf 343 = .ok (.getfield 51, 3) := by decide +kernel
theorem kd_M_ringOf_346 : decode kb_M_ringOf 346 = .ok (.iload 5, 2) := by decide +kernel
theorem kd_M_ringOf_348 : decode kb_M_ringOf 348 = .ok (.iaload, 1) := by decide +kernel
theorem kd_M_ringOf_349 : decode kb_M_ringOf 349 = .ok (.iaload, 1) := by decide +kernel
theorem kd_M_ringOf_350 : decode kb_M_ringOf 350 = .ok (.istore 5, 2) := by decide +kernel
theorem kd_M_ringOf_352 : decode kb_M_ringOf 352 = .ok (.goto (-83), 3) := by decide +kernel
theorem kd_M_ringOf_355 : decode kb_M_ringOf 355 = .ok (.return_, 1) := by decide +kernel
theorem kd_M_ring_0 : decode kb_M_ring 0 = .ok (.aload_n 0, 1) := by decide +kernel
theorem kd_M_ring_1 : decode kb_M_ring 1 = .ok (.iconst 0, 1) := by decide +kernel
theorem kd_M_ring_2 : decode kb_M_ring 2 = .ok (.putfield 69, 3) := by decide +kernel
theorem kd_M_ring_5 : decode kb_M_ring 5 = .ok (.iload_n 1, 1) := by decide +kernel
theorem kd_M_ring_6 : decode kb_M_ring 6 = .ok (.ifCond .lt 15, 3) := by decide +kernel
theorem kd_M_ring_9 : decode kb_M_ring 9 = .ok (.iload_n 2, 1) := by decide +kernel
theorem kd_M_ring_10 : decode kb_M_ring 10 = .ok (.ifCond .lt 11, 3) := by decide +kernel
theorem kd_M_ring_13 : decode kb_M_ring 13 = .ok (.iload_n 1, 1) := by decide +kernel
theorem kd_M_ring_14 : decode kb_M_ring 14 = .ok (.aload_n 0, 1) := by decide +kernel
theorem kd_M_ring_15 : decode kb_M_ring 15 = .ok (.invokevirtual 158, 3) := by decide +kernel
theorem kd_M_ring_18 : decode kb_M_ring 18 = .ok (.if_icmp .lt 5, 3) := by decide +kernel
theorem kd_M_ring_21 : decode kb_M_ring 21 = .ok (.iconst (-1), 1) := by decide +kernel
theorem kd_M_ring_22 : decode kb_M_ring 22 = .ok (.ireturn, 1) := by decide +kernel
theorem kd_M_ring_23 : decode kb_M_ring 23 = .ok (.aload_n 0, 1) := by decide +kernel
theorem kd_M_ring_24 : decode kb_M_ring 24 = .ok (.iload_n 1, 1) := by decide +kernel
theorem kd_M_ring_25 : decode kb_M_ring 25 = .ok (.invokevirtual 162, 3) := by decide +kernel
theorem kd_M_ring_28 : decode kb_M_ring 28 = .ok (.iload_n 2, 1) := by decide +kernel
theorem kd_M_ring_29 : decode kb_M_ring 29 = .ok (.aload_n 0, 1) := by decide +kernel
theorem kd_M_ring_30 : decode kb_M_ring 30 = .ok (.getfield 155, 3) := by decide +kernel
theorem kd_M_ring_33 : decode kb_M_ring 33 = .ok (.if_icmp .ge 12, 3) := by decide +kernel
theorem kd_M_ring_36 : decode kb_M_ring 36 = .ok (.aload_n 0, 1) := by decide +kernel
theorem kd_M_ring_37 : decode kb_M_ring 37 = .ok (.getfield 48, 3) := by decide +kernel
theorem kd_M_ring_40 : decode kb_M_ring 40 = .ok (.iload_n 2, 1) := by decide +kernel
theorem kd_M_ring_41 : decode kb_M_ring 41 = .ok (.iaload, 1) := by decide +kernel
theorem kd_M_ring_42 : decode kb_M_ring 42 = .ok (.goto 4, 3) := by decide +kernel
theorem kd_M_ring_45 : decode kb_M_ring 45 = .ok (.iconst (-1), 1) := by decide +kernel
theorem kd_M_ring_46 : decode kb_M_ring 46 = .ok (.ireturn, 1) := by decide +kernel
theorem kd_M_times_0 : decode kb_M_times 0 = .ok (.lconst 0, 1) := by decide +kernel
theorem kd_M_times_1 : decode kb_M_times 1 = .ok (.lstore 6, 2) := by decide +kernel
theorem kd_M_times_3 : decode kb_M_times 3 = .ok (.lload_n 0, 1) := by decide +kernel
theorem kd_M_times_4 : decode kb_M_times 4 = .ok (.lstore 8, 2) := by decide +kernel
theorem kd_M_times_6 : decode kb_M_times 6 = .ok (.lload_n 2, 1) := by decide +kernel
theorem kd_M_times_7 : decode kb_M_times 7 = .ok (.lstore 10, 2) := by decide +kernel
theorem kd_M_times_9 : decode kb_M_times 9 = .ok (.lload 10, 2) := by decide +kernel
theorem kd_M_times_11 : decode kb_M_times 11 = .ok (.lconst 0, 1) := by decide +kernel
theorem kd_M_times_12 : decode kb_M_times 12 = .ok (.lcmp, 1) := by decide +kernel
theorem kd_M_times_13 : decode kb_M_times 13 = .ok (.ifCond .le 41, 3) := by decide +kernel
theorem kd_M_times_16 : decode kb_M_times 16 = .ok (.lload 10, 2) := by decide +kernel
theorem kd_M_times_18 : decode kb_M_times 18 = .ok (.lconst 1, 1) := by decide +kernel
theorem kd_M_times_19 : decode kb_M_times 19 = .ok (.land, 1) := by decide +kernel
theorem kd_M_times_20 : decode kb_M_times 20 = .ok (.lconst 1, 1) := by decide +kernel
theorem kd_M_times_21 : decode kb_M_times 21 = .ok (.lcmp, 1) := by decide +kernel
theorem kd_M_times_22 : decode kb_M_times 22 = .ok (.ifCond .ne 13, 3) := by decide +kernel
theorem kd_M_times_25 : decode kb_M_times 25 = .ok (.lload 6, 2) := by decide +kernel
theorem kd_M_times_27 : decode kb_M_times 27 = .ok (.lload 8, 2) := by decide +kernel
theorem kd_M_times_29 : decode kb_M_times 29 = .ok (.ladd, 1) := by decide +kernel
theorem kd_M_times_30 : decode kb_M_times 30 = .ok (.lload 4, 2) := by decide +kernel
theorem kd_M_times_32 : decode kb_M_times 32 = .ok (.lrem, 1) := by decide +kernel
theorem kd_M_times_33 : decode kb_M_times 33 = .ok (.lstore 6, 2) := by decide +kernel
theorem kd_M_times_35 : decode kb_M_times 35 = .ok (.lload 8, 2) := by decide +kernel
theorem kd_M_times_37 : decode kb_M_times 37 = .ok (.lload 8, 2) := by decide +kernel
theorem kd_M_times_39 : decode kb_M_times 39 = .ok (.ladd, 1) := by decide +kernel
theorem kd_M_times_40 : decode kb_M_times 40 = .ok (.lload 4, 2) := by decide +kernel
theorem kd_M_times_42 : decode kb_M_times 42 = .ok (.lrem, 1) := by decide +kernel
theorem kd_M_times_43 : decode kb_M_times 43 = .ok (.lstore 8, 2) := by decide +kernel
theorem kd_M_times_45 : decode kb_M_times 45 = .ok (.lload 10, 2) := by decide +kernel
theorem kd_M_times_47 : decode kb_M_times 47 = .ok (.iconst 1, 1) := by decide +kernel
theorem kd_M_times_48 : decode kb_M_times 48 = .ok (.lshr, 1) := by decide +kernel
theorem kd_M_times_49 : decode kb_M_times 49 = .ok (.lstore 10, 2) := by decide +kernel
theorem kd_M_times_51 : decode kb_M_times 51 = .ok (.goto (-42), 3) := by decide +kernel
theorem kd_M_times_54 : decode kb_M_times 54 = .ok (.lload 6, 2) := by decide +kernel
theorem kd_M_times_56 : decode kb_M_times 56 = .ok (.lreturn, 1) := by decide +kernel
theorem kd_M_lessRow_0 : decode kb_M_lessRow 0 = .ok (.iconst 0, 1) := by decide +kernel
theorem kd_M_lessRow_1 : decode kb_M_lessRow 1 = .ok (.istore 8, 2) := by decide +kernel
theorem kd_M_lessRow_3 : decode kb_M_lessRow 3 = .ok (.iload 8, 2) := by decide +kernel
theorem kd_M_lessRow_5 : decode kb_M_lessRow 5 = .ok (.iload 5, 2) := by decide +kernel
theorem kd_M_lessRow_7 : decode kb_M_lessRow 7 = .ok (.if_icmp .ge 61, 3) := by decide +kernel
theorem kd_M_lessRow_10 : decode kb_M_lessRow 10 = .ok (.aload_n 0, 1) := by decide +kernel
theorem kd_M_lessRow_11 : decode kb_M_lessRow 11 = .ok (.getfield 26, 3) := by decide +kernel
theorem kd_M_lessRow_14 : decode kb_M_lessRow 14 = .ok (.bipush 10, 2) := by decide +kernel
theorem kd_M_lessRow_16 : decode kb_M_lessRow 16 = .ok (.iload_n 1, 1) := by decide +kernel
theorem kd_M_lessRow_17 : decode kb_M_lessRow 17 = .ok (.imul, 1) := by decide +kernel
theorem kd_M_lessRow_18 : decode kb_M_lessRow 18 = .ok (.iload 8, 2) := by decide +kernel
theorem kd_M_lessRow_20 : decode kb_M_lessRow 20 = .ok (.iadd, 1) := by decide +kernel
theorem kd_M_lessRow_21 : decode kb_M_lessRow 21 = .ok (.aload_n 0, 1) := by decide +kernel
theorem kd_M_lessRow_22 : decode kb_M_lessRow 22 = .ok (.getfield 26, 3) := by decide +kernel
theorem kd_M_lessRow_25 : decode kb_M_lessRow 25 = .ok (.bipush 10, 2) := by decide +kernel
theorem kd_M_lessRow_27 : decode kb_M_lessRow 27 = .ok (.iload_n 1, 1) := by decide +kernel
theorem kd_M_lessRow_28 : decode kb_M_lessRow 28 = .ok (.imul, 1) := by decide +kernel
theorem kd_M_lessRow_29 : decode kb_M_lessRow 29 = .ok (.iload 8, 2) := by decide +kernel
theorem kd_M_lessRow_31 : decode kb_M_lessRow 31 = .ok (.iadd, 1) := by decide +kernel
theorem kd_M_lessRow_32 : decode kb_M_lessRow 32 = .ok (.laload, 1) := by decide +kernel
theorem kd_M_lessRow_33 : decode kb_M_lessRow 33 = .ok (.lload 6, 2) := by decide +kernel
theorem kd_M_lessRow_35 : decode kb_M_lessRow 35 = .ok (.ladd, 1) := by decide +kernel
theorem kd_M_lessRow_36 : decode kb_M_lessRow 36 = .ok (.aload_n 0, 1) := by decide +kernel
theorem kd_M_lessRow_37 : decode kb_M_lessRow 37 = .ok (.getfield 26, 3) := by decide +kernel
theorem kd_M_lessRow_40 : decode kb_M_lessRow 40 = .ok (.bipush 10, 2) := by decide +kernel
theorem kd_M_lessRow_42 : decode kb_M_lessRow 42 = .ok (.iload_n 2, 1) := by decide +kernel
theorem kd_M_lessRow_43 : decode kb_M_lessRow 43 = .ok (.imul, 1) := by decide +kernel
theorem kd_M_lessRow_44 : decode kb_M_lessRow 44 = .ok (.iload 8, 2) := by decide +kernel
theorem kd_M_lessRow_46 : decode kb_M_lessRow 46 = .ok (.iadd, 1) := by decide +kernel
theorem kd_M_lessRow_47 : decode kb_M_lessRow 47 = .ok (.laload, 1) := by decide +kernel
theorem kd_M_lessRow_48 : decode kb_M_lessRow 48 = .ok (.lload_n 3, 1) := by decide +kernel
theorem kd_M_lessRow_49 : decode kb_M_lessRow 49 = .ok (.lload 6, 2) := by decide +kernel
theorem kd_M_lessRow_51 : decode kb_M_lessRow 51 = .ok (.lrem, 1) := by decide +kernel
theorem kd_M_lessRow_52 : decode kb_M_lessRow 52 = .ok (.lload 6, 2) := by decide +kernel
theorem kd_M_lessRow_54 : decode kb_M_lessRow 54 = .ok (.invokestatic 166, 3) := by decide +kernel
theorem kd_M_lessRow_57 : decode kb_M_lessRow 57 = .ok (.lsub, 1) := by decide +kernel
theorem kd_M_lessRow_58 : decode kb_M_lessRow 58 = .ok (.lload 6, 2) := by decide +kernel
theorem kd_M_lessRow_60 : decode kb_M_lessRow 60 = .ok (.lrem, 1) := by decide +kernel
theorem kd_M_lessRow_61 : decode kb_M_lessRow 61 = .ok (.lastore, 1) := by decide +kernel
theorem kd_M_lessRow_62 : decode kb_M_lessRow 62 = .ok (.iinc 8 1, 3) := by decide +kernel
theorem kd_M_lessRow_65 : decode kb_M_lessRow 65 = .ok (.goto (-62), 3) := by decide +kernel
theorem kd_M_lessRow_68 : decode kb_M_lessRow 68 = .ok (.return_, 1) := by decide +kernel
theorem kd_M_lessColumn_0 : decode kb_M_lessColumn 0 = .ok (.iconst 0, 1) := by decide +kernel
theorem kd_M_lessColumn_1 : decode kb_M_lessColumn 1 = .ok (.istore 8, 2) := by decide +kernel
theorem kd_M_lessColumn_3 : decode kb_M_lessColumn 3 = .ok (.iload 8, 2) := by decide +kernel
theorem kd_M_lessColumn_5 : decode kb_M_lessColumn 5 = .ok (.iload 5, 2) := by decide +kernel
theorem kd_M_lessColumn_7 : decode kb_M_lessColumn 7 = .ok (.if_icmp .ge 61, 3) := by decide +kernel
theorem kd_M_lessColumn_10 : decode kb_M_lessColumn 10 = .ok (.aload_n 0, 1) := by decide +kernel
theorem kd_M_lessColumn_11 : decode kb_M_lessColumn 11 = .ok (.getfield 26, 3) := by decide +kernel
theorem kd_M_lessColumn_14 : decode kb_M_lessColumn 14 = .ok (.bipush 10, 2) := by decide +kernel
theorem kd_M_lessColumn_16 : decode kb_M_lessColumn 16 = .ok (.iload 8, 2) := by decide +kernel
theorem kd_M_lessColumn_18 : decode kb_M_lessColumn 18 = .ok (.imul, 1) := by decide +kernel
theorem kd_M_lessColumn_19 : decode kb_M_lessColumn 19 = .ok (.iload_n 1, 1) := by decide +kernel
theorem kd_M_lessColumn_20 : decode kb_M_lessColumn 20 = .ok (.iadd, 1) := by decide +kernel
theorem kd_M_lessColumn_21 : decode kb_M_lessColumn 21 = .ok (.aload_n 0, 1) := by decide +kernel
theorem kd_M_lessColumn_22 : decode kb_M_lessColumn 22 = .ok (.getfield 26, 3) := by decide +kernel
theorem kd_M_lessColumn_25 : decode kb_M_lessColumn 25 = .ok (.bipush 10, 2) := by decide +kernel
theorem kd_M_lessColumn_27 : decode kb_M_lessColumn 27 = .ok (.iload 8, 2) := by decide +kernel
theorem kd_M_lessColumn_29 : decode kb_M_lessColumn 29 = .ok (.imul, 1) := by decide +kernel
theorem kd_M_lessColumn_30 : decode kb_M_lessColumn 30 = .ok (.iload_n 1, 1) := by decide +kernel
theorem kd_M_lessColumn_31 : decode kb_M_lessColumn 31 = .ok (.iadd, 1) := by decide +kernel
theorem kd_M_lessColumn_32 : decode kb_M_lessColumn 32 = .ok (.laload, 1) := by decide +kernel
theorem kd_M_lessColumn_33 : decode kb_M_lessColumn 33 = .ok (.lload 6, 2) := by decide +kernel
theorem kd_M_lessColumn_35 : decode kb_M_lessColumn 35 = .ok (.ladd, 1) := by decide +kernel
theorem kd_M_lessColumn_36 : decode kb_M_lessColumn 36 = .ok (.aload_n 0, 1) := by decide +kernel
theorem kd_M_lessColumn_37 : decode kb_M_lessColumn 37 = .ok (.getfield 26, 3) := by decide +kernel
theorem kd_M_lessColumn_40 : decode kb_M_lessColumn 40 = .ok (.bipush 10, 2) := by decide +kernel
theorem kd_M_lessColumn_42 : decode kb_M_lessColumn 42 = .ok (.iload 8, 2) := by decide +kernel
theorem kd_M_lessColumn_44 : decode kb_M_lessColumn 44 = .ok (.imul, 1) := by decide +kernel
theorem kd_M_lessColumn_45 : decode kb_M_lessColumn 45 = .ok (.iload_n 2, 1) := by decide +kernel
theorem kd_M_lessColumn_46 : decode kb_M_lessColumn 46 = .ok (.iadd, 1) := by decide +kernel
theorem kd_M_lessColumn_47 : decode kb_M_lessColumn 47 = .ok (.laload, 1) := by decide +kernel
theorem kd_M_lessColumn_48 : decode kb_M_lessColumn 48 = .ok (.lload_n 3, 1) := by decide +kernel
theorem kd_M_lessColumn_49 : decode kb_M_lessColumn 49 = .ok (.lload 6, 2) := by decide +kernel
theorem kd_M_lessColumn_51 : decode kb_M_lessColumn 51 = .ok (.lrem, 1) := by decide +kernel
theorem kd_M_lessColumn_52 : decode kb_M_lessColumn 52 = .ok (.lload 6, 2) := by decide +kernel
theorem kd_M_lessColumn_54 : decode kb_M_lessColumn 54 = .ok (.invokestatic 166, 3) := by decide +kernel
theorem kd_M_lessColumn_57 : decode kb_M_lessColumn 57 = .ok (.lsub, 1) := by decide +kernel
theorem kd_M_lessColumn_58 : decode kb_M_lessColumn 58 = .ok (.lload 6, 2) := by decide +kernel
theorem kd_M_lessColumn_60 : decode kb_M_lessColumn 60 = .ok (.lrem, 1) := by decide +kernel
theorem kd_M_lessColumn_61 : decode kb_M_lessColumn 61 = .ok (.lastore, 1) := by decide +kernel
theorem kd_M_lessColumn_62 : decode kb_M_lessColumn 62 = .ok (.iinc 8 1, 3) := by decide +kernel
theorem kd_M_lessColumn_65 : decode kb_M_lessColumn 65 = .ok (.goto (-62), 3) := by decide +kernel
theorem kd_M_lessColumn_68 : decode kb_M_lessColumn 68 = .ok (.return_, 1) := by decide +kernel
theorem kd_M_swapRows_0 : decode kb_M_swapRows 0 = .ok (.iconst 0, 1) := by decide +kernel
theorem kd_M_swapRows_1 : decode kb_M_swapRows 1 = .ok (.istore 4, 2) := by decide +kernel
theorem kd_M_swapRows_3 : decode kb_M_swapRows 3 = .ok (.iload 4, 2) := by decide +kernel
theorem kd_M_swapRows_5 : decode kb_M_swapRows 5 = .ok (.iload_n 3, 1) := by decide +kernel
theorem kd_M_swapRows_6 : decode kb_M_swapRows 6 = .ok (.if_icmp .ge 61, 3) := by decide +kernel
theorem kd_M_swapRows_9 : decode kb_M_swapRows 9 = .ok (.aload_n 0, 1) := by decide +kernel
theorem kd_M_swapRows_10 : decode kb_M_swapRows 10 = .ok (.getfield 26, 3) := by decide +kernel
theorem kd_M_swapRows_13 : decode kb_M_swapRows 13 = .ok (.bipush 10, 2) := by decide +kernel
theorem kd_M_swapRows_15 : decode kb_M_swapRows 15 = .ok (.iload_n 1, 1) := by decide +kernel
theorem kd_M_swapRows_16 : decode kb_M_swapRows 16 = .ok (.imul, 1) := by decide +kernel
theorem kd_M_swapRows_17 : decode kb_M_swapRows 17 = .ok (.iload 4, 2) := by decide +kernel
theorem kd_M_swapRows_19 : decode kb_M_swapRows 19 = .ok (.iadd, 1) := by decide +kernel
theorem kd_M_swapRows_20 : decode kb_M_swapRows 20 = .ok (.laload, 1) := by decide +kernel
theorem kd_M_swapRows_21 : decode kb_M_swapRows 21 = .ok (.lstore 5, 2) := by decide +kernel
theorem kd_M_swapRows_23 : decode kb_M_swapRows 23 = .ok (.aload_n 0, 1) := by decide +kernel
theorem kd_M_swapRows_24 : decode kb_M_swapRows 24 = .ok (.getfield 26, 3) := by decide +kernel
theorem kd_M_swapRows_27 : decode kb_M_swapRows 27 = .ok (.bipush 10, 2) := by decide +kernel
theorem kd_M_swapRows_29 : decode kb_M_swapRows 29 = .ok (.iload_n 1, 1) := by decide +kernel
theorem kd_M_swapRows_30 : decode kb_M_swapRows 30 = .ok (.imul, 1) := by decide +kernel
theorem kd_M_swapRows_31 : decode kb_M_swapRows 31 = .ok (.iload 4, 2) := by decide +kernel
theorem kd_M_swapRows_33 : decode kb_M_swapRows 33 = .ok (.iadd, 1) := by decide +kernel
theorem kd_M_swapRows_34 : decode kb_M_swapRows 34 = .ok (.aload_n 0, 1) := by decide +kernel
theorem kd_M_swapRows_35 : decode kb_M_swapRows 35 = .ok (.getfield 26, 3) := by decide +kernel
theorem kd_M_swapRows_38 : decode kb_M_swapRows 38 = .ok (.bipush 10, 2) := by decide +kernel
theorem kd_M_swapRows_40 : decode kb_M_swapRows 40 = .ok (.iload_n 2, 1) := by decide +kernel
theorem kd_M_swapRows_41 : decode kb_M_swapRows 41 = .ok (.imul, 1) := by decide +kernel
theorem kd_M_swapRows_42 : decode kb_M_swapRows 42 = .ok (.iload 4, 2) := by decide +kernel
theorem kd_M_swapRows_44 : decode kb_M_swapRows 44 = .ok (.iadd, 1) := by decide +kernel
theorem kd_M_swapRows_45 : decode kb_M_swapRows 45 = .ok (.laload, 1) := by decide +kernel
theorem kd_M_swapRows_46 : decode kb_M_swapRows 46 = .ok (.lastore, 1) := by decide +kernel
theorem kd_M_swapRows_47 : decode kb_M_swapRows 47 = .ok (.aload_n 0, 1) := by decide +kernel
theorem kd_M_swapRows_48 : decode kb_M_swapRows 48 = .ok (.getfield 26, 3) := by decide +kernel
theorem kd_M_swapRows_51 : decode kb_M_swapRows 51 = .ok (.bipush 10, 2) := by decide +kernel
theorem kd_M_swapRows_53 : decode kb_M_swapRows 53 = .ok (.iload_n 2, 1) := by decide +kernel
theorem kd_M_swapRows_54 : decode kb_M_swapRows 54 = .ok (.imul, 1) := by decide +kernel
theorem kd_M_swapRows_55 : decode kb_M_swapRows 55 = .ok (.iload 4, 2) := by decide +kernel
theorem kd_M_swapRows_57 : decode kb_M_swapRows 57 = .ok (.iadd, 1) := by decide +kernel
theorem kd_M_swapRows_58 : decode kb_M_swapRows 58 = .ok (.lload 5, 2) := by decide +kernel
theorem kd_M_swapRows_60 : decode kb_M_swapRows 60 = .ok (.lastore, 1) := by decide +kernel
theorem kd_M_swapRows_61 : decode kb_M_swapRows 61 = .ok (.iinc 4 1, 3) := by decide +kernel
theorem kd_M_swapRows_64 : decode kb_M_swapRows 64 = .ok (.goto (-61), 3) := by decide +kernel
theorem kd_M_swapRows_67 : decode kb_M_swapRows 67 = .ok (.return_, 1) := by decide +kernel
theorem kd_M_swapColumns_0 : decode kb_M_swapColumns 0 = .ok (.iconst 0, 1) := by decide +kernel
theorem kd_M_swapColumns_1 : decode kb_M_swapColumns 1 = .ok (.istore 4, 2) := by decide +kernel
theorem kd_M_swapColumns_3 : decode kb_M_swapColumns 3 = .ok (.iload 4, 2) := by decide +kernel
theorem kd_M_swapColumns_5 : decode kb_M_swapColumns 5 = .ok (.iload_n 3, 1) := by decide +kernel
theorem kd_M_swapColumns_6 : decode kb_M_swapColumns 6 = .ok (.if_icmp .ge 61, 3) := by decide +kernel
theorem kd_M_swapColumns_9 : decode kb_M_swapColumns 9 = .ok (.aload_n 0, 1) := by decide +kernel
theorem kd_M_swapColumns_10 : decode kb_M_swapColumns 10 = .ok (.getfield 26, 3) := by decide +kernel
theorem kd_M_swapColumns_13 : decode kb_M_swapColumns 13 = .ok (.bipush 10, 2) := by decide +kernel
theorem kd_M_swapColumns_15 : decode kb_M_swapColumns 15 = .ok (.iload 4, 2) := by decide +kernel
theorem kd_M_swapColumns_17 : decode kb_M_swapColumns 17 = .ok (.imul, 1) := by decide +kernel
theorem kd_M_swapColumns_18 : decode kb_M_swapColumns 18 = .ok (.iload_n 1, 1) := by decide +kernel
theorem kd_M_swapColumns_19 : decode kb_M_swapColumns 19 = .ok (.iadd, 1) := by decide +kernel
theorem kd_M_swapColumns_20 : decode kb_M_swapColumns 20 = .ok (.laload, 1) := by decide +kernel
theorem kd_M_swapColumns_21 : decode kb_M_swapColumns 21 = .ok (.lstore 5, 2) := by decide +kernel
theorem kd_M_swapColumns_23 : decode kb_M_swapColumns 23 = .ok (.aload_n 0, 1) := by decide +kernel
theorem kd_M_swapColumns_24 : decode kb_M_swapColumns 24 = .ok (.getfield 26, 3) := by decide +kernel
theorem kd_M_swapColumns_27 : decode kb_M_swapColumns 27 = .ok (.bipush 10, 2) := by decide +kernel
theorem kd_M_swapColumns_29 : decode kb_M_swapColumns 29 = .ok (.iload 4, 2) := by decide +kernel
theorem kd_M_swapColumns_31 : decode kb_M_swapColumns 31 = .ok (.imul, 1) := by decide +kernel
theorem kd_M_swapColumns_32 : decode kb_M_swapColumns 32 = .ok (.iload_n 1, 1) := by decide +kernel
theorem kd_M_swapColumns_33 : decode kb_M_swapColumns 33 = .ok (.iadd, 1) := by decide +kernel
theorem kd_M_swapColumns_34 : decode kb_M_swapColumns 34 = .ok (.aload_n 0, 1) := by decide +kernel
theorem kd_M_swapColumns_35 : decode kb_M_swapColumns 35 = .ok (.getfield 26, 3) := by decide +kernel
theorem kd_M_swapColumns_38 : decode kb_M_swapColumns 38 = .ok (.bipush 10, 2) := by decide +kernel
theorem kd_M_swapColumns_40 : decode kb_M_swapColumns 40 = .ok (.iload 4, 2) := by decide +kernel
theorem kd_M_swapColumns_42 : decode kb_M_swapColumns 42 = .ok (.imul, 1) := by decide +kernel
theorem kd_M_swapColumns_43 : decode kb_M_swapColumns 43 = .ok (.iload_n 2, 1) := by decide +kernel
theorem kd_M_swapColumns_44 : decode kb_M_swapColumns 44 = .ok (.iadd, 1) := by decide +kernel
theorem kd_M_swapColumns_45 : decode kb_M_swapColumns 45 = .ok (.laload, 1) := by decide +kernel
theorem kd_M_swapColumns_46 : decode kb_M_swapColumns 46 = .ok (.lastore, 1) := by decide +kernel
theorem kd_M_swapColumns_47 : decode kb_M_swapColumns 47 = .ok (.aload_n 0, 1) := by decide +kernel
theorem kd_M_swapColumns_48 : decode kb_M_swapColumns 48 = .ok (.getfield 26, 3) := by decide +kernel
theorem kd_M_swapColumns_51 : decode kb_M_swapColumns 51 = .ok (.bipush 10, 2) := by decide +kernel
theorem kd_M_swapColumns_53 : decode kb_M_swapColumns 53 = .ok (.iload 4, 2) := by decide +kernel
theorem kd_M_swapColumns_55 : decode kb_M_swapColumns 55 = .ok (.imul, 1) := by decide +kernel
theorem kd_M_swapColumns_56 : decode kb_M_swapColumns 56 = .ok (.iload_n 2, 1) := by decide +kernel
theorem kd_M_swapColumns_57 : decode kb_M_swapColumns 57 = .ok (.iadd, 1) := by decide +kernel
theorem kd_M_swapColumns_58 : decode kb_M_swapColumns 58 = .ok (.lload 5, 2) := by decide +kernel
theorem kd_M_swapColumns_60 : decode kb_M_swapColumns 60 = .ok (.lastore, 1) := by decide +kernel
theorem kd_M_swapColumns_61 : decode kb_M_swapColumns 61 = .ok (.iinc 4 1, 3) := by decide +kernel
theorem kd_M_swapColumns_64 : decode kb_M_swapColumns 64 = .ok (.goto (-61), 3) := by decide +kernel
theorem kd_M_swapColumns_67 : decode kb_M_swapColumns 67 = .ok (.return_, 1) := by decide +kernel
theorem kd_M_clearCross_0 : decode kb_M_clearCross 0 = .ok (.iconst 1, 1) := by decide +kernel
theorem kd_M_clearCross_1 : decode kb_M_clearCross 1 = .ok (.istore 5, 2) := by decide +kernel
theorem kd_M_clearCross_3 : decode kb_M_clearCross 3 = .ok (.iload 5, 2) := by decide +kernel
theorem kd_M_clearCross_5 : decode kb_M_clearCross 5 = .ok (.ifCond .eq 272, 3) := by decide +kernel
theorem kd_M_clearCross_8 : decode kb_M_clearCross 8 = .ok (.iconst 0, 1) := by decide +kernel
theorem kd_M_clearCross_9 : decode kb_M_clearCross 9 = .ok (.istore 5, 2) := by decide +kernel
theorem kd_M_clearCross_11 : decode kb_M_clearCross 11 = .ok (.iload_n 1, 1) := by decide +kernel
theorem kd_M_clearCross_12 : decode kb_M_clearCross 12 = .ok (.iconst 1, 1) := by decide +kernel
theorem kd_M_clearCross_13 : decode kb_M_clearCross 13 = .ok (.iadd, 1) := by decide +kernel
theorem kd_M_clearCross_14 : decode kb_M_clearCross 14 = .ok (.istore 6, 2) := by decide +kernel
theorem kd_M_clearCross_16 : decode kb_M_clearCross 16 = .ok (.iload 6, 2) := by decide +kernel
theorem kd_M_clearCross_18 : decode kb_M_clearCross 18 = .ok (.iload_n 2, 1) := by decide +kernel
theorem kd_M_clearCross_19 : decode kb_M_clearCross 19 = .ok (.if_icmp .ge 99, 3) := by decide +kernel
theorem kd_M_clearCross_22 : decode kb_M_clearCross 22 = .ok (.aload_n 0, 1) := by decide +kernel
theorem kd_M_clearCross_23 : decode kb_M_clearCross 23 = .ok (.getfield 26, 3) := by decide +kernel
theorem kd_M_clearCross_26 : decode kb_M_clearCross 26 = .ok (.bipush 10, 2) := by decide +kernel
theorem kd_M_clearCross_28 : decode kb_M_clearCross 28 = .ok (.iload 6, 2) := by decide +kernel
theorem kd_M_clearCross_30 : decode kb_M_clearCross 30 = .ok (.imul, 1) := by decide +kernel
theorem kd_M_clearCross_31 : decode kb_M_clearCross 31 = .ok (.iload_n 1, 1) := by decide +kernel
theorem kd_M_clearCross_32 : decode kb_M_clearCross 32 = .ok (.iadd, 1) := by decide +kernel
theorem kd_M_clearCross_33 : decode kb_M_clearCross 33 = .ok (.laload, 1) := by decide +kernel
theorem kd_M_clearCross_34 : decode kb_M_clearCross 34 = .ok (.lconst 0, 1) := by decide +kernel
theorem kd_M_clearCross_35 : decode kb_M_clearCross 35 = .ok (.lcmp, 1) := by decide +kernel
theorem kd_M_clearCross_36 : decode kb_M_clearCross 36 = .ok (.ifCond .eq 76, 3) := by decide +kernel
theorem kd_M_clearCross_39 : decode kb_M_clearCross 39 = .ok (.aload_n 0, 1) := by decide +kernel
theorem kd_M_clearCross_40 : decode kb_M_clearCross 40 = .ok (.getfield 26, 3) := by decide +kernel
theorem kd_M_clearCross_43 : decode kb_M_clearCross 43 = .ok (.bipush 11, 2) := by decide +kernel
theorem kd_M_clearCross_45 : decode kb_M_clearCross 45 = .ok (.iload_n 1, 1) := by decide +kernel
theorem kd_M_clearCross_46 : decode kb_M_clearCross 46 = .ok (.imul, 1) := by decide +kernel
theorem kd_M_clearCross_47 : decode kb_M_clearCross 47 = .ok (.laload, 1) := by decide +kernel
theorem kd_M_clearCross_48 : decode kb_M_clearCross 48 = .ok (.lconst 0, 1) := by decide +kernel
theorem kd_M_clearCross_49 : decode kb_M_clearCross 49 = .ok (.lcmp, 1) := by decide +kernel
theorem kd_M_clearCross_50 : decode kb_M_clearCross 50 = .ok (.ifCond .eq 34, 3) := by decide +kernel
theorem kd_M_clearCross_53 : decode kb_M_clearCross 53 = .ok (.aload_n 0, 1) := by decide +kernel
theorem kd_M_clearCross_54 : decode kb_M_clearCross 54 = .ok (.iload 6, 2) := by decide +kernel
theorem kd_M_clearCross_56 : decode kb_M_clearCross 56 = .ok (.iload_n 1, 1) := by decide +kernel
theorem kd_M_clearCross_57 : decode kb_M_clearCross 57 = .ok (.aload_n 0, 1) := by decide +kernel
theorem kd_M_clearCross_58 : decode kb_M_clearCross 58 = .ok (.getfield 26, 3) := by decide +kernel
theorem kd_M_clearCross_61 : decode kb_M_clearCross 61 = .ok (.bipush 10, 2) := by decide +kernel
theorem kd_M_clearCross_63 : decode kb_M_clearCross 63 = .ok (.iload 6, 2) := by decide +kernel
theorem kd_M_clearCross_65 : decode kb_M_clearCross 65 = .ok (.imul, 1) := by decide +kernel
theorem kd_M_clearCross_66 : decode kb_M_clearCross 66 = .ok (.iload_n 1, 1) := by decide +kernel
theorem kd_M_clearCross_67 : decode kb_M_clearCross 67 = .ok (.iadd, 1) := by decide +kernel
theorem kd_M_clearCross_68 : decode kb_M_clearCross 68 = .ok (.laload, 1) := by decide +kernel
theorem kd_M_clearCross_69 : decode kb_M_clearCross 69 = .ok (.aload_n 0, 1) := by decide +kernel
theorem kd_M_clearCross_70 : decode kb_M_clearCross 70 = .ok (.getfield 26, 3) := by decide +kernel
theorem kd_M_clearCross_73 : decode kb_M_clearCross 73 = .ok (.bipush 11, 2) := by decide +kernel
theorem kd_M_clearCross_75 : decode kb_M_clearCross 75 = .ok (.iload_n 1, 1) := by decide +kernel
theorem kd_M_clearCross_76 : decode kb_M_clearCross 76 = .ok (.imul, 1) := by decide +kernel
theorem kd_M_clearCross_77 : decode kb_M_clearCross 77 = .ok (.laload, 1) := by decide +kernel
theorem kd_M_clearCross_78 : decode kb_M_clearCross 78 = .ok (.ldiv, 1) := by decide +kernel
theorem kd_M_clearCross_79 : decode kb_M_clearCross 79 = .ok (.iload_n 2, 1) := by decide +kernel
theorem kd_M_clearCross_80 : decode kb_M_clearCross 80 = .ok (.lload_n 3, 1) := by decide +kernel
theorem kd_M_clearCross_81 : decode kb_M_clearCross 81 = .ok (.invokevirtual 169, 3) := by decide +kernel
theorem kd_M_clearCross_84 : decode kb_M_clearCross 84 = .ok (.aload_n 0, 1) := by decide +kernel
theorem kd_M_clearCross_85 : decode kb_M_clearCross 85 = .ok (.getfield 26, 3) := by decide +kernel
theorem kd_M_clearCross_88 : decode kb_M_clearCross 88 = .ok (.bipush 10, 2) := by decide +kernel
theorem kd_M_clearCross_90 : decode kb_M_clearCross 90 = .ok (.iload 6, 2) := by decide +kernel
theorem kd_M_clearCross_92 : decode kb_M_clearCross 92 = .ok (.imul, 1) := by decide +kernel
theorem kd_M_clearCross_93 : decode kb_M_clearCross 93 = .ok (.iload_n 1, 1) := by decide +kernel
theorem kd_M_clearCross_94 : decode kb_M_clearCross 94 = .ok (.iadd, 1) := by decide +kernel
theorem kd_M_clearCross_95 : decode kb_M_clearCross 95 = .ok (.laload, 1) := by decide +kernel
theorem kd_M_clearCross_96 : decode kb_M_clearCross 96 = .ok (.lconst 0, 1) := by decide +kernel
theorem kd_M_clearCross_97 : decode kb_M_clearCross 97 = .ok (.lcmp, 1) := by decide +kernel
theorem kd_M_clearCross_98 : decode kb_M_clearCross 98 = .ok (.ifCond .eq (-76), 3) := by decide +kernel
theorem kd_M_clearCross_101 : decode kb_M_clearCross 101 = .ok (.aload_n 0, 1) := by decide +kernel
theorem kd_M_clearCross_102 : decode kb_M_clearCross 102 = .ok (.iload 6, 2) := by decide +kernel
theorem kd_M_clearCross_104 : decode kb_M_clearCross 104 = .ok (.iload_n 1, 1) := by decide +kernel
theorem kd_M_clearCross_105 : decode kb_M_clearCross 105 = .ok (.iload_n 2, 1) := by decide +kernel
theorem kd_M_clearCross_106 : decode kb_M_clearCross 106 = .ok (.invokevirtual 173, 3) := by decide +kernel
theorem kd_M_clearCross_109 : decode kb_M_clearCross 109 = .ok (.goto (-87), 3) := by decide +kernel
theorem kd_M_clearCross_112 : decode kb_M_clearCross 112 = .ok (.iinc 6 1, 3) := by decide +kernel
theorem kd_M_clearCross_115 : decode kb_M_clearCross 115 = .ok (.goto (-99), 3) := by decide +kernel
theorem kd_M_clearCross_118 : decode kb_M_clearCross 118 = .ok (.iload_n 1, 1) := by decide +kernel
theorem kd_M_clearCross_119 : decode kb_M_clearCross 119 = .ok (.iconst 1, 1) := by decide +kernel
theorem kd_M_clearCross_120 : decode kb_M_clearCross 120 = .ok (.iadd, 1) := by decide +kernel
theorem kd_M_clearCross_121 : decode kb_M_clearCross 121 = .ok (.istore 6, 2) := by decide +kernel
theorem kd_M_clearCross_123 : decode kb_M_clearCross 123 = .ok (.iload 6, 2) := by decide +kernel
theorem kd_M_clearCross_125 : decode kb_M_clearCross 125 = .ok (.iload_n 2, 1) := by decide +kernel
theorem kd_M_clearCross_126 : decode kb_M_clearCross 126 = .ok (.if_icmp .ge 102, 3) := by decide +kernel
theorem kd_M_clearCross_129 : decode kb_M_clearCross 129 = .ok (.aload_n 0, 1) := by decide +kernel
theorem kd_M_clearCross_130 : decode kb_M_clearCross 130 = .ok (.getfield 26, 3) := by decide +kernel
theorem kd_M_clearCross_133 : decode kb_M_clearCross 133 = .ok (.bipush 10, 2) := by decide +kernel
theorem kd_M_clearCross_135 : decode kb_M_clearCross 135 = .ok (.iload_n 1, 1) := by decide +kernel
theorem kd_M_clearCross_136 : decode kb_M_clearCross 136 = .ok (.imul, 1) := by decide +kernel
theorem kd_M_clearCross_137 : decode kb_M_clearCross 137 = .ok (.iload 6, 2) := by decide +kernel
theorem kd_M_clearCross_139 : decode kb_M_clearCross 139 = .ok (.iadd, 1) := by decide +kernel
theorem kd_M_clearCross_140 : decode kb_M_clearCross 140 = .ok (.laload, 1) := by decide +kernel
theorem kd_M_clearCross_141 : decode kb_M_clearCross 141 = .ok (.lconst 0, 1) := by decide +kernel
theorem kd_M_clearCross_142 : decode kb_M_clearCross 142 = .ok (.lcmp, 1) := by decide +kernel
theorem kd_M_clearCross_143 : decode kb_M_clearCross 143 = .ok (.ifCond .eq 79, 3) := by decide +kernel
theorem kd_M_clearCross_146 : decode kb_M_clearCross 146 = .ok (.aload_n 0, 1) := by decide +kernel
theorem kd_M_clearCross_147 : decode kb_M_clearCross 147 = .ok (.getfield 26, 3) := by decide +kernel
theorem kd_M_clearCross_150 : decode kb_M_clearCross 150 = .ok (.bipush 11, 2) := by decide +kernel
theorem kd_M_clearCross_152 : decode kb_M_clearCross 152 = .ok (.iload_n 1, 1) := by decide +kernel
theorem kd_M_clearCross_153 : decode kb_M_clearCross 153 = .ok (.imul, 1) := by decide +kernel
theorem kd_M_clearCross_154 : decode kb_M_clearCross 154 = .ok (.laload, 1) := by decide +kernel
theorem kd_M_clearCross_155 : decode kb_M_clearCross 155 = .ok (.lconst 0, 1) := by decide +kernel
theorem kd_M_clearCross_156 : decode kb_M_clearCross 156 = .ok (.lcmp, 1) := by decide +kernel
theorem kd_M_clearCross_157 : decode kb_M_clearCross 157 = .ok (.ifCond .eq 34, 3) := by decide +kernel
theorem kd_M_clearCross_160 : decode kb_M_clearCross 160 = .ok (.aload_n 0, 1) := by decide +kernel
theorem kd_M_clearCross_161 : decode kb_M_clearCross 161 = .ok (.iload 6, 2) := by decide +kernel
theorem kd_M_clearCross_163 : decode kb_M_clearCross 163 = .ok (.iload_n 1, 1) := by decide +kernel
theorem kd_M_clearCross_164 : decode kb_M_clearCross 164 = .ok (.aload_n 0, 1) := by decide +kernel
theorem kd_M_clearCross_165 : decode kb_M_clearCross 165 = .ok (.getfield 26, 3) := by decide +kernel
theorem kd_M_clearCross_168 : decode kb_M_clearCross 168 = .ok (.bipush 10, 2) := by decide +kernel
theorem kd_M_clearCross_170 : decode kb_M_clearCross 170 = .ok (.iload_n 1, 1) := by decide +kernel
theorem kd_M_clearCross_171 : decode kb_M_clearCross 171 = .ok (.imul, 1) := by decide +kernel
theorem kd_M_clearCross_172 : decode kb_M_clearCross 172 = .ok (.iload 6, 2) := by decide +kernel
theorem kd_M_clearCross_174 : decode kb_M_clearCross 174 = .ok (.iadd, 1) := by decide +kernel
theorem kd_M_clearCross_175 : decode kb_M_clearCross 175 = .ok (.laload, 1) := by decide +kernel
theorem kd_M_clearCross_176 : decode kb_M_clearCross 176 = .ok (.aload_n 0, 1) := by decide +kernel
theorem kd_M_clearCross_177 : decode kb_M_clearCross 177 = .ok (.getfield 26, 3) := by decide +kernel
theorem kd_M_clearCross_180 : decode kb_M_clearCross 180 = .ok (.bipush 11, 2) := by decide +kernel
theorem kd_M_clearCross_182 : decode kb_M_clearCross 182 = .ok (.iload_n 1, 1) := by decide +kernel
theorem kd_M_clearCross_183 : decode kb_M_clearCross 183 = .ok (.imul, 1) := by decide +kernel
theorem kd_M_clearCross_184 : decode kb_M_clearCross 184 = .ok (.laload, 1) := by decide +kernel
theorem kd_M_clearCross_185 : decode kb_M_clearCross 185 = .ok (.ldiv, 1) := by decide +kernel
theorem kd_M_clearCross_186 : decode kb_M_clearCross 186 = .ok (.iload_n 2, 1) := by decide +kernel
theorem kd_M_clearCross_187 : decode kb_M_clearCross 187 = .ok (.lload_n 3, 1) := by decide +kernel
theorem kd_M_clearCross_188 : decode kb_M_clearCross 188 = .ok (.invokevirtual 177, 3) := by decide +kernel
theorem kd_M_clearCross_191 : decode kb_M_clearCross 191 = .ok (.aload_n 0, 1) := by decide +kernel
theorem kd_M_clearCross_192 : decode kb_M_clearCross 192 = .ok (.getfield 26, 3) := by decide +kernel
theorem kd_M_clearCross_195 : decode kb_M_clearCross 195 = .ok (.bipush 10, 2) := by decide +kernel
theorem kd_M_clearCross_197 : decode kb_M_clearCross 197 = .ok (.iload_n 1, 1) := by decide +kernel
theorem kd_M_clearCross_198 : decode kb_M_clearCross 198 = .ok (.imul, 1) := by decide +kernel
theorem kd_M_clearCross_199 : decode kb_M_clearCross 199 = .ok (.iload 6, 2) := by decide +kernel
theorem kd_M_clearCross_201 : decode kb_M_clearCross 201 = .ok (.iadd, 1) := by decide +kernel
theorem kd_M_clearCross_202 : decode kb_M_clearCross 202 = .ok (.laload, 1) := by decide +kernel
theorem kd_M_clearCross_203 : decode kb_M_clearCross 203 = .ok (.lconst 0, 1) := by decide +kernel
theorem kd_M_clearCross_204 : decode kb_M_clearCross 204 = .ok (.lcmp, 1) := by decide +kernel
theorem kd_M_clearCross_205 : decode kb_M_clearCross 205 = .ok (.ifCond .eq (-76), 3) := by decide +kernel
theorem kd_M_clearCross_208 : decode kb_M_clearCross 208 = .ok (.aload_n 0, 1) := by decide +kernel
theorem kd_M_clearCross_209 : decode kb_M_clearCross 209 = .ok (.iload 6, 2) := by decide +kernel
theorem kd_M_clearCross_211 : decode kb_M_clearCross 211 = .ok (.iload_n 1, 1) := by decide +kernel
theorem kd_M_clearCross_212 : decode kb_M_clearCross 212 = .ok (.iload_n 2, 1) := by decide +kernel
theorem kd_M_clearCross_213 : decode kb_M_clearCross 213 = .ok (.invokevirtual 180, 3) := by decide +kernel
theorem kd_M_clearCross_216 : decode kb_M_clearCross 216 = .ok (.iconst 1, 1) := by decide +kernel
theorem kd_M_clearCross_217 : decode kb_M_clearCross 217 = .ok (.istore 5, 2) := by decide +kernel
theorem kd_M_clearCross_219 : decode kb_M_clearCross 219 = .ok (.goto (-90), 3) := by decide +kernel
theorem kd_M_clearCross_222 : decode kb_M_clearCross 222 = .ok (.iinc 6 1, 3) := by decide +kernel
theorem kd_M_clearCross_225 : decode kb_M_clearCross 225 = .ok (.goto (-102), 3) := by decide +kernel
theorem kd_M_clearCross_228 : decode kb_M_clearCross 228 = .ok (.iload_n 1, 1) := by decide +kernel
theorem kd_M_clearCross_229 : decode kb_M_clearCross 229 = .ok (.iconst 1, 1) := by decide +kernel
theorem kd_M_clearCross_230 : decode kb_M_clearCross 230 = .ok (.iadd, 1) := by decide +kernel
theorem kd_M_clearCross_231 : decode kb_M_clearCross 231 = .ok (.istore 6, 2) := by decide +kernel
theorem kd_M_clearCross_233 : decode kb_M_clearCross 233 = .ok (.iload 6, 2) := by decide +kernel
theorem kd_M_clearCross_235 : decode kb_M_clearCross 235 = .ok (.iload_n 2, 1) := by decide +kernel
theorem kd_M_clearCross_236 : decode kb_M_clearCross 236 = .ok (.if_icmp .ge 38, 3) := by decide +kernel
theorem kd_M_clearCross_239 : decode kb_M_clearCross 239 = .ok (.iload 5, 2) := by decide +kernel
theorem kd_M_clearCross_241 : decode kb_M_clearCross 241 = .ok (.ifCond .ne 20, 3) := by decide +kernel
theorem kd_M_clearCross_244 : decode kb_M_clearCross 244 = .ok (.aload_n 0, 1) := by decide +kernel
theorem kd_M_clearCross_245 : decode kb_M_clearCross 245 = .ok (.getfield 26, 3) := by decide +kernel
theorem kd_M_clearCross_248 : decode kb_M_clearCross 248 = .ok (.bipush 10, 2) := by decide +kernel
theorem kd_M_clearCross_250 : decode kb_M_clearCross 250 = .ok (.iload 6, 2) := by decide +kernel
theorem kd_M_clearCross_252 : decode kb_M_clearCross 252 = .ok (.imul, 1) := by decide +kernel
theorem kd_M_clearCross_253 : decode kb_M_clearCross 253 = .ok (.iload_n 1, 1) := by decide +kernel
theorem kd_M_clearCross_254 : decode kb_M_clearCross 254 = .ok (.iadd, 1) := by decide +kernel
theorem kd_M_clearCross_255 : decode kb_M_clearCross 255 = .ok (.laload, 1) := by decide +kernel
theorem kd_M_clearCross_256 : decode kb_M_clearCross 256 = .ok (.lconst 0, 1) := by decide +kernel
theorem kd_M_clearCross_257 : decode kb_M_clearCross 257 = .ok (.lcmp, 1) := by decide +kernel
theorem kd_M_clearCross_258 : decode kb_M_clearCross 258 = .ok (.ifCond .eq 7, 3) := by decide +kernel
theorem kd_M_clearCross_261 : decode kb_M_clearCross 261 = .ok (.iconst 1, 1) := by decide +kernel
theorem kd_M_clearCross_262 : decode kb_M_clearCross 262 = .ok (.goto 4, 3) := by decide +kernel
theorem kd_M_clearCross_265 : decode kb_M_clearCross 265 = .ok (.iconst 0, 1) := by decide +kernel
theorem kd_M_clearCross_266 : decode kb_M_clearCross 266 = .ok (.istore 5, 2) := by decide +kernel
theorem kd_M_clearCross_268 : decode kb_M_clearCross 268 = .ok (.iinc 6 1, 3) := by decide +kernel
theorem kd_M_clearCross_271 : decode kb_M_clearCross 271 = .ok (.goto (-38), 3) := by decide +kernel
theorem kd_M_clearCross_274 : decode kb_M_clearCross 274 = .ok (.goto (-271), 3) := by decide +kernel
theorem kd_M_clearCross_277 : decode kb_M_clearCross 277 = .ok (.return_, 1) := by decide +kernel
theorem kd_M_commonFrom_0 : decode kb_M_commonFrom 0 = .ok (.lload_n 3, 1) := by decide +kernel
theorem kd_M_commonFrom_1 : decode kb_M_commonFrom 1 = .ok (.lstore 5, 2) := by decide +kernel
theorem kd_M_commonFrom_3 : decode kb_M_commonFrom 3 = .ok (.iload_n 1, 1) := by decide +kernel
theorem kd_M_commonFrom_4 : decode kb_M_commonFrom 4 = .ok (.istore 7, 2) := by decide +kernel
theorem kd_M_commonFrom_6 : decode kb_M_commonFrom 6 = .ok (.iload 7, 2) := by decide +kernel
theorem kd_M_commonFrom_8 : decode kb_M_commonFrom 8 = .ok (.iload_n 2, 1) := by decide +kernel
theorem kd_M_commonFrom_9 : decode kb_M_commonFrom 9 = .ok (.if_icmp .ge 44, 3) := by decide +kernel
theorem kd_M_commonFrom_12 : decode kb_M_commonFrom 12 = .ok (.iload_n 1, 1) := by decide +kernel
theorem kd_M_commonFrom_13 : decode kb_M_commonFrom 13 = .ok (.istore 8, 2) := by decide +kernel
theorem kd_M_commonFrom_15 : decode kb_M_commonFrom 15 = .ok (.iload 8, 2) := by decide +kernel
theorem kd_M_commonFrom_17 : decode kb_M_commonFrom 17 = .ok (.iload_n 2, 1) := by decide +kernel
theorem kd_M_commonFrom_18 : decode kb_M_commonFrom 18 = .ok (.if_icmp .ge 29, 3) := by decide +kernel
theorem kd_M_commonFrom_21 : decode kb_M_commonFrom 21 = .ok (.lload 5, 2) := by decide +kernel
theorem kd_M_commonFrom_23 : decode kb_M_commonFrom 23 = .ok (.aload_n 0, 1) := by decide +kernel
theorem kd_M_commonFrom_24 : decode kb_M_commonFrom 24 = .ok (.getfield 26, 3) := by decide +kernel
theorem kd_M_commonFrom_27 : decode kb_M_commonFrom 27 = .ok (.bipush 10, 2) := by decide +kernel
theorem kd_M_commonFrom_29 : decode kb_M_commonFrom 29 = .ok (.iload 7, 2) := by decide +kernel
theorem kd_M_commonFrom_31 : decode kb_M_commonFrom 31 = .ok (.imul, 1) := by decide +kernel
theorem kd_M_commonFrom_32 : decode kb_M_commonFrom 32 = .ok (.iload 8, 2) := by decide +kernel
theorem kd_M_commonFrom_34 : decode kb_M_commonFrom 34 = .ok (.iadd, 1) := by decide +kernel
theorem kd_M_commonFrom_35 : decode kb_M_commonFrom 35 = .ok (.laload, 1) := by decide +kernel
theorem kd_M_commonFrom_36 : decode kb_M_commonFrom 36 = .ok (.invokestatic 140, 3) := by decide +kernel
theorem kd_M_commonFrom_39 : decode kb_M_commonFrom 39 = .ok (.lstore 5, 2) := by decide +kernel
theorem kd_M_commonFrom_41 : decode kb_M_commonFrom 41 = .ok (.iinc 8 1, 3) := by decide +kernel
theorem kd_M_commonFrom_44 : decode kb_M_commonFrom 44 = .ok (.goto (-29), 3) := by decide +kernel
theorem kd_M_commonFrom_47 : decode kb_M_commonFrom 47 = .ok (.iinc 7 1, 3) := by decide +kernel
theorem kd_M_commonFrom_50 : decode kb_M_commonFrom 50 = .ok (.goto (-44), 3) := by decide +kernel
theorem kd_M_commonFrom_53 : decode kb_M_commonFrom 53 = .ok (.lload 5, 2) := by decide +kernel
theorem kd_M_commonFrom_55 : decode kb_M_commonFrom 55 = .ok (.lreturn, 1) := by decide +kernel
theorem kd_M_findRounds_0 : decode kb_M_findRounds 0 = .ok (.aload_n 0, 1) := by decide +kernel
theorem kd_M_findRounds_1 : decode kb_M_findRounds 1 = .ok (.invokevirtual 133, 3) := by decide +kernel
theorem kd_M_findRounds_4 : decode kb_M_findRounds 4 = .ok (.lstore_n 1, 1) := by decide +kernel
theorem kd_M_findRounds_5 : decode kb_M_findRounds 5 = .ok (.aload_n 0, 1) := by decide +kernel
theorem kd_M_findRounds_6 : decode kb_M_findRounds 6 = .ok (.iconst 0, 1) := by decide +kernel
theorem kd_M_findRounds_7 : decode kb_M_findRounds 7 = .ok (.putfield 183, 3) := by decide +kernel
theorem kd_M_findRounds_10 : decode kb_M_findRounds 10 = .ok (.lload_n 1, 1) := by decide +kernel
theorem kd_M_findRounds_11 : decode kb_M_findRounds 11 = .ok (.lconst 0, 1) := by decide +kernel
theorem kd_M_findRounds_12 : decode kb_M_findRounds 12 = .ok (.lcmp, 1) := by decide +kernel
theorem kd_M_findRounds_13 : decode kb_M_findRounds 13 = .ok (.ifCond .ne 5, 3) := by decide +kernel
theorem kd_M_findRounds_16 : decode kb_M_findRounds 16 = .ok (.iconst 0, 1) := by decide +kernel
theorem kd_M_findRounds_17 : decode kb_M_findRounds 17 = .ok (.ireturn, 1) := by decide +kernel
theorem kd_M_findRounds_18 : decode kb_M_findRounds 18 = .ok (.aload_n 0, 1) := by decide +kernel
theorem kd_M_findRounds_19 : decode kb_M_findRounds 19 = .ok (.aload_n 0, 1) := by decide +kernel
theorem kd_M_findRounds_20 : decode kb_M_findRounds 20 = .ok (.getfield 32, 3) := by decide +kernel
theorem kd_M_findRounds_23 : decode kb_M_findRounds 23 = .ok (.iconst 0, 1) := by decide +kernel
theorem kd_M_findRounds_24 : decode kb_M_findRounds 24 = .ok (.iaload, 1) := by decide +kernel
theorem kd_M_findRounds_25 : decode kb_M_findRounds 25 = .ok (.iconst (-1), 1) := by decide +kernel
theorem kd_M_findRounds_26 : decode kb_M_findRounds 26 = .ok (.invokevirtual 109, 3) := by decide +kernel
theorem kd_M_findRounds_29 : decode kb_M_findRounds 29 = .ok (.istore_n 3, 1) := by decide +kernel
theorem kd_M_findRounds_30 : decode kb_M_findRounds 30 = .ok (.aload_n 0, 1) := by decide +kernel
theorem kd_M_findRounds_31 : decode kb_M_findRounds 31 = .ok (.lconst 0, 1) := by decide +kernel
theorem kd_M_findRounds_32 : decode kb_M_findRounds 32 = .ok (.invokevirtual 113, 3) := by decide +kernel
theorem kd_M_findRounds_35 : decode kb_M_findRounds 35 = .ok (.iconst 0, 1) := by decide +kernel
theorem kd_M_findRounds_36 : decode kb_M_findRounds 36 = .ok (.istore 4, 2) := by decide +kernel
theorem kd_M_findRounds_38 : decode kb_M_findRounds 38 = .ok (.iload 4, 2) := by decide +kernel
theorem kd_M_findRounds_40 : decode kb_M_findRounds 40 = .ok (.iload_n 3, 1) := by decide +kernel
theorem kd_M_findRounds_41 : decode kb_M_findRounds 41 = .ok (.if_icmp .ge 56, 3) := by decide +kernel
theorem kd_M_findRounds_44 : decode kb_M_findRounds 44 = .ok (.iconst 0, 1) := by decide +kernel
theorem kd_M_findRounds_45 : decode kb_M_findRounds 45 = .ok (.istore 5, 2) := by decide +kernel
theorem kd_M_findRounds_47 : decode kb_M_findRounds 47 = .ok (.iload 5, 2) := by decide +kernel
theorem kd_M_findRounds_49 : decode kb_M_findRounds 49 = .ok (.iload_n 3, 1) := by decide +kernel
theorem kd_M_findRounds_50 : decode kb_M_findRounds 50 = .ok (.if_icmp .ge 41, 3) := by decide +kernel
theorem kd_M_findRounds_53 : decode kb_M_findRounds 53 = .ok (.aload_n 0, 1) := by decide +kernel
theorem kd_M_findRounds_54 : decode kb_M_findRounds 54 = .ok (.getfield 26, 3) := by decide +kernel
theorem kd_M_findRounds_57 : decode kb_M_findRounds 57 = .ok (.bipush 10, 2) := by decide +kernel
theorem kd_M_findRounds_59 : decode kb_M_findRounds 59 = .ok (.iload 4, 2) := by decide +kernel
theorem kd_M_findRounds_61 : decode kb_M_findRounds 61 = .ok (.imul, 1) := by decide +kernel
theorem kd_M_findRounds_62 : decode kb_M_findRounds 62 = .ok (.iload 5, 2) := by decide +kernel
theorem kd_M_findRounds_64 : decode kb_M_findRounds 64 = .ok (.iadd, 1) := by decide +kernel
theorem kd_M_findRounds_65 : decode kb_M_findRounds 65 = .ok (.aload_n 0, 1) := by decide +kernel
theorem kd_M_findRounds_66 : decode kb_M_findRounds 66 = .ok (.getfield 26, 3) := by decide +kernel
theorem kd_M_findRounds_69 : decode kb_M_findRounds 69 = .ok (.bipush 10, 2) := by decide +kernel
theorem kd_M_findRounds_71 : decode kb_M_findRounds 71 = .ok (.iload 4, 2) := by decide +kernel
theorem kd_M_findRounds_73 : decode kb_M_findRounds 73 = .ok (.imul, 1) := by decide +kernel
theorem kd_M_findRounds_74 : decode kb_M_findRounds 74 = .ok (.iload 5, 2) := by decide +kernel
theorem kd_M_findRounds_76 : decode kb_M_findRounds 76 = .ok (.iadd, 1) := by decide +kernel
theorem kd_M_findRounds_77 : decode kb_M_findRounds 77 = .ok (.laload, 1) := by decide +kernel
theorem kd_M_findRounds_78 : decode kb_M_findRounds 78 = .ok (.lload_n 1, 1) := by decide +kernel
theorem kd_M_findRounds_79 : decode kb_M_findRounds 79 = .ok (.lrem, 1) := by decide +kernel
theorem kd_M_findRounds_80 : decode kb_M_findRounds 80 = .ok (.lload_n 1, 1) := by decide +kernel
theorem kd_M_findRounds_81 : decode kb_M_findRounds 81 = .ok (.ladd, 1) := by decide +kernel
theorem kd_M_findRounds_82 : decode kb_M_findRounds 82 = .ok (.lload_n 1, 1) := by decide +kernel
theorem kd_M_findRounds_83 : decode kb_M_findRounds 83 = .ok (.lrem, 1) := by decide +kernel
theorem kd_M_findRounds_84 : decode kb_M_findRounds 84 = .ok (.lastore, 1) := by decide +kernel
theorem kd_M_findRounds_85 : decode kb_M_findRounds 85 = .ok (.iinc 5 1, 3) := by decide +kernel
theorem kd_M_findRounds_88 : decode kb_M_findRounds 88 = .ok (.goto (-41), 3) := by decide +kernel
theorem kd_M_findRounds_91 : decode kb_M_findRounds 91 = .ok (.iinc 4 1, 3) := by decide +kernel
theorem kd_M_findRounds_94 : decode kb_M_findRounds 94 = .ok (.goto (-56), 3) := by decide +kernel
theorem kd_M_findRounds_97 : decode kb_M_findRounds 97 = .ok (.iconst 0, 1) := by decide +kernel
theorem kd_M_findRounds_98 : decode kb_M_findRounds 98 = .ok (.istore 4, 2) := by decide +kernel
theorem kd_M_findRounds_100 : decode kb_M_findRounds 100 = .ok (.iload 4, 2) := by decide +kernel
theorem kd_M_findRounds_102 : decode kb_M_findRounds 102 = .ok (.iload_n 3, 1) := by decide +kernel
theorem kd_M_findRounds_103 : decode kb_M_findRounds 103 = .ok (.if_icmp .ge 170, 3) := by decide +kernel
theorem kd_M_findRounds_106 : decode kb_M_findRounds 106 = .ok (.aload_n 0, 1) := by decide +kernel
theorem kd_M_findRounds_107 : decode kb_M_findRounds 107 = .ok (.iload 4, 2) := by decide +kernel
theorem kd_M_findRounds_109 : decode kb_M_findRounds 109 = .ok (.iload_n 3, 1) := by decide +kernel
theorem kd_M_findRounds_110 : decode kb_M_findRounds 110 = .ok (.lload_n 1, 1) := by decide +kernel
theorem kd_M_findRounds_111 : decode kb_M_findRounds 111 = .ok (.invokevirtual 186, 3) := by decide +kernel
theorem kd_M_findRounds_114 : decode kb_M_findRounds 114 = .ok (.lstore 5, 2) := by decide +kernel
theorem kd_M_findRounds_116 : decode kb_M_findRounds 116 = .ok (.iconst 1, 1) := by decide +kernel
theorem kd_M_findRounds_117 : decode kb_M_findRounds 117 = .ok (.istore 7, 2) := by decide +kernel
theorem kd_M_findRounds_119 : decode kb_M_findRounds 119 = .ok (.iload 7, 2) := by decide +kernel
theorem kd_M_findRounds_121 : decode kb_M_findRounds 121 = .ok (.ifCond .eq 102, 3) := by decide +kernel
theorem kd_M_findRounds_124 : decode kb_M_findRounds 124 = .ok (.aload_n 0, 1) := by decide +kernel
theorem kd_M_findRounds_125 : decode kb_M_findRounds 125 = .ok (.iload 4, 2) := by decide +kernel
theorem kd_M_findRounds_127 : decode kb_M_findRounds 127 = .ok (.iload_n 3, 1) := by decide +kernel
theorem kd_M_findRounds_128 : decode kb_M_findRounds 128 = .ok (.lload_n 1, 1) := by decide +kernel
theorem kd_M_findRounds_129 : decode kb_M_findRounds 129 = .ok (.invokevirtual 190, 3) := by decide +kernel
theorem kd_M_findRounds_132 : decode kb_M_findRounds 132 = .ok (.aload_n 0, 1) := by decide +kernel
theorem kd_M_findRounds_133 : decode kb_M_findRounds 133 = .ok (.getfield 26, 3) := by decide +kernel
theorem kd_M_findRounds_136 : decode kb_M_findRounds 136 = .ok (.bipush 11, 2) := by decide +kernel
theorem kd_M_findRounds_138 : decode kb_M_findRounds 138 = .ok (.iload 4, 2) := by decide +kernel
theorem kd_M_findRounds_140 : decode kb_M_findRounds 140 = .ok (.imul, 1) := by decide +kernel
theorem kd_M_findRounds_141 : decode kb_M_findRounds 141 = .ok (.laload, 1) := by decide +kernel
theorem kd_M_findRounds_142 : decode kb_M_findRounds 142 = .ok (.lload_n 1, 1) := by decide +kernel
theorem kd_M_findRounds_143 : decode kb_M_findRounds 143 = .ok (.invokestatic 140, 3) := by decide +kernel
theorem kd_M_findRounds_146 : decode kb_M_findRounds 146 = .ok (.lload 5, 2) := by decide +kernel
theorem kd_M_findRounds_148 : decode kb_M_findRounds 148 = .ok (.lcmp, 1) := by decide +kernel
theorem kd_M_findRounds_149 : decode kb_M_findRounds 149 = .ok (.ifCond .eq 7, 3) := by decide +kernel
theorem kd_M_findRounds_152 : decode kb_M_findRounds 152 = .ok (.iconst 1, 1) := by decide +kernel
theorem kd_M_findRounds_153 : decode kb_M_findRounds 153 = .ok (.goto 4, 3) := by decide +kernel
theorem kd_M_findRounds_156 : decode kb_M_findRounds 156 = .ok (.iconst 0, 1) := by decide +kernel
theorem kd_M_findRounds_157 : decode kb_M_findRounds 157 = .ok (.istore 7, 2) := by decide +kernel
theorem kd_M_findRounds_159 : decode kb_M_findRounds 159 = .ok (.iload 7, 2) := by decide +kernel
theorem kd_M_findRounds_161 : decode kb_M_findRounds 161 = .ok (.ifCond .eq (-42), 3) := by decide +kernel
theorem kd_M_findRounds_164 : decode kb_M_findRounds 164 = .ok (.iload 4, 2) := by decide +kernel
theorem kd_M_findRounds_166 : decode kb_M_findRounds 166 = .ok (.iconst 1, 1) := by decide +kernel
theorem kd_M_findRounds_167 : decode kb_M_findRounds 167 = .ok (.iadd, 1) := by decide +kernel
theorem kd_M_findRounds_168 : decode kb_M_findRounds 168 = .ok (.istore 8, 2) := by decide +kernel
theorem kd_M_findRounds_170 : decode kb_M_findRounds 170 = .ok (.iload 8, 2) := by decide +kernel
theorem kd_M_findRounds_172 : decode kb_M_findRounds 172 = .ok (.iload_n 3, 1) := by decide +kernel
theorem kd_M_findRounds_173 : decode kb_M_findRounds 173 = .ok (.if_icmp .ge 22, 3) := by decide +kernel
theorem kd_M_findRounds_176 : decode kb_M_findRounds 176 = .ok (.aload_n 0, 1) := by decide +kernel
theorem kd_M_findRounds_177 : decode kb_M_findRounds 177 = .ok (.iload 8, 2) := by decide +kernel
theorem kd_M_findRounds_179 : decode kb_M_findRounds 179 = .ok (.iload 4, 2) := by decide +kernel
theorem kd_M_findRounds_181 : decode kb_M_findRounds 181 = .ok (.iload_n 3, 1) := by decide +kernel
theorem kd_M_findRounds_182 : decode kb_M_findRounds 182 = .ok (.lload_n 1, 1) := by decide +kernel
theorem kd_M_findRounds_183 : decode kb_M_findRounds 183 = .ok (.invokevirtual 193, 3) := by decide +kernel
theorem kd_M_findRounds_186 : decode kb_M_findRounds 186 = .ok (.ifCond .ne 9, 3) := by decide +kernel
theorem kd_M_findRounds_189 : decode kb_M_findRounds 189 = .ok (.iinc 8 1, 3) := by decide +kernel
theorem kd_M_findRounds_192 : decode kb_M_findRounds 192 = .ok (.goto (-22), 3) := by decide +kernel
theorem kd_M_findRounds_195 : decode kb_M_findRounds 195 = .ok (.iload 8, 2) := by decide +kernel
theorem kd_M_findRounds_197 : decode kb_M_findRounds 197 = .ok (.iload_n 3, 1) := by decide +kernel
theorem kd_M_findRounds_198 : decode kb_M_findRounds 198 = .ok (.if_icmp .ge 19, 3) := by decide +kernel
theorem kd_M_findRounds_201 : decode kb_M_findRounds 201 = .ok (.aload_n 0, 1) := by decide +kernel
theorem kd_M_findRounds_202 : decode kb_M_findRounds 202 = .ok (.iload 4, 2) := by decide +kernel
theorem kd_M_findRounds_204 : decode kb_M_findRounds 204 = .ok (.iload 8, 2) := by decide +kernel
theorem kd_M_findRounds_206 : decode kb_M_findRounds 206 = .ok (.lload_n 1, 1) := by decide +kernel
theorem kd_M_findRounds_207 : decode kb_M_findRounds 207 = .ok (.lconst 1, 1) := by decide +kernel
theorem kd_M_findRounds_208 : decode kb_M_findRounds 208 = .ok (.lsub, 1) := by decide +kernel
theorem kd_M_findRounds_209 : decode kb_M_findRounds 209 = .ok (.iload_n 3, 1) := by decide +kernel
theorem kd_M_findRounds_210 : decode kb_M_findRounds 210 = .ok (.lload_n 1, 1) := by decide +kernel
theorem kd_M_findRounds_211 : decode kb_M_findRounds 211 = .ok (.invokevirtual 169, 3) := by decide +kernel
theorem kd_M_findRounds_214 : decode kb_M_findRounds 214 = .ok (.goto 6, 3) := by decide +kernel
theorem kd_M_findRounds_217 : decode kb_M_findRounds 217 = .ok (.iconst 0, 1) := by decide +kernel
theorem kd_M_findRounds_218 : decode kb_M_findRounds 218 = .ok (.istore 7, 2) := by decide +kernel
theorem kd_M_findRounds_220 : decode kb_M_findRounds 220 = .ok (.goto (-101), 3) := by decide +kernel
theorem kd_M_findRounds_223 : decode kb_M_findRounds 223 = .ok (.aload_n 0, 1) := by decide +kernel
theorem kd_M_findRounds_224 : decode kb_M_findRounds 224 = .ok (.getfield 26, 3) := by decide +kernel
theorem kd_M_findRounds_227 : decode kb_M_findRounds 227 = .ok (.bipush 11, 2) := by decide +kernel
theorem kd_M_findRounds_229 : decode kb_M_findRounds 229 = .ok (.iload 4, 2) := by decide +kernel
theorem kd_M_findRounds_231 : decode kb_M_findRounds 231 = .ok (.imul, 1) := by decide +kernel
theorem kd_M_findRounds_232 : decode kb_M_findRounds 232 = .ok (.laload, 1) := by decide +kernel
theorem kd_M_findRounds_233 : decode kb_M_findRounds 233 = .ok (.lload_n 1, 1) := by decide +kernel
theorem kd_M_findRounds_234 : decode kb_M_findRounds 234 = .ok (.invokestatic 140, 3) := by decide +kernel
theorem kd_M_findRounds_237 : decode kb_M_findRounds 237 = .ok (.lstore 8, 2) := by decide +kernel
theorem kd_M_findRounds_239 : decode kb_M_findRounds 239 = .ok (.lload 8, 2) := by decide +kernel
theorem kd_M_findRounds_241 : decode kb_M_findRounds 241 = .ok (.lconst 1, 1) := by decide +kernel
theorem kd_M_findRounds_242 : decode kb_M_findRounds 242 = .ok (.lcmp, 1) := by decide +kernel
theorem kd_M_findRounds_243 : decode kb_M_findRounds 243 = .ok (.ifCond .le 24, 3) := by decide +kernel
theorem kd_M_findRounds_246 : decode kb_M_findRounds 246 = .ok (.aload_n 0, 1) := by decide +kernel
theorem kd_M_findRounds_247 : decode kb_M_findRounds 247 = .ok (.getfield 60, 3) := by decide +kernel
theorem kd_M_findRounds_250 : decode kb_M_findRounds 250 = .ok (.aload_n 0, 1) := by decide +kernel
theorem kd_M_findRounds_251 : decode kb_M_findRounds 251 = .ok (.getfield 183, 3) := by decide +kernel
theorem kd_M_findRounds_254 : decode kb_M_findRounds 254 = .ok (.lload 8, 2) := by decide +kernel
theorem kd_M_findRounds_256 : decode kb_M_findRounds 256 = .ok (.lastore, 1) := by decide +kernel
theorem kd_M_findRounds_257 : decode kb_M_findRounds 257 = .ok (.aload_n 0, 1) := by decide +kernel
theorem kd_M_findRounds_258 : decode kb_M_findRounds 258 = .ok (.dup, 1) := by decide +kernel
theorem kd_M_findRounds_259 : decode kb_M_findRounds 259 = .ok (.getfield 183, 3) := by decide +kernel
theorem kd_M_findRounds_262 : decode kb_M_findRounds 262 = .ok (.iconst 1, 1) := by decide +kernel
theorem kd_M_findRounds_263 : decode kb_M_findRounds 263 = .ok (.iadd, 1) := by decide +kernel
theorem kd_M_findRounds_264 : decode kb_M_findRounds 264 = .ok (.putfield 183, 3) := by decide +kernel
theorem kd_M_findRounds_267 : decode kb_M_findRounds 267 = .ok (.iinc 4 1, 3) := by decide +kernel
theorem kd_M_findRounds_270 : decode kb_M_findRounds 270 = .ok (.goto (-170), 3) := by decide +kernel
theorem kd_M_findRounds_273 : decode kb_M_findRounds 273 = .ok (.iconst 1, 1) := by decide +kernel
theorem kd_M_findRounds_274 : decode kb_M_findRounds 274 = .ok (.ireturn, 1) := by decide +kernel
theorem kd_M_isOther_0 : decode kb_M_isOther 0 = .ok (.aload_n 0, 1) := by decide +kernel
theorem kd_M_isOther_1 : decode kb_M_isOther 1 = .ok (.getfield 26, 3) := by decide +kernel
theorem kd_M_isOther_4 : decode kb_M_isOther 4 = .ok (.bipush 11, 2) := by decide +kernel
theorem kd_M_isOther_6 : decode kb_M_isOther 6 = .ok (.iload_n 2, 1) := by decide +kernel
theorem kd_M_isOther_7 : decode kb_M_isOther 7 = .ok (.imul, 1) := by decide +kernel
theorem kd_M_isOther_8 : decode kb_M_isOther 8 = .ok (.laload, 1) := by decide +kernel
theorem kd_M_isOther_9 : decode kb_M_isOther 9 = .ok (.lload 4, 2) := by decide +kernel
theorem kd_M_isOther_11 : decode kb_M_isOther 11 = .ok (.invokestatic 140, 3) := by decide +kernel
theorem kd_M_isOther_14 : decode kb_M_isOther 14 = .ok (.lstore 6, 2) := by decide +kernel
theorem kd_M_isOther_16 : decode kb_M_isOther 16 = .ok (.iconst 0, 1) := by decide +kernel
theorem kd_M_isOther_17 : decode kb_M_isOther 17 = .ok (.istore 8, 2) := by decide +kernel
theorem kd_M_isOther_19 : decode kb_M_isOther 19 = .ok (.iload_n 2, 1) := by decide +kernel
theorem kd_M_isOther_20 : decode kb_M_isOther 20 = .ok (.iconst 1, 1) := by decide +kernel
theorem kd_M_isOther_21 : decode kb_M_isOther 21 = .ok (.iadd, 1) := by decide +kernel
theorem kd_M_isOther_22 : decode kb_M_isOther 22 = .ok (.istore 9, 2) := by decide +kernel
theorem kd_M_isOther_24 : decode kb_M_isOther 24 = .ok (.iload 9, 2) := by decide +kernel
theorem kd_M_isOther_26 : decode kb_M_isOther 26 = .ok (.iload_n 3, 1) := by decide +kernel
theorem kd_M_isOther_27 : decode kb_M_isOther 27 = .ok (.if_icmp .ge 41, 3) := by decide +kernel
theorem kd_M_isOther_30 : decode kb_M_isOther 30 = .ok (.iload 8, 2) := by decide +kernel
theorem kd_M_isOther_32 : decode kb_M_isOther 32 = .ok (.ifCond .ne 23, 3) := by decide +kernel
theorem kd_M_isOther_35 : decode kb_M_isOther 35 = .ok (.aload_n 0, 1) := by decide +kernel
theorem kd_M_isOther_36 : decode kb_M_isOther 36 = .ok (.getfield 26, 3) := by decide +kernel
theorem kd_M_isOther_39 : decode kb_M_isOther 39 = .ok (.bipush 10, 2) := by decide +kernel
theorem kd_M_isOther_41 : decode kb_M_isOther 41 = .ok (.iload_n 1, 1) := by decide +kernel
theorem kd_M_isOther_42 : decode kb_M_isOther 42 = .ok (.imul, 1) := by decide +kernel
theorem kd_M_isOther_43 : decode kb_M_isOther 43 = .ok (.iload 9, 2) := by decide +kernel
theorem kd_M_isOther_45 : decode kb_M_isOther 45 = .ok (.iadd, 1) := by decide +kernel
theorem kd_M_isOther_46 : decode kb_M_isOther 46 = .ok (.laload, 1) := by decide +kernel
theorem kd_M_isOther_47 : decode kb_M_isOther 47 = .ok (.lload 6, 2) := by decide +kernel
theorem kd_M_isOther_49 : decode kb_M_isOther 49 = .ok (.lrem, 1) := by decide +kernel
theorem kd_M_isOther_50 : decode kb_M_isOther 50 = .ok (.lconst 0, 1) := by decide +kernel
theorem kd_M_isOther_51 : decode kb_M_isOther 51 = .ok (.lcmp, 1) := by decide +kernel
theorem kd_M_isOther_52 : decode kb_M_isOther 52 = .ok (.ifCond .eq 7, 3) := by decide +kernel
theorem kd_M_isOther_55 : decode kb_M_isOther 55 = .ok (.iconst 1, 1) := by decide +kernel
theorem kd_M_isOther_56 : decode kb_M_isOther 56 = .ok (.goto 4, 3) := by decide +kernel
theorem kd_M_isOther_59 : decode kb_M_isOther 59 = .ok (.iconst 0, 1) := by decide +kernel
theorem kd_M_isOther_60 : decode kb_M_isOther 60 = .ok (.istore 8, 2) := by decide +kernel
theorem kd_M_isOther_62 : decode kb_M_isOther 62 = .ok (.iinc 9 1, 3) := by decide +kernel
theorem kd_M_isOther_65 : decode kb_M_isOther 65 = .ok (.goto (-41), 3) := by decide +kernel
theorem kd_M_isOther_68 : decode kb_M_isOther 68 = .ok (.iload 8, 2) := by decide +kernel
theorem kd_M_isOther_70 : decode kb_M_isOther 70 = .ok (.ireturn, 1) := by decide +kernel
theorem kd_M_group_0 : decode kb_M_group 0 = .ok (.aload_n 0, 1) := by decide +kernel
theorem kd_M_group_1 : decode kb_M_group 1 = .ok (.iconst 0, 1) := by decide +kernel
theorem kd_M_group_2 : decode kb_M_group 2 = .ok (.putfield 69, 3) := by decide +kernel
theorem kd_M_group_5 : decode kb_M_group 5 = .ok (.aload_n 0, 1) := by decide +kernel
theorem kd_M_group_6 : decode kb_M_group 6 = .ok (.invokevirtual 197, 3) := by decide +kernel
theorem kd_M_group_9 : decode kb_M_group 9 = .ok (.ifCond .eq 24, 3) := by decide +kernel
theorem kd_M_group_12 : decode kb_M_group 12 = .ok (.iload_n 1, 1) := by decide +kernel
theorem kd_M_group_13 : decode kb_M_group 13 = .ok (.ifCond .lt 20, 3) := by decide +kernel
theorem kd_M_group_16 : decode kb_M_group 16 = .ok (.iload_n 1, 1) := by decide +kernel
theorem kd_M_group_17 : decode kb_M_group 17 = .ok (.aload_n 0, 1) := by decide +kernel
theorem kd_M_group_18 : decode kb_M_group 18 = .ok (.getfield 183, 3) := by decide +kernel
theorem kd_M_group_21 : decode kb_M_group 21 = .ok (.if_icmp .ge 12, 3) := by decide +kernel
theorem kd_M_group_24 : decode kb_M_group 24 = .ok (.aload_n 0, 1) := by decide +kernel
theorem kd_M_group_25 : decode kb_M_group 25 = .ok (.getfield 60, 3) := by decide +kernel
theorem kd_M_group_28 : decode kb_M_group 28 = .ok (.iload_n 1, 1) := by decide +kernel
theorem kd_M_group_29 : decode kb_M_group 29 = .ok (.laload, 1) := by decide +kernel
theorem kd_M_group_30 : decode kb_M_group 30 = .ok (.goto 6, 3) := by decide +kernel
theorem kd_M_group_33 : decode kb_M_group 33 = .ok (.ldc2_w 131, 3) := by decide +kernel
theorem kd_M_group_36 : decode kb_M_group 36 = .ok (.lreturn, 1) := by decide +kernel
theorem kd_M_chips_0 : decode kb_M_chips 0 = .ok (.aload_n 0, 1) := by decide +kernel
theorem kd_M_chips_1 : decode kb_M_chips 1 = .ok (.iconst 0, 1) := by decide +kernel
theorem kd_M_chips_2 : decode kb_M_chips 2 = .ok (.putfield 69, 3) := by decide +kernel
theorem kd_M_chips_5 : decode kb_M_chips 5 = .ok (.aload_n 0, 1) := by decide +kernel
theorem kd_M_chips_6 : decode kb_M_chips 6 = .ok (.iload_n 1, 1) := by decide +kernel
theorem kd_M_chips_7 : decode kb_M_chips 7 = .ok (.invokevirtual 76, 3) := by decide +kernel
theorem kd_M_chips_10 : decode kb_M_chips 10 = .ok (.ifCond .eq 14, 3) := by decide +kernel
theorem kd_M_chips_13 : decode kb_M_chips 13 = .ok (.iload_n 2, 1) := by decide +kernel
theorem kd_M_chips_14 : decode kb_M_chips 14 = .ok (.ifCond .lt 10, 3) := by decide +kernel
theorem kd_M_chips_17 : decode kb_M_chips 17 = .ok (.iload_n 2, 1) := by decide +kernel
theorem kd_M_chips_18 : decode kb_M_chips 18 = .ok (.sipush 200, 3) := by decide +kernel
theorem kd_M_chips_21 : decode kb_M_chips 21 = .ok (.if_icmp .le 7, 3) := by decide +kernel
theorem kd_M_chips_24 : decode kb_M_chips 24 = .ok (.ldc2_w 131, 3) := by decide +kernel
theorem kd_M_chips_27 : decode kb_M_chips 27 = .ok (.lreturn, 1) := by decide +kernel
theorem kd_M_chips_28 : decode kb_M_chips 28 = .ok (.aload_n 0, 1) := by decide +kernel
theorem kd_M_chips_29 : decode kb_M_chips 29 = .ok (.getfield 19, 3) := by decide +kernel
theorem kd_M_chips_32 : decode kb_M_chips 32 = .ok (.iload_n 1, 1) := by decide +kernel
theorem kd_M_chips_33 : decode kb_M_chips 33 = .ok (.laload, 1) := by decide +kernel
theorem kd_M_chips_34 : decode kb_M_chips 34 = .ok (.lstore_n 3, 1) := by decide +kernel
theorem kd_M_chips_35 : decode kb_M_chips 35 = .ok (.aload_n 0, 1) := by decide +kernel
theorem kd_M_chips_36 : decode kb_M_chips 36 = .ok (.getfield 19, 3) := by decide +kernel
theorem kd_M_chips_39 : decode kb_M_chips 39 = .ok (.iload_n 1, 1) := by decide +kernel
theorem kd_M_chips_40 : decode kb_M_chips 40 = .ok (.iload_n 2, 1) := by decide +kernel
theorem kd_M_chips_41 : decode kb_M_chips 41 = .ok (.i2l, 1) := by decide +kernel
theorem kd_M_chips_42 : decode kb_M_chips 42 = .ok (.lastore, 1) := by decide +kernel
theorem kd_M_chips_43 : decode kb_M_chips 43 = .ok (.lload_n 3, 1) := by decide +kernel
theorem kd_M_chips_44 : decode kb_M_chips 44 = .ok (.lreturn, 1) := by decide +kernel
theorem kd_M_level_0 : decode kb_M_level 0 = .ok (.aload_n 0, 1) := by decide +kernel
theorem kd_M_level_1 : decode kb_M_level 1 = .ok (.iconst 0, 1) := by decide +kernel
theorem kd_M_level_2 : decode kb_M_level 2 = .ok (.putfield 69, 3) := by decide +kernel
theorem kd_M_level_5 : decode kb_M_level 5 = .ok (.aload_n 0, 1) := by decide +kernel
theorem kd_M_level_6 : decode kb_M_level 6 = .ok (.iload_n 1, 1) := by decide +kernel
theorem kd_M_level_7 : decode kb_M_level 7 = .ok (.invokevirtual 76, 3) := by decide +kernel
theorem kd_M_level_10 : decode kb_M_level 10 = .ok (.ifCond .eq 12, 3) := by decide +kernel
theorem kd_M_level_13 : decode kb_M_level 13 = .ok (.aload_n 0, 1) := by decide +kernel
theorem kd_M_level_14 : decode kb_M_level 14 = .ok (.getfield 19, 3) := by decide +kernel
theorem kd_M_level_17 : decode kb_M_level 17 = .ok (.iload_n 1, 1) := by decide +kernel
theorem kd_M_level_18 : decode kb_M_level 18 = .ok (.laload, 1) := by decide +kernel
theorem kd_M_level_19 : decode kb_M_level 19 = .ok (.goto 6, 3) := by decide +kernel
theorem kd_M_level_22 : decode kb_M_level 22 = .ok (.ldc2_w 131, 3) := by decide +kernel
theorem kd_M_level_25 : decode kb_M_level 25 = .ok (.lreturn, 1) := by decide +kernel
theorem kd_M_degree_0 : decode kb_M_degree 0 = .ok (.lconst 0, 1) := by decide +kernel
theorem kd_M_degree_1 : decode kb_M_degree 1 = .ok (.lstore_n 2, 1) := by decide +kernel
theorem kd_M_degree_2 : decode kb_M_degree 2 = .ok (.iconst 0, 1) := by decide +kernel
theorem kd_M_degree_3 : decode kb_M_degree 3 = .ok (.istore 4, 2) := by decide +kernel
theorem kd_M_degree_5 : decode kb_M_degree 5 = .ok (.iload 4, 2) := by decide +kernel
theorem kd_M_degree_7 : decode kb_M_degree 7 = .ok (.aload_n 0, 1) := by decide +kernel
theorem kd_M_degree_8 : decode kb_M_degree 8 = .ok (.getfield 80, 3) := by decide +kernel
theorem kd_M_degree_11 : decode kb_M_degree 11 = .ok (.if_icmp .ge 63, 3) := by decide +kernel
theorem kd_M_degree_14 : decode kb_M_degree 14 = .ok (.lload_n 2, 1) := by decide +kernel
theorem kd_M_degree_15 : decode kb_M_degree 15 = .ok (.aload_n 0, 1) := by decide +kernel
theorem kd_M_degree_16 : decode kb_M_degree 16 = .ok (.getfield 7, 3) := by decide +kernel
theorem kd_M_degree_19 : decode kb_M_degree 19 = .ok (.iload 4, 2) := by decide +kernel
theorem kd_M_degree_21 : decode kb_M_degree 21 = .ok (.iaload, 1) := by decide +kernel
theorem kd_M_degree_22 : decode kb_M_degree 22 = .ok (.aload_n 0, 1) := by decide +kernel
theorem kd_M_degree_23 : decode kb_M_degree 23 = .ok (.getfield 13, 3) := by decide +kernel
theorem kd_M_degree_26 : decode kb_M_degree 26 = .ok (.iload 4, 2) := by decide +kernel
theorem kd_M_degree_28 : decode kb_M_degree 28 = .ok (.iaload, 1) := by decide +kernel
theorem kd_M_degree_29 : decode kb_M_degree 29 = .ok (.if_icmp .eq 36, 3) := by decide +kernel
theorem kd_M_degree_32 : decode kb_M_degree 32 = .ok (.aload_n 0, 1) := by decide +kernel
theorem kd_M_degree_33 : decode kb_M_degree 33 = .ok (.getfield 7, 3) := by decide +kernel
theorem kd_M_degree_36 : decode kb_M_degree 36 = .ok (.iload 4, 2) := by decide +kernel
theorem kd_M_degree_38 : decode kb_M_degree 38 = .ok (.iaload, 1) := by decide +kernel
theorem kd_M_degree_39 : decode kb_M_degree 39 = .ok (.iload_n 1, 1) := by decide +kernel
theorem kd_M_degree_40 : decode kb_M_degree 40 = .ok (.if_icmp .eq 14, 3) := by decide +kernel
theorem kd_M_degree_43 : decode kb_M_degree 43 = .ok (.aload_n 0, 1) := by decide +kernel
theorem kd_M_degree_44 : decode kb_M_degree 44 = .ok (.getfield 13, 3) := by decide +kernel
theorem kd_M_degree_47 : decode kb_M_degree 47 = .ok (.iload 4, 2) := by decide +kernel
theorem kd_M_degree_49 : decode kb_M_degree 49 = .ok (.iaload, 1) := by decide +kernel
theorem kd_M_degree_50 : decode kb_M_degree 50 = .ok (.iload_n 1, 1) := by decide +kernel
theorem kd_M_degree_51 : decode kb_M_degree 51 = .ok (.if_icmp .ne 14, 3) := by decide +kernel
theorem kd_M_degree_54 : decode kb_M_degree 54 = .ok (.aload_n 0, 1) := by decide +kernel
theorem kd_M_degree_55 : decode kb_M_degree 55 = .ok (.getfield 16, 3) := by decide +kernel
theorem kd_M_degree_58 : decode kb_M_degree 58 = .ok (.iload 4, 2) := by decide +kernel
theorem kd_M_degree_60 : decode kb_M_degree 60 = .ok (.iaload, 1) := by decide +kernel
theorem kd_M_degree_61 : decode kb_M_degree 61 = .ok (.i2l, 1) := by decide +kernel
theorem kd_M_degree_62 : decode kb_M_degree 62 = .ok (.goto 4, 3) := by decide +kernel
theorem kd_M_degree_65 : decode kb_M_degree 65 = .ok (.lconst 0, 1) := by decide +kernel
theorem kd_M_degree_66 : decode kb_M_degree 66 = .ok (.ladd, 1) := by decide +kernel
theorem kd_M_degree_67 : decode kb_M_degree 67 = .ok (.lstore_n 2, 1) := by decide +kernel
theorem kd_M_degree_68 : decode kb_M_degree 68 = .ok (.iinc 4 1, 3) := by decide +kernel
theorem kd_M_degree_71 : decode kb_M_degree 71 = .ok (.goto (-66), 3) := by decide +kernel
theorem kd_M_degree_74 : decode kb_M_degree 74 = .ok (.lload_n 2, 1) := by decide +kernel
theorem kd_M_degree_75 : decode kb_M_degree 75 = .ok (.lreturn, 1) := by decide +kernel
theorem kd_M_fireNode_0 : decode kb_M_fireNode 0 = .ok (.iconst 0, 1) := by decide +kernel
theorem kd_M_fireNode_1 : decode kb_M_fireNode 1 = .ok (.istore 4, 2) := by decide +kernel
theorem kd_M_fireNode_3 : decode kb_M_fireNode 3 = .ok (.iload 4, 2) := by decide +kernel
theorem kd_M_fireNode_5 : decode kb_M_fireNode 5 = .ok (.aload_n 0, 1) := by decide +kernel
theorem kd_M_fireNode_6 : decode kb_M_fireNode 6 = .ok (.getfield 80, 3) := by decide +kernel
theorem kd_M_fireNode_9 : decode kb_M_fireNode 9 = .ok (.if_icmp .ge 117, 3) := by decide +kernel
theorem kd_M_fireNode_12 : decode kb_M_fireNode 12 = .ok (.aload_n 0, 1) := by decide +kernel
theorem kd_M_fireNode_13 : decode kb_M_fireNode 13 = .ok (.getfield 7, 3) := by decide +kernel
theorem kd_M_fireNode_16 : decode kb_M_fireNode 16 = .ok (.iload 4, 2) := by decide +kernel
theorem kd_M_fireNode_18 : decode kb_M_fireNode 18 = .ok (.iaload, 1) := by decide +kernel
theorem kd_M_fireNode_19 : decode kb_M_fireNode 19 = .ok (.aload_n 0, 1) := by decide +kernel
theorem kd_M_fireNode_20 : decode kb_M_fireNode 20 = .ok (.getfield 13, 3) := by decide +kernel
theorem kd_M_fireNode_23 : decode kb_M_fireNode 23 = .ok (.iload 4, 2) := by decide +kernel
theorem kd_M_fireNode_25 : decode kb_M_fireNode 25 = .ok (.iaload, 1) := by decide +kernel
theorem kd_M_fireNode_26 : decode kb_M_fireNode 26 = .ok (.if_icmp .eq 94, 3) := by decide +kernel
theorem kd_M_fireNode_29 : decode kb_M_fireNode 29 = .ok (.aload_n 0, 1) := by decide +kernel
theorem kd_M_fireNode_30 : decode kb_M_fireNode 30 = .ok (.getfield 7, 3) := by decide +kernel
theorem kd_M_fireNode_33 : decode kb_M_fireNode 33 = .ok (.iload 4, 2) := by decide +kernel
theorem kd_M_fireNode_35 : decode kb_M_fireNode 35 = .ok (.iaload, 1) := by decide +kernel
theorem kd_M_fireNode_36 : decode kb_M_fireNode 36 = .ok (.iload_n 1, 1) := by decide +kernel
theorem kd_M_fireNode_37 : decode kb_M_fireNode 37 = .ok (.if_icmp .eq 14, 3) := by decide +kernel
theorem kd_M_fireNode_40 : decode kb_M_fireNode 40 = .ok (.aload_n 0, 1) := by decide +kernel
theorem kd_M_fireNode_41 : decode kb_M_fireNode 41 = .ok (.getfield 13, 3) := by decide +kernel
theorem kd_M_fireNode_44 : decode kb_M_fireNode 44 = .ok (.iload 4, 2) := by decide +kernel
theorem kd_M_fireNode_46 : decode kb_M_fireNode 46 = .ok (.iaload, 1) := by decide +kernel
theorem kd_M_fireNode_47 : decode kb_M_fireNode 47 = .ok (.iload_n 1, 1) := by decide +kernel
theorem kd_M_fireNode_48 : decode kb_M_fireNode 48 = .ok (.if_icmp .ne 72, 3) := by decide +kernel
theorem kd_M_fireNode_51 : decode kb_M_fireNode 51 = .ok (.aload_n 0, 1) := by decide +kernel
theorem kd_M_fireNode_52 : decode kb_M_fireNode 52 = .ok (.getfield 7, 3) := by decide +kernel
theorem kd_M_fireNode_55 : decode kb_M_fireNode 55 = .ok (.iload 4, 2) := by decide +kernel
theorem kd_M_fireNode_57 : decode kb_M_fireNode 57 = .ok (.iaload, 1) := by decide +kernel
theorem kd_M_fireNode_58 : decode kb_M_fireNode 58 = .ok (.iload_n 1, 1) := by decide +kernel
theorem kd_M_fireNode_59 : decode kb_M_fireNode 59 = .ok (.if_icmp .ne 13, 3) := by decide +kernel
theorem kd_M_fireNode_62 : decode kb_M_fireNode 62 = .ok (.aload_n 0, 1) := by decide +kernel
theorem kd_M_fireNode_63 : decode kb_M_fireNode 63 = .ok (.getfield 13, 3) := by decide +kernel
theorem kd_M_fireNode_66 : decode kb_M_fireNode 66 = .ok (.iload 4, 2) := by decide +kernel
theorem kd_M_fireNode_68 : decode kb_M_fireNode 68 = .ok (.iaload, 1) := by decide +kernel
theorem kd_M_fireNode_69 : decode kb_M_fireNode 69 = .ok (.goto 10, 3) := by decide +kernel
theorem kd_M_fireNode_72 : decode kb_M_fireNode 72 = .ok (.aload_n 0, 1) := by decide +kernel
theorem kd_M_fireNode_73 : decode kb_M_fireNode 73 = .ok (.getfield 7, 3) := by decide +kernel
theorem kd_M_fireNode_76 : decode kb_M_fireNode 76 = .ok (.iload 4, 2) := by decide +kernel
theorem kd_M_fireNode_78 : decode kb_M_fireNode 78 = .ok (.iaload, 1) := by decide +kernel
theorem kd_M_fireNode_79 : decode kb_M_fireNode 79 = .ok (.istore 5, 2) := by decide +kernel
theorem kd_M_fireNode_81 : decode kb_M_fireNode 81 = .ok (.aload_n 0, 1) := by decide +kernel
theorem kd_M_fireNode_82 : decode kb_M_fireNode 82 = .ok (.getfield 63, 3) := by decide +kernel
theorem kd_M_fireNode_85 : decode kb_M_fireNode 85 = .ok (.iload_n 1, 1) := by decide +kernel
theorem kd_M_fireNode_86 : decode kb_M_fireNode 86 = .ok (.dup2, 1) := by decide +kernel
theorem kd_M_fireNode_87 : decode kb_M_fireNode 87 = .ok (.laload, 1) := by decide +kernel
theorem kd_M_fireNode_88 : decode kb_M_fireNode 88 = .ok (.lload_n 2, 1) := by decide +kernel
theorem kd_M_fireNode_89 : decode kb_M_fireNode 89 = .ok (.aload_n 0, 1) := by decide +kernel
theorem kd_M_fireNode_90 : decode kb_M_fireNode 90 = .ok (.getfield 16, 3) := by decide +kernel
theorem kd_M_fireNode_93 : decode kb_M_fireNode 93 = .ok (.iload 4, 2) := by decide +kernel
theorem kd_M_fireNode_95 : decode kb_M_fireNode 95 = .ok (.iaload, 1) := by decide +kernel
theorem kd_M_fireNode_96 : decode kb_M_fireNode 96 = .ok (.i2l, 1) := by decide +kernel
theorem kd_M_fireNode_97 : decode kb_M_fireNode 97 = .ok (.lmul, 1) := by decide +kernel
theorem kd_M_fireNode_98 : decode kb_M_fireNode 98 = .ok (.lsub, 1) := by decide +kernel
theorem kd_M_fireNode_99 : decode kb_M_fireNode 99 = .ok (.lastore, 1) := by decide +kernel
theorem kd_M_fireNode_100 : decode kb_M_fireNode 100 = .ok (.aload_n 0, 1) := by decide +kernel
theorem kd_M_fireNode_101 : decode kb_M_fireNode 101 = .ok (.getfield 63, 3) := by decide +kernel
theorem kd_M_fireNode_104 : decode kb_M_fireNode 104 = .ok (.iload 5, 2) := by decide +kernel
theorem kd_M_fireNode_106 : decode kb_M_fireNode 106 = .ok (.dup2, 1) := by decide +kernel
theorem kd_M_fireNode_107 : decode kb_M_fireNode 107 = .ok (.laload, 1) := by decide +kernel
theorem kd_M_fireNode_108 : decode kb_M_fireNode 108 = .ok (.lload_n 2, 1) := by decide +kernel
theorem kd_M_fireNode_109 : decode kb_M_fireNode 109 = .ok (.aload_n 0, 1) := by decide +kernel
theorem kd_M_fireNode_110 : decode kb_M_fireNode 110 = .ok (.getfield 16, 3) := by decide +kernel
theorem kd_M_fireNode_113 : decode kb_M_fireNode 113 = .ok (.iload 4, 2) := by decide +kernel
theorem kd_M_fireNode_115 : decode kb_M_fireNode 115 = .ok (.iaload, 1) := by decide +kernel
theorem kd_M_fireNode_116 : decode kb_M_fireNode 116 = .ok (.i2l, 1) := by decide +kernel
theorem kd_M_fireNode_117 : decode kb_M_fireNode 117 = .ok (.lmul, 1) := by decide +kernel
theorem kd_M_fireNode_118 : decode kb_M_fireNode 118 = .ok (.ladd, 1) := by decide +kernel
theorem kd_M_fireNode_119 : decode kb_M_fireNode 119 = .ok (.lastore, 1) := by decide +kernel
theorem kd_M_fireNode_120 : decode kb_M_fireNode 120 = .ok (.iinc 4 1, 3) := by decide +kernel
theorem kd_M_fireNode_123 : decode kb_M_fireNode 123 = .ok (.goto (-120), 3) := by decide +kernel
theorem kd_M_fireNode_126 : decode kb_M_fireNode 126 = .ok (.aload_n 0, 1) := by decide +kernel
theorem kd_M_fireNode_127 : decode kb_M_fireNode 127 = .ok (.getfield 66, 3) := by decide +kernel
theorem kd_M_fireNode_130 : decode kb_M_fireNode 130 = .ok (.iload_n 1, 1) := by decide +kernel
theorem kd_M_fireNode_131 : decode kb_M_fireNode 131 = .ok (.dup2, 1) := by decide +kernel
theorem kd_M_fireNode_132 : decode kb_M_fireNode 132 = .ok (.laload, 1) := by decide +kernel
theorem kd_M_fireNode_133 : decode kb_M_fireNode 133 = .ok (.lload_n 2, 1) := by decide +kernel
theorem kd_M_fireNode_134 : decode kb_M_fireNode 134 = .ok (.ladd, 1) := by decide +kernel
theorem kd_M_fireNode_135 : decode kb_M_fireNode 135 = .ok (.lastore, 1) := by decide +kernel
theorem kd_M_fireNode_136 : decode kb_M_fireNode 136 = .ok (.return_, 1) := by decide +kernel
theorem kd_M_settlePile_0 : decode kb_M_settlePile 0 = .ok (.lconst 0, 1) := by decide +kernel
theorem kd_M_settlePile_1 : decode kb_M_settlePile 1 = .ok (.lstore_n 2, 1) := by decide +kernel
theorem kd_M_settlePile_2 : decode kb_M_settlePile 2 = .ok (.iconst 1, 1) := by decide +kernel
theorem kd_M_settlePile_3 : decode kb_M_settlePile 3 = .ok (.istore 4, 2) := by decide +kernel
theorem kd_M_settlePile_5 : decode kb_M_settlePile 5 = .ok (.iload 4, 2) := by decide +kernel
theorem kd_M_settlePile_7 : decode kb_M_settlePile 7 = .ok (.ifCond .eq 82, 3) := by decide +kernel
theorem kd_M_settlePile_10 : decode kb_M_settlePile 10 = .ok (.iconst 0, 1) := by decide +kernel
theorem kd_M_settlePile_11 : decode kb_M_settlePile 11 = .ok (.istore 4, 2) := by decide +kernel
theorem kd_M_settlePile_13 : decode kb_M_settlePile 13 = .ok (.iconst 0, 1) := by decide +kernel
theorem kd_M_settlePile_14 : decode kb_M_settlePile 14 = .ok (.istore 5, 2) := by decide +kernel
theorem kd_M_settlePile_16 : decode kb_M_settlePile 16 = .ok (.iload 5, 2) := by decide +kernel
theorem kd_M_settlePile_18 : decode kb_M_settlePile 18 = .ok (.aload_n 0, 1) := by decide +kernel
theorem kd_M_settlePile_19 : decode kb_M_settlePile 19 = .ok (.getfield 73, 3) := by decide +kernel
theorem kd_M_settlePile_22 : decode kb_M_settlePile 22 = .ok (.if_icmp .ge 64, 3) := by decide +kernel
theorem kd_M_settlePile_25 : decode kb_M_settlePile 25 = .ok (.iload 5, 2) := by decide +kernel
theorem kd_M_settlePile_27 : decode kb_M_settlePile 27 = .ok (.iload_n 1, 1) := by decide +kernel
theorem kd_M_settlePile_28 : decode kb_M_settlePile 28 = .ok (.if_icmp .eq 52, 3) := by decide +kernel
theorem kd_M_settlePile_31 : decode kb_M_settlePile 31 = .ok (.aload_n 0, 1) := by decide +kernel
theorem kd_M_settlePile_32 : decode kb_M_settlePile 32 = .ok (.getfield 63, 3) := by decide +kernel
theorem kd_M_settlePile_35 : decode kb_M_settlePile 35 = .ok (.iload 5, 2) := by decide +kernel
theorem kd_M_settlePile_37 : decode kb_M_settlePile 37 = .ok (.laload, 1) := by decide +kernel
theorem kd_M_settlePile_38 : decode kb_M_settlePile 38 = .ok (.aload_n 0, 1) := by decide +kernel
theorem kd_M_settlePile_39 : decode kb_M_settlePile 39 = .ok (.iload 5, 2) := by decide +kernel
theorem kd_M_settlePile_41 : decode kb_M_settlePile 41 = .ok (.invokevirtual 201, 3) := by decide +kernel
theorem kd_M_settlePile_44 : decode kb_M_settlePile 44 = .ok (.lcmp, 1) := by decide +kernel
theorem kd_M_settlePile_45 : decode kb_M_settlePile 45 = .ok (.ifCond .lt 35, 3) := by decide +kernel
theorem kd_M_settlePile_48 : decode kb_M_settlePile 48 = .ok (.aload_n 0, 1) := by decide +kernel
theorem kd_M_settlePile_49 : decode kb_M_settlePile 49 = .ok (.getfield 63, 3) := by decide +kernel
theorem kd_M_settlePile_52 : decode kb_M_settlePile 52 = .ok (.iload 5, 2) := by decide +kernel
theorem kd_M_settlePile_54 : decode kb_M_settlePile 54 = .ok (.laload, 1) := by decide +kernel
theorem kd_M_settlePile_55 : decode kb_M_settlePile 55 = .ok (.aload_n 0, 1) := by decide +kernel
theorem kd_M_settlePile_56 : decode kb_M_settlePile 56 = .ok (.iload 5, 2) := by decide +kernel
theorem kd_M_settlePile_58 : decode kb_M_settlePile 58 = .ok (.invokevirtual 201, 3) := by decide +kernel
theorem kd_M_settlePile_61 : decode kb_M_settlePile 61 = .ok (.ldiv, 1) := by decide +kernel
theorem kd_M_settlePile_62 : decode kb_M_settlePile 62 = .ok (.lstore 6, 2) := by decide +kernel
theorem kd_M_settlePile_64 : decode kb_M_settlePile 64 = .ok (.aload_n 0, 1) := by decide +kernel
theorem kd_M_settlePile_65 : decode kb_M_settlePile 65 = .ok (.iload 5, 2) := by decide +kernel
theorem kd_M_settlePile_67 : decode kb_M_settlePile 67 = .ok (.lload 6, 2) := by decide +kernel
theorem kd_M_settlePile_69 : decode kb_M_settlePile 69 = .ok (.invokevirtual 204, 3) := by decide +kernel
theorem kd_M_settlePile_72 : decode kb_M_settlePile 72 = .ok (.lload_n 2, 1) := by decide +kernel
theorem kd_M_settlePile_73 : decode kb_M_settlePile 73 = .ok (.lload 6, 2) := by decide +kernel
theorem kd_M_settlePile_75 : decode kb_M_settlePile 75 = .ok (.ladd, 1) := by decide +kernel
theorem kd_M_settlePile_76 : decode kb_M_settlePile 76 = .ok (.lstore_n 2, 1) := by decide +kernel
theorem kd_M_settlePile_77 : decode kb_M_settlePile 77 = .ok (.iconst 1, 1) := by decide +kernel
theorem kd_M_settlePile_78 : decode kb_M_settlePile 78 = .ok (.istore 4, 2) := by decide +kernel
theorem kd_M_settlePile_80 : decode kb_M_settlePile 80 = .ok (.iinc 5 1, 3) := by decide +kernel
theorem kd_M_settlePile_83 : decode kb_M_settlePile 83 = .ok (.goto (-67), 3) := by decide +kernel
theorem kd_M_settlePile_86 : decode kb_M_settlePile 86 = .ok (.goto (-81), 3) := by decide +kernel
theorem kd_M_settlePile_89 : decode kb_M_settlePile 89 = .ok (.lload_n 2, 1) := by decide +kernel
theorem kd_M_settlePile_90 : decode kb_M_settlePile 90 = .ok (.lreturn, 1) := by decide +kernel
theorem kd_M_beginPile_0 : decode kb_M_beginPile 0 = .ok (.iconst 0, 1) := by decide +kernel
theorem kd_M_beginPile_1 : decode kb_M_beginPile 1 = .ok (.istore_n 1, 1) := by decide +kernel
theorem kd_M_beginPile_2 : decode kb_M_beginPile 2 = .ok (.iload_n 1, 1) := by decide +kernel
theorem kd_M_beginPile_3 : decode kb_M_beginPile 3 = .ok (.aload_n 0, 1) := by decide +kernel
theorem kd_M_beginPile_4 : decode kb_M_beginPile 4 = .ok (.getfield 73, 3) := by decide +kernel
theorem kd_M_beginPile_7 : decode kb_M_beginPile 7 = .ok (.if_icmp .ge 28, 3) := by decide +kernel
theorem kd_M_beginPile_10 : decode kb_M_beginPile 10 = .ok (.aload_n 0, 1) := by decide +kernel
theorem kd_M_beginPile_11 : decode kb_M_beginPile 11 = .ok (.getfield 63, 3) := by decide +kernel
theorem kd_M_beginPile_14 : decode kb_M_beginPile 14 = .ok (.iload_n 1, 1) := by decide +kernel
theorem kd_M_beginPile_15 : decode kb_M_beginPile 15 = .ok (.aload_n 0, 1) := by decide +kernel
theorem kd_M_beginPile_16 : decode kb_M_beginPile 16 = .ok (.getfield 19, 3) := by decide +kernel
theorem kd_M_beginPile_19 : decode kb_M_beginPile 19 = .ok (.iload_n 1, 1) := by decide +kernel
theorem kd_M_beginPile_20 : decode kb_M_beginPile 20 = .ok (.laload, 1) := by decide +kernel
theorem kd_M_beginPile_21 : decode kb_M_beginPile 21 = .ok (.lastore, 1) := by decide +kernel
theorem kd_M_beginPile_22 : decode kb_M_beginPile 22 = .ok (.aload_n 0, 1) := by decide +kernel
theorem kd_M_beginPile_23 : decode kb_M_beginPile 23 = .ok (.getfield 66, 3) := by decide +kernel
theorem kd_M_beginPile_26 : decode kb_M_beginPile 26 = .ok (.iload_n 1, 1) := by decide +kernel
theorem kd_M_beginPile_27 : decode kb_M_beginPile 27 = .ok (.lconst 0, 1) := by decide +kernel
theorem kd_M_beginPile_28 : decode kb_M_beginPile 28 = .ok (.lastore, 1) := by decide +kernel
theorem kd_M_beginPile_29 : decode kb_M_beginPile 29 = .ok (.iinc 1 1, 3) := by decide +kernel
theorem kd_M_beginPile_32 : decode kb_M_beginPile 32 = .ok (.goto (-30), 3) := by decide +kernel
theorem kd_M_beginPile_35 : decode kb_M_beginPile 35 = .ok (.return_, 1) := by decide +kernel
theorem kd_M_settle_0 : decode kb_M_settle 0 = .ok (.aload_n 0, 1) := by decide +kernel
theorem kd_M_settle_1 : decode kb_M_settle 1 = .ok (.iconst 0, 1) := by decide +kernel
theorem kd_M_settle_2 : decode kb_M_settle 2 = .ok (.putfield 69, 3) := by decide +kernel
theorem kd_M_settle_5 : decode kb_M_settle 5 = .ok (.aload_n 0, 1) := by decide +kernel
theorem kd_M_settle_6 : decode kb_M_settle 6 = .ok (.iload_n 1, 1) := by decide +kernel
theorem kd_M_settle_7 : decode kb_M_settle 7 = .ok (.invokevirtual 76, 3) := by decide +kernel
theorem kd_M_settle_10 : decode kb_M_settle 10 = .ok (.ifCond .eq 12, 3) := by decide +kernel
theorem kd_M_settle_13 : decode kb_M_settle 13 = .ok (.aload_n 0, 1) := by decide +kernel
theorem kd_M_settle_14 : decode kb_M_settle 14 = .ok (.invokevirtual 133, 3) := by decide +kernel
theorem kd_M_settle_17 : decode kb_M_settle 17 = .ok (.lconst 0, 1) := by decide +kernel
theorem kd_M_settle_18 : decode kb_M_settle 18 = .ok (.lcmp, 1) := by decide +kernel
theorem kd_M_settle_19 : decode kb_M_settle 19 = .ok (.ifCond .ne 7, 3) := by decide +kernel
theorem kd_M_settle_22 : decode kb_M_settle 22 = .ok (.ldc2_w 131, 3) := by decide +kernel
theorem kd_M_settle_25 : decode kb_M_settle 25 = .ok (.lreturn, 1) := by decide +kernel
theorem kd_M_settle_26 : decode kb_M_settle 26 = .ok (.aload_n 0, 1) := by decide +kernel
theorem kd_M_settle_27 : decode kb_M_settle 27 = .ok (.invokevirtual 208, 3) := by decide +kernel
theorem kd_M_settle_30 : decode kb_M_settle 30 = .ok (.aload_n 0, 1) := by decide +kernel
theorem kd_M_settle_31 : decode kb_M_settle 31 = .ok (.iload_n 1, 1) := by decide +kernel
theorem kd_M_settle_32 : decode kb_M_settle 32 = .ok (.invokevirtual 211, 3) := by decide +kernel
theorem kd_M_settle_35 : decode kb_M_settle 35 = .ok (.lstore_n 2, 1) := by decide +kernel
theorem kd_M_settle_36 : decode kb_M_settle 36 = .ok (.iconst 0, 1) := by decide +kernel
theorem kd_M_settle_37 : decode kb_M_settle 37 = .ok (.istore 4, 2) := by decide +kernel
theorem kd_M_settle_39 : decode kb_M_settle 39 = .ok (.iload 4, 2) := by decide +kernel
theorem kd_M_settle_41 : decode kb_M_settle 41 = .ok (.aload_n 0, 1) := by decide +kernel
theorem kd_M_settle_42 : decode kb_M_settle 42 = .ok (.getfield 73, 3) := by decide +kernel
theorem kd_M_settle_45 : decode kb_M_settle 45 = .ok (.if_icmp .ge 37, 3) := by decide +kernel
theorem kd_M_settle_48 : decode kb_M_settle 48 = .ok (.aload_n 0, 1) := by decide +kernel
theorem kd_M_settle_49 : decode kb_M_settle 49 = .ok (.getfield 19, 3) := by decide +kernel
theorem kd_M_settle_52 : decode kb_M_settle 52 = .ok (.iload 4, 2) := by decide +kernel
theorem kd_M_settle_54 : decode kb_M_settle 54 = .ok (.aload_n 0, 1) := by decide +kernel
theorem kd_M_settle_55 : decode kb_M_settle 55 = .ok (.getfield 63, 3) := by decide +kernel
theorem kd_M_settle_58 : decode kb_M_settle 58 = .ok (.iload 4, 2) := by decide +kernel
theorem kd_M_settle_60 : decode kb_M_settle 60 = .ok (.laload, 1) := by decide +kernel
theorem kd_M_settle_61 : decode kb_M_settle 61 = .ok (.lastore, 1) := by decide +kernel
theorem kd_M_settle_62 : decode kb_M_settle 62 = .ok (.aload_n 0, 1) := by decide +kernel
theorem kd_M_settle_63 : decode kb_M_settle 63 = .ok (.getfield 23, 3) := by decide +kernel
theorem kd_M_settle_66 : decode kb_M_settle 66 = .ok (.iload 4, 2) := by decide +kernel
theorem kd_M_settle_68 : decode kb_M_settle 68 = .ok (.aload_n 0, 1) := by decide +kernel
theorem kd_M_settle_69 : decode kb_M_settle 69 = .ok (.getfield 66, 3) := by decide +kernel
theorem kd_M_settle_72 : decode kb_M_settle 72 = .ok (.iload 4, 2) := by decide +kernel
theorem kd_M_settle_74 : decode kb_M_settle 74 = .ok (.laload, 1) := by decide +kernel
theorem kd_M_settle_75 : decode kb_M_settle 75 = .ok (.lastore, 1) := by decide +kernel
theorem kd_M_settle_76 : decode kb_M_settle 76 = .ok (.iinc 4 1, 3) := by decide +kernel
theorem kd_M_settle_79 : decode kb_M_settle 79 = .ok (.goto (-40), 3) := by decide +kernel
theorem kd_M_settle_82 : decode kb_M_settle 82 = .ok (.lload_n 2, 1) := by decide +kernel
theorem kd_M_settle_83 : decode kb_M_settle 83 = .ok (.lreturn, 1) := by decide +kernel
theorem kd_M_fired_0 : decode kb_M_fired 0 = .ok (.aload_n 0, 1) := by decide +kernel
theorem kd_M_fired_1 : decode kb_M_fired 1 = .ok (.iconst 0, 1) := by decide +kernel
theorem kd_M_fired_2 : decode kb_M_fired 2 = .ok (.putfield 69, 3) := by decide +kernel
theorem kd_M_fired_5 : decode kb_M_fired 5 = .ok (.aload_n 0, 1) := by decide +kernel
theorem kd_M_fired_6 : decode kb_M_fired 6 = .ok (.iload_n 1, 1) := by decide +kernel
theorem kd_M_fired_7 : decode kb_M_fired 7 = .ok (.invokevirtual 76, 3) := by decide +kernel
theorem kd_M_fired_10 : decode kb_M_fired 10 = .ok (.ifCond .eq 12, 3) := by decide +kernel
theorem kd_M_fired_13 : decode kb_M_fired 13 = .ok (.aload_n 0, 1) := by decide +kernel
theorem kd_M_fired_14 : decode kb_M_fired 14 = .ok (.getfield 23, 3) := by decide +kernel
theorem kd_M_fired_17 : decode kb_M_fired 17 = .ok (.iload_n 1, 1) := by decide +kernel
theorem kd_M_fired_18 : decode kb_M_fired 18 = .ok (.laload, 1) := by decide +kernel
theorem kd_M_fired_19 : decode kb_M_fired 19 = .ok (.goto 4, 3) := by decide +kernel
theorem kd_M_fired_22 : decode kb_M_fired 22 = .ok (.lconst 0, 1) := by decide +kernel
theorem kd_M_fired_23 : decode kb_M_fired 23 = .ok (.lreturn, 1) := by decide +kernel
theorem kd_M_recurrent_0 : decode kb_M_recurrent 0 = .ok (.aload_n 0, 1) := by decide +kernel
theorem kd_M_recurrent_1 : decode kb_M_recurrent 1 = .ok (.iconst 0, 1) := by decide +kernel
theorem kd_M_recurrent_2 : decode kb_M_recurrent 2 = .ok (.putfield 69, 3) := by decide +kernel
theorem kd_M_recurrent_5 : decode kb_M_recurrent 5 = .ok (.aload_n 0, 1) := by decide +kernel
theorem kd_M_recurrent_6 : decode kb_M_recurrent 6 = .ok (.iload_n 1, 1) := by decide +kernel
theorem kd_M_recurrent_7 : decode kb_M_recurrent 7 = .ok (.invokevirtual 76, 3) := by decide +kernel
theorem kd_M_recurrent_10 : decode kb_M_recurrent 10 = .ok (.ifCond .eq 12, 3) := by decide +kernel
theorem kd_M_recurrent_13 : decode kb_M_recurrent 13 = .ok (.aload_n 0, 1) := by decide +kernel
theorem kd_M_recurrent_14 : decode kb_M_recurrent 14 = .ok (.invokevirtual 133, 3) := by decide +kernel
theorem kd_M_recurrent_17 : decode kb_M_recurrent 17 = .ok (.lconst 0, 1) := by decide +kernel
theorem kd_M_recurrent_18 : decode kb_M_recurrent 18 = .ok (.lcmp, 1) := by decide +kernel
theorem kd_M_recurrent_19 : decode kb_M_recurrent 19 = .ok (.ifCond .ne 5, 3) := by decide +kernel
theorem kd_M_recurrent_22 : decode kb_M_recurrent 22 = .ok (.iconst (-1), 1) := by decide +kernel
theorem kd_M_recurrent_23 : decode kb_M_recurrent 23 = .ok (.ireturn, 1) := by decide +kernel
theorem kd_M_recurrent_24 : decode kb_M_recurrent 24 = .ok (.aload_n 0, 1) := by decide +kernel
theorem kd_M_recurrent_25 : decode kb_M_recurrent 25 = .ok (.invokevirtual 208, 3) := by decide +kernel
theorem kd_M_recurrent_28 : decode kb_M_recurrent 28 = .ok (.iconst 1, 1) := by decide +kernel
theorem kd_M_recurrent_29 : decode kb_M_recurrent 29 = .ok (.istore_n 2, 1) := by decide +kernel
theorem kd_M_recurrent_30 : decode kb_M_recurrent 30 = .ok (.iconst 0, 1) := by decide +kernel
theorem kd_M_recurrent_31 : decode kb_M_recurrent 31 = .ok (.istore_n 3, 1) := by decide +kernel
theorem kd_M_recurrent_32 : decode kb_M_recurrent 32 = .ok (.iload_n 3, 1) := by decide +kernel
theorem kd_M_recurrent_33 : decode kb_M_recurrent 33 = .ok (.aload_n 0, 1) := by decide +kernel
theorem kd_M_recurrent_34 : decode kb_M_recurrent 34 = .ok (.getfield 73, 3) := by decide +kernel
theorem kd_M_recurrent_37 : decode kb_M_recurrent 37 = .ok (.if_icmp .ge 39, 3) := by decide +kernel
theorem kd_M_recurrent_40 : decode kb_M_recurrent 40 = .ok (.iload_n 2, 1) := by decide +kernel
theorem kd_M_recurrent_41 : decode kb_M_recurrent 41 = .ok (.ifCond .eq 27, 3) := by decide +kernel
theorem kd_M_recurrent_44 : decode kb_M_recurrent 44 = .ok (.iload_n 3, 1) := by decide +kernel
theorem kd_M_recurrent_45 : decode kb_M_recurrent 45 = .ok (.iload_n 1, 1) := by decide +kernel
theorem kd_M_recurrent_46 : decode kb_M_recurrent 46 = .ok (.if_icmp .eq 18, 3) := by decide +kernel
theorem kd_M_recurrent_49 : decode kb_M_recurrent 49 = .ok (.aload_n 0, 1) := by decide +kernel
theorem kd_M_recurrent_50 : decode kb_M_recurrent 50 = .ok (.getfield 63, 3) := by decide +kernel
theorem kd_M_recurrent_53 : decode kb_M_recurrent 53 = .ok (.iload_n 3, 1) := by decide +kernel
theorem kd_M_recurrent_54 : decode kb_M_recurrent 54 = .ok (.laload, 1) := by decide +kernel
theorem kd_M_recurrent_55 : decode kb_M_recurrent 55 = .ok (.aload_n 0, 1) := by decide +kernel
theorem kd_M_recurrent_56 : decode kb_M_recurrent 56 = .ok (.iload_n 3, 1) := by decide +kernel
theorem kd_M_recurrent_57 : decode kb_M_recurrent 57 = .ok (.invokevirtual 201, 3) := by decide +kernel
theorem kd_M_recurrent_60 : decode kb_M_recurrent 60 = .ok (.lcmp, 1) := by decide +kernel
theorem kd_M_recurrent_61 : decode kb_M_recurrent 61 = .ok (.ifCond .ge 7, 3) := by decide +kernel
theorem kd_M_recurrent_64 : decode kb_M_recurrent 64 = .ok (.iconst 1, 1) := by decide +kernel
theorem kd_M_recurrent_65 : decode kb_M_recurrent 65 = .ok (.goto 4, 3) := by decide +kernel
theorem kd_M_recurrent_68 : decode kb_M_recurrent 68 = .ok (.iconst 0, 1) := by decide +kernel
theorem kd_M_recurrent_69 : decode kb_M_recurrent 69 = .ok (.istore_n 2, 1) := by decide +kernel
theorem kd_M_recurrent_70 : decode kb_M_recurrent 70 = .ok (.iinc 3 1, 3) := by decide +kernel
theorem kd_M_recurrent_73 : decode kb_M_recurrent 73 = .ok (.goto (-41), 3) := by decide +kernel
theorem kd_M_recurrent_76 : decode kb_M_recurrent 76 = .ok (.iload_n 2, 1) := by decide +kernel
theorem kd_M_recurrent_77 : decode kb_M_recurrent 77 = .ok (.ifCond .ne 5, 3) := by decide +kernel
theorem kd_M_recurrent_80 : decode kb_M_recurrent 80 = .ok (.iconst 0, 1) := by decide +kernel
theorem kd_M_recurrent_81 : decode kb_M_recurrent 81 = .ok (.ireturn, 1) := by decide +kernel
theorem kd_M_recurrent_82 : decode kb_M_recurrent 82 = .ok (.aload_n 0, 1) := by decide +kernel
theorem kd_M_recurrent_83 : decode kb_M_recurrent 83 = .ok (.iload_n 1, 1) := by decide +kernel
theorem kd_M_recurrent_84 : decode kb_M_recurrent 84 = .ok (.lconst 1, 1) := by decide +kernel
theorem kd_M_recurrent_85 : decode kb_M_recurrent 85 = .ok (.invokevirtual 204, 3) := by decide +kernel
theorem kd_M_recurrent_88 : decode kb_M_recurrent 88 = .ok (.aload_n 0, 1) := by decide +kernel
theorem kd_M_recurrent_89 : decode kb_M_recurrent 89 = .ok (.iload_n 1, 1) := by decide +kernel
theorem kd_M_recurrent_90 : decode kb_M_recurrent 90 = .ok (.invokevirtual 211, 3) := by decide +kernel
theorem kd_M_recurrent_93 : decode kb_M_recurrent 93 = .ok (.lstore_n 3, 1) := by decide +kernel
theorem kd_M_recurrent_94 : decode kb_M_recurrent 94 = .ok (.iconst 0, 1) := by decide +kernel
theorem kd_M_recurrent_95 : decode kb_M_recurrent 95 = .ok (.istore 5, 2) := by decide +kernel
theorem kd_M_recurrent_97 : decode kb_M_recurrent 97 = .ok (.iload 5, 2) := by decide +kernel
theorem kd_M_recurrent_99 : decode kb_M_recurrent 99 = .ok (.aload_n 0, 1) := by decide +kernel
theorem kd_M_recurrent_100 : decode kb_M_recurrent 100 = .ok (.getfield 73, 3) := by decide +kernel
theorem kd_M_recurrent_103 : decode kb_M_recurrent 103 = .ok (.if_icmp .ge 37, 3) := by decide +kernel
theorem kd_M_recurrent_106 : decode kb_M_recurrent 106 = .ok (.iload_n 2, 1) := by decide +kernel
theorem kd_M_recurrent_107 : decode kb_M_recurrent 107 = .ok (.ifCond .eq 25, 3) := by decide +kernel
theorem kd_M_recurrent_110 : decode kb_M_recurrent 110 = .ok (.iload 5, 2) := by decide +kernel
theorem kd_M_recurrent_112 : decode kb_M_recurrent 112 = .ok (.iload_n 1, 1) := by decide +kernel
theorem kd_M_recurrent_113 : decode kb_M_recurrent 113 = .ok (.if_icmp .eq 15, 3) := by decide +kernel
theorem kd_M_recurrent_116 : decode kb_M_recurrent 116 = .ok (.aload_n 0, 1) := by decide +kernel
theorem kd_M_recurrent_117 : decode kb_M_recurrent 117 = .ok (.getfield 66, 3) := by decide +kernel
theorem kd_M_recurrent_120 : decode kb_M_recurrent 120 = .ok (.iload 5, 2) := by decide +kernel
theorem kd_M_recurrent_122 : decode kb_M_recurrent 122 = .ok (.laload, 1) := by decide +kernel
theorem kd_M_recurrent_123 : decode kb_M_recurrent 123 = .ok (.lconst 1, 1) := by decide +kernel
theorem kd_M_recurrent_124 : decode kb_M_recurrent 124 = .ok (.lcmp, 1) := by decide +kernel
theorem kd_M_recurrent_125 : decode kb_M_recurrent 125 = .ok (.ifCond .ne 7, 3) := by decide +kernel
theorem kd_M_recurrent_128 : decode kb_M_recurrent 128 = .ok (.iconst 1, 1) := by decide +kernel
theorem kd_M_recurrent_129 : decode kb_M_recurrent 129 = .ok (.goto 4, 3) := by decide +kernel
theorem kd_M_recurrent_132 : decode kb_M_recurrent 132 = .ok (.iconst 0, 1) := by decide +kernel
theorem kd_M_recurrent_133 : decode kb_M_recurrent 133 = .ok (.istore_n 2, 1) := by decide +kernel
theorem kd_M_recurrent_134 : decode kb_M_recurrent 134 = .ok (.iinc 5 1, 3) := by decide +kernel
theorem kd_M_recurrent_137 : decode kb_M_recurrent 137 = .ok (.goto (-40), 3) := by decide +kernel
theorem kd_M_recurrent_140 : decode kb_M_recurrent 140 = .ok (.iload_n 2, 1) := by decide +kernel
theorem kd_M_recurrent_141 : decode kb_M_recurrent 141 = .ok (.ifCond .eq 7, 3) := by decide +kernel
theorem kd_M_recurrent_144 : decode kb_M_recurrent 144 = .ok (.iconst 1, 1) := by decide +kernel
theorem kd_M_recurrent_145 : decode kb_M_recurrent 145 = .ok (.goto 4, 3) := by decide +kernel
theorem kd_M_recurrent_148 : decode kb_M_recurrent 148 = .ok (.iconst 0, 1) := by decide +kernel
theorem kd_M_recurrent_149 : decode kb_M_recurrent 149 = .ok (.ireturn, 1) := by decide +kernel
theorem kd_M_powerOf_0 : decode kb_M_powerOf 0 = .ok (.lconst 1, 1) := by decide +kernel
theorem kd_M_powerOf_1 : decode kb_M_powerOf 1 = .ok (.lstore_n 3, 1) := by decide +kernel
theorem kd_M_powerOf_2 : decode kb_M_powerOf 2 = .ok (.iconst 0, 1) := by decide +kernel
theorem kd_M_powerOf_3 : decode kb_M_powerOf 3 = .ok (.istore 5, 2) := by decide +kernel
theorem kd_M_powerOf_5 : decode kb_M_powerOf 5 = .ok (.iload 5, 2) := by decide +kernel
theorem kd_M_powerOf_7 : decode kb_M_powerOf 7 = .ok (.iload_n 2, 1) := by decide +kernel
theorem kd_M_powerOf_8 : decode kb_M_powerOf 8 = .ok (.if_icmp .ge 13, 3) := by decide +kernel
theorem kd_M_powerOf_11 : decode kb_M_powerOf 11 = .ok (.lload_n 3, 1) := by decide +kernel
theorem kd_M_powerOf_12 : decode kb_M_powerOf 12 = .ok (.lload_n 0, 1) := by decide +kernel
theorem kd_M_powerOf_13 : decode kb_M_powerOf 13 = .ok (.lmul, 1) := by decide +kernel
theorem kd_M_powerOf_14 : decode kb_M_powerOf 14 = .ok (.lstore_n 3, 1) := by decide +kernel
theorem kd_M_powerOf_15 : decode kb_M_powerOf 15 = .ok (.iinc 5 1, 3) := by decide +kernel
theorem kd_M_powerOf_18 : decode kb_M_powerOf 18 = .ok (.goto (-13), 3) := by decide +kernel
theorem kd_M_powerOf_21 : decode kb_M_powerOf 21 = .ok (.lload_n 3, 1) := by decide +kernel
theorem kd_M_powerOf_22 : decode kb_M_powerOf 22 = .ok (.lreturn, 1) := by decide +kernel
theorem kd_M_rank_0 : decode kb_M_rank 0 = .ok (.aload_n 0, 1) := by decide +kernel
theorem kd_M_rank_1 : decode kb_M_rank 1 = .ok (.invokevirtual 121, 3) := by decide +kernel
theorem kd_M_rank_4 : decode kb_M_rank 4 = .ok (.iconst 0, 1) := by decide +kernel
theorem kd_M_rank_5 : decode kb_M_rank 5 = .ok (.istore_n 2, 1) := by decide +kernel
theorem kd_M_rank_6 : decode kb_M_rank 6 = .ok (.iconst 0, 1) := by decide +kernel
theorem kd_M_rank_7 : decode kb_M_rank 7 = .ok (.istore_n 3, 1) := by decide +kernel
theorem kd_M_rank_8 : decode kb_M_rank 8 = .ok (.iload_n 3, 1) := by decide +kernel
theorem kd_M_rank_9 : decode kb_M_rank 9 = .ok (.aload_n 0, 1) := by decide +kernel
theorem kd_M_rank_10 : decode kb_M_rank 10 = .ok (.getfield 80, 3) := by decide +kernel
theorem kd_M_rank_13 : decode kb_M_rank 13 = .ok (.if_icmp .ge 40, 3) := by decide +kernel
theorem kd_M_rank_16 : decode kb_M_rank 16 = .ok (.iload_n 1, 1) := by decide +kernel
theorem kd_M_rank_17 : decode kb_M_rank 17 = .ok (.iload_n 3, 1) := by decide +kernel
theorem kd_M_rank_18 : decode kb_M_rank 18 = .ok (.ishr, 1) := by decide +kernel
theorem kd_M_rank_19 : decode kb_M_rank 19 = .ok (.iconst 1, 1) := by decide +kernel
theorem kd_M_rank_20 : decode kb_M_rank 20 = .ok (.iand, 1) := by decide +kernel
theorem kd_M_rank_21 : decode kb_M_rank 21 = .ok (.iconst 1, 1) := by decide +kernel
theorem kd_M_rank_22 : decode kb_M_rank 22 = .ok (.if_icmp .ne 25, 3) := by decide +kernel
theorem kd_M_rank_25 : decode kb_M_rank 25 = .ok (.aload_n 0, 1) := by decide +kernel
theorem kd_M_rank_26 : decode kb_M_rank 26 = .ok (.aload_n 0, 1) := by decide +kernel
theorem kd_M_rank_27 : decode kb_M_rank 27 = .ok (.getfield 7, 3) := by decide +kernel
theorem kd_M_rank_30 : decode kb_M_rank 30 = .ok (.iload_n 3, 1) := by decide +kernel
theorem kd_M_rank_31 : decode kb_M_rank 31 = .ok (.iaload, 1) := by decide +kernel
theorem kd_M_rank_32 : decode kb_M_rank 32 = .ok (.aload_n 0, 1) := by decide +kernel
theorem kd_M_rank_33 : decode kb_M_rank 33 = .ok (.getfield 13, 3) := by decide +kernel
theorem kd_M_rank_36 : decode kb_M_rank 36 = .ok (.iload_n 3, 1) := by decide +kernel
theorem kd_M_rank_37 : decode kb_M_rank 37 = .ok (.iaload, 1) := by decide +kernel
theorem kd_M_rank_38 : decode kb_M_rank 38 = .ok (.invokevirtual 144, 3) := by decide +kernel
theorem kd_M_rank_41 : decode kb_M_rank 41 = .ok (.ifCond .eq 6, 3) := by decide +kernel
theorem kd_M_rank_44 : decode kb_M_rank 44 = .ok (.iinc 2 1, 3) := by decide +kernel
theorem kd_M_rank_47 : decode kb_M_rank 47 = .ok (.iinc 3 1, 3) := by decide +kernel
theorem kd_M_rank_50 : decode kb_M_rank 50 = .ok (.goto (-42), 3) := by decide +kernel
theorem kd_M_rank_53 : decode kb_M_rank 53 = .ok (.iload_n 2, 1) := by decide +kernel
theorem kd_M_rank_54 : decode kb_M_rank 54 = .ok (.ireturn, 1) := by decide +kernel
theorem kd_M_point_0 : decode kb_M_point 0 = .ok (.aload_n 0, 1) := by decide +kernel
theorem kd_M_point_1 : decode kb_M_point 1 = .ok (.aload_n 0, 1) := by decide +kernel
theorem kd_M_point_2 : decode kb_M_point 2 = .ok (.getfield 80, 3) := by decide +kernel
theorem kd_M_point_5 : decode kb_M_point 5 = .ok (.bipush 14, 2) := by decide +kernel
theorem kd_M_point_7 : decode kb_M_point 7 = .ok (.if_icmp .le 7, 3) := by decide +kernel
theorem kd_M_point_10 : decode kb_M_point 10 = .ok (.iconst 1, 1) := by decide +kernel
theorem kd_M_point_11 : decode kb_M_point 11 = .ok (.goto 4, 3) := by decide +kernel
theorem kd_M_point_14 : decode kb_M_point 14 = .ok (.iconst 0, 1) := by decide +kernel
theorem kd_M_point_15 : decode kb_M_point 15 = .ok (.putfield 69, 3) := by decide +kernel
theorem kd_M_point_18 : decode kb_M_point 18 = .ok (.aload_n 0, 1) := by decide +kernel
theorem kd_M_point_19 : decode kb_M_point 19 = .ok (.getfield 69, 3) := by decide +kernel
theorem kd_M_point_22 : decode kb_M_point 22 = .ok (.ifCond .le 5, 3) := by decide +kernel
theorem kd_M_point_25 : decode kb_M_point 25 = .ok (.lconst 0, 1) := by decide +kernel
theorem kd_M_point_26 : decode kb_M_point 26 = .ok (.lreturn, 1) := by decide +kernel
theorem kd_M_point_27 : decode kb_M_point 27 = .ok (.aload_n 0, 1) := by decide +kernel
theorem kd_M_point_28 : decode kb_M_point 28 = .ok (.iconst 1, 1) := by decide +kernel
theorem kd_M_point_29 : decode kb_M_point 29 = .ok (.aload_n 0, 1) := by decide +kernel
theorem kd_M_point_30 : decode kb_M_point 30 = .ok (.getfield 80, 3) := by decide +kernel
theorem kd_M_point_33 : decode kb_M_point 33 = .ok (.ishl, 1) := by decide +kernel
theorem kd_M_point_34 : decode kb_M_point 34 = .ok (.iconst 1, 1) := by decide +kernel
theorem kd_M_point_35 : decode kb_M_point 35 = .ok (.isub, 1) := by decide +kernel
theorem kd_M_point_36 : decode kb_M_point 36 = .ok (.invokevirtual 214, 3) := by decide +kernel
theorem kd_M_point_39 : decode kb_M_point 39 = .ok (.istore 5, 2) := by decide +kernel
theorem kd_M_point_41 : decode kb_M_point 41 = .ok (.lconst 0, 1) := by decide +kernel
theorem kd_M_point_42 : decode kb_M_point 42 = .ok (.lstore 6, 2) := by decide +kernel
theorem kd_M_point_44 : decode kb_M_point 44 = .ok (.iconst 0, 1) := by decide +kernel
theorem kd_M_point_45 : decode kb_M_point 45 = .ok (.istore 8, 2) := by decide +kernel
theorem kd_M_point_47 : decode kb_M_point 47 = .ok (.iload 8, 2) := by decide +kernel
theorem kd_M_point_49 : decode kb_M_point 49 = .ok (.iconst 1, 1) := by decide +kernel
theorem kd_M_point_50 : decode kb_M_point 50 = .ok (.aload_n 0, 1) := by decide +kernel
theorem kd_M_point_51 : decode kb_M_point 51 = .ok (.getfield 80, 3) := by decide +kernel
theorem kd_M_point_54 : decode kb_M_point 54 = .ok (.ishl, 1) := by decide +kernel
theorem kd_M_point_55 : decode kb_M_point 55 = .ok (.if_icmp .ge 78, 3) := by decide +kernel
theorem kd_M_point_58 : decode kb_M_point 58 = .ok (.iconst 0, 1) := by decide +kernel
theorem kd_M_point_59 : decode kb_M_point 59 = .ok (.istore 9, 2) := by decide +kernel
theorem kd_M_point_61 : decode kb_M_point 61 = .ok (.iconst 0, 1) := by decide +kernel
theorem kd_M_point_62 : decode kb_M_point 62 = .ok (.istore 10, 2) := by decide +kernel
theorem kd_M_point_64 : decode kb_M_point 64 = .ok (.iload 10, 2) := by decide +kernel
theorem kd_M_point_66 : decode kb_M_point 66 = .ok (.aload_n 0, 1) := by decide +kernel
theorem kd_M_point_67 : decode kb_M_point 67 = .ok (.getfield 80, 3) := by decide +kernel
theorem kd_M_point_70 : decode kb_M_point 70 = .ok (.if_icmp .ge 21, 3) := by decide +kernel
theorem kd_M_point_73 : decode kb_M_point 73 = .ok (.iload 9, 2) := by decide +kernel
theorem kd_M_point_75 : decode kb_M_point 75 = .ok (.iload 8, 2) := by decide +kernel
theorem kd_M_point_77 : decode kb_M_point 77 = .ok (.iload 10, 2) := by decide +kernel
theorem kd_M_point_79 : decode kb_M_point 79 = .ok (.ishr, 1) := by decide +kernel
theorem kd_M_point_80 : decode kb_M_point 80 = .ok (.iconst 1, 1) := by decide +kernel
theorem kd_M_point_81 : decode kb_M_point 81 = .ok (.iand, 1) := by decide +kernel
theorem kd_M_point_82 : decode kb_M_point 82 = .ok (.iadd, 1) := by decide +kernel
theorem kd_M_point_83 : decode kb_M_point 83 = .ok (.istore 9, 2) := by decide +kernel
theorem kd_M_point_85 : decode kb_M_point 85 = .ok (.iinc 10 1, 3) := by decide +kernel
theorem kd_M_point_88 : decode kb_M_point 88 = .ok (.goto (-24), 3) := by decide +kernel
theorem kd_M_point_91 : decode kb_M_point 91 = .ok (.aload_n 0, 1) := by decide +kernel
theorem kd_M_point_92 : decode kb_M_point 92 = .ok (.iload 8, 2) := by decide +kernel
theorem kd_M_point_94 : decode kb_M_point 94 = .ok (.invokevirtual 214, 3) := by decide +kernel
theorem kd_M_point_97 : decode kb_M_point 97 = .ok (.istore 10, 2) := by decide +kernel
theorem kd_M_point_99 : decode kb_M_point 99 = .ok (.lload 6, 2) := by decide +kernel
theorem kd_M_point_101 : decode kb_M_point 101 = .ok (.lload_n 1, 1) := by decide +kernel
theorem kd_M_point_102 : decode kb_M_point 102 = .ok (.lconst 1, 1) := by decide +kernel
theorem kd_M_point_103 : decode kb_M_point 103 = .ok (.lsub, 1) := by decide +kernel
theorem kd_M_point_104 : decode kb_M_point 104 = .ok (.iload 5, 2) := by decide +kernel
theorem kd_M_point_106 : decode kb_M_point 106 = .ok (.iload 10, 2) := by decide +kernel
theorem kd_M_point_108 : decode kb_M_point 108 = .ok (.isub, 1) := by decide +kernel
theorem kd_M_point_109 : decode kb_M_point 109 = .ok (.invokestatic 218, 3) := by decide +kernel
theorem kd_M_point_112 : decode kb_M_point 112 = .ok (.lload_n 3, 1) := by decide +kernel
theorem kd_M_point_113 : decode kb_M_point 113 = .ok (.lconst 1, 1) := by decide +kernel
theorem kd_M_point_114 : decode kb_M_point 114 = .ok (.lsub, 1) := by decide +kernel
theorem kd_M_point_115 : decode kb_M_point 115 = .ok (.iload 9, 2) := by decide +kernel
theorem kd_M_point_117 : decode kb_M_point 117 = .ok (.iload 10, 2) := by decide +kernel
theorem kd_M_point_119 : decode kb_M_point 119 = .ok (.isub, 1) := by decide +kernel
theorem kd_M_point_120 : decode kb_M_point 120 = .ok (.invokestatic 218, 3) := by decide +kernel
theorem kd_M_point_123 : decode kb_M_point 123 = .ok (.lmul, 1) := by decide +kernel
theorem kd_M_point_124 : decode kb_M_point 124 = .ok (.ladd, 1) := by decide +kernel
theorem kd_M_point_125 : decode kb_M_point 125 = .ok (.lstore 6, 2) := by decide +kernel
theorem kd_M_point_127 : decode kb_M_point 127 = .ok (.iinc 8 1, 3) := by decide +kernel
theorem kd_M_point_130 : decode kb_M_point 130 = .ok (.goto (-83), 3) := by decide +kernel
theorem kd_M_point_133 : decode kb_M_point 133 = .ok (.lload 6, 2) := by decide +kernel
theorem kd_M_point_135 : decode kb_M_point 135 = .ok (.lreturn, 1) := by decide +kernel
theorem kd_M_told_0 : decode kb_M_told 0 = .ok (.aload_n 0, 1) := by decide +kernel
theorem kd_M_told_1 : decode kb_M_told 1 = .ok (.iconst 0, 1) := by decide +kernel
theorem kd_M_told_2 : decode kb_M_told 2 = .ok (.putfield 69, 3) := by decide +kernel
theorem kd_M_told_5 : decode kb_M_told 5 = .ok (.iload_n 1, 1) := by decide +kernel
theorem kd_M_told_6 : decode kb_M_told 6 = .ok (.tableswitch 83 0 4 #[34, 39, 44, 59, 64], 34) := by decide +kernel
theorem kd_M_told_40 : decode kb_M_told 40 = .ok (.aload_n 0, 1) := by decide +kernel
theorem kd_M_told_41 : decode kb_M_told 41 = .ok (.getfield 73, 3) := by decide +kernel
theorem kd_M_told_44 : decode kb_M_told 44 = .ok (.ireturn, 1) := by decide +kernel
theorem kd_M_told_45 : decode kb_M_told 45 = .ok (.aload_n 0, 1) := by decide +kernel
theorem kd_M_told_46 : decode kb_M_told 46 = .ok (.getfield 80, 3) := by decide +kernel
theorem kd_M_told_49 : decode kb_M_told 49 = .ok (.ireturn, 1) := by decide +kernel
theorem kd_M_told_50 : decode kb_M_told 50 = .ok (.aload_n 0, 1) := by decide +kernel
theorem kd_M_told_51 : decode kb_M_told 51 = .ok (.getfield 73, 3) := by decide +kernel
theorem kd_M_told_54 : decode kb_M_told 54 = .ok (.aload_n 0, 1) := by decide +kernel
theorem kd_M_told_55 : decode kb_M_told 55 = .ok (.getfield 80, 3) := by decide +kernel
theorem kd_M_told_58 : decode kb_M_told 58 = .ok (.aload_n 0, 1) := by decide +kernel
theorem kd_M_told_59 : decode kb_M_told 59 = .ok (.invokevirtual 158, 3) := by decide +kernel
theorem kd_M_told_62 : decode kb_M_told 62 = .ok (.isub, 1) := by decide +kernel
theorem kd_M_told_63 : decode kb_M_told 63 = .ok (.isub, 1) := by decide +kernel
theorem kd_M_told_64 : decode kb_M_told 64 = .ok (.ireturn, 1) := by decide +kernel
theorem kd_M_told_65 : decode kb_M_told 65 = .ok (.aload_n 0, 1) := by decide +kernel
theorem kd_M_told_66 : decode kb_M_told 66 = .ok (.invokevirtual 158, 3) := by decide +kernel
theorem kd_M_told_69 : decode kb_M_told 69 = .ok (.ireturn, 1) := by decide +kernel
theorem kd_M_told_70 : decode kb_M_told 70 = .ok (.aload_n 0, 1) := by decide +kernel
theorem kd_M_told_71 : decode kb_M_told 71 = .ok (.invokevirtual 158, 3) := by decide +kernel
theorem kd_M_told_74 : decode kb_M_told 74 = .ok (.ifCond .ne 5, 3) := by decide +kernel
theorem kd_M_told_77 : decode kb_M_told 77 = .ok (.iconst 0, 1) := by decide +kernel
theorem kd_M_told_78 : decode kb_M_told 78 = .ok (.ireturn, 1) := by decide +kernel
theorem kd_M_told_79 : decode kb_M_told 79 = .ok (.aload_n 0, 1) := by decide +kernel
theorem kd_M_told_80 : decode kb_M_told 80 = .ok (.iconst 0, 1) := by decide +kernel
theorem kd_M_told_81 : decode kb_M_told 81 = .ok (.invokevirtual 162, 3) := by decide +kernel
theorem kd_M_told_84 : decode kb_M_told 84 = .ok (.aload_n 0, 1) := by decide +kernel
theorem kd_M_told_85 : decode kb_M_told 85 = .ok (.getfield 155, 3) := by decide +kernel
theorem kd_M_told_88 : decode kb_M_told 88 = .ok (.ireturn, 1) := by decide +kernel
theorem kd_M_told_89 : decode kb_M_told 89 = .ok (.iload_n 1, 1) := by decide +kernel
theorem kd_M_told_90 : decode kb_M_told 90 = .ok (.iconst 5, 1) := by decide +kernel
theorem kd_M_told_91 : decode kb_M_told 91 = .ok (.if_icmp .ne 21, 3) := by decide +kernel
theorem kd_M_told_94 : decode kb_M_told 94 = .ok (.aload_n 0, 1) := by decide +kernel
theorem kd_M_told_95 : decode kb_M_told 95 = .ok (.invokevirtual 197, 3) := by decide +kernel
theorem kd_M_told_98 : decode kb_M_told 98 = .ok (.ifCond .eq 10, 3) := by decide +kernel
theorem kd_M_told_101 : decode kb_M_told 101 = .ok (.aload_n 0, 1) := by decide +kernel
theorem kd_M_told_102 : decode kb_M_told 102 = .ok (.getfield 183, 3) := by decide +kernel
theorem kd_M_told_105 : decode kb_M_told 105 = .ok (.goto 8, 3) := by decide +kernel
theorem kd_M_told_108 : decode kb_M_told 108 = .ok (.iconst 0, 1) := by decide +kernel
theorem kd_M_told_109 : decode kb_M_told 109 = .ok (.goto 4, 3) := by decide +kernel
theorem kd_M_told_112 : decode kb_M_told 112 = .ok (.iconst (-1), 1) := by decide +kernel
theorem kd_M_told_113 : decode kb_M_told 113 = .ok (.ireturn, 1) := by decide +kernel
theorem kd_M_clear_0 : decode kb_M_clear 0 = .ok (.aload_n 0, 1) := by decide +kernel
theorem kd_M_clear_1 : decode kb_M_clear 1 = .ok (.iconst 0, 1) := by decide +kernel
theorem kd_M_clear_2 : decode kb_M_clear 2 = .ok (.putfield 69, 3) := by decide +kernel
theorem kd_M_clear_5 : decode kb_M_clear 5 = .ok (.aload_n 0, 1) := by decide +kernel
theorem kd_M_clear_6 : decode kb_M_clear 6 = .ok (.iconst 0, 1) := by decide +kernel
theorem kd_M_clear_7 : decode kb_M_clear 7 = .ok (.putfield 73, 3) := by decide +kernel
theorem kd_M_clear_10 : decode kb_M_clear 10 = .ok (.aload_n 0, 1) := by decide +kernel
theorem kd_M_clear_11 : decode kb_M_clear 11 = .ok (.iconst 0, 1) := by decide +kernel
theorem kd_M_clear_12 : decode kb_M_clear 12 = .ok (.putfield 80, 3) := by decide +kernel
theorem kd_M_clear_15 : decode kb_M_clear 15 = .ok (.return_, 1) := by decide +kernel
end
section
section ZM
variable {l : Launch} {D : va_G} {cl : List vw_C} {tys : List (ClassId × FieldType)} {Ts Nw : List Cond} {own nm : String} {cc : ByteArray} {nL : Nat} {ret : Option FieldType} {R : Room} {b : Nat} {Fi : List Frame → Array Value → State → State → Prop} {k n N : Nat} {σ : Nat → Option va_E} {pc : Nat} {lv : List (Nat × Value)} {st : List Value}
theorem z_zast {t0 a len : Nat} {cA : ClassId} {f : Nat → Int32} {i : Int32} {x : Int32} (hd : decode cc pc = .ok (.bastore, 1)) (ht : tys[t0]? = some (cA, .boolean)) (hσ : σ a = some (.inl (cA, len, .inl f))) (hi : vp_in i len) (hx : narrow .boolean (.int x) = .int x) (kk : Z l D cl tys Ts Nw own nm cc nL ret R b Fi k n N (zUp σ a (.inl (cA, len, .inl (upd f i.toNatClampNeg x)))) (pc + 1) lv st) : Z l D cl tys Ts Nw own nm cc nL ret R b Fi k n N σ pc lv (.int x :: .int i :: .ref (b + a) :: st) := by
  intro p e s m args below meth c H locs ls hF hP hS hl
  refine W.zast hF.1 hF.2.1 (hP.2 a _ hσ) ((hF.2.2.2.2.2.2.2.1.2 t0 _ ht).1 len (fun j => .int (f j))) (fun q => by cases q) (by show ¬ (i < 0 ∨ (arrV _ _ _).slots.size ≤ _); rw [arrV_size]; exact hi) rfl rfl hd fun H1 e1 z oq => ?_
  refine kk p e s m args below meth c H1 _ ls hF (hP.set (x0 := .inl (cA, len, .inl f)) z oq ?_) (hS.put z oq (Nat.le_add_right b a)) hl
  show H1[b + a]? = some (vp_cell _ _)
  rw [e1, hx]
  rw [vp_cell_i, vp_cell_i, arrV_store]
  congr 2
  funext q
  by_cases hq : q = i.toNatClampNeg
  · subst hq
    simp [updV, upd]
  · simp [updV, upd, hq]
theorem z_mmin {index : Nat} {x y : Int32} (hd : decode cc pc = .ok (.invokestatic index, 3)) (h1 : Cond.methodLink own index Lib.Math.min.name ∈ Ts) (h2 : Cond.static Lib.Math.min.name ∈ Ts) (h3 : Cond.initialized "java/lang/Math" ∈ Ts) (h4 : Cond.code Lib.Math.min.name Lib.Math.min.code 2 (some .int) ∈ Ts) (hf : 1 ≤ R.frames) (hlo : (st.map fun v => v.category).sum + 13 ≤ R.locals) (hc : k ≤ R.cells) (hs : n ≤ R.slots) (kk : Z l D cl tys Ts Nw own nm cc nL ret R b Fi k n N σ (pc + 3) lv (.int (if y < x then y else x) :: st)) : Z l D cl tys Ts Nw own nm cc nL ret R b Fi k n N σ pc lv (.int y :: .int x :: st) := fun p e s m args below meth c H locs ls hF hP hS hl => va_mmin hF.1 hF.2.1 (hF.2.2.1.trans hl.1.symm) hF.2.2.2.2.2.1 (hF.2.2.2.2.2.2.1 _ h1) (hF.2.2.2.2.2.2.1 _ h2) (hF.2.2.2.2.2.2.1 _ h3) (hF.2.2.2.2.2.2.1 _ h4) hf hlo hc hs hd (kk p e s m args below meth c H locs ls hF hP hS hl)
theorem z_mmax {index : Nat} {x y : Int32} (hd : decode cc pc = .ok (.invokestatic index, 3)) (h1 : Cond.methodLink own index Lib.Math.max.name ∈ Ts) (h2 : Cond.static Lib.Math.max.name ∈ Ts) (h3 : Cond.initialized "java/lang/Math" ∈ Ts) (h4 : Cond.code Lib.Math.max.name Lib.Math.max.code 2 (some .int) ∈ Ts) (hf : 1 ≤ R.frames) (hlo : (st.map fun v => v.category).sum + 13 ≤ R.locals) (hc : k ≤ R.cells) (hs : n ≤ R.slots) (kk : Z l D cl tys Ts Nw own nm cc nL ret R b Fi k n N σ (pc + 3) lv (.int (if x < y then y else x) :: st)) : Z l D cl tys Ts Nw own nm cc nL ret R b Fi k n N σ pc lv (.int y :: .int x :: st) := fun p e s m args below meth c H locs ls hF hP hS hl => va_mmax hF.1 hF.2.1 (hF.2.2.1.trans hl.1.symm) hF.2.2.2.2.2.1 (hF.2.2.2.2.2.2.1 _ h1) (hF.2.2.2.2.2.2.1 _ h2) (hF.2.2.2.2.2.2.1 _ h3) (hF.2.2.2.2.2.2.1 _ h4) hf hlo hc hs hd (kk p e s m args below meth c H locs ls hF hP hS hl)
def zCT (Ts : List Cond) (own : String) (index : Nat) (y : MethodName) (bytes : ByteArray) (maxL : Nat) (ret : Option FieldType) (ws : List Cond) (n : Nat) : Prop := GoodIn Ts (va_wsS own index y ws) ∧ (∃ ws', ws = Cond.code y bytes maxL ret :: ws') ∧ (y.cls ≠ "java/lang/invoke/MethodHandle" ∧ y.cls ≠ "java/lang/invoke/VarHandle" ∧ (parseMethodDescriptor y.desc).map (fun d => d.parameters.length) = some n)
/-- a static method of another class -/
theorem z_callT {y : MethodName} {ws : List Cond} {fr lo mc ms index maxL i : Nat} {bytes : ByteArray} {ret' : Option FieldType} {As rest : List Value} {Q : Outcome → Nat → (Nat → Option va_E) → Prop}
    (hd : decode cc pc = .ok (.invokestatic index, 3)) (cw : zCT Ts own index y bytes maxL ret' ws i) (hM : zM l D cl tys Nw b y ws fr lo mc ms As N σ Q) (hst : st = As.reverse ++ rest) (hn : As.length = i) (hW : (rest.map fun v => v.category).sum ≤ 8) (hR : fr + 1 ≤ R.frames ∧ 8 + (maxL + 11) + lo ≤ R.locals) (hf : k + mc ≤ R.cells ∧ n + ms ≤ R.slots)
    (kk : ∀ (v : Option Value) (N' : Nat) (σ' : Nat → Option va_E), Q (.returned v) N' σ' → Z l D cl tys Ts Nw own nm cc nL ret R b Fi (k + mc) (n + ms) N' σ' (pc + 3) lv (v.toList ++ rest)) : Z l D cl tys Ts Nw own nm cc nL ret R b Fi k n N σ pc lv st := by
  intro p e s m args below meth c H locs ls hF hP hS hl
  obtain ⟨hx, hb, hml, hr, hlocks, hown, hts, hK, hNw, hname, hbs⟩ := id hF
  obtain ⟨hG, ⟨ws', hw⟩, hd4⟩ := cw
  have hpre := z_pre (y := y) (av := As) hK hNw hP
  refine z_behind (mc := mc) (ms := ms) (Q := Q) (rest := rest) hF hS hl (va_runS (n := i) (As := As) (rest := rest) (g := F0 m pc ls st) ⟨hx, hb, hml, hown, hts⟩ hM (va_cwS i hts hG hw rfl rfl hd4 hR) ⟨hpre.1, hpre.2⟩ rfl hn hl.1 hst (lv_room hW) hd hf) kk
/-- new T[n][m]: the outer array at N, the rows behind it -/
def zRows (σ : Nat → Option va_E) (N len : Nat) (x0 x : va_E) : Nat → Option va_E := fun j => if j = N then some x0 else if N < j ∧ j < N + 1 + len then some x else σ j
theorem zx_outer (c : ClassId) (N h0 : Nat) : ∀ i : Nat, Jvm.Free.Multi.outerC c N h0 i = arrV c N (fun j => va_rf (if j < i then some (h0 + 1 + j) else none))
  | 0 => by
    show ({ cls := c, slots := Array.replicate N .null, vm := .none } : Cell) = _
    rw [arrV_new]
    refine congrArg (arrV c N) (funext fun j => ?_)
    simp [va_rf]
  | i + 1 => by
    show (Jvm.Free.Multi.outerC c N h0 i).setSlot i (.ref (h0 + 1 + i)) = _
    rw [zx_outer c N h0 i, arrV_store]
    refine congrArg (arrV c N) (funext fun j => ?_)
    by_cases e : j = i
    · subst e
      simp [updV, va_rf]
    · by_cases h : j < i
      · simp [updV, e, h, Nat.lt_succ_of_lt h]
      · simp [updV, e, h, show ¬ j < i + 1 by omega]
theorem z_mna {index t0 t1 len1 len2 : Nat} {ty : FieldType} {cA cB : ClassId} {n1 n2 : Int32} {z : vp_A} (hd : decode cc pc = .ok (.multianewarray index 2, 4)) (hw1 : Cond.classLink own index ("[" ++ (FieldType.array ty).toString) ∈ Ts) (hw2 : Cond.arrayOver (.array ty) ∈ Ts) (hw3 : Cond.arrayClass ty ∈ Ts) (hcA : ∀ U : State, va_K D cl tys U → U.vm.findClass ("[" ++ (FieldType.array ty).toString) = some cA) (hcB : ∀ U : State, va_K D cl tys U → U.vm.findClass (FieldType.array ty).toString = some cB)
    (h1 : ¬ n1 < 0) (h2 : ¬ n2 < 0) (hN : n1.toNatClampNeg = len1) (hM : n2.toNatClampNeg = len2) (hb1 : len1 * 4 ≤ 536870912) (hb2 : len2 * componentBytes ty ≤ 536870912) (hb3 : len2 ≤ 536870912) (hdf : fits ty (defaultValue ty) = true) (hdd : (defaultValue ty).isDefault = true) (hz : Jvm.Free.Multi.innerC cB len2 (defaultValue ty) = vp_cell cB z) (hcs : k + (1 + len1) ≤ R.cells) (hss : n + (len1 + len1 * len2) ≤ R.slots)
    (kk : Z l D cl tys Ts Nw own nm cc nL ret R b Fi (k + 1 + len1) (n + len1 + len1 * len2) (N + 1 + len1) (zRows σ N len1 (.inl (cA, len1, .inr (.inr (.inr (.inr (fun i => if i < len1 then some (b + N + 1 + i) else none)))))) (.inl (cB, z))) (pc + 4) lv (.ref (b + N) :: st)) : Z l D cl tys Ts Nw own nm cc nL ret R b Fi k n N σ pc lv (.int n2 :: .int n1 :: st) := by
  intro p e s m args below meth c H locs ls hF hP hS hl
  obtain ⟨hx, hb, hml, hr, hlocks, hown, hts, hK, hNw, hname, hbs⟩ := id hF
  subst hN
  subst hM
  intro T hT Xs
  obtain ⟨vm₁, cA', comp, -, fA, fC, hO, -, X', step⟩ := Xs.multianewarray2F hx hown (hts _ hw1) (hts _ hw2) (hts _ hw3) (g := F0 m pc ls (.int n2 :: .int n1 :: st)) rfl (by rw [hb]; exact hd) rfl h1 h2 hb1 hb2 hb3 hdf hdd hcs hss
  have ea : cA' = cA := Option.some.inj (fA.symm.trans (hcA s hK))
  have ec : comp = cB := Option.some.inj (fC.symm.trans (hcB s hK))
  subst ea
  subst ec
  generalize hFl : Jvm.Free.Multi.fill (T.setVm vm₁) cA' comp n1.toNatClampNeg n2.toNatClampNeg (defaultValue ty) n1.toNatClampNeg = F at X' step
  have hTh : (T.setVm vm₁).heap = H := hT
  obtain ⟨f1, f2, -, -⟩ := Jvm.Free.Multi.fill_facts (T.setVm vm₁) cA' comp n1.toNatClampNeg n2.toNatClampNeg (defaultValue ty) n1.toNatClampNeg
  rw [hFl, hTh] at f1 f2
  have hold : ∀ x : Nat, x < H.size → F.heap[x]? = H[x]? := fun x hx => by
    have := Jvm.Free.Multi.fill_old (T.setVm vm₁) cA' comp n1.toNatClampNeg n2.toNatClampNeg (defaultValue ty) (a := x) (by rw [hTh]; exact hx) n1.toNatClampNeg
    rw [hFl, hTh] at this
    exact this
  have hrow : ∀ j : Nat, j < n1.toNatClampNeg → F.heap[H.size + 1 + j]? = some (vp_cell comp z) := fun j hj => by
    have := Jvm.Free.Multi.fill_inner (T.setVm vm₁) cA' comp n1.toNatClampNeg n2.toNatClampNeg (defaultValue ty) n1.toNatClampNeg j hj
    rw [hFl, hTh, hz] at this
    exact this
  rw [zx_outer] at f2
  rw [hP.1] at f1 f2 hold hrow
  have hP2 : zP D cl b (N + 1 + n1.toNatClampNeg) (zRows σ N n1.toNatClampNeg (.inl (cA', n1.toNatClampNeg, .inr (.inr (.inr (.inr (fun i => if i < n1.toNatClampNeg then some (b + N + 1 + i) else none)))))) (.inl (comp, z))) F.heap := by
    refine ⟨by rw [f1]; omega, fun j y hy => ?_⟩
    unfold zRows at hy
    by_cases e1 : j = N
    · rw [if_pos e1] at hy
      cases hy
      subst e1
      exact f2
    · rw [if_neg e1] at hy
      by_cases e2 : N < j ∧ j < N + 1 + n1.toNatClampNeg
      · rw [if_pos e2] at hy
        cases hy
        have h9 := hrow (j - (N + 1)) (by omega)
        rw [show b + N + 1 + (j - (N + 1)) = b + j by omega] at h9
        exact h9
      · rw [if_neg e2] at hy
        have h9 := hP.2 j y hy
        have h8 := h9.lt
        rw [hP.1] at h8
        exact h9.kept (hold (b + j) h8)
  have hsz := hS.1
  rw [hP.1] at hsz
  obtain ⟨t, a1, b1⟩ := kk p e s m args below meth c F.heap locs ls hF hP2 ⟨by rw [f1]; omega, fun x g1 g2 => (hold x (by omega)).trans (hS.2.1 x g1 g2), hS.2.2⟩ hl F rfl X'
  refine ⟨t, step t ?_, b1⟩
  have e9 : T.heap.size = b + N := by rw [hT]; exact hP.1
  rw [e9]
  exact a1
end ZM
end
section
def zB (x : Bool) : Int32 := cond x 1 0
theorem zB_0 {x : Bool} : zB x = 0 ↔ x = false := by cases x <;> decide
theorem zB_n (x : Bool) : narrow .boolean (.int (zB x)) = .int (zB x) := by cases x <;> rfl
/-- in Java's words: 0 <= x && x < n -/
def zIn (x n : Int32) : Bool := decide (¬ x < 0) && decide (¬ n ≤ x)
theorem zIn_a {x n : Int32} (h : x < 0) : zIn x n = false := by simp [zIn, h]
theorem zIn_b {x n : Int32} (h : n ≤ x) : zIn x n = false := by simp [zIn, h]
theorem zIn_t {x n : Int32} (h : ¬ x < 0) (h2 : ¬ n ≤ x) : zIn x n = true := by simp [zIn, h, h2]
set_option maxHeartbeats 4000000 in
set_option maxRecDepth 100000 in
theorem c_N_hasNode {l : Launch} {D : va_G} {tys : List (ClassId × FieldType)} {b N : Nat} {σ : Nat → Option va_E} {nodes arcs x : Int32} (h1 : σ 1 = some (.inr (1, [.int nodes, .int arcs, .ref (b + 2), .ref (b + 3), .ref (b + 4)]))) : zM l D kCl tys kNw b ky_N_hasNode (kh_N_hasNode :: zT) 0 0 0 0 [.ref (b + 1), .int x] N σ (zD (some (.int (zB (zIn x nodes)))) N σ) := by
  refine zM.of (by decide +kernel) rfl (Nat.le_of_ble_eq_true rfl) ?_
  refine z_pick (lv' := [(0, .ref (b + 1)), (1, .int x)]) [0, 1] rfl ?_
  refine z_iload_n kd_N_hasNode_0 1 rfl ?_
  refine z_if_lt (tgt := 16) kd_N_hasNode_1 (by decide) (fun c1 => ?_) (fun c1 => ?_)
  · refine z_iconst (v := 0) kd_N_hasNode_16 (by decide) ?_
    exact z_zret kd_N_hasNode_17 rfl rfl (Nat.le_refl _) (Nat.le_refl _) ⟨by simp [zIn, zB, *], rfl, rfl⟩
  · refine z_iload_n kd_N_hasNode_4 1 rfl ?_
    refine z_aload_n kd_N_hasNode_5 0 rfl ?_
    refine z_get kd_N_hasNode_6 (kf_N_21 _) h1 rfl ?_
    refine z_icmp_ge (tgt := 16) kd_N_hasNode_9 (by decide) (fun c9 => ?_) (fun c9 => ?_)
    · refine z_iconst (v := 0) kd_N_hasNode_16 (by decide) ?_
      exact z_zret kd_N_hasNode_17 rfl rfl (Nat.le_refl _) (Nat.le_refl _) ⟨by simp [zIn, zB, *], rfl, rfl⟩
    · refine z_iconst (v := 1) kd_N_hasNode_12 (by decide) ?_
      refine z_goto (tgt := 17) kd_N_hasNode_13 (by decide) ?_
      exact z_zret kd_N_hasNode_17 rfl rfl (Nat.le_refl _) (Nat.le_refl _) ⟨by simp [zIn, zB, *], rfl, rfl⟩
set_option maxHeartbeats 4000000 in
set_option maxRecDepth 100000 in
theorem c_N_hasArc {l : Launch} {D : va_G} {tys : List (ClassId × FieldType)} {b N : Nat} {σ : Nat → Option va_E} {nodes arcs x : Int32} (h1 : σ 1 = some (.inr (1, [.int nodes, .int arcs, .ref (b + 2), .ref (b + 3), .ref (b + 4)]))) : zM l D kCl tys kNw b ky_N_hasArc (kh_N_hasArc :: zT) 0 0 0 0 [.ref (b + 1), .int x] N σ (zD (some (.int (zB (zIn x arcs)))) N σ) := by
  refine zM.of (by decide +kernel) rfl (Nat.le_of_ble_eq_true rfl) ?_
  refine z_pick (lv' := [(0, .ref (b + 1)), (1, .int x)]) [0, 1] rfl ?_
  refine z_iload_n kd_N_hasArc_0 1 rfl ?_
  refine z_if_lt (tgt := 16) kd_N_hasArc_1 (by decide) (fun c1 => ?_) (fun c1 => ?_)
  · refine z_iconst (v := 0) kd_N_hasArc_16 (by decide) ?_
    exact z_zret kd_N_hasArc_17 rfl rfl (Nat.le_refl _) (Nat.le_refl _) ⟨by simp [zIn, zB, *], rfl, rfl⟩
  · refine z_iload_n kd_N_hasArc_4 1 rfl ?_
    refine z_aload_n kd_N_hasArc_5 0 rfl ?_
    refine z_get kd_N_hasArc_6 (kf_N_25 _) h1 rfl ?_
    refine z_icmp_ge (tgt := 16) kd_N_hasArc_9 (by decide) (fun c9 => ?_) (fun c9 => ?_)
    · refine z_iconst (v := 0) kd_N_hasArc_16 (by decide) ?_
      exact z_zret kd_N_hasArc_17 rfl rfl (Nat.le_refl _) (Nat.le_refl _) ⟨by simp [zIn, zB, *], rfl, rfl⟩
    · refine z_iconst (v := 1) kd_N_hasArc_12 (by decide) ?_
      refine z_goto (tgt := 17) kd_N_hasArc_13 (by decide) ?_
      exact z_zret kd_N_hasArc_17 rfl rfl (Nat.le_refl _) (Nat.le_refl _) ⟨by simp [zIn, zB, *], rfl, rfl⟩
end
