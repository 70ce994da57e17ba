section
-- ===== PART A: goes FIRST, ahead of the names: the tables' words, and 'selects' of the private methods out of them =====
/-- a private method of a class that the tables say can be made, by its rows of tables_1 -/
def lw_okq (q : MethodName × Nat) : Prop := (q.1.cls ≠ "java/lang/invoke/MethodHandle" ∧ q.1.cls ≠ "java/lang/invoke/VarHandle") ∧ Cond.instantiable q.1.cls q.2 ∈ tables_1 ∧ Cond.privateMethod q.1 ∈ tables_1 ∧ Cond.instanceMethod q.1 ∈ tables_1
theorem lw_p0 : lw_okq (⟨"CountingNetwork", "startAnew", "(II)V"⟩, 7) := ⟨⟨by decide +kernel, by decide +kernel⟩, List.mem_of_getElem? (i := 15) (by decide +kernel), List.mem_of_getElem? (i := 136) (by decide +kernel), List.mem_of_getElem? (i := 137) (by decide +kernel)⟩
theorem lw_p1 : lw_okq (⟨"CountingNetwork$Plan", "layOut", "(II)V"⟩, 9) := ⟨⟨by decide +kernel, by decide +kernel⟩, List.mem_of_getElem? (i := 23) (by decide +kernel), List.mem_of_getElem? (i := 144) (by decide +kernel), List.mem_of_getElem? (i := 145) (by decide +kernel)⟩
theorem lw_p2 : lw_okq (⟨"CountingNetwork$Plan", "merge", "(II)V"⟩, 9) := ⟨⟨by decide +kernel, by decide +kernel⟩, List.mem_of_getElem? (i := 23) (by decide +kernel), List.mem_of_getElem? (i := 148) (by decide +kernel), List.mem_of_getElem? (i := 149) (by decide +kernel)⟩
theorem lw_p3 : lw_okq (⟨"CountingNetwork$Plan", "lay", "(II)V"⟩, 9) := ⟨⟨by decide +kernel, by decide +kernel⟩, List.mem_of_getElem? (i := 23) (by decide +kernel), List.mem_of_getElem? (i := 152) (by decide +kernel), List.mem_of_getElem? (i := 153) (by decide +kernel)⟩
theorem lw_p4 : lw_okq (⟨"CountingNetwork$Plan", "sortIntoParts", "(II)V"⟩, 9) := ⟨⟨by decide +kernel, by decide +kernel⟩, List.mem_of_getElem? (i := 23) (by decide +kernel), List.mem_of_getElem? (i := 159) (by decide +kernel), List.mem_of_getElem? (i := 160) (by decide +kernel)⟩
theorem lw_p5 : lw_okq (⟨"CountingNetwork$Plan", "joinParts", "(II)V"⟩, 9) := ⟨⟨by decide +kernel, by decide +kernel⟩, List.mem_of_getElem? (i := 23) (by decide +kernel), List.mem_of_getElem? (i := 166) (by decide +kernel), List.mem_of_getElem? (i := 167) (by decide +kernel)⟩
theorem lw_p6 : lw_okq (⟨"CountingNetwork", "stationOfNext", "(I)I"⟩, 7) := ⟨⟨by decide +kernel, by decide +kernel⟩, List.mem_of_getElem? (i := 15) (by decide +kernel), List.mem_of_getElem? (i := 212) (by decide +kernel), List.mem_of_getElem? (i := 213) (by decide +kernel)⟩
theorem lw_p7 : lw_okq (⟨"CountingNetwork", "nextBalancer", "(I)I"⟩, 7) := ⟨⟨by decide +kernel, by decide +kernel⟩, List.mem_of_getElem? (i := 15) (by decide +kernel), List.mem_of_getElem? (i := 216) (by decide +kernel), List.mem_of_getElem? (i := 217) (by decide +kernel)⟩
theorem lw_p8 : lw_okq (⟨"CountingNetwork", "stationOfExit", "(I)I"⟩, 7) := ⟨⟨by decide +kernel, by decide +kernel⟩, List.mem_of_getElem? (i := 15) (by decide +kernel), List.mem_of_getElem? (i := 228) (by decide +kernel), List.mem_of_getElem? (i := 229) (by decide +kernel)⟩
theorem lw_p9 : lw_okq (⟨"CountingNetwork", "stationOfBalancer", "(I)I"⟩, 7) := ⟨⟨by decide +kernel, by decide +kernel⟩, List.mem_of_getElem? (i := 15) (by decide +kernel), List.mem_of_getElem? (i := 232) (by decide +kernel), List.mem_of_getElem? (i := 233) (by decide +kernel)⟩
theorem lw_p10 : lw_okq (⟨"java/lang/Throwable", "fillInStackTrace", "(I)Ljava/lang/Throwable;"⟩, 6) := ⟨⟨by decide +kernel, by decide +kernel⟩, List.mem_of_getElem? (i := 286) (by decide +kernel), List.mem_of_getElem? (i := 284) (by decide +kernel), List.mem_of_getElem? (i := 285) (by decide +kernel)⟩
theorem lw_p11 : lw_okq (⟨"CountingNetwork", "canStep", "(I)Z"⟩, 7) := ⟨⟨by decide +kernel, by decide +kernel⟩, List.mem_of_getElem? (i := 15) (by decide +kernel), List.mem_of_getElem? (i := 391) (by decide +kernel), List.mem_of_getElem? (i := 392) (by decide +kernel)⟩
theorem lw_p12 : lw_okq (⟨"CountingNetwork", "isDown", "(I)Z"⟩, 7) := ⟨⟨by decide +kernel, by decide +kernel⟩, List.mem_of_getElem? (i := 15) (by decide +kernel), List.mem_of_getElem? (i := 395) (by decide +kernel), List.mem_of_getElem? (i := 396) (by decide +kernel)⟩
theorem lw_p13 : lw_okq (⟨"CountingNetwork", "step", "(I)I"⟩, 7) := ⟨⟨by decide +kernel, by decide +kernel⟩, List.mem_of_getElem? (i := 15) (by decide +kernel), List.mem_of_getElem? (i := 400) (by decide +kernel), List.mem_of_getElem? (i := 401) (by decide +kernel)⟩
theorem lw_p14 : lw_okq (⟨"CountingNetwork", "comeOut", "(II)V"⟩, 7) := ⟨⟨by decide +kernel, by decide +kernel⟩, List.mem_of_getElem? (i := 15) (by decide +kernel), List.mem_of_getElem? (i := 408) (by decide +kernel), List.mem_of_getElem? (i := 409) (by decide +kernel)⟩
theorem lw_p15 : lw_okq (⟨"CountingNetwork", "nextNumberAt", "(I)I"⟩, 7) := ⟨⟨by decide +kernel, by decide +kernel⟩, List.mem_of_getElem? (i := 15) (by decide +kernel), List.mem_of_getElem? (i := 412) (by decide +kernel), List.mem_of_getElem? (i := 413) (by decide +kernel)⟩
def lw_privs_1 : List (MethodName × Nat) := [(⟨"CountingNetwork", "startAnew", "(II)V"⟩, 7), (⟨"CountingNetwork$Plan", "layOut", "(II)V"⟩, 9), (⟨"CountingNetwork$Plan", "merge", "(II)V"⟩, 9), (⟨"CountingNetwork$Plan", "lay", "(II)V"⟩, 9), (⟨"CountingNetwork$Plan", "sortIntoParts", "(II)V"⟩, 9), (⟨"CountingNetwork$Plan", "joinParts", "(II)V"⟩, 9), (⟨"CountingNetwork", "stationOfNext", "(I)I"⟩, 7), (⟨"CountingNetwork", "nextBalancer", "(I)I"⟩, 7), (⟨"CountingNetwork", "stationOfExit", "(I)I"⟩, 7), (⟨"CountingNetwork", "stationOfBalancer", "(I)I"⟩, 7), (⟨"java/lang/Throwable", "fillInStackTrace", "(I)Ljava/lang/Throwable;"⟩, 6), (⟨"CountingNetwork", "canStep", "(I)Z"⟩, 7), (⟨"CountingNetwork", "isDown", "(I)Z"⟩, 7), (⟨"CountingNetwork", "step", "(I)I"⟩, 7), (⟨"CountingNetwork", "comeOut", "(II)V"⟩, 7), (⟨"CountingNetwork", "nextNumberAt", "(I)I"⟩, 7)]
theorem lw_r1 : ∀ q ∈ lw_privs_1, lw_okq q := List.forall_mem_cons.mpr ⟨lw_p0, List.forall_mem_cons.mpr ⟨lw_p1, List.forall_mem_cons.mpr ⟨lw_p2, List.forall_mem_cons.mpr ⟨lw_p3, List.forall_mem_cons.mpr ⟨lw_p4, List.forall_mem_cons.mpr ⟨lw_p5, List.forall_mem_cons.mpr ⟨lw_p6, List.forall_mem_cons.mpr ⟨lw_p7, List.forall_mem_cons.mpr ⟨lw_p8, List.forall_mem_cons.mpr ⟨lw_p9, List.forall_mem_cons.mpr ⟨lw_p10, List.forall_mem_cons.mpr ⟨lw_p11, List.forall_mem_cons.mpr ⟨lw_p12, List.forall_mem_cons.mpr ⟨lw_p13, List.forall_mem_cons.mpr ⟨lw_p14, List.forall_mem_cons.mpr ⟨lw_p15, fun _ h => absurd h List.not_mem_nil⟩⟩⟩⟩⟩⟩⟩⟩⟩⟩⟩⟩⟩⟩⟩⟩
theorem lw_p16 : lw_okq (⟨"CountingNetwork", "goThrough", "(II)V"⟩, 7) := ⟨⟨by decide +kernel, by decide +kernel⟩, List.mem_of_getElem? (i := 15) (by decide +kernel), List.mem_of_getElem? (i := 420) (by decide +kernel), List.mem_of_getElem? (i := 421) (by decide +kernel)⟩
theorem lw_p17 : lw_okq (⟨"CountingNetwork", "handOver", "(I)Z"⟩, 7) := ⟨⟨by decide +kernel, by decide +kernel⟩, List.mem_of_getElem? (i := 15) (by decide +kernel), List.mem_of_getElem? (i := 440) (by decide +kernel), List.mem_of_getElem? (i := 441) (by decide +kernel)⟩
theorem lw_p18 : lw_okq (⟨"CountingNetwork", "shownNumber", "(I)I"⟩, 7) := ⟨⟨by decide +kernel, by decide +kernel⟩, List.mem_of_getElem? (i := 15) (by decide +kernel), List.mem_of_getElem? (i := 490) (by decide +kernel), List.mem_of_getElem? (i := 491) (by decide +kernel)⟩
theorem lw_p19 : lw_okq (⟨"CountingNetwork", "leastMissing", "()I"⟩, 7) := ⟨⟨by decide +kernel, by decide +kernel⟩, List.mem_of_getElem? (i := 15) (by decide +kernel), List.mem_of_getElem? (i := 494) (by decide +kernel), List.mem_of_getElem? (i := 495) (by decide +kernel)⟩
theorem lw_p20 : lw_okq (⟨"CountingNetwork", "highestNumber", "()I"⟩, 7) := ⟨⟨by decide +kernel, by decide +kernel⟩, List.mem_of_getElem? (i := 15) (by decide +kernel), List.mem_of_getElem? (i := 508) (by decide +kernel), List.mem_of_getElem? (i := 509) (by decide +kernel)⟩
theorem lw_p21 : lw_okq (⟨"CountingNetwork", "missingBelowHighest", "()I"⟩, 7) := ⟨⟨by decide +kernel, by decide +kernel⟩, List.mem_of_getElem? (i := 15) (by decide +kernel), List.mem_of_getElem? (i := 513) (by decide +kernel), List.mem_of_getElem? (i := 514) (by decide +kernel)⟩
theorem lw_p22 : lw_okq (⟨"CountingNetwork", "stepAll", "()V"⟩, 7) := ⟨⟨by decide +kernel, by decide +kernel⟩, List.mem_of_getElem? (i := 15) (by decide +kernel), List.mem_of_getElem? (i := 525) (by decide +kernel), List.mem_of_getElem? (i := 526) (by decide +kernel)⟩
theorem lw_p23 : lw_okq (⟨"CountingNetwork", "handOverAll", "()V"⟩, 7) := ⟨⟨by decide +kernel, by decide +kernel⟩, List.mem_of_getElem? (i := 15) (by decide +kernel), List.mem_of_getElem? (i := 529) (by decide +kernel), List.mem_of_getElem? (i := 530) (by decide +kernel)⟩
theorem lw_p24 : lw_okq (⟨"CountingNetworkModel", "make", "(II)V"⟩, 25) := ⟨⟨by decide +kernel, by decide +kernel⟩, List.mem_of_getElem? (i := 533) (by decide +kernel), List.mem_of_getElem? (i := 539) (by decide +kernel), List.mem_of_getElem? (i := 540) (by decide +kernel)⟩
theorem lw_p25 : lw_okq (⟨"CountingNetworkModel", "mergeOnes", "(III)V"⟩, 25) := ⟨⟨by decide +kernel, by decide +kernel⟩, List.mem_of_getElem? (i := 533) (by decide +kernel), List.mem_of_getElem? (i := 543) (by decide +kernel), List.mem_of_getElem? (i := 544) (by decide +kernel)⟩
theorem lw_p26 : lw_okq (⟨"CountingNetworkModel", "lay", "(II)V"⟩, 25) := ⟨⟨by decide +kernel, by decide +kernel⟩, List.mem_of_getElem? (i := 533) (by decide +kernel), List.mem_of_getElem? (i := 547) (by decide +kernel), List.mem_of_getElem? (i := 548) (by decide +kernel)⟩
theorem lw_p27 : lw_okq (⟨"CountingNetworkModel", "layFour", "(II)V"⟩, 25) := ⟨⟨by decide +kernel, by decide +kernel⟩, List.mem_of_getElem? (i := 533) (by decide +kernel), List.mem_of_getElem? (i := 551) (by decide +kernel), List.mem_of_getElem? (i := 552) (by decide +kernel)⟩
theorem lw_p28 : lw_okq (⟨"CountingNetworkModel", "mergeTwos", "(III)V"⟩, 25) := ⟨⟨by decide +kernel, by decide +kernel⟩, List.mem_of_getElem? (i := 533) (by decide +kernel), List.mem_of_getElem? (i := 555) (by decide +kernel), List.mem_of_getElem? (i := 556) (by decide +kernel)⟩
theorem lw_p29 : lw_okq (⟨"CountingNetworkModel", "join", "(IIII)V"⟩, 25) := ⟨⟨by decide +kernel, by decide +kernel⟩, List.mem_of_getElem? (i := 533) (by decide +kernel), List.mem_of_getElem? (i := 559) (by decide +kernel), List.mem_of_getElem? (i := 560) (by decide +kernel)⟩
theorem lw_p30 : lw_okq (⟨"CountingNetworkModel", "mergeFours", "(III)V"⟩, 25) := ⟨⟨by decide +kernel, by decide +kernel⟩, List.mem_of_getElem? (i := 533) (by decide +kernel), List.mem_of_getElem? (i := 563) (by decide +kernel), List.mem_of_getElem? (i := 564) (by decide +kernel)⟩
theorem lw_p31 : lw_okq (⟨"CountingNetworkModel", "refuse", "(ZZ)Z"⟩, 25) := ⟨⟨by decide +kernel, by decide +kernel⟩, List.mem_of_getElem? (i := 533) (by decide +kernel), List.mem_of_getElem? (i := 654) (by decide +kernel), List.mem_of_getElem? (i := 655) (by decide +kernel)⟩
def lw_privs_2 : List (MethodName × Nat) := [(⟨"CountingNetwork", "goThrough", "(II)V"⟩, 7), (⟨"CountingNetwork", "handOver", "(I)Z"⟩, 7), (⟨"CountingNetwork", "shownNumber", "(I)I"⟩, 7), (⟨"CountingNetwork", "leastMissing", "()I"⟩, 7), (⟨"CountingNetwork", "highestNumber", "()I"⟩, 7), (⟨"CountingNetwork", "missingBelowHighest", "()I"⟩, 7), (⟨"CountingNetwork", "stepAll", "()V"⟩, 7), (⟨"CountingNetwork", "handOverAll", "()V"⟩, 7), (⟨"CountingNetworkModel", "make", "(II)V"⟩, 25), (⟨"CountingNetworkModel", "mergeOnes", "(III)V"⟩, 25), (⟨"CountingNetworkModel", "lay", "(II)V"⟩, 25), (⟨"CountingNetworkModel", "layFour", "(II)V"⟩, 25), (⟨"CountingNetworkModel", "mergeTwos", "(III)V"⟩, 25), (⟨"CountingNetworkModel", "join", "(IIII)V"⟩, 25), (⟨"CountingNetworkModel", "mergeFours", "(III)V"⟩, 25), (⟨"CountingNetworkModel", "refuse", "(ZZ)Z"⟩, 25)]
theorem lw_r2 : ∀ q ∈ lw_privs_2, lw_okq q := List.forall_mem_cons.mpr ⟨lw_p16, List.forall_mem_cons.mpr ⟨lw_p17, List.forall_mem_cons.mpr ⟨lw_p18, List.forall_mem_cons.mpr ⟨lw_p19, List.forall_mem_cons.mpr ⟨lw_p20, List.forall_mem_cons.mpr ⟨lw_p21, List.forall_mem_cons.mpr ⟨lw_p22, List.forall_mem_cons.mpr ⟨lw_p23, List.forall_mem_cons.mpr ⟨lw_p24, List.forall_mem_cons.mpr ⟨lw_p25, List.forall_mem_cons.mpr ⟨lw_p26, List.forall_mem_cons.mpr ⟨lw_p27, List.forall_mem_cons.mpr ⟨lw_p28, List.forall_mem_cons.mpr ⟨lw_p29, List.forall_mem_cons.mpr ⟨lw_p30, List.forall_mem_cons.mpr ⟨lw_p31, fun _ h => absurd h List.not_mem_nil⟩⟩⟩⟩⟩⟩⟩⟩⟩⟩⟩⟩⟩⟩⟩⟩
theorem lw_p32 : lw_okq (⟨"CountingNetworkModel", "left", "()I"⟩, 25) := ⟨⟨by decide +kernel, by decide +kernel⟩, List.mem_of_getElem? (i := 533) (by decide +kernel), List.mem_of_getElem? (i := 670) (by decide +kernel), List.mem_of_getElem? (i := 671) (by decide +kernel)⟩
theorem lw_p33 : lw_okq (⟨"CountingNetworkModel", "isStuck", "(I)Z"⟩, 25) := ⟨⟨by decide +kernel, by decide +kernel⟩, List.mem_of_getElem? (i := 533) (by decide +kernel), List.mem_of_getElem? (i := 678) (by decide +kernel), List.mem_of_getElem? (i := 679) (by decide +kernel)⟩
theorem lw_p34 : lw_okq (⟨"CountingNetworkModel", "stationOf", "(I)I"⟩, 25) := ⟨⟨by decide +kernel, by decide +kernel⟩, List.mem_of_getElem? (i := 533) (by decide +kernel), List.mem_of_getElem? (i := 682) (by decide +kernel), List.mem_of_getElem? (i := 683) (by decide +kernel)⟩
theorem lw_p35 : lw_okq (⟨"CountingNetworkModel", "nextOf", "(I)I"⟩, 25) := ⟨⟨by decide +kernel, by decide +kernel⟩, List.mem_of_getElem? (i := 533) (by decide +kernel), List.mem_of_getElem? (i := 686) (by decide +kernel), List.mem_of_getElem? (i := 687) (by decide +kernel)⟩
theorem lw_p36 : lw_okq (⟨"CountingNetworkModel", "exitOf", "(I)I"⟩, 25) := ⟨⟨by decide +kernel, by decide +kernel⟩, List.mem_of_getElem? (i := 533) (by decide +kernel), List.mem_of_getElem? (i := 690) (by decide +kernel), List.mem_of_getElem? (i := 691) (by decide +kernel)⟩
theorem lw_p37 : lw_okq (⟨"CountingNetworkModel", "step", "(I)I"⟩, 25) := ⟨⟨by decide +kernel, by decide +kernel⟩, List.mem_of_getElem? (i := 533) (by decide +kernel), List.mem_of_getElem? (i := 694) (by decide +kernel), List.mem_of_getElem? (i := 695) (by decide +kernel)⟩
theorem lw_p38 : lw_okq (⟨"CountingNetworkModel", "post", "(I)V"⟩, 25) := ⟨⟨by decide +kernel, by decide +kernel⟩, List.mem_of_getElem? (i := 533) (by decide +kernel), List.mem_of_getElem? (i := 698) (by decide +kernel), List.mem_of_getElem? (i := 699) (by decide +kernel)⟩
theorem lw_p39 : lw_okq (⟨"CountingNetworkModel", "take", "(I)V"⟩, 25) := ⟨⟨by decide +kernel, by decide +kernel⟩, List.mem_of_getElem? (i := 533) (by decide +kernel), List.mem_of_getElem? (i := 706) (by decide +kernel), List.mem_of_getElem? (i := 707) (by decide +kernel)⟩
theorem lw_p40 : lw_okq (⟨"CountingNetworkModel", "hasLetter", "(I)Z"⟩, 25) := ⟨⟨by decide +kernel, by decide +kernel⟩, List.mem_of_getElem? (i := 533) (by decide +kernel), List.mem_of_getElem? (i := 726) (by decide +kernel), List.mem_of_getElem? (i := 727) (by decide +kernel)⟩
theorem lw_p41 : lw_okq (⟨"CountingNetworkModel", "shown", "(I)I"⟩, 25) := ⟨⟨by decide +kernel, by decide +kernel⟩, List.mem_of_getElem? (i := 533) (by decide +kernel), List.mem_of_getElem? (i := 738) (by decide +kernel), List.mem_of_getElem? (i := 739) (by decide +kernel)⟩
theorem lw_p42 : lw_okq (⟨"CountingNetworkModel", "isHanded", "(I)Z"⟩, 25) := ⟨⟨by decide +kernel, by decide +kernel⟩, List.mem_of_getElem? (i := 533) (by decide +kernel), List.mem_of_getElem? (i := 742) (by decide +kernel), List.mem_of_getElem? (i := 743) (by decide +kernel)⟩
theorem lw_p43 : lw_okq (⟨"CountingNetworkModel", "highest", "()I"⟩, 25) := ⟨⟨by decide +kernel, by decide +kernel⟩, List.mem_of_getElem? (i := 533) (by decide +kernel), List.mem_of_getElem? (i := 750) (by decide +kernel), List.mem_of_getElem? (i := 751) (by decide +kernel)⟩
theorem lw_p44 : lw_okq (⟨"CountingNetworkModel", "gaps", "()I"⟩, 25) := ⟨⟨by decide +kernel, by decide +kernel⟩, List.mem_of_getElem? (i := 533) (by decide +kernel), List.mem_of_getElem? (i := 754) (by decide +kernel), List.mem_of_getElem? (i := 755) (by decide +kernel)⟩
def lw_privs_3 : List (MethodName × Nat) := [(⟨"CountingNetworkModel", "left", "()I"⟩, 25), (⟨"CountingNetworkModel", "isStuck", "(I)Z"⟩, 25), (⟨"CountingNetworkModel", "stationOf", "(I)I"⟩, 25), (⟨"CountingNetworkModel", "nextOf", "(I)I"⟩, 25), (⟨"CountingNetworkModel", "exitOf", "(I)I"⟩, 25), (⟨"CountingNetworkModel", "step", "(I)I"⟩, 25), (⟨"CountingNetworkModel", "post", "(I)V"⟩, 25), (⟨"CountingNetworkModel", "take", "(I)V"⟩, 25), (⟨"CountingNetworkModel", "hasLetter", "(I)Z"⟩, 25), (⟨"CountingNetworkModel", "shown", "(I)I"⟩, 25), (⟨"CountingNetworkModel", "isHanded", "(I)Z"⟩, 25), (⟨"CountingNetworkModel", "highest", "()I"⟩, 25), (⟨"CountingNetworkModel", "gaps", "()I"⟩, 25)]
theorem lw_r3 : ∀ q ∈ lw_privs_3, lw_okq q := List.forall_mem_cons.mpr ⟨lw_p32, List.forall_mem_cons.mpr ⟨lw_p33, List.forall_mem_cons.mpr ⟨lw_p34, List.forall_mem_cons.mpr ⟨lw_p35, List.forall_mem_cons.mpr ⟨lw_p36, List.forall_mem_cons.mpr ⟨lw_p37, List.forall_mem_cons.mpr ⟨lw_p38, List.forall_mem_cons.mpr ⟨lw_p39, List.forall_mem_cons.mpr ⟨lw_p40, List.forall_mem_cons.mpr ⟨lw_p41, List.forall_mem_cons.mpr ⟨lw_p42, List.forall_mem_cons.mpr ⟨lw_p43, List.forall_mem_cons.mpr ⟨lw_p44, fun _ h => absurd h List.not_mem_nil⟩⟩⟩⟩⟩⟩⟩⟩⟩⟩⟩⟩⟩
def lw_privs : List (MethodName × Nat) := lw_privs_1 ++ (lw_privs_2 ++ (lw_privs_3))
def lw_tbl : List Cond := k2_sels lw_privs ++ tables_1
theorem lw_privs_ok : ∀ q ∈ lw_privs, lw_okq q := by
  show ∀ q ∈ lw_privs_1 ++ (lw_privs_2 ++ (lw_privs_3)), lw_okq q
  exact List.forall_mem_append.mpr ⟨lw_r1, List.forall_mem_append.mpr ⟨lw_r2, lw_r3⟩⟩
def TT : List Cond := lw_tbl.filter goodWord
theorem TT_good : ∀ w ∈ TT, goodWord w = true := fun _ h => (List.mem_filter.mp h).2
theorem TT_mem {w : Cond} (h : w ∈ lw_tbl) (g : goodWord w = true) : w ∈ TT := List.mem_filter.mpr ⟨h, g⟩
end
section
/-! My own layer over the kit's rows: a method's walk over a state St (scalars, arrays) of one side. -/
abbrev St : Type := (Nat → Int32) × (Nat → Nat → Int32)
def sF (σ : St) (k : Nat) (v : Int32) : St := (va_up σ.1 k v, σ.2)
def sR (σ : St) (k : Nat) (f : Nat → Int32) : St := (σ.1, va_up σ.2 k f)
def sA (σ : St) (k i : Nat) (v : Int32) : St := sR σ k (upd (σ.2 k) i v)
abbrev Cx : Type := Program × Env × Room × State × MethodId × Array Value × List Frame × Method × Code
abbrev Cx.p (X : Cx) : Program := X.1
abbrev Cx.e (X : Cx) : Env := X.2.1
abbrev Cx.R (X : Cx) : Room := X.2.2.1
abbrev Cx.s (X : Cx) : State := X.2.2.2.1
abbrev Cx.m (X : Cx) : MethodId := X.2.2.2.2.1
abbrev Cx.args (X : Cx) : Array Value := X.2.2.2.2.2.1
abbrev Cx.below (X : Cx) : List Frame := X.2.2.2.2.2.2.1
abbrev Cx.meth (X : Cx) : Method := X.2.2.2.2.2.2.2.1
abbrev Cx.c (X : Cx) : Code := X.2.2.2.2.2.2.2.2
abbrev Wx : Type := va_G × List vw_C × List (ClassId × FieldType) × (St → va_W)
abbrev Wx.D (Y : Wx) : va_G := Y.1
abbrev Wx.cl (Y : Wx) : List vw_C := Y.2.1
abbrev Wx.tys (Y : Wx) : List (ClassId × FieldType) := Y.2.2.1
abbrev Wx.sh (Y : Wx) : St → va_W := Y.2.2.2
abbrev Mt : Type := MethodName × ByteArray × Nat × Option FieldType
abbrev Mt.y (t : Mt) : MethodName := t.1
abbrev Mt.b (t : Mt) : ByteArray := t.2.1
abbrev Mt.n (t : Mt) : Nat := t.2.2.1
abbrev Mt.r (t : Mt) : Option FieldType := t.2.2.2
abbrev Mt.w (t : Mt) : Cond := Cond.code t.y t.b t.n t.r
abbrev Lv : Type := List (Nat × Value)
def lput (L : Lv) (i : Nat) (v : Value) : Lv := if L.any (fun q => q.1 == i) then L.map (fun q => if q.1 == i then (i, v) else q) else L ++ [(i, v)]
def lget : Lv → Nat → Option Value
  | [], _ => none
  | q :: r, i => if q.1 == i then some q.2 else lget r i
theorem lget_mem : ∀ (L : Lv) (i : Nat) (v : Value), lget L i = some v → (i, v) ∈ L
  | [], _, _, h => by cases h
  | q :: r, i, v, h => by
    unfold lget at h
    split at h
    · rename_i hq
      have h1 : q.1 = i := by simpa using hq
      have h2 : q.2 = v := by simpa using h
      have : q = (i, v) := by rw [← h1, ← h2]
      rw [this]; exact List.mem_cons_self
    · exact List.mem_cons_of_mem _ (lget_mem r i v h)
theorem lput_mem {L : Lv} {i : Nat} {v : Value} {q : Nat × Value} (h : q ∈ lput L i v) : q = (i, v) ∨ (q ∈ L ∧ q.1 ≠ i) := by
  unfold lput at h
  split at h
  · obtain ⟨r, hr, he⟩ := List.mem_map.mp h
    by_cases hi : r.1 = i
    · rw [if_pos (by simpa using hi)] at he
      exact Or.inl he.symm
    · rw [if_neg (by simpa using hi)] at he
      subst he
      exact Or.inr ⟨hr, hi⟩
  · rename_i hn
    rcases List.mem_append.mp h with h | h
    · refine Or.inr ⟨h, fun hi => hn ?_⟩
      exact List.any_eq_true.mpr ⟨q, h, by simpa using hi⟩
    · exact Or.inl (by simpa using h)
def jL (ls : Array Slot) (nL : Nat) (L : Lv) : Prop := lv_has ls nL L ∧ ∀ q ∈ L, q.2.category = 1
theorem jL.get {ls : Array Slot} {nL : Nat} {L : Lv} (h : jL ls nL L) {i : Nat} {v : Value} (hv : lget L i = some v) : ls[i]? = some (.val v) := h.1.2.2 (i, v) (lget_mem L i v hv)
theorem jL.put {ls : Array Slot} {nL : Nat} {L : Lv} (hc : ∀ q ∈ L, q.2.category = 1) {i : Nat} {v : Value} (hv : v.category = 1)
    (h : lv_has ls nL ((i, v) :: L.filter (fun q => !(q.1 == i) && !(q.1 + 1 == i && q.2.category == 2)))) : jL ls nL (lput L i v) := by
  refine ⟨⟨h.1, h.2.1, fun q hq => ?_⟩, fun q hq => ?_⟩
  · rcases lput_mem hq with rfl | ⟨hq, hi⟩
    · exact h.2.2 _ List.mem_cons_self
    · refine h.2.2 _ (List.mem_cons_of_mem _ (List.mem_filter.mpr ⟨hq, ?_⟩))
      have h1 := hc q hq
      simp [hi, h1]
  · rcases lput_mem hq with rfl | ⟨hq, -⟩
    · exact hv
    · exact hc q hq
/-- a walk of a method over one side's state -/
def kT : Heap → List Loc → Prop := fun _ _ => True
def k0 (X : Cx) : Heap → List Loc → Prop := fun H locs => H = X.s.heap ∧ locs = []
def jW (l : Launch) (X : Cx) (Y : Wx) (A : Nat → Prop) (nL cells slots : Nat) (K : Heap → List Loc → Prop) (Q : State → Prop) (σ : St) (pc : Nat) (L : Lv) (st : List Value) : Prop :=
  ∀ (H : Heap) (locs : List Loc) (ls : Array Slot), K H locs → va_P Y.D Y.cl (Y.sh σ) H → va_D A (Y.sh σ) → va_S A X.s.heap H locs → jL ls nL L →
    W X.p l X.e X.R X.s X.m X.args X.below X.meth X.c H locs cells slots Q (F0 X.m pc ls st)
/-- what stands fixed in a method's walk -/
def jX (X : Cx) (Y : Wx) (A : Nat → Prop) (cc : ByteArray) (nL : Nat) (own : String) (Ts : List Cond) (R : Room) (ret : Option FieldType) : Prop :=
  X.p.tables.exec = Jvm.exec ∧ X.c.code = cc ∧ X.c.maxLocals = nL ∧ X.s.vm.findClass own = some X.m.cls ∧ (∀ w ∈ Ts, w.before X.args X.s = true) ∧
    va_K Y.D Y.cl Y.tys X.s ∧ (∀ q, X.s.heap.size ≤ q → A q) ∧ X.R = R ∧ X.meth.sig.returnType = ret ∧ X.meth.locks = false
section JPure
variable {l : Launch} {X : Cx} {Y : Wx} {A : Nat → Prop} {cc : ByteArray} {nL : Nat} {own : String} {Ts : List Cond} {R : Room} {ret : Option FieldType} {cells slots : Nat} {K : Heap → List Loc → Prop} {Q : State → Prop} {σ : St} {pc : Nat} {L : Lv} {rest : List Value}
theorem jx_iconst (h : jX X Y A cc nL own Ts R ret) {n : Int} {v : Int32} (hd : decode cc pc = .ok (.iconst n, 1)) (hv : Int32.ofInt n = v) (k : jW l X Y A nL cells slots K Q σ (pc + 1) L (.int v :: rest)) : jW l X Y A nL cells slots K Q σ pc L rest :=
  fun H locs ls hk hP hD hS hl => lv_iconst h.1 h.2.1 hd hv (k H locs ls hk hP hD hS hl)
theorem jx_bipush (h : jX X Y A cc nL own Ts R ret) {n : Int} {v : Int32} (hd : decode cc pc = .ok (.bipush n, 2)) (hv : (Int8.ofInt n).toInt32 = v) (k : jW l X Y A nL cells slots K Q σ (pc + 2) L (.int v :: rest)) : jW l X Y A nL cells slots K Q σ pc L rest :=
  fun H locs ls hk hP hD hS hl => lv_bipush h.1 h.2.1 hd hv (k H locs ls hk hP hD hS hl)
theorem jx_sipush (h : jX X Y A cc nL own Ts R ret) {n : Int} {v : Int32} (hd : decode cc pc = .ok (.sipush n, 3)) (hv : (Int16.ofInt n).toInt32 = v) (k : jW l X Y A nL cells slots K Q σ (pc + 3) L (.int v :: rest)) : jW l X Y A nL cells slots K Q σ pc L rest :=
  fun H locs ls hk hP hD hS hl => lv_sipush h.1 h.2.1 hd hv (k H locs ls hk hP hD hS hl)
theorem jx_iload_n (h : jX X Y A cc nL own Ts R ret) {k : Fin 4} {i : Nat} {x : Int32} (hd : decode cc pc = .ok (.iload_n k, 1)) (hi : (k : Nat) = i) (hv : lget L i = some (.int x)) (kk : jW l X Y A nL cells slots K Q σ (pc + 1) L (.int x :: rest)) : jW l X Y A nL cells slots K Q σ pc L rest :=
  fun H locs ls hk hP hD hS hl => lv_iload_n h.1 h.2.1 hd hi (hl.get hv) (kk H locs ls hk hP hD hS hl)
theorem jx_iload (h : jX X Y A cc nL own Ts R ret) {i : Nat} {x : Int32} (hd : decode cc pc = .ok (.iload i, 2)) (hv : lget L i = some (.int x)) (kk : jW l X Y A nL cells slots K Q σ (pc + 2) L (.int x :: rest)) : jW l X Y A nL cells slots K Q σ pc L rest :=
  fun H locs ls hk hP hD hS hl => lv_iload h.1 h.2.1 hd (hl.get hv) (kk H locs ls hk hP hD hS hl)
theorem jx_aload_n (h : jX X Y A cc nL own Ts R ret) {k : Fin 4} {i : Nat} {x : Nat} (hd : decode cc pc = .ok (.aload_n k, 1)) (hi : (k : Nat) = i) (hv : lget L i = some (.ref x)) (kk : jW l X Y A nL cells slots K Q σ (pc + 1) L (.ref x :: rest)) : jW l X Y A nL cells slots K Q σ pc L rest :=
  fun H locs ls hk hP hD hS hl => lv_aload_n h.1 h.2.1 hd hi (hl.get hv) (kk H locs ls hk hP hD hS hl)
theorem jx_aload (h : jX X Y A cc nL own Ts R ret) {i : Nat} {x : Nat} (hd : decode cc pc = .ok (.aload i, 2)) (hv : lget L i = some (.ref x)) (kk : jW l X Y A nL cells slots K Q σ (pc + 2) L (.ref x :: rest)) : jW l X Y A nL cells slots K Q σ pc L rest :=
  fun H locs ls hk hP hD hS hl => lv_aload h.1 h.2.1 hd (hl.get hv) (kk H locs ls hk hP hD hS hl)
theorem jx_istore_n (h : jX X Y A cc nL own Ts R ret) {k : Fin 4} {i : Nat} {x : Int32} {L' : Lv} (hd : decode cc pc = .ok (.istore_n k, 1)) (hi : (k : Nat) = i) (hn : i < nL) (hL : lput L i (.int x) = L') (kk : jW l X Y A nL cells slots K Q σ (pc + 1) L' rest) : jW l X Y A nL cells slots K Q σ pc L (.int x :: rest) :=
  fun H locs _ hk hP hD hS hl => lv_istore_n h.1 h.2.1 hd hi hl.1 hn rfl (fun ls' h' => kk H locs ls' hk hP hD hS (hL ▸ jL.put hl.2 rfl h'))
theorem jx_istore (h : jX X Y A cc nL own Ts R ret) {i : Nat} {x : Int32} {L' : Lv} (hd : decode cc pc = .ok (.istore i, 2)) (hn : i < nL) (hL : lput L i (.int x) = L') (kk : jW l X Y A nL cells slots K Q σ (pc + 2) L' rest) : jW l X Y A nL cells slots K Q σ pc L (.int x :: rest) :=
  fun H locs _ hk hP hD hS hl => lv_istore h.1 h.2.1 hd hl.1 hn rfl (fun ls' h' => kk H locs ls' hk hP hD hS (hL ▸ jL.put hl.2 rfl h'))
theorem jx_iinc (h : jX X Y A cc nL own Ts R ret) {i : Nat} {n : Int} {x v : Int32} {L' : Lv} (hd : decode cc pc = .ok (.iinc i n, 3)) (hx : lget L i = some (.int x)) (hv : x + Int32.ofInt n = v) (hn : i < nL) (hL : lput L i (.int v) = L') (kk : jW l X Y A nL cells slots K Q σ (pc + 3) L' rest) : jW l X Y A nL cells slots K Q σ pc L rest :=
  fun H locs _ hk hP hD hS hl => by
    obtain ⟨k, hk9⟩ := List.getElem?_of_mem (lget_mem L i _ hx)
    exact lv_iinc h.1 h.2.1 hd hl.1 hk9 hv hn rfl (fun ls' h' => kk H locs ls' hk hP hD hS (hL ▸ jL.put hl.2 rfl h'))
theorem jx_iadd (h : jX X Y A cc nL own Ts R ret) {x y : Int32} (hd : decode cc pc = .ok (.iadd, 1)) (k : jW l X Y A nL cells slots K Q σ (pc + 1) L (.int (x + y) :: rest)) : jW l X Y A nL cells slots K Q σ pc L (.int y :: .int x :: rest) :=
  fun H locs ls hk hP hD hS hl => lv_iadd h.1 h.2.1 hd (k H locs ls hk hP hD hS hl)
theorem jx_isub (h : jX X Y A cc nL own Ts R ret) {x y : Int32} (hd : decode cc pc = .ok (.isub, 1)) (k : jW l X Y A nL cells slots K Q σ (pc + 1) L (.int (x - y) :: rest)) : jW l X Y A nL cells slots K Q σ pc L (.int y :: .int x :: rest) :=
  fun H locs ls hk hP hD hS hl => lv_isub h.1 h.2.1 hd (k H locs ls hk hP hD hS hl)
theorem jx_imul (h : jX X Y A cc nL own Ts R ret) {x y : Int32} (hd : decode cc pc = .ok (.imul, 1)) (k : jW l X Y A nL cells slots K Q σ (pc + 1) L (.int (x * y) :: rest)) : jW l X Y A nL cells slots K Q σ pc L (.int y :: .int x :: rest) :=
  fun H locs ls hk hP hD hS hl => lv_imul h.1 h.2.1 hd (k H locs ls hk hP hD hS hl)
theorem jx_idiv (h : jX X Y A cc nL own Ts R ret) {x y : Int32} (hd : decode cc pc = .ok (.idiv, 1)) (hne : ¬ y = 0) (k : jW l X Y A nL cells slots K Q σ (pc + 1) L (.int (x / y) :: rest)) : jW l X Y A nL cells slots K Q σ pc L (.int y :: .int x :: rest) :=
  fun H locs ls hk hP hD hS hl => lv_idiv h.1 h.2.1 hd hne (k H locs ls hk hP hD hS hl)
theorem jx_irem (h : jX X Y A cc nL own Ts R ret) {x y : Int32} (hd : decode cc pc = .ok (.irem, 1)) (hne : ¬ y = 0) (k : jW l X Y A nL cells slots K Q σ (pc + 1) L (.int (x - x / y * y) :: rest)) : jW l X Y A nL cells slots K Q σ pc L (.int y :: .int x :: rest) :=
  fun H locs ls hk hP hD hS hl => lv_irem h.1 h.2.1 hd hne (k H locs ls hk hP hD hS hl)
theorem jx_dup (h : jX X Y A cc nL own Ts R ret) {va : Value} (hd : decode cc pc = .ok (.dup, 1)) (ha : va.category = 1) (k : jW l X Y A nL cells slots K Q σ (pc + 1) L (va :: va :: rest)) : jW l X Y A nL cells slots K Q σ pc L (va :: rest) :=
  fun H locs ls hk hP hD hS hl => lv_dup h.1 h.2.1 hd ha (k H locs ls hk hP hD hS hl)
theorem jx_dup2 (h : jX X Y A cc nL own Ts R ret) {va vb : Value} (hd : decode cc pc = .ok (.dup2, 1)) (ha : va.category = 1) (hb : vb.category = 1) (k : jW l X Y A nL cells slots K Q σ (pc + 1) L (va :: vb :: va :: vb :: rest)) : jW l X Y A nL cells slots K Q σ pc L (va :: vb :: rest) :=
  fun H locs ls hk hP hD hS hl => lv_dup2_11 h.1 h.2.1 hd ha hb (k H locs ls hk hP hD hS hl)
theorem jx_dup_x1 (h : jX X Y A cc nL own Ts R ret) {va vb : Value} (hd : decode cc pc = .ok (.dup_x1, 1)) (ha : va.category = 1) (hb : vb.category = 1) (k : jW l X Y A nL cells slots K Q σ (pc + 1) L (va :: vb :: va :: rest)) : jW l X Y A nL cells slots K Q σ pc L (va :: vb :: rest) :=
  fun H locs ls hk hP hD hS hl => lv_dup_x1 h.1 h.2.1 hd ha hb (k H locs ls hk hP hD hS hl)
theorem jx_pop (h : jX X Y A cc nL own Ts R ret) {va : Value} (hd : decode cc pc = .ok (.pop, 1)) (ha : va.category = 1) (k : jW l X Y A nL cells slots K Q σ (pc + 1) L rest) : jW l X Y A nL cells slots K Q σ pc L (va :: rest) :=
  fun H locs ls hk hP hD hS hl => lv_pop h.1 h.2.1 hd ha (k H locs ls hk hP hD hS hl)
theorem jx_goto (h : jX X Y A cc nL own Ts R ret) {off : Int} (tgt : Nat) (hd : decode cc pc = .ok (.goto off, 3)) (ht : (pc : Int) + off = (tgt : Int)) (k : jW l X Y A nL cells slots K Q σ tgt L rest) : jW l X Y A nL cells slots K Q σ pc L rest :=
  fun H locs ls hk hP hD hS hl => lv_goto h.1 h.2.1 hd ht (k H locs ls hk hP hD hS hl)
theorem jx_if_eq (h : jX X Y A cc nL own Ts R ret) {x : Int32} {off : Int} (tgt : Nat) (hd : decode cc pc = .ok (.ifCond .eq off, 3)) (ht : (pc : Int) + off = (tgt : Int)) (kt : x = 0 → jW l X Y A nL cells slots K Q σ tgt L rest) (kf : ¬ x = 0 → jW l X Y A nL cells slots K Q σ (pc + 3) L rest) : jW l X Y A nL cells slots K Q σ pc L (.int x :: rest) :=
  fun H locs ls hk hP hD hS hl => lv_if_eq h.1 h.2.1 hd ht (fun q => kt q H locs ls hk hP hD hS hl) (fun q => kf q H locs ls hk hP hD hS hl)
theorem jx_if_ne (h : jX X Y A cc nL own Ts R ret) {x : Int32} {off : Int} (tgt : Nat) (hd : decode cc pc = .ok (.ifCond .ne off, 3)) (ht : (pc : Int) + off = (tgt : Int)) (kt : ¬ x = 0 → jW l X Y A nL cells slots K Q σ tgt L rest) (kf : x = 0 → jW l X Y A nL cells slots K Q σ (pc + 3) L rest) : jW l X Y A nL cells slots K Q σ pc L (.int x :: rest) :=
  fun H locs ls hk hP hD hS hl => lv_if_ne h.1 h.2.1 hd ht (fun q => kt q H locs ls hk hP hD hS hl) (fun q => kf q H locs ls hk hP hD hS hl)
theorem jx_if_lt (h : jX X Y A cc nL own Ts R ret) {x : Int32} {off : Int} (tgt : Nat) (hd : decode cc pc = .ok (.ifCond .lt off, 3)) (ht : (pc : Int) + off = (tgt : Int)) (kt : x < 0 → jW l X Y A nL cells slots K Q σ tgt L rest) (kf : ¬ x < 0 → jW l X Y A nL cells slots K Q σ (pc + 3) L rest) : jW l X Y A nL cells slots K Q σ pc L (.int x :: rest) :=
  fun H locs ls hk hP hD hS hl => lv_if_lt h.1 h.2.1 hd ht (fun q => kt q H locs ls hk hP hD hS hl) (fun q => kf q H locs ls hk hP hD hS hl)
theorem jx_if_ge (h : jX X Y A cc nL own Ts R ret) {x : Int32} {off : Int} (tgt : Nat) (hd : decode cc pc = .ok (.ifCond .ge off, 3)) (ht : (pc : Int) + off = (tgt : Int)) (kt : 0 ≤ x → jW l X Y A nL cells slots K Q σ tgt L rest) (kf : ¬ 0 ≤ x → jW l X Y A nL cells slots K Q σ (pc + 3) L rest) : jW l X Y A nL cells slots K Q σ pc L (.int x :: rest) :=
  fun H locs ls hk hP hD hS hl => lv_if_ge h.1 h.2.1 hd ht (fun q => kt q H locs ls hk hP hD hS hl) (fun q => kf q H locs ls hk hP hD hS hl)
theorem jx_if_gt (h : jX X Y A cc nL own Ts R ret) {x : Int32} {off : Int} (tgt : Nat) (hd : decode cc pc = .ok (.ifCond .gt off, 3)) (ht : (pc : Int) + off = (tgt : Int)) (kt : 0 < x → jW l X Y A nL cells slots K Q σ tgt L rest) (kf : ¬ 0 < x → jW l X Y A nL cells slots K Q σ (pc + 3) L rest) : jW l X Y A nL cells slots K Q σ pc L (.int x :: rest) :=
  fun H locs ls hk hP hD hS hl => lv_if_gt h.1 h.2.1 hd ht (fun q => kt q H locs ls hk hP hD hS hl) (fun q => kf q H locs ls hk hP hD hS hl)
theorem jx_if_le (h : jX X Y A cc nL own Ts R ret) {x : Int32} {off : Int} (tgt : Nat) (hd : decode cc pc = .ok (.ifCond .le off, 3)) (ht : (pc : Int) + off = (tgt : Int)) (kt : x ≤ 0 → jW l X Y A nL cells slots K Q σ tgt L rest) (kf : ¬ x ≤ 0 → jW l X Y A nL cells slots K Q σ (pc + 3) L rest) : jW l X Y A nL cells slots K Q σ pc L (.int x :: rest) :=
  fun H locs ls hk hP hD hS hl => lv_if_le h.1 h.2.1 hd ht (fun q => kt q H locs ls hk hP hD hS hl) (fun q => kf q H locs ls hk hP hD hS hl)
theorem jx_icmp_eq (h : jX X Y A cc nL own Ts R ret) {x y : Int32} {off : Int} (tgt : Nat) (hd : decode cc pc = .ok (.if_icmp .eq off, 3)) (ht : (pc : Int) + off = (tgt : Int)) (kt : x = y → jW l X Y A nL cells slots K Q σ tgt L rest) (kf : ¬ x = y → jW l X Y A nL cells slots K Q σ (pc + 3) L rest) : jW l X Y A nL cells slots K Q σ pc L (.int y :: .int x :: rest) :=
  fun H locs ls hk hP hD hS hl => lv_icmp_eq h.1 h.2.1 hd ht (fun q => kt q H locs ls hk hP hD hS hl) (fun q => kf q H locs ls hk hP hD hS hl)
theorem jx_icmp_ne (h : jX X Y A cc nL own Ts R ret) {x y : Int32} {off : Int} (tgt : Nat) (hd : decode cc pc = .ok (.if_icmp .ne off, 3)) (ht : (pc : Int) + off = (tgt : Int)) (kt : ¬ x = y → jW l X Y A nL cells slots K Q σ tgt L rest) (kf : x = y → jW l X Y A nL cells slots K Q σ (pc + 3) L rest) : jW l X Y A nL cells slots K Q σ pc L (.int y :: .int x :: rest) :=
  fun H locs ls hk hP hD hS hl => lv_icmp_ne h.1 h.2.1 hd ht (fun q => kt q H locs ls hk hP hD hS hl) (fun q => kf q H locs ls hk hP hD hS hl)
theorem jx_icmp_lt (h : jX X Y A cc nL own Ts R ret) {x y : Int32} {off : Int} (tgt : Nat) (hd : decode cc pc = .ok (.if_icmp .lt off, 3)) (ht : (pc : Int) + off = (tgt : Int)) (kt : x < y → jW l X Y A nL cells slots K Q σ tgt L rest) (kf : ¬ x < y → jW l X Y A nL cells slots K Q σ (pc + 3) L rest) : jW l X Y A nL cells slots K Q σ pc L (.int y :: .int x :: rest) :=
  fun H locs ls hk hP hD hS hl => lv_icmp_lt h.1 h.2.1 hd ht (fun q => kt q H locs ls hk hP hD hS hl) (fun q => kf q H locs ls hk hP hD hS hl)
theorem jx_icmp_ge (h : jX X Y A cc nL own Ts R ret) {x y : Int32} {off : Int} (tgt : Nat) (hd : decode cc pc = .ok (.if_icmp .ge off, 3)) (ht : (pc : Int) + off = (tgt : Int)) (kt : y ≤ x → jW l X Y A nL cells slots K Q σ tgt L rest) (kf : ¬ y ≤ x → jW l X Y A nL cells slots K Q σ (pc + 3) L rest) : jW l X Y A nL cells slots K Q σ pc L (.int y :: .int x :: rest) :=
  fun H locs ls hk hP hD hS hl => lv_icmp_ge h.1 h.2.1 hd ht (fun q => kt q H locs ls hk hP hD hS hl) (fun q => kf q H locs ls hk hP hD hS hl)
theorem jx_icmp_gt (h : jX X Y A cc nL own Ts R ret) {x y : Int32} {off : Int} (tgt : Nat) (hd : decode cc pc = .ok (.if_icmp .gt off, 3)) (ht : (pc : Int) + off = (tgt : Int)) (kt : y < x → jW l X Y A nL cells slots K Q σ tgt L rest) (kf : ¬ y < x → jW l X Y A nL cells slots K Q σ (pc + 3) L rest) : jW l X Y A nL cells slots K Q σ pc L (.int y :: .int x :: rest) :=
  fun H locs ls hk hP hD hS hl => lv_icmp_gt h.1 h.2.1 hd ht (fun q => kt q H locs ls hk hP hD hS hl) (fun q => kf q H locs ls hk hP hD hS hl)
theorem jx_icmp_le (h : jX X Y A cc nL own Ts R ret) {x y : Int32} {off : Int} (tgt : Nat) (hd : decode cc pc = .ok (.if_icmp .le off, 3)) (ht : (pc : Int) + off = (tgt : Int)) (kt : x ≤ y → jW l X Y A nL cells slots K Q σ tgt L rest) (kf : ¬ x ≤ y → jW l X Y A nL cells slots K Q σ (pc + 3) L rest) : jW l X Y A nL cells slots K Q σ pc L (.int y :: .int x :: rest) :=
  fun H locs ls hk hP hD hS hl => lv_icmp_le h.1 h.2.1 hd ht (fun q => kt q H locs ls hk hP hD hS hl) (fun q => kf q H locs ls hk hP hD hS hl)
theorem jx_tsIn (h : jX X Y A cc nL own Ts R ret) {dflt lo hi : Int} {offs : Array Int} {len : Nat} {x : Int32} {off : Int} (tgt : Nat) (hd : decode cc pc = .ok (.tableswitch dflt lo hi offs, len)) (h1 : ¬ x.toInt < lo) (h2 : ¬ hi < x.toInt) (ho : offs[(x.toInt - lo).toNat]? = some off) (ht : (pc : Int) + off = (tgt : Int))
    (k : jW l X Y A nL cells slots K Q σ tgt L rest) : jW l X Y A nL cells slots K Q σ pc L (.int x :: rest) :=
  fun H locs ls hk hP hD hS hl => lv_tableIn h.1 h.2.1 hd h1 h2 ho ht (k H locs ls hk hP hD hS hl)
theorem jx_tsOut (h : jX X Y A cc nL own Ts R ret) {dflt lo hi : Int} {offs : Array Int} {len : Nat} {x : Int32} (tgt : Nat) (hd : decode cc pc = .ok (.tableswitch dflt lo hi offs, len)) (h1 : x.toInt < lo ∨ hi < x.toInt) (ht : (pc : Int) + dflt = (tgt : Int))
    (k : jW l X Y A nL cells slots K Q σ tgt L rest) : jW l X Y A nL cells slots K Q σ pc L (.int x :: rest) :=
  fun H locs ls hk hP hD hS hl => lv_tableOut h.1 h.2.1 hd h1 ht (k H locs ls hk hP hD hS hl)
end JPure
section JTop
variable {l : Launch} {X : Cx} {Y : Wx} {A : Nat → Prop} {nL : Nat} {cells slots : Nat} {K : Heap → List Loc → Prop} {Q : State → Prop} {σ : St} {pc : Nat} {L : Lv} {rest : List Value}
theorem jx_kT {st : List Value} (k : jW l X Y A nL cells slots kT Q σ pc L st) : jW l X Y A nL cells slots K Q σ pc L st := fun H locs ls _ hP hD hS hl => k H locs ls trivial hP hD hS hl
theorem jx_top {x y : Int32} (e : x = y) (k : jW l X Y A nL cells slots K Q σ pc L (.int y :: rest)) : jW l X Y A nL cells slots K Q σ pc L (.int x :: rest) := e ▸ k
theorem jx_to {σ' : St} {pc' : Nat} {L' : Lv} {st st' : List Value} (k : jW l X Y A nL cells slots K Q σ' pc' L' st') (e1 : σ = σ') (e2 : pc = pc') (e3 : L = L') (e4 : st = st') : jW l X Y A nL cells slots K Q σ pc L st := by
  subst e1; subst e2; subst e3; subst e4; exact k
end JTop
end
section
/-! one side's world: n arrays of ints (or booleans) at ad 0 .. ad (n-1), then its objects -/
def jWd (n : Nat) (ad : Nat → Nat) (ac : Nat → ClassId) (ln : Nat → Nat) (ob : (Nat → Int32) → va_W) (σ : St) : va_W :=
  (List.range n).map (fun k => (ad k, Sum.inl (ac k, (ln k, Sum.inl (σ.2 k))))) ++ ob σ.1
def jTy (n : Nat) (ac : Nat → ClassId) (ty : Nat → FieldType) : List (ClassId × FieldType) := (List.range n).map (fun k => (ac k, ty k))
def jY (D : va_G) (cl : List vw_C) (n : Nat) (ad : Nat → Nat) (ac : Nat → ClassId) (ln : Nat → Nat) (ty : Nat → FieldType) (ob : (Nat → Int32) → va_W) : Wx := (D, cl, jTy n ac ty, jWd n ad ac ln ob)
theorem jWd_get {n : Nat} {ad : Nat → Nat} {ac : Nat → ClassId} {ln : Nat → Nat} {ob : (Nat → Int32) → va_W} {σ : St} {k : Nat} (hk : k < n) : (jWd n ad ac ln ob σ)[k]? = some (ad k, Sum.inl (ac k, (ln k, Sum.inl (σ.2 k)))) := by
  unfold jWd
  rw [List.getElem?_append_left (by simpa using hk), List.getElem?_map, List.getElem?_range hk]
  rfl
theorem jTy_get {n : Nat} {ac : Nat → ClassId} {ty : Nat → FieldType} {k : Nat} (hk : k < n) : (jTy n ac ty)[k]? = some (ac k, ty k) := by
  unfold jTy
  rw [List.getElem?_map, List.getElem?_range hk]
  rfl
theorem jWd_set {n : Nat} {ad : Nat → Nat} {ac : Nat → ClassId} {ln : Nat → Nat} {ob : (Nat → Int32) → va_W} {σ : St} {k : Nat} {f : Nat → Int32} (hk : k < n) : (jWd n ad ac ln ob σ).set k (ad k, Sum.inl (ac k, (ln k, Sum.inl f))) = jWd n ad ac ln ob (sR σ k f) := by
  unfold jWd
  rw [List.set_append_left _ _ (by simpa using hk)]
  congr 1
  apply List.ext_getElem?
  intro j
  rw [List.getElem?_set]
  by_cases hj : k = j
  · subst hj
    simp [hk, sR, va_up]
  · simp only [hj, if_false, List.getElem?_map]
    by_cases hjn : j < n
    · rw [List.getElem?_range hjn]
      simp [sR, va_up, Ne.symm hj]
    · rw [List.getElem?_eq_none (by simpa using hjn)]
      rfl
section JArr
variable {l : Launch} {X : Cx} {D : va_G} {cl : List vw_C} {n : Nat} {ad : Nat → Nat} {ac : Nat → ClassId} {ln : Nat → Nat} {ty : Nat → FieldType} {ob : (Nat → Int32) → va_W} {A : Nat → Prop} {cc : ByteArray} {nL : Nat} {own : String} {Ts : List Cond} {R : Room} {ret : Option FieldType} {cells slots : Nat} {K : Heap → List Loc → Prop} {Q : State → Prop} {σ : St} {pc : Nat} {L : Lv} {rest : List Value}
theorem jx_iald (h : jX X (jY D cl n ad ac ln ty ob) A cc nL own Ts R ret) {k : Nat} (hk : k < n ∧ ty k = .int ∧ ln k < 2 ^ 31) {i : Int32} (j : Nat) (hi : i = nI j) (hj : j < ln k) (hd : decode cc pc = .ok (.iaload, 1))
    (kk : jW l X (jY D cl n ad ac ln ty ob) A nL cells slots K Q σ (pc + 1) L (.int (σ.2 k j) :: rest)) : jW l X (jY D cl n ad ac ln ty ob) A nL cells slots K Q σ pc L (.int i :: .ref (ad k) :: rest) := by
  intro H locs ls hk9 hP hD hS hl
  subst hi
  obtain ⟨h1, h2, h3⟩ := hk
  have hj2 : j < 2 ^ 31 := Nat.lt_trans hj h3
  refine va_iald h.1 h.2.1 h.2.2.2.2.2.1 hP k k (jWd_get h1) (by rw [← h2]; exact jTy_get h1) (vp_in_nI hj h3) hd ?_
  rw [nI_clamp hj2]
  exact kk H locs ls hk9 hP hD hS hl
theorem jx_zald (h : jX X (jY D cl n ad ac ln ty ob) A cc nL own Ts R ret) {k : Nat} (hk : k < n ∧ ty k = .boolean ∧ ln k < 2 ^ 31) {i : Int32} (j : Nat) (hi : i = nI j) (hj : j < ln k) (hd : decode cc pc = .ok (.baload, 1))
    (kk : jW l X (jY D cl n ad ac ln ty ob) A nL cells slots K Q σ (pc + 1) L (.int (σ.2 k j) :: rest)) : jW l X (jY D cl n ad ac ln ty ob) A nL cells slots K Q σ pc L (.int i :: .ref (ad k) :: rest) := by
  intro H locs ls hk9 hP hD hS hl
  subst hi
  obtain ⟨h1, h2, h3⟩ := hk
  have hj2 : j < 2 ^ 31 := Nat.lt_trans hj h3
  refine va_zald h.1 h.2.1 h.2.2.2.2.2.1 hP k k (jWd_get h1) (by rw [← h2]; exact jTy_get h1) (vp_in_nI hj h3) hd ?_
  rw [nI_clamp hj2]
  exact kk H locs ls hk9 hP hD hS hl
theorem jx_iast (h : jX X (jY D cl n ad ac ln ty ob) A cc nL own Ts R ret) {k : Nat} (hk : k < n ∧ ty k = .int ∧ ln k < 2 ^ 31) {i x : Int32} (j : Nat) (hi : i = nI j) (hj : j < ln k) (hd : decode cc pc = .ok (.iastore, 1))
    (kk : jW l X (jY D cl n ad ac ln ty ob) A nL cells slots kT Q (sA σ k j x) (pc + 1) L rest) : jW l X (jY D cl n ad ac ln ty ob) A nL cells slots K Q σ pc L (.int x :: .int i :: .ref (ad k) :: rest) := by
  intro H locs ls hk9 hP hD hS hl
  subst hi
  obtain ⟨h1, h2, h3⟩ := hk
  have hj2 : j < 2 ^ 31 := Nat.lt_trans hj h3
  refine va_iast h.1 h.2.1 h.2.2.2.2.2.1 hP hD hS k k (jWd_get h1) (by rw [← h2]; exact jTy_get h1) (vp_in_nI hj h3) hd (fun H1 locs1 hP1 hD1 hS1 => ?_)
  rw [nI_clamp hj2] at hP1 hD1
  have e : ((jY D cl n ad ac ln ty ob).sh σ).set k (ad k, Sum.inl (ac k, (ln k, Sum.inl (upd (σ.2 k) j x)))) = (jY D cl n ad ac ln ty ob).sh (sA σ k j x) := jWd_set h1
  exact kk H1 locs1 ls trivial (by rw [← e]; exact hP1) (by rw [← e]; exact hD1) hS1 hl
theorem jx_zast (h : jX X (jY D cl n ad ac ln ty ob) A cc nL own Ts R ret) {k : Nat} (hk : k < n ∧ ty k = .boolean ∧ ln k < 2 ^ 31) {i x : Int32} (j : Nat) (hi : i = nI j) (hj : j < ln k) (hx : vp_nar .boolean x = x) (hd : decode cc pc = .ok (.bastore, 1))
    (kk : jW l X (jY D cl n ad ac ln ty ob) A nL cells slots kT Q (sA σ k j x) (pc + 1) L rest) : jW l X (jY D cl n ad ac ln ty ob) A nL cells slots K Q σ pc L (.int x :: .int i :: .ref (ad k) :: rest) := by
  intro H locs ls hk9 hP hD hS hl
  subst hi
  obtain ⟨h1, h2, h3⟩ := hk
  have hj2 : j < 2 ^ 31 := Nat.lt_trans hj h3
  refine va_zast h.1 h.2.1 h.2.2.2.2.2.1 hP hD hS k k (jWd_get h1) (by rw [← h2]; exact jTy_get h1) (vp_in_nI hj h3) hd (fun H1 locs1 hP1 hD1 hS1 => ?_)
  rw [nI_clamp hj2, hx] at hP1 hD1
  have e : ((jY D cl n ad ac ln ty ob).sh σ).set k (ad k, Sum.inl (ac k, (ln k, Sum.inl (upd (σ.2 k) j x)))) = (jY D cl n ad ac ln ty ob).sh (sA σ k j x) := jWd_set h1
  exact kk H1 locs1 ls trivial (by rw [← e]; exact hP1) (by rw [← e]; exact hD1) hS1 hl
theorem jx_copy (h : jX X (jY D cl n ad ac ln ty ob) A cc nL own Ts R ret) {index : Nat} (hw : Cond.methodLink own index arraycopyName ∈ Ts ∧ Cond.native arraycopyName ∈ Ts ∧ Cond.static arraycopyName ∈ Ts ∧ Cond.initialized "java/lang/System" ∈ Ts)
    {k0 k1 : Nat} (hk0 : k0 < n ∧ ty k0 = .int ∧ ln k0 < 2 ^ 31) (hk1 : k1 < n ∧ ty k1 = .int ∧ ln k1 < 2 ^ 31) {x y z : Int32} (sp dp m : Nat) (hx : x = nI sp) (hy : y = nI dp) (hz : z = nI m) (h4 : sp + m ≤ ln k0) (h5 : dp + m ≤ ln k1)
    (hf : 1 ≤ R.frames) (hlo : (rest.map fun v => v.category).sum + (nativeFrameWords "java/lang/System" "arraycopy" 5 + 11) ≤ R.locals) (hd : decode cc pc = .ok (.invokestatic index, 3))
    (kk : jW l X (jY D cl n ad ac ln ty ob) A nL cells slots kT Q (sR σ k1 (va_cpy (σ.2 k0) (σ.2 k1) sp dp m)) (pc + 3) L rest) : jW l X (jY D cl n ad ac ln ty ob) A nL cells slots K Q σ pc L (.int z :: .int y :: .ref (ad k1) :: .int x :: .ref (ad k0) :: rest) := by
  intro H locs ls hk9 hP hD hS hl
  subst hx; subst hy; subst hz
  obtain ⟨a1, a2, a3⟩ := hk0
  obtain ⟨b1, b2, b3⟩ := hk1
  obtain ⟨hx, hb, hml, hown, hts, hK, hA, hR, hret, hlk⟩ := h
  subst hR
  have c1 : sp < 2 ^ 31 := by omega
  have c2 : dp < 2 ^ 31 := by omega
  have c3 : m < 2 ^ 31 := by omega
  refine va_copyi (ty := .int) hx hb (hml.trans hl.1.1.symm) hown (hts _ hw.1) (hts _ hw.2.1) (hts _ hw.2.2.1) (hts _ hw.2.2.2) hK hP hD hS k0 k1 k0 k1 (jWd_get a1) (jWd_get b1) (by rw [← a2]; exact jTy_get a1) (by rw [← b2]; exact jTy_get b1) rfl
    (nI_pos c1) (nI_pos c2) (nI_pos c3) (by rw [nI_clamp c1, nI_clamp c3]; exact h4) (by rw [nI_clamp c2, nI_clamp c3]; exact h5) (fun _ _ => rfl) hf hlo hd (fun H1 locs1 hP1 hD1 hS1 => ?_)
  rw [nI_clamp c1, nI_clamp c2, nI_clamp c3] at hP1 hD1
  have e : ((jY D cl n ad ac ln ty ob).sh σ).set k1 (ad k1, Sum.inl (ac k1, (ln k1, Sum.inl (va_cpy (σ.2 k0) (σ.2 k1) sp dp m)))) = (jY D cl n ad ac ln ty ob).sh (sR σ k1 (va_cpy (σ.2 k0) (σ.2 k1) sp dp m)) := jWd_set b1
  exact kk H1 locs1 ls trivial (by rw [← e]; exact hP1) (by rw [← e]; exact hD1) hS1 hl
end JArr
section JFld
variable {l : Launch} {X : Cx} {Y : Wx} {A : Nat → Prop} {cc : ByteArray} {nL : Nat} {own : String} {Ts : List Cond} {R : Room} {ret : Option FieldType} {cells slots : Nat} {K : Heap → List Loc → Prop} {Q : State → Prop} {σ : St} {pc : Nat} {L : Lv} {rest : List Value}
/-- what a class's fields ask of the tables, once for a class -/
def jF (Ts : List Cond) (C : String) (T : u_T) (N : Nat) (ty0 : Nat → FieldType) : Prop :=
  (∀ w ∈ u_ws C T N, w ∈ Ts) ∧ (∀ k, k < N → parseFieldDescriptor (T k).2.2.1 = some (ty0 k)) ∧ (∀ a, a < N → ∀ b, b < N → a ≠ b → (T a).2.1 ≠ (T b).2.1) ∧ ∀ k, k < N → (T k).1 = C
theorem jx_get (h : jX X Y A cc nL own Ts R ret) {C : String} {T : u_T} {N ci index a q0 : Nat} {ty0 : Nat → FieldType} {fs : List Value} {v : Value} (hF : jF Ts C T N ty0) (he : (Y.sh σ)[q0]? = some (a, .inr (ci, fs))) (hc : Y.cl[ci]? = some (C, T, N)) (k : Nat) (hk : k < N)
    (hw : Cond.fieldLink own index C (T k).2.1 (T k).2.2.1 ∈ Ts) (hv : fs[k]? = some v) (hd : decode cc pc = .ok (.getfield index, 3))
    (kk : jW l X Y A nL cells slots K Q σ (pc + 3) L (v :: rest)) : jW l X Y A nL cells slots K Q σ pc L (.ref a :: rest) := by
  intro H locs ls hk9 hP hD hS hl
  refine va_get (ref := C) h.1 h.2.1 h.2.2.2.2.1 hF.1 h.2.2.2.1 h.2.2.2.2.2.1 hP q0 he hc k hk (h.2.2.2.2.1 _ hw) (fun x hx => ?_) hv hd (kk H locs ls hk9 hP hD hS hl)
  rw [hF.2.2.2 k hk] at hx
  exact hx
theorem jx_put (h : jX X Y A cc nL own Ts R ret) {C : String} {T : u_T} {N ci index a q0 : Nat} {ty0 : Nat → FieldType} {fs : List Value} {v : Int32} {σ' : St} (hF : jF Ts C T N ty0) (he : (Y.sh σ)[q0]? = some (a, .inr (ci, fs))) (hc : Y.cl[ci]? = some (C, T, N)) (k : Nat) (hk : k < N)
    (hw : Cond.fieldLink own index C (T k).2.1 (T k).2.2.1 ∈ Ts) (hfin : (T k).2.2.2 = false) (hi : parseFieldDescriptor (T k).2.2.1 = some .int) (hl0 : k < fs.length) (hs : (Y.sh σ).set q0 (a, .inr (ci, fs.set k (.int v))) = Y.sh σ') (hd : decode cc pc = .ok (.putfield index, 3))
    (kk : jW l X Y A nL cells slots kT Q σ' (pc + 3) L rest) : jW l X Y A nL cells slots K Q σ pc L (.int v :: .ref a :: rest) := by
  intro H locs ls hk9 hP hD hS hl
  refine va_put (ref := C) h.1 h.2.1 h.2.2.2.2.1 hF.1 ty0 hF.2.1 hF.2.2.1 h.2.2.2.1 h.2.2.2.2.2.1 hP hD hS q0 he hc k hk (h.2.2.2.2.1 _ hw) (fun x hx => ?_) hfin hi rfl rfl hl0 hd (fun H1 locs1 hP1 hD1 hS1 => ?_)
  · rw [hF.2.2.2 k hk] at hx
    exact hx
  · exact kk H1 locs1 ls trivial (by rw [← hs]; exact hP1) (by rw [← hs]; exact hD1) hS1 hl
theorem jx_max (h : jX X Y A cc nL own Ts R ret) {index : Nat} (hw : Cond.methodLink own index Lib.Math.max.name ∈ Ts ∧ Cond.static Lib.Math.max.name ∈ Ts ∧ Cond.initialized "java/lang/Math" ∈ Ts ∧ Cond.code Lib.Math.max.name Lib.Math.max.code 2 (some .int) ∈ Ts)
    (hR : 1 ≤ R.frames ∧ (rest.map fun v => v.category).sum + 13 ≤ R.locals ∧ cells ≤ R.cells ∧ slots ≤ R.slots) {x y : Int32} (hd : decode cc pc = .ok (.invokestatic index, 3))
    (kk : jW l X Y A nL cells slots K Q σ (pc + 3) L (.int (if x < y then y else x) :: rest)) : jW l X Y A nL cells slots K Q σ pc L (.int y :: .int x :: rest) := by
  intro H locs ls hk9 hP hD hS hl
  obtain ⟨hx, hb, hml, hown, hts, hK, hA, hRR, hret, hlk⟩ := h
  subst hRR
  exact va_mmax hx hb (hml.trans hl.1.1.symm) hown (hts _ hw.1) (hts _ hw.2.1) (hts _ hw.2.2.1) (hts _ hw.2.2.2) hR.1 hR.2.1 hR.2.2.1 hR.2.2.2 hd (kk H locs ls hk9 hP hD hS hl)
theorem jx_min (h : jX X Y A cc nL own Ts R ret) {index : Nat} (hw : Cond.methodLink own index Lib.Math.min.name ∈ Ts ∧ Cond.static Lib.Math.min.name ∈ Ts ∧ Cond.initialized "java/lang/Math" ∈ Ts ∧ Cond.code Lib.Math.min.name Lib.Math.min.code 2 (some .int) ∈ Ts)
    (hR : 1 ≤ R.frames ∧ (rest.map fun v => v.category).sum + 13 ≤ R.locals ∧ cells ≤ R.cells ∧ slots ≤ R.slots) {x y : Int32} (hd : decode cc pc = .ok (.invokestatic index, 3))
    (kk : jW l X Y A nL cells slots K Q σ (pc + 3) L (.int (if y < x then y else x) :: rest)) : jW l X Y A nL cells slots K Q σ pc L (.int y :: .int x :: rest) := by
  intro H locs ls hk9 hP hD hS hl
  obtain ⟨hx, hb, hml, hown, hts, hK, hA, hRR, hret, hlk⟩ := h
  subst hRR
  exact va_mmin hx hb (hml.trans hl.1.1.symm) hown (hts _ hw.1) (hts _ hw.2.1) (hts _ hw.2.2.1) (hts _ hw.2.2.2) hR.1 hR.2.1 hR.2.2.1 hR.2.2.2 hd (kk H locs ls hk9 hP hD hS hl)
end JFld
end
section
/-! contracts of the methods of one side: from a state σ, with an answer and a state behind it -/
def jPre (Y : Wx) (av : List Value) (σ : St) (sz : Nat) : Array Value → State → Prop := va_Pc av (fun U => U.heap.size = sz ∧ va_P Y.D Y.cl (Y.sh σ) U.heap ∧ va_K Y.D Y.cl Y.tys U ∧ va_D (fun _ => True) (Y.sh σ))
def jB (Y : Wx) (A : Nat → Prop) : St → State → Prop := fun σ' t => va_P Y.D Y.cl (Y.sh σ') t.heap ∧ va_K Y.D Y.cl Y.tys t ∧ va_D A (Y.sh σ')
def jMi (l : Launch) (Y : Wx) (t : Mt) (TT : List Cond) (rm : Room) (av : List Value) (σ : St) (post : Int32 → St → Prop) : Prop :=
  ∀ sz : Nat, Met l t.y (t.w :: TT) rm (jPre Y av σ sz) (va_Qi post (jB Y (va_A (Y.sh σ) sz)) (va_A (Y.sh σ) sz)) 0 0 (va_A (Y.sh σ) sz)
def jMv (l : Launch) (Y : Wx) (t : Mt) (TT : List Cond) (rm : Room) (av : List Value) (σ : St) (post : St → Prop) : Prop :=
  ∀ sz : Nat, Met l t.y (t.w :: TT) rm (jPre Y av σ sz) (va_Qv post (jB Y (va_A (Y.sh σ) sz)) (va_A (Y.sh σ) sz)) 0 0 (va_A (Y.sh σ) sz)
def jMp (l : Launch) (Y : Wx) (t : Mt) (TT : List Cond) (rm : Room) (av : List Value) (σ : St) (post : Int32 → Prop) : Prop :=
  ∀ sz : Nat, Met l t.y (t.w :: TT) rm (jPre Y av σ sz) (vp_Si post) 0 0 (fun _ => False)
abbrev jQp (X : Cx) (post : Int32 → Prop) : State → Prop := MQ X.below (vp_Si post) X.args X.s 0 0 (fun _ => False)
abbrev jQi (X : Cx) (Y : Wx) (A : Nat → Prop) (post : Int32 → St → Prop) : State → Prop := MQ X.below (va_Qi post (jB Y A) A) X.args X.s 0 0 A
abbrev jQv (X : Cx) (Y : Wx) (A : Nat → Prop) (post : St → Prop) : State → Prop := MQ X.below (va_Qv post (jB Y A) A) X.args X.s 0 0 A
theorem lg_len : ∀ (av : List Value), (∀ v ∈ av, v.category = 1) → (lg_sl av).length = av.length
  | [], _ => rfl
  | v :: t, h => by
    have h1 := h v List.mem_cons_self
    have h2 := lg_len t (fun w hw => h w (List.mem_cons_of_mem _ hw))
    unfold lg_sl at h2 ⊢
    rw [List.flatMap_cons, List.length_append, h2, if_neg (by omega)]
    simp [Nat.add_comm]
theorem lv_args_cat : ∀ (av : List Value) (i : Nat), (∀ v ∈ av, v.category = 1) → ∀ q ∈ lv_args i av, q.2.category = 1
  | [], _, _, q, hq => by cases hq
  | v :: t, i, h, q, hq => by
    unfold lv_args at hq
    rcases List.mem_cons.mp hq with rfl | hq
    · exact h v List.mem_cons_self
    · exact lv_args_cat t _ (fun w hw => h w (List.mem_cons_of_mem _ hw)) q hq
section JMet
variable {l : Launch} {Y : Wx} {TT : List Cond} {rm : Room} {av : List Value} {σ : St}
theorem jMi_of {t : Mt} {post : Int32 → St → Prop} (hy : plainName t.y.cls = true) (hn : av.length ≤ t.n) (hav : ∀ v ∈ av, v.category = 1)
    (body : ∀ (X : Cx) (A : Nat → Prop), jX X Y A t.b t.n t.y.cls (t.w :: TT) rm t.r → jW l X Y A t.n 0 0 kT (jQi X Y A post) σ 0 (lv_args 0 av) []) : jMi l Y t TT rm av σ post := by
  intro sz
  refine Met.ofW (cc := t.b) (maxL := t.n) (ret := t.r) hy rfl ?_
  intro p e s m args below meth c s₁ B hml hv
  obtain ⟨rfl, hsz, hP, hK, hD0⟩ := hv
  have hts := atoms_spec (ws := t.w :: TT) B.pre
  have hown : s.vm.findClass t.y.cls = some m.cls := findClass_of_methodNamed B.named
  subst hsz
  have hD := hD0.self (sz := s.heap.size)
  generalize hAe : va_A (Y.sh σ) s.heap.size = A at hD ⊢
  have hA : ∀ q : Nat, s.heap.size ≤ q → A q := fun q h => by rw [← hAe]; exact Or.inr h
  have hl := lv_entry av (n := t.n) (by rw [lg_len av hav]; exact hn)
  rw [lg_entry_eq]
  exact body (p, e, rm, s, m, av.toArray, below, meth, c) A ⟨B.exec, B.bytes, hml, hown, hts, hK, hA, rfl, B.returns, B.notSynchronized⟩ s.heap [] _ trivial hP hD va_S.rf ⟨hl, lv_args_cat av 0 hav⟩
theorem jMv_of {t : Mt} {post : St → Prop} (hy : plainName t.y.cls = true) (hn : av.length ≤ t.n) (hav : ∀ v ∈ av, v.category = 1)
    (body : ∀ (X : Cx) (A : Nat → Prop), jX X Y A t.b t.n t.y.cls (t.w :: TT) rm t.r → jW l X Y A t.n 0 0 kT (jQv X Y A post) σ 0 (lv_args 0 av) []) : jMv l Y t TT rm av σ post := by
  intro sz
  refine Met.ofW (cc := t.b) (maxL := t.n) (ret := t.r) hy rfl ?_
  intro p e s m args below meth c s₁ B hml hv
  obtain ⟨rfl, hsz, hP, hK, hD0⟩ := hv
  have hts := atoms_spec (ws := t.w :: TT) B.pre
  have hown : s.vm.findClass t.y.cls = some m.cls := findClass_of_methodNamed B.named
  subst hsz
  have hD := hD0.self (sz := s.heap.size)
  generalize hAe : va_A (Y.sh σ) s.heap.size = A at hD ⊢
  have hA : ∀ q : Nat, s.heap.size ≤ q → A q := fun q h => by rw [← hAe]; exact Or.inr h
  have hl := lv_entry av (n := t.n) (by rw [lg_len av hav]; exact hn)
  rw [lg_entry_eq]
  exact body (p, e, rm, s, m, av.toArray, below, meth, c) A ⟨B.exec, B.bytes, hml, hown, hts, hK, hA, rfl, B.returns, B.notSynchronized⟩ s.heap [] _ trivial hP hD va_S.rf ⟨hl, lv_args_cat av 0 hav⟩
theorem jMp_of {t : Mt} {post : Int32 → Prop} (hy : plainName t.y.cls = true) (hn : av.length ≤ t.n) (hav : ∀ v ∈ av, v.category = 1)
    (body : ∀ (X : Cx) (A : Nat → Prop), jX X Y A t.b t.n t.y.cls (t.w :: TT) rm t.r → jW l X Y A t.n 0 0 (k0 X) (jQp X post) σ 0 (lv_args 0 av) []) : jMp l Y t TT rm av σ post := by
  intro sz
  refine Met.ofW (cc := t.b) (maxL := t.n) (ret := t.r) hy rfl ?_
  intro p e s m args below meth c s₁ B hml hv
  obtain ⟨rfl, hsz, hP, hK, hD0⟩ := hv
  have hts := atoms_spec (ws := t.w :: TT) B.pre
  have hown : s.vm.findClass t.y.cls = some m.cls := findClass_of_methodNamed B.named
  subst hsz
  have hD := hD0.self (sz := s.heap.size)
  generalize hAe : va_A (Y.sh σ) s.heap.size = A at hD
  have hA : ∀ q : Nat, s.heap.size ≤ q → A q := fun q h => by rw [← hAe]; exact Or.inr h
  have hl := lv_entry av (n := t.n) (by rw [lg_len av hav]; exact hn)
  rw [lg_entry_eq]
  exact body (p, e, rm, s, m, av.toArray, below, meth, c) A ⟨B.exec, B.bytes, hml, hown, hts, hK, hA, rfl, B.returns, B.notSynchronized⟩ s.heap [] _ ⟨rfl, rfl⟩ hP hD va_S.rf ⟨hl, lv_args_cat av 0 hav⟩
theorem jMi.mono {t : Mt} {post post' : Int32 → St → Prop} (h : jMi l Y t TT rm av σ post) (hp : ∀ r u, post r u → post' r u) : jMi l Y t TT rm av σ post' := by
  intro sz p e ha hc hk s m args below hf happ hP hK
  obtain ⟨n, o, h1, h2, h3, ⟨⟨⟨r, u, e1, e2, e3⟩, hF⟩, hL⟩⟩ := h sz p e ha hc hk s m args below hf happ hP hK
  exact ⟨n, o, h1, h2, h3, ⟨⟨⟨r, u, e1, hp r u e2, e3⟩, hF⟩, hL⟩⟩
theorem jMv.mono {t : Mt} {post post' : St → Prop} (h : jMv l Y t TT rm av σ post) (hp : ∀ u, post u → post' u) : jMv l Y t TT rm av σ post' := by
  intro sz p e ha hc hk s m args below hf happ hP hK
  obtain ⟨n, o, h1, h2, h3, ⟨⟨⟨u, e1, e2, e3⟩, hF⟩, hL⟩⟩ := h sz p e ha hc hk s m args below hf happ hP hK
  exact ⟨n, o, h1, h2, h3, ⟨⟨⟨u, e1, hp u e2, e3⟩, hF⟩, hL⟩⟩
end JMet
section JEnd
variable {l : Launch} {X : Cx} {Y : Wx} {A : Nat → Prop} {cc : ByteArray} {nL : Nat} {own : String} {Ts : List Cond} {R : Room} {K : Heap → List Loc → Prop} {σ : St} {pc : Nat} {L : Lv}
theorem jx_iret {post : Int32 → St → Prop} (h : jX X Y A cc nL own Ts R (some .int)) {v : Int32} (hd : decode cc pc = .ok (.ireturn, 1)) (hp : post v σ) : jW l X Y A nL 0 0 K (jQi X Y A post) σ pc L [.int v] := by
  intro H locs ls hk9 hP hD hS hl
  obtain ⟨hx, hb, hml, hown, hts, hK, hA, hR, hret, hlk⟩ := h
  exact W.iret (v := v) hx hb hret (fun t ht hW => ⟨⟨v, σ, rfl, hp, by rw [ht]; exact hP, va_K.moved hW.alike hK, hD⟩, hS.F ht⟩) hS.2.2 hd hlk
theorem jx_zret {post : Int32 → St → Prop} (h : jX X Y A cc nL own Ts R (some .boolean)) {v : Int32} (hd : decode cc pc = .ok (.ireturn, 1)) (hz : narrow .boolean (.int v) = .int v) (hp : post v σ) : jW l X Y A nL 0 0 K (jQi X Y A post) σ pc L [.int v] := by
  intro H locs ls hk9 hP hD hS hl
  obtain ⟨hx, hb, hml, hown, hts, hK, hA, hR, hret, hlk⟩ := h
  exact W.zret (v := v) hx hb hret hz (fun t ht hW => ⟨⟨v, σ, rfl, hp, by rw [ht]; exact hP, va_K.moved hW.alike hK, hD⟩, hS.F ht⟩) hS.2.2 hd hlk
theorem jx_vret {post : St → Prop} (h : jX X Y A cc nL own Ts R none) (hd : decode cc pc = .ok (.return_, 1)) (hp : post σ) : jW l X Y A nL 0 0 K (jQv X Y A post) σ pc L [] := by
  intro H locs ls hk9 hP hD hS hl
  obtain ⟨hx, hb, hml, hown, hts, hK, hA, hR, hret, hlk⟩ := h
  exact W.vret hx hb hret (fun t ht hW => ⟨⟨σ, rfl, hp, by rw [ht]; exact hP, va_K.moved hW.alike hK, hD⟩, hS.F ht⟩) hS.2.2 hd hlk
theorem jx_iretp {post : Int32 → Prop} (h : jX X Y A cc nL own Ts R (some .int)) {v : Int32} (hd : decode cc pc = .ok (.ireturn, 1)) (hp : post v) : jW l X Y A nL 0 0 (k0 X) (jQp X post) σ pc L [.int v] := by
  intro H locs ls hk hP hD hS hl
  obtain ⟨hx, hb, hml, hown, hts, hK, hA, hR, hret, hlk⟩ := h
  obtain ⟨hk1, hk2⟩ := hk
  subst hk2
  exact W.iret (v := v) hx hb hret (fun t ht hW => ⟨v, rfl, hp, ht.trans hk1⟩) (fun q hq => absurd hq List.not_mem_nil) hd hlk
theorem jx_zretp {post : Int32 → Prop} (h : jX X Y A cc nL own Ts R (some .boolean)) {v : Int32} (hd : decode cc pc = .ok (.ireturn, 1)) (hz : narrow .boolean (.int v) = .int v) (hp : post v) : jW l X Y A nL 0 0 (k0 X) (jQp X post) σ pc L [.int v] := by
  intro H locs ls hk hP hD hS hl
  obtain ⟨hx, hb, hml, hown, hts, hK, hA, hR, hret, hlk⟩ := h
  obtain ⟨hk1, hk2⟩ := hk
  subst hk2
  exact W.zret (v := v) hx hb hret hz (fun t ht hW => ⟨v, rfl, hp, ht.trans hk1⟩) (fun q hq => absurd hq List.not_mem_nil) hd hlk
end JEnd
/-- what a call asks of the tables: of a method of an object, of a static one -/
def jcV (TT : List Cond) (own : String) (index : Nat) (t : Mt) (n : Nat) : Prop :=
  (∀ w ∈ TT, goodWord w = true) ∧ t.w ∈ TT ∧ Cond.methodLink own index t.y ∈ TT ∧ Cond.instanceMethod t.y ∈ TT ∧ Cond.selects t.y.cls t.y t.y ∈ TT ∧ Cond.initialized t.y.cls ∈ TT ∧
    t.y.cls ≠ "java/lang/invoke/MethodHandle" ∧ t.y.cls ≠ "java/lang/invoke/VarHandle" ∧ (parseMethodDescriptor t.y.desc).map (fun d => d.parameters.length) = some n
def jcS (TT : List Cond) (own : String) (index : Nat) (t : Mt) (n : Nat) : Prop :=
  (∀ w ∈ TT, goodWord w = true) ∧ t.w ∈ TT ∧ Cond.methodLink own index t.y ∈ TT ∧ Cond.static t.y ∈ TT ∧ Cond.initialized own ∈ TT ∧
    t.y.cls = own ∧ t.y.cls ≠ "java/lang/invoke/MethodHandle" ∧ t.y.cls ≠ "java/lang/invoke/VarHandle" ∧ (parseMethodDescriptor t.y.desc).map (fun d => d.parameters.length) = some n
theorem jcV.good {TT : List Cond} {own : String} {index n : Nat} {t : Mt} (g : jcV TT own index t n) (w0 : Cond) : GoodIn (w0 :: TT) (wsV own index t.y.cls t.y (t.w :: TT)) := by
  obtain ⟨h0, h1, h2, h3, h4, h5, -⟩ := g
  intro w hw
  have hm : w ∈ TT := by
    unfold wsV at hw
    rcases List.mem_append.mp hw with hw | hw
    · simp only [List.mem_cons, List.not_mem_nil, or_false] at hw
      rcases hw with rfl | rfl | rfl | rfl
      · exact h2
      · exact h3
      · exact h4
      · exact h5
    · rcases List.mem_cons.mp hw with rfl | hw
      · exact h1
      · exact hw
  exact ⟨List.mem_cons_of_mem _ hm, good_of_word (h0 w hm)⟩
theorem jcS.good {TT : List Cond} {own : String} {index n : Nat} {t : Mt} (g : jcS TT own index t n) (w0 : Cond) : GoodIn (w0 :: TT) (wsS own index t.y (t.w :: TT)) := by
  obtain ⟨h0, h1, h2, h3, h4, -⟩ := g
  intro w hw
  have hm : w ∈ TT := by
    unfold wsS at hw
    rcases List.mem_append.mp hw with hw | hw
    · simp only [List.mem_cons, List.not_mem_nil, or_false] at hw
      rcases hw with rfl | rfl | rfl
      · exact h2
      · exact h3
      · exact h4
    · rcases List.mem_cons.mp hw with rfl | hw
      · exact h1
      · exact hw
  exact ⟨List.mem_cons_of_mem _ hm, good_of_word (h0 w hm)⟩
theorem jPre_blind (Y : Wx) (av : List Value) (σ : St) (sz : Nat) : FrameBlind (jPre Y av σ sz) := by
  intro a U g mk q
  obtain ⟨q0, q1, qP, qK, qD⟩ := q
  exact ⟨q0, q1, qP, va_K.moved (u := U) (U := U.calling g mk a) (Vm.Alike.refl U.vm) qK, qD⟩
theorem jA_in {A : Nat → Prop} {ws : va_W} {H0 H : Heap} {locs : List Loc} (hD : va_D A ws) (hS : va_S A H0 H locs) (hA : ∀ q, H0.size ≤ q → A q) : ∀ q, va_A ws H.size q → A q := by
  intro q h
  rcases h with ⟨k, e, hk⟩ | h
  · exact hD.2 k _ hk
  · exact hA q (Nat.le_trans hS.1 h)
/-- the callee's room in the caller's -/
def jRm (rm : Room) (n : Nat) (R : Room) : Prop := rm.cells = 0 ∧ rm.slots = 0 ∧ rm.frames + 1 ≤ R.frames ∧ 8 + (n + 11) + rm.locals ≤ R.locals
section JCall
variable {l : Launch} {X : Cx} {Y : Wx} {A : Nat → Prop} {cc : ByteArray} {nL : Nat} {own : String} {w0 : Cond} {TT : List Cond} {R : Room} {ret : Option FieldType} {cells slots : Nat} {K : Heap → List Loc → Prop} {Q : State → Prop} {σ : St} {pc : Nat} {L : Lv} {rest st As : List Value}
variable {t : Mt} {index n a q0 ci N : Nat} {rm : Room} {fs : List Value} {T : u_T}
theorem jx_callVi {post : Int32 → St → Prop} (h : jX X Y A cc nL own (w0 :: TT) R ret) (g : jcV TT own index t n) (hM : jMi l Y t TT rm (.ref a :: As) σ post) (he : (Y.sh σ)[q0]? = some (a, .inr (ci, fs))) (hc : Y.cl[ci]? = some (t.y.cls, T, N))
    (hR : jRm rm t.n R) (hn : As.length = n) (hst : st = As.reverse ++ .ref a :: rest) (hcat : (rest.map fun v => v.category).sum ≤ 8) (hcs : cells ≤ R.cells ∧ slots ≤ R.slots) (hd : decode cc pc = .ok (.invokevirtual index, 3))
    (kk : ∀ (r : Int32) (σ' : St), post r σ' → jW l X Y A nL cells slots kT Q σ' (pc + 3) L (.int r :: rest)) : jW l X Y A nL cells slots K Q σ pc L st := by
  intro H locs ls hk9 hP hD hS hl
  obtain ⟨hx, hb, hml, hown, hts, hK, hA, hRR, hret, hlk⟩ := h
  subst hRR
  have hF := jA_in hD hS hA
  refine va_calli (va_runV (As := As) (rest := rest) ⟨hx, hb, hml, hown, hts⟩ (hM H.size) (cwV n hts (g.good w0) rfl hR.1 hR.2.1 ⟨rfl, g.2.2.2.2.2.2.1, g.2.2.2.2.2.2.2.1, g.2.2.2.2.2.2.2.2⟩ ⟨hR.2.2.1, hR.2.2.2⟩)
    ⟨jPre_blind _ _ _ _, va_recv hK hP hc he, fun U hU hW => ⟨rfl, by rw [hU], by rw [hU]; exact hP, va_K.moved hW.alike hK, hD.weaken (fun _ _ _ _ => trivial)⟩⟩ rfl hn hl.1.1 hst (lv_room hcat) hd ⟨hcs.1, hcs.2⟩) hS (fun q _ hq => hF q hq) hF ?_
  intro r u t' H1 locs1 ht hvm hp hB hz hk hS1
  exact kk r u hp H1 locs1 ls trivial (by rw [← ht]; exact hB.1) (hB.2.2.weaken (fun _ q _ hq => hF q.1 hq)) hS1 hl
theorem jx_callVv {post : St → Prop} (h : jX X Y A cc nL own (w0 :: TT) R ret) (g : jcV TT own index t n) (hM : jMv l Y t TT rm (.ref a :: As) σ post) (he : (Y.sh σ)[q0]? = some (a, .inr (ci, fs))) (hc : Y.cl[ci]? = some (t.y.cls, T, N))
    (hR : jRm rm t.n R) (hn : As.length = n) (hst : st = As.reverse ++ .ref a :: rest) (hcat : (rest.map fun v => v.category).sum ≤ 8) (hcs : cells ≤ R.cells ∧ slots ≤ R.slots) (hd : decode cc pc = .ok (.invokevirtual index, 3))
    (kk : ∀ (σ' : St), post σ' → jW l X Y A nL cells slots kT Q σ' (pc + 3) L rest) : jW l X Y A nL cells slots K Q σ pc L st := by
  intro H locs ls hk9 hP hD hS hl
  obtain ⟨hx, hb, hml, hown, hts, hK, hA, hRR, hret, hlk⟩ := h
  subst hRR
  have hF := jA_in hD hS hA
  refine va_callv (va_runV (As := As) (rest := rest) ⟨hx, hb, hml, hown, hts⟩ (hM H.size) (cwV n hts (g.good w0) rfl hR.1 hR.2.1 ⟨rfl, g.2.2.2.2.2.2.1, g.2.2.2.2.2.2.2.1, g.2.2.2.2.2.2.2.2⟩ ⟨hR.2.2.1, hR.2.2.2⟩)
    ⟨jPre_blind _ _ _ _, va_recv hK hP hc he, fun U hU hW => ⟨rfl, by rw [hU], by rw [hU]; exact hP, va_K.moved hW.alike hK, hD.weaken (fun _ _ _ _ => trivial)⟩⟩ rfl hn hl.1.1 hst (lv_room hcat) hd ⟨hcs.1, hcs.2⟩) hS (fun q _ hq => hF q hq) hF ?_
  intro u t' H1 locs1 ht hvm hp hB hz hk hS1
  exact kk u hp H1 locs1 ls trivial (by rw [← ht]; exact hB.1) (hB.2.2.weaken (fun _ q _ hq => hF q.1 hq)) hS1 hl
theorem jx_callSi {post : Int32 → St → Prop} (h : jX X Y A cc nL own (w0 :: TT) R ret) (g : jcS TT own index t n) (hM : jMi l Y t TT rm As σ post)
    (hR : jRm rm t.n R) (hn : As.length = n) (hst : st = As.reverse ++ rest) (hcat : (rest.map fun v => v.category).sum ≤ 8) (hcs : cells ≤ R.cells ∧ slots ≤ R.slots) (hd : decode cc pc = .ok (.invokestatic index, 3))
    (kk : ∀ (r : Int32) (σ' : St), post r σ' → jW l X Y A nL cells slots kT Q σ' (pc + 3) L (.int r :: rest)) : jW l X Y A nL cells slots K Q σ pc L st := by
  intro H locs ls hk9 hP hD hS hl
  obtain ⟨hx, hb, hml, hown, hts, hK, hA, hRR, hret, hlk⟩ := h
  subst hRR
  have hF := jA_in hD hS hA
  refine va_calli (va_runS (As := As) (rest := rest) ⟨hx, hb, hml, hown, hts⟩ (hM H.size) (cwS n hts (g.good w0) rfl hR.1 hR.2.1 ⟨g.2.2.2.2.2.1, g.2.2.2.2.2.2.1, g.2.2.2.2.2.2.2.1, g.2.2.2.2.2.2.2.2⟩ ⟨hR.2.2.1, hR.2.2.2⟩)
    ⟨jPre_blind _ _ _ _, fun U hU hW => ⟨rfl, by rw [hU], by rw [hU]; exact hP, va_K.moved hW.alike hK, hD.weaken (fun _ _ _ _ => trivial)⟩⟩ rfl hn hl.1.1 hst (lv_room hcat) hd ⟨hcs.1, hcs.2⟩) hS (fun q _ hq => hF q hq) hF ?_
  intro r u t' H1 locs1 ht hvm hp hB hz hk hS1
  exact kk r u hp H1 locs1 ls trivial (by rw [← ht]; exact hB.1) (hB.2.2.weaken (fun _ q _ hq => hF q.1 hq)) hS1 hl
theorem jx_callVp {post : Int32 → Prop} (h : jX X Y A cc nL own (w0 :: TT) R ret) (g : jcV TT own index t n) (hM : jMp l Y t TT rm (.ref a :: As) σ post) (he : (Y.sh σ)[q0]? = some (a, .inr (ci, fs))) (hc : Y.cl[ci]? = some (t.y.cls, T, N))
    (hR : jRm rm t.n R) (hn : As.length = n) (hst : st = As.reverse ++ .ref a :: rest) (hcat : (rest.map fun v => v.category).sum ≤ 8) (hcs : cells ≤ R.cells ∧ slots ≤ R.slots) (hd : decode cc pc = .ok (.invokevirtual index, 3))
    (kk : ∀ (r : Int32), post r → jW l X Y A nL cells slots K Q σ (pc + 3) L (.int r :: rest)) : jW l X Y A nL cells slots K Q σ pc L st := by
  intro H locs ls hk9 hP hD hS hl
  obtain ⟨hx, hb, hml, hown, hts, hK, hA, hRR, hret, hlk⟩ := h
  subst hRR
  refine vp_callSi (W.runV (As := As) (rest := rest) ⟨hx, hb, hml, hown, hts⟩ (hM H.size) (cwV n hts (g.good w0) rfl hR.1 hR.2.1 ⟨rfl, g.2.2.2.2.2.2.1, g.2.2.2.2.2.2.2.1, g.2.2.2.2.2.2.2.2⟩ ⟨hR.2.2.1, hR.2.2.2⟩)
    ⟨jPre_blind _ _ _ _, va_recv hK hP hc he, fun U hU hW => ⟨rfl, by rw [hU], by rw [hU]; exact hP, va_K.moved hW.alike hK, hD.weaken (fun _ _ _ _ => trivial)⟩⟩ rfl hn hl.1.1 hst (lv_room hcat) hd ⟨hcs.1, hcs.2⟩) ?_
  intro r hp
  exact kk r hp H locs ls hk9 hP hD hS hl
theorem jx_callSp {post : Int32 → Prop} (h : jX X Y A cc nL own (w0 :: TT) R ret) (g : jcS TT own index t n) (hM : jMp l Y t TT rm As σ post)
    (hR : jRm rm t.n R) (hn : As.length = n) (hst : st = As.reverse ++ rest) (hcat : (rest.map fun v => v.category).sum ≤ 8) (hcs : cells ≤ R.cells ∧ slots ≤ R.slots) (hd : decode cc pc = .ok (.invokestatic index, 3))
    (kk : ∀ (r : Int32), post r → jW l X Y A nL cells slots K Q σ (pc + 3) L (.int r :: rest)) : jW l X Y A nL cells slots K Q σ pc L st := by
  intro H locs ls hk9 hP hD hS hl
  obtain ⟨hx, hb, hml, hown, hts, hK, hA, hRR, hret, hlk⟩ := h
  subst hRR
  refine vp_callSi (W.runS (As := As) (rest := rest) ⟨hx, hb, hml, hown, hts⟩ (hM H.size) (cwS n hts (g.good w0) rfl hR.1 hR.2.1 ⟨g.2.2.2.2.2.1, g.2.2.2.2.2.2.1, g.2.2.2.2.2.2.2.1, g.2.2.2.2.2.2.2.2⟩ ⟨hR.2.2.1, hR.2.2.2⟩)
    ⟨jPre_blind _ _ _ _, fun U hU hW => ⟨rfl, by rw [hU], by rw [hU]; exact hP, va_K.moved hW.alike hK, hD.weaken (fun _ _ _ _ => trivial)⟩⟩ rfl hn hl.1.1 hst (lv_room hcat) hd ⟨hcs.1, hcs.2⟩) ?_
  intro r hp
  exact kk r hp H locs ls hk9 hP hD hS hl
end JCall
end
section
/-! the network as a mathematical value -/
abbrev Ms : Type := Nat × Nat × Nat × Nat × (Nat → Nat) × (Nat → Option Nat) × (Nat → Nat) × (Nat → Int32) × (Nat → Nat) × (Nat → Int32) × (Nat → Option Nat) × (Nat → Bool) × (Nat → Nat) × (Nat → Int32) × (Nat → Nat) × (Nat → Bool) × (Nat → Int32) × (Nat → Nat)
abbrev Ms.w (M : Ms) : Nat := M.1
abbrev Ms.ns (M : Ms) : Nat := M.2.1
abbrev Ms.nt (M : Ms) : Nat := M.2.2.1
abbrev Ms.nl (M : Ms) : Nat := M.2.2.2.1
abbrev Ms.wire (M : Ms) : Nat → Nat := M.2.2.2.2.1
abbrev Ms.place (M : Ms) : Nat → Option Nat := M.2.2.2.2.2.1
abbrev Ms.state (M : Ms) : Nat → Nat := M.2.2.2.2.2.2.1
abbrev Ms.passed (M : Ms) : Nat → Int32 := M.2.2.2.2.2.2.2.1
abbrev Ms.nxt (M : Ms) : Nat → Nat := M.2.2.2.2.2.2.2.2.1
abbrev Ms.way (M : Ms) : Nat → Int32 := M.2.2.2.2.2.2.2.2.2.1
abbrev Ms.number (M : Ms) : Nat → Option Nat := M.2.2.2.2.2.2.2.2.2.2.1
abbrev Ms.ordered (M : Ms) : Nat → Bool := M.2.2.2.2.2.2.2.2.2.2.2.1
abbrev Ms.la (M : Ms) : Nat → Nat := M.2.2.2.2.2.2.2.2.2.2.2.2.1
abbrev Ms.lw (M : Ms) : Nat → Int32 := M.2.2.2.2.2.2.2.2.2.2.2.2.2.1
abbrev Ms.lt (M : Ms) : Nat → Nat := M.2.2.2.2.2.2.2.2.2.2.2.2.2.2.1
abbrev Ms.down (M : Ms) : Nat → Bool := M.2.2.2.2.2.2.2.2.2.2.2.2.2.2.2.1
abbrev Ms.had (M : Ms) : Nat → Int32 := M.2.2.2.2.2.2.2.2.2.2.2.2.2.2.2.2.1
abbrev Ms.handed (M : Ms) : Nat → Nat := M.2.2.2.2.2.2.2.2.2.2.2.2.2.2.2.2.2
def Ms.s_down (M : Ms) (x : Nat → Bool) : Ms := (M.w, M.ns, M.nt, M.nl, M.wire, M.place, M.state, M.passed, M.nxt, M.way, M.number, M.ordered, M.la, M.lw, M.lt, x, M.had, M.handed)
def nb (w : Nat) : Nat := if w = 2 then 1 else if w = 4 then 6 else 24
def nc (w : Nat) : Nat := if w = 2 then 1 else if w = 4 then 3 else 6
def tU (w : Nat) : List Nat := if w = 2 then [0] else if w = 4 then [0, 2, 0, 1, 0, 3] else [0, 2, 0, 1, 0, 3, 4, 6, 4, 5, 4, 7, 0, 3, 0, 6, 1, 2, 1, 7, 0, 3, 6, 5]
def tL (w : Nat) : List Nat := if w = 2 then [1] else if w = 4 then [1, 3, 3, 2, 1, 2] else [1, 3, 3, 2, 1, 2, 5, 7, 7, 6, 5, 6, 6, 5, 3, 5, 7, 4, 2, 4, 1, 2, 7, 4]
def tC (w : Nat) : List Nat := if w = 2 then [0] else if w = 4 then [0, 0, 1, 1, 2, 2] else [0, 0, 1, 1, 2, 2, 0, 0, 1, 1, 2, 2, 3, 3, 4, 4, 3, 3, 4, 4, 5, 5, 5, 5]
def tE (w : Nat) : List Nat := if w = 2 then [0, 1] else if w = 4 then [0, 1, 3, 2] else [0, 1, 3, 2, 6, 7, 5, 4]
def tX (w : Nat) : List Nat := if w = 2 then [0, 1] else if w = 4 then [0, 1, 3, 2] else [0, 1, 3, 2, 7, 6, 4, 5]
def uU (w b : Nat) : Nat := (tU w).getD b 0
def uL (w b : Nat) : Nat := (tL w).getD b 0
def uC (w b : Nat) : Nat := (tC w).getD b 0
def uE (w b : Nat) : Nat := (tE w).getD b 0
def uX (w b : Nat) : Nat := (tX w).getD b 0
def Wok (w : Nat) : Prop := w = 2 ∨ w = 4 ∨ w = 8
theorem Wok.le {w : Nat} (h : Wok w) : w ≤ 8 := by rcases h with rfl | rfl | rfl <;> decide
theorem Wok.pos {w : Nat} (h : Wok w) : 2 ≤ w := by rcases h with rfl | rfl | rfl <;> decide
theorem nb_le (w : Nat) : nb w ≤ 24 := by unfold nb; split <;> (try split) <;> omega
theorem uU_lt {w b : Nat} (h : Wok w) (hb : b < nb w) : uU w b < w := by
  rcases h with rfl | rfl | rfl
  · exact (by decide : ∀ b, b < nb 2 → uU 2 b < 2) b hb
  · exact (by decide : ∀ b, b < nb 4 → uU 4 b < 4) b hb
  · exact (by decide : ∀ b, b < nb 8 → uU 8 b < 8) b hb
theorem uL_lt {w b : Nat} (h : Wok w) (hb : b < nb w) : uL w b < w := by
  rcases h with rfl | rfl | rfl
  · exact (by decide : ∀ b, b < nb 2 → uL 2 b < 2) b hb
  · exact (by decide : ∀ b, b < nb 4 → uL 4 b < 4) b hb
  · exact (by decide : ∀ b, b < nb 8 → uL 8 b < 8) b hb
theorem uC_lt {w b : Nat} (h : Wok w) (hb : b < nb w) : uC w b < 6 := by
  rcases h with rfl | rfl | rfl
  · exact (by decide : ∀ b, b < nb 2 → uC 2 b < 6) b hb
  · exact (by decide : ∀ b, b < nb 4 → uC 4 b < 6) b hb
  · exact (by decide : ∀ b, b < nb 8 → uC 8 b < 6) b hb
theorem uX_lt {w i : Nat} (h : Wok w) (hi : i < w) : uX w i < w := by
  rcases h with rfl | rfl | rfl
  · exact (by decide : ∀ b, b < 2 → uX 2 b < 2) i hi
  · exact (by decide : ∀ b, b < 4 → uX 4 b < 4) i hi
  · exact (by decide : ∀ b, b < 8 → uX 8 b < 8) i hi
theorem uE_uX {w i : Nat} (h : Wok w) (hi : i < w) : uE w (uX w i) = i := by
  rcases h with rfl | rfl | rfl
  · exact (by decide : ∀ b, b < 2 → uE 2 (uX 2 b) = b) i hi
  · exact (by decide : ∀ b, b < 4 → uE 4 (uX 4 b) = b) i hi
  · exact (by decide : ∀ b, b < 8 → uE 8 (uX 8 b) = b) i hi
theorem uX_uE {w i : Nat} (h : Wok w) (hi : i < w) : uX w (uE w i) = i := by
  rcases h with rfl | rfl | rfl
  · exact (by decide : ∀ b, b < 2 → uX 2 (uE 2 b) = b) i hi
  · exact (by decide : ∀ b, b < 4 → uX 4 (uE 4 b) = b) i hi
  · exact (by decide : ∀ b, b < 8 → uX 8 (uE 8 b) = b) i hi
theorem uE_lt {w i : Nat} (h : Wok w) (hi : i < w) : uE w i < w := by
  rcases h with rfl | rfl | rfl
  · exact (by decide : ∀ b, b < 2 → uE 2 b < 2) i hi
  · exact (by decide : ∀ b, b < 4 → uE 4 b < 4) i hi
  · exact (by decide : ∀ b, b < 8 → uE 8 b < 8) i hi
def nxF (w wi : Nat) : Nat → Nat → Option Nat
  | 0, _ => none
  | f + 1, b => if uU w b = wi ∨ uL w b = wi then some b else nxF w wi f (b + 1)
def nxB (w wi n : Nat) : Option Nat := nxF w wi (nb w - n) n
theorem nxF_lt {w wi : Nat} : ∀ (f n b : Nat), nxF w wi f n = some b → n ≤ b ∧ b < n + f
  | 0, _, _, h => by cases h
  | f + 1, n, b, h => by
    unfold nxF at h
    split at h
    · cases h; omega
    · have := nxF_lt f (n + 1) b h; omega
theorem nxB_lt {w wi n b : Nat} (h : nxB w wi n = some b) : b < nb w := by
  have := nxF_lt _ _ _ h
  omega
def lefF (st : Nat → Nat) : Nat → Nat
  | 0 => 0
  | n + 1 => lefF st n + (if st n = 2 then 0 else 1)
def Ms.left (M : Ms) : Nat := lefF M.state M.nt
def sumF (h : Nat → Nat) : Nat → Nat
  | 0 => 0
  | n + 1 => sumF h n + h n
def Ms.next (M : Ms) (t : Nat) : Option Nat := nxB M.w (M.wire t) (M.nxt t)
def Ms.ex (M : Ms) (t : Nat) : Nat := uX M.w (M.wire t)
def Ms.stN (M : Ms) (t : Nat) : Nat := match M.next t with
  | none => M.ex t % M.ns
  | some b => uC M.w b % M.ns
def Ms.asleep (M : Ms) (t : Nat) : Bool := match M.place t with
  | none => false
  | some p => M.down p
def Ms.can (M : Ms) (t : Nat) : Bool := !(M.state t == 2) && !M.asleep t && (decide (M.nl < 60) || M.state t == 1 || M.place t == some (M.stN t))
def Ms.post (M : Ms) (t : Nat) (wy : Int32) (s : Nat) : Ms := (M.w, M.ns, M.nt, M.nl + 1, M.wire, M.place, M.state, M.passed, M.nxt, M.way, M.number, M.ordered, va_up M.la M.nl t, va_up M.lw M.nl wy, va_up M.lt M.nl s, M.down, M.had, M.handed)
def Ms.setOut (M : Ms) (t : Nat) : Ms := (M.w, M.ns, M.nt, M.nl, M.wire, M.place, va_up M.state t 1, M.passed, M.nxt, va_up M.way t (M.way t + 1), M.number, M.ordered, M.la, M.lw, M.lt, M.down, M.had, M.handed)
def Ms.go (M : Ms) (t b : Nat) : Ms := (M.w, M.ns, M.nt, M.nl, va_up M.wire t (if M.had b - M.had b / 2 * 2 = 0 then uU M.w b else uL M.w b), M.place, M.state, va_up M.passed t (M.passed t + 1), va_up M.nxt t (b + 1), M.way, M.number, M.ordered, M.la, M.lw, M.lt, M.down, va_up M.had b (M.had b + 1), M.handed)
def Ms.out (M : Ms) (t i : Nat) : Ms := (M.w, M.ns, M.nt, M.nl, M.wire, M.place, va_up M.state t 2, M.passed, M.nxt, M.way, va_up M.number t (some (i + M.w * M.handed i)), M.ordered, M.la, M.lw, M.lt, M.down, M.had, va_up M.handed i (M.handed i + 1))
def Ms.step (M : Ms) (t : Nat) : Nat × Ms :=
  if M.state t = 1 then (3, M)
  else if ¬ M.place t = some (M.stN t) then (2, (M.setOut t).post t (M.way t + 1) (M.stN t))
  else match M.next t with
    | some b => (0, M.go t b)
    | none => (1, M.out t (M.ex t))
def shf {α : Type} (f : Nat → α) (i : Nat) : Nat → α := fun k => if k < i then f k else f (k + 1)
def Ms.take (M : Ms) (i : Nat) : Ms := (M.w, M.ns, M.nt, M.nl - 1, M.wire, M.place, M.state, M.passed, M.nxt, M.way, M.number, M.ordered, shf M.la i, shf M.lw i, shf M.lt i, M.down, M.had, M.handed)
def Ms.arrive (M : Ms) (t s : Nat) : Ms := (M.w, M.ns, M.nt, M.nl, M.wire, va_up M.place t (some s), va_up M.state t 0, M.passed, M.nxt, M.way, M.number, M.ordered, M.la, M.lw, M.lt, M.down, M.had, M.handed)
def Ms.comes (M : Ms) (i : Nat) : Bool := !(M.down (M.lt i)) && M.state (M.la i) == 1 && M.way (M.la i) == M.lw i
def Ms.deliver (M : Ms) (i : Nat) : Ms := if M.comes i = true then (M.take i).arrive (M.la i) (M.lt i) else M.take i
def hasF (la : Nat → Nat) (lw : Nat → Int32) (t : Nat) (wy : Int32) : Nat → Bool
  | 0 => false
  | n + 1 => hasF la lw t wy n || (la n == t && lw n == wy)
def Ms.holds (M : Ms) (t : Nat) : Bool := hasF M.la M.lw t (M.way t) M.nl
def Ms.res1 (M : Ms) (t : Nat) : Ms := if M.state t = 1 ∧ M.holds t = false then M.post t (M.way t) (M.stN t) else M
def Ms.resF : Nat → Nat → Ms → Ms
  | 0, _, M => M
  | f + 1, t, M => if M.nl < 60 then Ms.resF f (t + 1) (M.res1 t) else M
def Ms.resend (M : Ms) : Ms := Ms.resF M.nt 0 M
def Ms.build (M : Ms) (w ns : Nat) : Ms := (w, ns, 0, 0, M.wire, M.place, M.state, M.passed, M.nxt, M.way, M.number, M.ordered, M.la, M.lw, M.lt, fun _ => false, fun _ => 0, fun _ => 0)
def Ms.enter (M : Ms) (wi : Nat) (o : Bool) : Ms := (M.w, M.ns, M.nt + 1, M.nl, va_up M.wire M.nt wi, va_up M.place M.nt none, va_up M.state M.nt 0, va_up M.passed M.nt 0, va_up M.nxt M.nt 0, va_up M.way M.nt 0, va_up M.number M.nt none, va_up M.ordered M.nt o, M.la, M.lw, M.lt, M.down, M.had, M.handed)
def Ms.stepAll : Nat → Nat → Ms → Ms
  | 0, _, M => M
  | f + 1, t, M => Ms.stepAll f (t + 1) (if M.can t = true then (M.step t).2 else M)
def Ms.delAll : Nat → Ms → Ms
  | 0, M => M
  | f + 1, M => Ms.delAll f (M.deliver 0)
def Ms.round (M : Ms) : Ms := let N := Ms.stepAll M.nt 0 M; Ms.delAll N.nl N
def Ms.settle : Nat → Ms → Nat × Ms
  | 0, M => (0, M)
  | f + 1, M => if M.left = 0 then (0, M) else let q := Ms.settle f M.round; (q.1 + 1, q.2)
/-- what holds of every state that is reached -/
def Inv (M : Ms) : Prop :=
  Wok M.w ∧ (1 ≤ M.ns ∧ M.ns ≤ 6) ∧ M.nt ≤ 200 ∧ M.nl ≤ 60 ∧ M.left ≤ 40 ∧
  (∀ t, t < M.nt → M.wire t < M.w ∧ (∀ p, M.place t = some p → p < M.ns) ∧ M.state t ≤ 2 ∧ M.nxt t ≤ nb M.w ∧ (M.state t = 2 ↔ (M.number t).isSome = true) ∧ (∀ q, M.number t = some q → q / M.w < M.handed (q % M.w))) ∧
  (∀ k, k < M.nl → M.la k < M.nt ∧ M.lt k < M.ns) ∧ sumF M.handed M.w + M.left = M.nt
end
section
/-! what the value's steps keep -/
theorem lefF_ne {st : Nat → Nat} {t v : Nat} : ∀ n, n ≤ t → lefF (va_up st t v) n = lefF st n
  | 0, _ => rfl
  | n + 1, h => by
    unfold lefF
    rw [lefF_ne n (by omega), va_up_ne _ _ (by omega)]
theorem lefF_up {st : Nat → Nat} {t v : Nat} : ∀ n, t < n → lefF (va_up st t v) n + (if st t = 2 then 0 else 1) = lefF st n + (if v = 2 then 0 else 1)
  | 0, h => by omega
  | n + 1, h => by
    unfold lefF
    by_cases e : t = n
    · subst e
      rw [lefF_ne t (Nat.le_refl _), va_up_self]
      omega
    · have := lefF_up (st := st) (t := t) (v := v) n (by omega)
      rw [va_up_ne _ _ (by omega)]
      omega
theorem sumF_ne {h : Nat → Nat} {i v : Nat} : ∀ n, n ≤ i → sumF (va_up h i v) n = sumF h n
  | 0, _ => rfl
  | n + 1, q => by
    unfold sumF
    rw [sumF_ne n (by omega), va_up_ne _ _ (by omega)]
theorem sumF_up {h : Nat → Nat} {i v : Nat} : ∀ n, i < n → sumF (va_up h i v) n + h i = sumF h n + v
  | 0, q => by omega
  | n + 1, q => by
    unfold sumF
    by_cases e : i = n
    · subst e
      rw [sumF_ne i (Nat.le_refl _), va_up_self]
      omega
    · have := sumF_up (h := h) (i := i) (v := v) n (by omega)
      rw [va_up_ne _ _ (by omega)]
      omega
theorem sumF_0 : ∀ n, sumF (fun _ => 0) n = 0
  | 0 => rfl
  | n + 1 => by unfold sumF; rw [sumF_0 n]
theorem Ms.stN_lt {M : Ms} (h : 1 ≤ M.ns) (t : Nat) : M.stN t < M.ns := by
  unfold Ms.stN
  split
  · exact Nat.mod_lt _ h
  · exact Nat.mod_lt _ h
theorem Inv.setOut {M : Ms} (h : Inv M) {t : Nat} (ht : t < M.nt) (hs : ¬ M.state t = 2) : Inv (M.setOut t) := by
  obtain ⟨h1, h2, h3, h4, h5, h6, h7, h8⟩ := h
  have e : (M.setOut t).left = M.left := by
    have := lefF_up (st := M.state) (t := t) (v := 1) M.nt ht
    rw [if_neg hs, if_neg (by decide)] at this
    show lefF (va_up M.state t 1) M.nt = lefF M.state M.nt
    omega
  refine ⟨h1, h2, h3, h4, by rw [e]; exact h5, fun u hu => ?_, h7, by rw [e]; exact h8⟩
  obtain ⟨a1, a2, a3, a4, a5, a6⟩ := h6 u hu
  refine ⟨a1, a2, ?_, a4, ?_, a6⟩
  · show va_up M.state t 1 u ≤ 2
    unfold va_up; split
    · omega
    · exact a3
  · show va_up M.state t 1 u = 2 ↔ _
    by_cases e2 : u = t
    · subst e2
      rw [va_up_self]
      exact ⟨fun q => (by cases q), fun q => absurd (a5.mpr q) hs⟩
    · rw [va_up_ne _ _ e2]; exact a5
theorem Inv.post {M : Ms} (h : Inv M) {t s : Nat} {wy : Int32} (ht : t < M.nt) (hs : s < M.ns) (hl : M.nl < 60) : Inv (M.post t wy s) := by
  obtain ⟨h1, h2, h3, h4, h5, h6, h7, h8⟩ := h
  refine ⟨h1, h2, h3, hl, h5, h6, fun k hk => ?_, h8⟩
  have hk : k < M.nl + 1 := hk
  show va_up M.la M.nl t k < M.nt ∧ va_up M.lt M.nl s k < M.ns
  by_cases e : k = M.nl
  · subst e; rw [va_up_self, va_up_self]; exact ⟨ht, hs⟩
  · rw [va_up_ne _ _ e, va_up_ne _ _ e]; exact h7 k (by omega)
theorem Inv.go {M : Ms} (h : Inv M) {t b : Nat} (ht : t < M.nt) (hb : b < nb M.w) : Inv (M.go t b) := by
  obtain ⟨h1, h2, h3, h4, h5, h6, h7, h8⟩ := h
  refine ⟨h1, h2, h3, h4, h5, fun u hu => ?_, h7, h8⟩
  obtain ⟨a1, a2, a3, a4, a5, a6⟩ := h6 u hu
  refine ⟨?_, a2, a3, ?_, a5, a6⟩
  · show va_up M.wire t _ u < M.w
    by_cases e : u = t
    · subst e; rw [va_up_self]; split
      · exact uU_lt h1 hb
      · exact uL_lt h1 hb
    · rw [va_up_ne _ _ e]; exact a1
  · show va_up M.nxt t (b + 1) u ≤ nb M.w
    by_cases e : u = t
    · subst e; rw [va_up_self]; exact hb
    · rw [va_up_ne _ _ e]; exact a4
theorem Inv.out {M : Ms} (h : Inv M) {t i : Nat} (ht : t < M.nt) (hs : ¬ M.state t = 2) (hi : i < M.w) : Inv (M.out t i) := by
  obtain ⟨h1, h2, h3, h4, h5, h6, h7, h8⟩ := h
  have e : (M.out t i).left + 1 = M.left := by
    have := lefF_up (st := M.state) (t := t) (v := 2) M.nt ht
    rw [if_neg hs, if_pos rfl] at this
    show lefF (va_up M.state t 2) M.nt + 1 = lefF M.state M.nt
    omega
  have e2 : sumF (M.out t i).handed M.w = sumF M.handed M.w + 1 := by
    have := sumF_up (h := M.handed) (i := i) (v := M.handed i + 1) M.w hi
    show sumF (va_up M.handed i (M.handed i + 1)) M.w = sumF M.handed M.w + 1
    omega
  refine ⟨h1, h2, h3, h4, by omega, fun u hu => ?_, h7, ?_⟩
  · obtain ⟨a1, a2, a3, a4, a5, a6⟩ := h6 u hu
    have mono : ∀ j, M.handed j ≤ va_up M.handed i (M.handed i + 1) j := by
      intro j
      by_cases e : j = i
      · subst e; rw [va_up_self]; omega
      · rw [va_up_ne _ _ e]; exact Nat.le_refl _
    refine ⟨a1, a2, ?_, a4, ?_, ?_⟩
    · show va_up M.state t 2 u ≤ 2
      unfold va_up; split
      · omega
      · exact a3
    · show va_up M.state t 2 u = 2 ↔ (va_up M.number t (some (i + M.w * M.handed i)) u).isSome = true
      by_cases e : u = t
      · subst e; rw [va_up_self, va_up_self]; exact ⟨fun _ => rfl, fun _ => rfl⟩
      · rw [va_up_ne _ _ e, va_up_ne _ _ e]; exact a5
    · show ∀ q, va_up M.number t (some (i + M.w * M.handed i)) u = some q → q / M.w < va_up M.handed i (M.handed i + 1) (q % M.w)
      intro q hq
      by_cases e : u = t
      · subst e; rw [va_up_self] at hq
        cases hq
        have hw : 0 < M.w := by have := h1.pos; omega
        rw [Nat.add_mul_mod_self_left, Nat.mod_eq_of_lt hi, va_up_self, Nat.add_mul_div_left _ _ hw, Nat.div_eq_of_lt hi]
        omega
      · rw [va_up_ne _ _ e] at hq
        exact Nat.lt_of_lt_of_le (a6 q hq) (mono _)
  · show sumF (M.out t i).handed M.w + (M.out t i).left = M.nt
    omega
theorem Inv.take {M : Ms} (h : Inv M) {i : Nat} (hi : i < M.nl) : Inv (M.take i) := by
  obtain ⟨h1, h2, h3, h4, h5, h6, h7, h8⟩ := h
  refine ⟨h1, h2, h3, ?_, h5, h6, fun k hk => ?_, h8⟩
  · show M.nl - 1 ≤ 60
    omega
  · have hk : k < M.nl - 1 := hk
    show shf M.la i k < M.nt ∧ shf M.lt i k < M.ns
    unfold shf
    split
    · exact h7 k (by omega)
    · exact h7 (k + 1) (by omega)
theorem Inv.arrive {M : Ms} (h : Inv M) {t s : Nat} (ht : t < M.nt) (hs : M.state t = 1) (h0 : s < M.ns) : Inv (M.arrive t s) := by
  obtain ⟨h1, h2, h3, h4, h5, h6, h7, h8⟩ := h
  have e : (M.arrive t s).left = M.left := by
    have := lefF_up (st := M.state) (t := t) (v := 0) M.nt ht
    rw [if_neg (by rw [hs]; decide), if_neg (by decide)] at this
    show lefF (va_up M.state t 0) M.nt = lefF M.state M.nt
    omega
  refine ⟨h1, h2, h3, h4, by rw [e]; exact h5, fun u hu => ?_, h7, by rw [e]; exact h8⟩
  obtain ⟨a1, a2, a3, a4, a5, a6⟩ := h6 u hu
  refine ⟨a1, ?_, ?_, a4, ?_, a6⟩
  · show ∀ p, va_up M.place t (some s) u = some p → p < M.ns
    intro p hp
    by_cases e : u = t
    · subst e; rw [va_up_self] at hp; cases hp; exact h0
    · rw [va_up_ne _ _ e] at hp; exact a2 p hp
  · show va_up M.state t 0 u ≤ 2
    unfold va_up; split
    · omega
    · exact a3
  · show va_up M.state t 0 u = 2 ↔ _
    by_cases e2 : u = t
    · subst e2
      rw [va_up_self]
      refine ⟨fun q => (by cases q), fun q => ?_⟩
      have := a5.mpr q
      omega
    · rw [va_up_ne _ _ e2]; exact a5
theorem Inv.enter {M : Ms} (h : Inv M) {wi : Nat} {o : Bool} (hw : wi < M.w) (h9 : M.nt < 200) (hl : M.left < 40) : Inv (M.enter wi o) := by
  obtain ⟨h1, h2, h3, h4, h5, h6, h7, h8⟩ := h
  have e : (M.enter wi o).left = M.left + 1 := by
    show lefF (va_up M.state M.nt 0) M.nt + (if va_up M.state M.nt 0 M.nt = 2 then 0 else 1) = lefF M.state M.nt + 1
    rw [lefF_ne M.nt (Nat.le_refl _), va_up_self, if_neg (by decide)]
  refine ⟨h1, h2, h9, h4, by omega, fun u hu => ?_, fun k hk => ?_, ?_⟩
  · have hu : u < M.nt + 1 := hu
    show va_up M.wire M.nt wi u < M.w ∧ (∀ p, va_up M.place M.nt none u = some p → p < M.ns) ∧ va_up M.state M.nt 0 u ≤ 2 ∧ va_up M.nxt M.nt 0 u ≤ nb M.w ∧ (va_up M.state M.nt 0 u = 2 ↔ (va_up M.number M.nt none u).isSome = true) ∧ (∀ q, va_up M.number M.nt none u = some q → q / M.w < M.handed (q % M.w))
    by_cases e : u = M.nt
    · subst e
      simp only [va_up_self]
      exact ⟨hw, fun p hp => (by cases hp), by omega, by omega, ⟨fun q => (by cases q), fun q => (by cases q)⟩, fun q hq => (by cases hq)⟩
    · simp only [va_up_ne _ _ e]
      exact h6 u (by omega)
  · have := h7 k hk
    exact ⟨Nat.lt_succ_of_lt this.1, this.2⟩
  · show sumF M.handed M.w + (M.enter wi o).left = M.nt + 1
    omega
theorem Inv.build {M : Ms} {w ns : Nat} (hw : Wok w) (hs : 1 ≤ ns ∧ ns ≤ 6) : Inv (M.build w ns) :=
  ⟨hw, hs, Nat.zero_le _, Nat.zero_le _, Nat.zero_le _, fun t ht => absurd ht (Nat.not_lt_zero t), fun t ht => absurd ht (Nat.not_lt_zero t), by show sumF (fun _ => 0) w + 0 = 0; rw [sumF_0]⟩
theorem Inv.station {M : Ms} (h : Inv M) (f : Nat → Bool) : Inv (M.s_down f) := h
theorem Ms.can_spec {M : Ms} {t : Nat} (h : M.can t = true) : ¬ M.state t = 2 ∧ M.asleep t = false ∧ (M.nl < 60 ∨ M.state t = 1 ∨ M.place t = some (M.stN t)) := by
  unfold Ms.can at h
  simp only [Bool.and_eq_true, Bool.or_eq_true, Bool.not_eq_true', beq_iff_eq, beq_eq_false_iff_ne, decide_eq_true_eq, ne_eq] at h
  obtain ⟨⟨h1, h2⟩, h3⟩ := h
  refine ⟨h1, h2, ?_⟩
  rcases h3 with (h3 | h3) | h3
  · exact Or.inl h3
  · exact Or.inr (Or.inl h3)
  · exact Or.inr (Or.inr h3)
theorem Inv.step {M : Ms} (h : Inv M) {t : Nat} (ht : t < M.nt) (hc : M.can t = true) : Inv (M.step t).2 := by
  obtain ⟨c1, c2, c3⟩ := Ms.can_spec hc
  have hw := h.1
  have hn := h.2.1.1
  unfold Ms.step
  split
  · exact h
  · rename_i n1
    split
    · rename_i n2
      refine (h.setOut ht c1).post ht (Ms.stN_lt hn t) ?_
      rcases c3 with c3 | c3 | c3
      · exact c3
      · exact absurd c3 n1
      · exact absurd c3 n2
    · split
      · rename_i b hb
        exact h.go ht (nxB_lt hb)
      · exact h.out ht c1 (uX_lt hw (h.2.2.2.2.2.1 t ht).1)
theorem Ms.step_nt (M : Ms) (t : Nat) : (M.step t).2.nt = M.nt := by
  unfold Ms.step
  split
  · rfl
  · split
    · rfl
    · split <;> rfl
theorem Ms.comes_spec {M : Ms} {i : Nat} (h : M.comes i = true) : M.down (M.lt i) = false ∧ M.state (M.la i) = 1 ∧ M.way (M.la i) = M.lw i := by
  unfold Ms.comes at h
  simp only [Bool.and_eq_true, Bool.not_eq_true', beq_iff_eq] at h
  exact ⟨h.1.1, h.1.2, h.2⟩
theorem Inv.deliver {M : Ms} (h : Inv M) {i : Nat} (hi : i < M.nl) : Inv (M.deliver i) := by
  unfold Ms.deliver
  split
  · rename_i hc
    obtain ⟨c1, c2, c3⟩ := Ms.comes_spec hc
    have := h.2.2.2.2.2.2.1 i hi
    exact (h.take hi).arrive this.1 c2 this.2
  · exact h.take hi
theorem Ms.deliver_nl (M : Ms) (i : Nat) : (M.deliver i).nl = M.nl - 1 := by
  unfold Ms.deliver
  split <;> rfl
theorem Inv.res1 {M : Ms} (h : Inv M) {t : Nat} (ht : t < M.nt) (hl : M.nl < 60) : Inv (M.res1 t) := by
  unfold Ms.res1
  split
  · exact h.post ht (Ms.stN_lt h.2.1.1 t) hl
  · exact h
theorem Ms.res1_nt (M : Ms) (t : Nat) : (M.res1 t).nt = M.nt := by unfold Ms.res1; split <;> rfl
theorem Inv.stepAll : ∀ (f t : Nat) (M : Ms), Inv M → t + f ≤ M.nt → Inv (Ms.stepAll f t M) ∧ (Ms.stepAll f t M).nt = M.nt
  | 0, _, M, h, _ => ⟨h, rfl⟩
  | f + 1, t, M, h, hf => by
    unfold Ms.stepAll
    split
    · rename_i hc
      have := Inv.stepAll f (t + 1) _ (h.step (by omega) hc) (by rw [Ms.step_nt]; omega)
      exact ⟨this.1, this.2.trans (Ms.step_nt M t)⟩
    · exact Inv.stepAll f (t + 1) M h (by omega)
theorem Inv.delAll : ∀ (f : Nat) (M : Ms), Inv M → f ≤ M.nl → Inv (Ms.delAll f M)
  | 0, _, h, _ => h
  | f + 1, M, h, hf => by
    unfold Ms.delAll
    exact Inv.delAll f _ (h.deliver (by omega)) (by rw [Ms.deliver_nl]; omega)
theorem Inv.round {M : Ms} (h : Inv M) : Inv M.round := by
  unfold Ms.round
  exact Inv.delAll _ _ (Inv.stepAll _ _ M h (by omega)).1 (Nat.le_refl _)
theorem Inv.resF : ∀ (f t : Nat) (M : Ms), Inv M → t + f ≤ M.nt → Inv (Ms.resF f t M)
  | 0, _, _, h, _ => h
  | f + 1, t, M, h, hf => by
    unfold Ms.resF
    split
    · rename_i hl
      exact Inv.resF f (t + 1) _ (h.res1 (by omega) hl) (by rw [Ms.res1_nt]; omega)
    · exact h
theorem Inv.settle : ∀ (f : Nat) (M : Ms), Inv M → Inv (Ms.settle f M).2
  | 0, _, h => h
  | f + 1, M, h => by
    unfold Ms.settle
    split
    · exact h
    · exact Inv.settle f _ h.round
end
section
/-! the value, written in ints: both sides' fields and rows -/
def eO : Option Nat → Int32
  | none => -1
  | some p => nI p
def eB : Bool → Int32
  | false => 0
  | true => 1
def eI (x : Int32) : Int32 := x
def eP (n : Nat) : Int32 := nI n - 1
def AR {α : Type} (n : Nat) (enc : α → Int32) (f : Nat → Int32) (g : Nat → α) : Prop := ∀ t, t < n → f t = enc (g t)
theorem AR.up {α : Type} {n : Nat} {enc : α → Int32} {f : Nat → Int32} {g : Nat → α} (h : AR n enc f g) {x : Int32} {y : α} (i : Nat) (e : x = enc y) : AR n enc (upd f i x) (va_up g i y) := by
  intro t ht
  by_cases q : t = i
  · subst q; rw [pk_us, va_up_self]; exact e
  · rw [pk_un q, va_up_ne _ _ q]; exact h t ht
theorem AR.push {α : Type} {n : Nat} {enc : α → Int32} {f : Nat → Int32} {g : Nat → α} (h : AR n enc f g) {x : Int32} {y : α} (e : x = enc y) : AR (n + 1) enc (upd f n x) (va_up g n y) := by
  intro t ht
  by_cases q : t = n
  · subst q; rw [pk_us, va_up_self]; exact e
  · rw [pk_un q, va_up_ne _ _ q]; exact h t (by omega)
theorem AR.cut {α : Type} {n : Nat} {enc : α → Int32} {f : Nat → Int32} {g : Nat → α} (h : AR n enc f g) {i : Nat} (hi : i < n) : AR (n - 1) enc (va_cpy f f (i + 1) i (n - i - 1)) (shf g i) := by
  intro t ht
  unfold shf
  by_cases q : t < i
  · rw [pk_cpy_out (Or.inl q), if_pos q]; exact h t (by omega)
  · rw [pk_cpy_in (by omega) (by omega), if_neg q, show i + 1 + (t - i) = t + 1 by omega]; exact h (t + 1) (by omega)
theorem AR.of {α : Type} {n : Nat} {enc : α → Int32} {f f' : Nat → Int32} {g : Nat → α} (h : AR n enc f g) (e : ∀ t, t < n → f' t = f t) : AR n enc f' g := fun t ht => (e t ht).trans (h t ht)
def rep (x0 x1 x2 x3 : Int32) (a0 a1 a2 a3 a4 a5 a6 a7 a8 a9 a10 a11 a12 a13 : Nat → Int32) (M : Ms) : Prop :=
  (x0 = nI M.w ∧ x1 = nI M.ns ∧ x2 = nI M.nt ∧ x3 = nI M.nl) ∧ AR M.nt nI a0 M.wire ∧ AR M.nt eO a1 M.place ∧ AR M.nt nI a2 M.state ∧ AR M.nt eI a3 M.passed ∧ AR M.nt eP a4 M.nxt ∧ AR M.nt eI a5 M.way ∧ AR M.nt eO a6 M.number ∧ AR M.nt eB a7 M.ordered ∧
  AR M.nl nI a8 M.la ∧ AR M.nl eI a9 M.lw ∧ AR M.nl nI a10 M.lt ∧ AR 6 eB a11 M.down ∧ AR (nb M.w) eI a12 M.had ∧ AR M.w nI a13 M.handed
section Rep
variable {x0 x1 x2 x3 : Int32} {a0 a1 a2 a3 a4 a5 a6 a7 a8 a9 a10 a11 a12 a13 : Nat → Int32} {M : Ms}
theorem rep.setOut (h : rep x0 x1 x2 x3 a0 a1 a2 a3 a4 a5 a6 a7 a8 a9 a10 a11 a12 a13 M) {t : Nat} (ht : t < M.nt) : rep x0 x1 x2 x3 a0 a1 (upd a2 t 1) a3 a4 (upd a5 t (a5 t + 1)) a6 a7 a8 a9 a10 a11 a12 a13 (M.setOut t) := by
  obtain ⟨s, h0, h1, h2, h3, h4, h5, h6, h7, h8, h9, h10, h11, h12, h13⟩ := h
  exact ⟨s, h0, h1, h2.up t (by decide), h3, h4, h5.up t (by rw [h5 t ht]; rfl), h6, h7, h8, h9, h10, h11, h12, h13⟩
theorem rep.post (h : rep x0 x1 x2 x3 a0 a1 a2 a3 a4 a5 a6 a7 a8 a9 a10 a11 a12 a13 M) {t s : Nat} {y wy z : Int32} (ey : y = nI t) (ez : z = nI s) : rep x0 x1 x2 (x3 + 1) a0 a1 a2 a3 a4 a5 a6 a7 (upd a8 M.nl y) (upd a9 M.nl wy) (upd a10 M.nl z) a11 a12 a13 (M.post t wy s) := by
  obtain ⟨⟨s0, s1, s2, s3⟩, h0, h1, h2, h3, h4, h5, h6, h7, h8, h9, h10, h11, h12, h13⟩ := h
  exact ⟨⟨s0, s1, s2, by rw [s3, nI_1]; rfl⟩, h0, h1, h2, h3, h4, h5, h6, h7, h8.push ey, h9.push rfl, h10.push ez, h11, h12, h13⟩
theorem rep.go (h : rep x0 x1 x2 x3 a0 a1 a2 a3 a4 a5 a6 a7 a8 a9 a10 a11 a12 a13 M) {t b : Nat} (ht : t < M.nt) (hb : b < nb M.w) {v y : Int32} (ev : v = nI (if M.had b - M.had b / 2 * 2 = 0 then uU M.w b else uL M.w b)) (ey : y = nI b) :
    rep x0 x1 x2 x3 (upd a0 t v) a1 a2 (upd a3 t (a3 t + 1)) (upd a4 t y) a5 a6 a7 a8 a9 a10 a11 (upd a12 b (a12 b + 1)) a13 (M.go t b) := by
  obtain ⟨s, h0, h1, h2, h3, h4, h5, h6, h7, h8, h9, h10, h11, h12, h13⟩ := h
  exact ⟨s, h0.up t ev, h1, h2, h3.up t (by rw [h3 t ht]; rfl), h4.up t (by rw [ey]; unfold eP; rw [nI_pred]), h5, h6, h7, h8, h9, h10, h11, h12.up b (by rw [h12 b hb]; rfl), h13⟩
theorem rep.out (h : rep x0 x1 x2 x3 a0 a1 a2 a3 a4 a5 a6 a7 a8 a9 a10 a11 a12 a13 M) {t i : Nat} (hi : i < M.w) {v : Int32} (ev : v = nI (i + M.w * M.handed i)) :
    rep x0 x1 x2 x3 a0 a1 (upd a2 t 2) a3 a4 a5 (upd a6 t v) a7 a8 a9 a10 a11 a12 (upd a13 i (a13 i + 1)) (M.out t i) := by
  obtain ⟨s, h0, h1, h2, h3, h4, h5, h6, h7, h8, h9, h10, h11, h12, h13⟩ := h
  exact ⟨s, h0, h1, h2.up t (by decide), h3, h4, h5, h6.up t ev, h7, h8, h9, h10, h11, h12, h13.up i (by rw [h13 i hi, nI_1])⟩
theorem rep.take (h : rep x0 x1 x2 x3 a0 a1 a2 a3 a4 a5 a6 a7 a8 a9 a10 a11 a12 a13 M) {i : Nat} (hi : i < M.nl) {b8 b9 b10 : Nat → Int32} (e8 : AR (M.nl - 1) nI b8 (shf M.la i)) (e9 : AR (M.nl - 1) eI b9 (shf M.lw i)) (e10 : AR (M.nl - 1) nI b10 (shf M.lt i)) :
    rep x0 x1 x2 (x3 - 1) a0 a1 a2 a3 a4 a5 a6 a7 b8 b9 b10 a11 a12 a13 (M.take i) := by
  obtain ⟨⟨s0, s1, s2, s3⟩, h0, h1, h2, h3, h4, h5, h6, h7, h8, h9, h10, h11, h12, h13⟩ := h
  refine ⟨⟨s0, s1, s2, ?_⟩, h0, h1, h2, h3, h4, h5, h6, h7, e8, e9, e10, h11, h12, h13⟩
  rw [s3]
  obtain ⟨n, hn⟩ : ∃ n, M.nl = n + 1 := ⟨M.nl - 1, by omega⟩
  show nI M.nl - 1 = nI (M.nl - 1)
  rw [hn, nI_pred]
  rfl
theorem rep.arrive (h : rep x0 x1 x2 x3 a0 a1 a2 a3 a4 a5 a6 a7 a8 a9 a10 a11 a12 a13 M) {t s : Nat} {v : Int32} (ev : v = nI s) : rep x0 x1 x2 x3 a0 (upd a1 t v) (upd a2 t 0) a3 a4 a5 a6 a7 a8 a9 a10 a11 a12 a13 (M.arrive t s) := by
  obtain ⟨s, h0, h1, h2, h3, h4, h5, h6, h7, h8, h9, h10, h11, h12, h13⟩ := h
  exact ⟨s, h0, h1.up t ev, h2.up t (by decide), h3, h4, h5, h6, h7, h8, h9, h10, h11, h12, h13⟩
theorem rep.enter (h : rep x0 x1 x2 x3 a0 a1 a2 a3 a4 a5 a6 a7 a8 a9 a10 a11 a12 a13 M) {wi : Nat} {o : Bool} {v z : Int32} (ev : v = nI wi) (ez : z = eB o) :
    rep x0 x1 (x2 + 1) x3 (upd a0 M.nt v) (upd a1 M.nt (-1)) (upd a2 M.nt 0) (upd a3 M.nt 0) (upd a4 M.nt (-1)) (upd a5 M.nt 0) (upd a6 M.nt (-1)) (upd a7 M.nt z) a8 a9 a10 a11 a12 a13 (M.enter wi o) := by
  obtain ⟨⟨s0, s1, s2, s3⟩, h0, h1, h2, h3, h4, h5, h6, h7, h8, h9, h10, h11, h12, h13⟩ := h
  exact ⟨⟨s0, s1, by rw [s2, nI_1]; rfl, s3⟩, h0.push ev, h1.push rfl, h2.push (by decide), h3.push rfl, h4.push (by decide), h5.push rfl, h6.push rfl, h7.push ez, h8, h9, h10, h11, h12, h13⟩
theorem rep.build {w ns : Nat} (e0 : x0 = nI w) (e1 : x1 = nI ns) (e2 : x2 = 0) (e3 : x3 = 0) (h11 : ∀ t, t < 6 → a11 t = 0) (h12 : ∀ t, t < nb w → a12 t = 0) (h13 : ∀ t, t < w → a13 t = 0) : rep x0 x1 x2 x3 a0 a1 a2 a3 a4 a5 a6 a7 a8 a9 a10 a11 a12 a13 (M.build w ns) := by
  refine ⟨⟨e0, e1, e2.trans nI_0.symm, e3.trans nI_0.symm⟩, ?_, ?_, ?_, ?_, ?_, ?_, ?_, ?_, ?_, ?_, ?_, h11, h12, fun t ht => (h13 t ht).trans nI_0.symm⟩
  all_goals (intro t ht; exact absurd ht (Nat.not_lt_zero t))
theorem rep.station (h : rep x0 x1 x2 x3 a0 a1 a2 a3 a4 a5 a6 a7 a8 a9 a10 a11 a12 a13 M) {s : Nat} {o : Bool} {z : Int32} (ez : z = eB o) : rep x0 x1 x2 x3 a0 a1 a2 a3 a4 a5 a6 a7 a8 a9 a10 (upd a11 s z) a12 a13 (M.s_down (va_up M.down s o)) := by
  obtain ⟨s, h0, h1, h2, h3, h4, h5, h6, h7, h8, h9, h10, h11, h12, h13⟩ := h
  exact ⟨s, h0, h1, h2, h3, h4, h5, h6, h7, h8, h9, h10, h11.up _ ez, h12, h13⟩
end Rep
end
section
/-! counting: which numbers are handed out -/
def minF (h : Nat → Nat) (w : Nat) : Nat → Nat
  | 0 => w * h 0
  | n + 1 => min (minF h w n) (n + 1 + w * h (n + 1))
theorem minF_le {h : Nat → Nat} {w : Nat} : ∀ (n i : Nat), i ≤ n → minF h w n ≤ i + w * h i
  | 0, i, hi => by
    have : i = 0 := by omega
    subst this; unfold minF; omega
  | n + 1, i, hi => by
    unfold minF
    by_cases e : i = n + 1
    · subst e; omega
    · have := minF_le (h := h) (w := w) n i (by omega); omega
theorem le_minF {h : Nat → Nat} {w q : Nat} : ∀ (n : Nat), (∀ i, i ≤ n → q ≤ i + w * h i) → q ≤ minF h w n
  | 0, a => by have := a 0 (Nat.le_refl _); unfold minF; omega
  | n + 1, a => by
    unfold minF
    have h1 := le_minF n (fun i hi => a i (by omega))
    have h2 := a (n + 1) (Nat.le_refl _)
    omega
theorem least_iff {h : Nat → Nat} {w q : Nat} (hw : 0 < w) : (∀ n, n < q → n / w < h (n % w)) ↔ q ≤ minF h w (w - 1) := by
  constructor
  · intro a
    refine le_minF _ (fun i hi => ?_)
    rcases Nat.lt_or_ge (i + w * h i) q with hlt | hge
    · have := a _ hlt
      rw [Nat.add_mul_mod_self_left, Nat.mod_eq_of_lt (by omega), Nat.add_mul_div_left _ _ hw, Nat.div_eq_of_lt (by omega)] at this
      omega
    · exact hge
  · intro a n hn
    have hm : n % w < w := Nat.mod_lt _ hw
    have h1 := minF_le (h := h) (w := w) (w - 1) (n % w) (by omega)
    have h2 := Nat.mod_add_div n w
    have h3 : w * (n / w) < w * h (n % w) := by omega
    exact Nat.lt_of_mul_lt_mul_left h3
def hi1 (h : Nat → Nat) (w : Nat) : Nat → Nat
  | 0 => 0
  | n + 1 => max (hi1 h w n) (if h n = 0 then 0 else n + w * (h n - 1) + 1)
theorem hi1_ge {h : Nat → Nat} {w : Nat} : ∀ (n i : Nat), i < n → h i ≠ 0 → i + w * (h i - 1) + 1 ≤ hi1 h w n
  | 0, _, hi, _ => by omega
  | n + 1, i, hi, h0 => by
    unfold hi1
    by_cases e : i = n
    · subst e; rw [if_neg h0]; omega
    · have := hi1_ge (h := h) (w := w) n i (by omega) h0; omega
theorem hi1_at {h : Nat → Nat} {w : Nat} : ∀ (n : Nat), hi1 h w n = 0 ∨ ∃ i, i < n ∧ h i ≠ 0 ∧ hi1 h w n = i + w * (h i - 1) + 1
  | 0 => Or.inl rfl
  | n + 1 => by
    unfold hi1
    by_cases e : h n = 0
    · rw [if_pos e]
      rcases hi1_at (h := h) (w := w) n with a | ⟨i, a, b, c⟩
      · exact Or.inl (by omega)
      · exact Or.inr ⟨i, by omega, b, by omega⟩
    · rw [if_neg e]
      rcases Nat.le_total (hi1 h w n) (n + w * (h n - 1) + 1) with q | q
      · exact Or.inr ⟨n, by omega, e, by omega⟩
      · rcases hi1_at (h := h) (w := w) n with a | ⟨i, a, b, c⟩
        · omega
        · exact Or.inr ⟨i, by omega, b, by omega⟩
def cnF (h : Nat → Nat) (w : Nat) : Nat → Nat
  | 0 => 0
  | m + 1 => cnF h w m + (if m / w < h (m % w) then 1 else 0)
def gaF (h : Nat → Nat) (w : Nat) : Nat → Nat
  | 0 => 0
  | m + 1 => gaF h w m + (if m / w < h (m % w) then 0 else 1)
theorem cn_ga {h : Nat → Nat} {w : Nat} : ∀ m, cnF h w m + gaF h w m = m
  | 0 => rfl
  | m + 1 => by
    unfold cnF gaF
    have := cn_ga (h := h) (w := w) m
    split <;> omega
def miF (h : Nat → Nat) (m : Nat) : Nat → Nat
  | 0 => 0
  | n + 1 => miF h m n + min m (h n)
theorem cn_blk {h : Nat → Nat} {w m : Nat} (hw : 0 < w) : ∀ n, n ≤ w → cnF h w (w * m + n) + miF h m n = cnF h w (w * m) + miF h (m + 1) n
  | 0, _ => rfl
  | n + 1, hn => by
    have ih := cn_blk (h := h) (m := m) hw n (by omega)
    show cnF h w (w * m + n) + (if (w * m + n) / w < h ((w * m + n) % w) then 1 else 0) + (miF h m n + min m (h n)) = cnF h w (w * m) + (miF h (m + 1) n + min (m + 1) (h n))
    have e1 : (w * m + n) / w = m := by rw [Nat.add_comm, Nat.add_mul_div_left _ _ hw, Nat.div_eq_of_lt (by omega), Nat.zero_add]
    have e2 : (w * m + n) % w = n := by rw [Nat.add_comm, Nat.add_mul_mod_self_left, Nat.mod_eq_of_lt (by omega)]
    rw [e1, e2]
    split <;> omega
theorem miF_0 {h : Nat → Nat} : ∀ n, miF h 0 n = 0
  | 0 => rfl
  | n + 1 => by unfold miF; rw [miF_0 n]; omega
theorem cn_mul {h : Nat → Nat} {w : Nat} (hw : 0 < w) : ∀ m, cnF h w (w * m) = miF h m w
  | 0 => by rw [Nat.mul_zero, miF_0]; rfl
  | m + 1 => by
    have h1 := cn_blk (h := h) (m := m) hw w (Nat.le_refl _)
    have h2 := cn_mul (h := h) hw m
    rw [Nat.mul_succ]
    omega
theorem miF_big {h : Nat → Nat} {m : Nat} : ∀ n, (∀ i, i < n → h i ≤ m) → miF h m n = sumF h n
  | 0, _ => rfl
  | n + 1, a => by
    unfold miF sumF
    rw [miF_big n (fun i hi => a i (by omega))]
    have := a n (by omega)
    omega
theorem cn_past {h : Nat → Nat} {w a : Nat} : ∀ d, (∀ k, a ≤ k → ¬ k / w < h (k % w)) → cnF h w (a + d) = cnF h w a
  | 0, _ => rfl
  | d + 1, q => by
    show cnF h w (a + d) + (if (a + d) / w < h ((a + d) % w) then 1 else 0) = cnF h w a
    rw [if_neg (q (a + d) (by omega)), cn_past d q, Nat.add_zero]
theorem le_sumF {h : Nat → Nat} : ∀ (n i : Nat), i < n → h i ≤ sumF h n
  | 0, _, hi => by omega
  | n + 1, i, hi => by
    unfold sumF
    by_cases e : i = n
    · subst e; omega
    · have := le_sumF (h := h) n i (by omega); omega
theorem past_hi {h : Nat → Nat} {w k : Nat} (hw : 0 < w) (hk : hi1 h w w ≤ k) : ¬ k / w < h (k % w) := by
  intro a
  have hm : k % w < w := Nat.mod_lt _ hw
  have h1 := hi1_ge (h := h) (w := w) w (k % w) hm (fun h0 => by rw [h0] at a; exact Nat.not_lt_zero _ a)
  have h2 := Nat.mod_add_div k w
  have h3 : w * (k / w) ≤ w * (h (k % w) - 1) := Nat.mul_le_mul_left _ (Nat.le_sub_one_of_lt a)
  generalize w * (k / w) = x1 at h2 h3
  generalize w * (h (k % w) - 1) = x2 at h1 h3
  generalize k % w = x3 at h1 h2
  omega
theorem cn_hi {h : Nat → Nat} {w : Nat} (hw : 0 < w) : cnF h w (hi1 h w w) = sumF h w := by
  have hb : hi1 h w w ≤ w * (hi1 h w w + sumF h w) := by
    have : 1 * (hi1 h w w + sumF h w) ≤ w * (hi1 h w w + sumF h w) := Nat.mul_le_mul_right _ hw
    omega
  have h1 := cn_mul (h := h) hw (hi1 h w w + sumF h w)
  rw [miF_big w (fun i hi => Nat.le_trans (le_sumF w i hi) (by omega))] at h1
  have h2 := cn_past (h := h) (w := w) (a := hi1 h w w) (w * (hi1 h w w + sumF h w) - hi1 h w w) (fun k hk => past_hi hw hk)
  rw [show hi1 h w w + (w * (hi1 h w w + sumF h w) - hi1 h w w) = w * (hi1 h w w + sumF h w) by omega] at h2
  exact h2.symm.trans h1
/-- the gaps below the highest number -/
theorem ga_hi {h : Nat → Nat} {w : Nat} (hw : 0 < w) : gaF h w (hi1 h w w - 1) + sumF h w = hi1 h w w := by
  have h1 := cn_hi (h := h) hw
  have h2 := cn_ga (h := h) (w := w) (hi1 h w w)
  rcases hi1_at (h := h) (w := w) w with e | ⟨i, a, b, e⟩
  · rw [e] at h1 h2 ⊢
    show 0 + _ = _
    have : cnF h w 0 = 0 := rfl
    omega
  · have h3 : hi1 h w w = (i + w * (h i - 1)) + 1 := e
    rw [h3] at h1 h2 ⊢
    rw [Nat.add_sub_cancel]
    have h4 : gaF h w (i + w * (h i - 1) + 1) = gaF h w (i + w * (h i - 1)) + (if (i + w * (h i - 1)) / w < h ((i + w * (h i - 1)) % w) then 0 else 1) := rfl
    rw [h4] at h2
    have e1 : (i + w * (h i - 1)) / w = h i - 1 := by rw [Nat.add_mul_div_left _ _ hw, Nat.div_eq_of_lt a, Nat.zero_add]
    have e2 : (i + w * (h i - 1)) % w = i := by rw [Nat.add_mul_mod_self_left, Nat.mod_eq_of_lt a]
    rw [e1, e2, if_pos (by omega)] at h2
    omega
end
section
/-! names: classes, fields, methods (by program) -/
def RN : String := "CountingNetwork"
def FdN : u_T := fun k => match k with
  | 0 => ("CountingNetwork", "plan", "LCountingNetwork$Plan;", true)
  | 1 => ("CountingNetwork", "tokens", "LCountingNetwork$Tokens;", true)
  | 2 => ("CountingNetwork", "bag", "LCountingNetwork$Bag;", true)
  | 3 => ("CountingNetwork", "had", "[I", true)
  | 4 => ("CountingNetwork", "handedOut", "[I", true)
  | 5 => ("CountingNetwork", "down", "[Z", true)
  | _ => ("CountingNetwork", "stations", "I", false)
def tyN : Nat → FieldType := fun k => match k with
  | 0 => .object "CountingNetwork$Plan"
  | 1 => .object "CountingNetwork$Tokens"
  | 2 => .object "CountingNetwork$Bag"
  | 3 => .array .int
  | 4 => .array .int
  | 5 => .array .boolean
  | _ => .int
theorem nmN : ∀ a, a < 7 → ∀ b, b < 7 → a ≠ b → (FdN a).2.1 ≠ (FdN b).2.1 := by decide +kernel
theorem tyN_ok : ∀ k, k < 7 → parseFieldDescriptor (FdN k).2.2.1 = some (tyN k) := by decide +kernel
theorem clN_ok : ∀ k, k < 7 → (FdN k).1 = RN := by decide +kernel
def RP : String := "CountingNetwork$Plan"
def FdP : u_T := fun k => match k with
  | 0 => ("CountingNetwork$Plan", "width", "I", false)
  | 1 => ("CountingNetwork$Plan", "balancers", "I", false)
  | 2 => ("CountingNetwork$Plan", "columns", "I", false)
  | 3 => ("CountingNetwork$Plan", "upper", "[I", true)
  | 4 => ("CountingNetwork$Plan", "lower", "[I", true)
  | 5 => ("CountingNetwork$Plan", "column", "[I", true)
  | 6 => ("CountingNetwork$Plan", "row", "[I", true)
  | 7 => ("CountingNetwork$Plan", "columnsOnWire", "[I", true)
  | _ => ("CountingNetwork$Plan", "spare", "[I", true)
def tyP : Nat → FieldType := fun k => match k with
  | 0 => .int
  | 1 => .int
  | 2 => .int
  | 3 => .array .int
  | 4 => .array .int
  | 5 => .array .int
  | 6 => .array .int
  | 7 => .array .int
  | _ => .array .int
theorem nmP : ∀ a, a < 9 → ∀ b, b < 9 → a ≠ b → (FdP a).2.1 ≠ (FdP b).2.1 := by decide +kernel
theorem tyP_ok : ∀ k, k < 9 → parseFieldDescriptor (FdP k).2.2.1 = some (tyP k) := by decide +kernel
theorem clP_ok : ∀ k, k < 9 → (FdP k).1 = RP := by decide +kernel
def RT : String := "CountingNetwork$Tokens"
def FdT : u_T := fun k => match k with
  | 0 => ("CountingNetwork$Tokens", "entered", "I", false)
  | 1 => ("CountingNetwork$Tokens", "notDone", "I", false)
  | 2 => ("CountingNetwork$Tokens", "wire", "[I", true)
  | 3 => ("CountingNetwork$Tokens", "place", "[I", true)
  | 4 => ("CountingNetwork$Tokens", "state", "[I", true)
  | 5 => ("CountingNetwork$Tokens", "passed", "[I", true)
  | 6 => ("CountingNetwork$Tokens", "last", "[I", true)
  | 7 => ("CountingNetwork$Tokens", "way", "[I", true)
  | 8 => ("CountingNetwork$Tokens", "number", "[I", true)
  | _ => ("CountingNetwork$Tokens", "ordered", "[Z", true)
def tyT : Nat → FieldType := fun k => match k with
  | 0 => .int
  | 1 => .int
  | 2 => .array .int
  | 3 => .array .int
  | 4 => .array .int
  | 5 => .array .int
  | 6 => .array .int
  | 7 => .array .int
  | 8 => .array .int
  | _ => .array .boolean
theorem nmT : ∀ a, a < 10 → ∀ b, b < 10 → a ≠ b → (FdT a).2.1 ≠ (FdT b).2.1 := by decide +kernel
theorem tyT_ok : ∀ k, k < 10 → parseFieldDescriptor (FdT k).2.2.1 = some (tyT k) := by decide +kernel
theorem clT_ok : ∀ k, k < 10 → (FdT k).1 = RT := by decide +kernel
def RB : String := "CountingNetwork$Bag"
def FdB : u_T := fun k => match k with
  | 0 => ("CountingNetwork$Bag", "size", "I", false)
  | 1 => ("CountingNetwork$Bag", "addressee", "[I", true)
  | 2 => ("CountingNetwork$Bag", "way", "[I", true)
  | _ => ("CountingNetwork$Bag", "target", "[I", true)
def tyB : Nat → FieldType := fun k => match k with
  | 0 => .int
  | 1 => .array .int
  | 2 => .array .int
  | _ => .array .int
theorem nmB : ∀ a, a < 4 → ∀ b, b < 4 → a ≠ b → (FdB a).2.1 ≠ (FdB b).2.1 := by decide +kernel
theorem tyB_ok : ∀ k, k < 4 → parseFieldDescriptor (FdB k).2.2.1 = some (tyB k) := by decide +kernel
theorem clB_ok : ∀ k, k < 4 → (FdB k).1 = RB := by decide +kernel
def RM : String := "CountingNetworkModel"
def FdM : u_T := fun k => match k with
  | 0 => ("CountingNetworkModel", "thrown", "I", false)
  | 1 => ("CountingNetworkModel", "width", "I", false)
  | 2 => ("CountingNetworkModel", "stations", "I", false)
  | 3 => ("CountingNetworkModel", "balancers", "I", false)
  | 4 => ("CountingNetworkModel", "uppers", "[I", true)
  | 5 => ("CountingNetworkModel", "lowers", "[I", true)
  | 6 => ("CountingNetworkModel", "columns", "[I", true)
  | 7 => ("CountingNetworkModel", "had", "[I", true)
  | 8 => ("CountingNetworkModel", "exits", "[I", true)
  | 9 => ("CountingNetworkModel", "handed", "[I", true)
  | 10 => ("CountingNetworkModel", "down", "[Z", true)
  | 11 => ("CountingNetworkModel", "rows", "[I", true)
  | 12 => ("CountingNetworkModel", "tokens", "I", false)
  | 13 => ("CountingNetworkModel", "wires", "[I", true)
  | 14 => ("CountingNetworkModel", "places", "[I", true)
  | 15 => ("CountingNetworkModel", "states", "[I", true)
  | 16 => ("CountingNetworkModel", "lastOnes", "[I", true)
  | 17 => ("CountingNetworkModel", "passed", "[I", true)
  | 18 => ("CountingNetworkModel", "numbers", "[I", true)
  | 19 => ("CountingNetworkModel", "ways", "[I", true)
  | 20 => ("CountingNetworkModel", "ordered", "[Z", true)
  | 21 => ("CountingNetworkModel", "letters", "I", false)
  | 22 => ("CountingNetworkModel", "letterTokens", "[I", true)
  | 23 => ("CountingNetworkModel", "letterStations", "[I", true)
  | _ => ("CountingNetworkModel", "letterWays", "[I", true)
def tyM : Nat → FieldType := fun k => match k with
  | 0 => .int
  | 1 => .int
  | 2 => .int
  | 3 => .int
  | 4 => .array .int
  | 5 => .array .int
  | 6 => .array .int
  | 7 => .array .int
  | 8 => .array .int
  | 9 => .array .int
  | 10 => .array .boolean
  | 11 => .array .int
  | 12 => .int
  | 13 => .array .int
  | 14 => .array .int
  | 15 => .array .int
  | 16 => .array .int
  | 17 => .array .int
  | 18 => .array .int
  | 19 => .array .int
  | 20 => .array .boolean
  | 21 => .int
  | 22 => .array .int
  | 23 => .array .int
  | _ => .array .int
theorem nmM : ∀ a, a < 25 → ∀ b, b < 25 → a ≠ b → (FdM a).2.1 ≠ (FdM b).2.1 := by decide +kernel
theorem tyM_ok : ∀ k, k < 25 → parseFieldDescriptor (FdM k).2.2.1 = some (tyM k) := by decide +kernel
theorem clM_ok : ∀ k, k < 25 → (FdM k).1 = RM := by decide +kernel
def RL : String := "CountingNetworkLaw"
abbrev b_N_init : ByteArray := prog_1_method_1_code
def y_N_init : MethodName := ⟨RN, "<init>", "()V"⟩
abbrev mt_N_init : Mt := (y_N_init, b_N_init, 1, none)
abbrev b_N_build : ByteArray := prog_1_method_2_code
def y_N_build : MethodName := ⟨RN, "build", "(II)I"⟩
abbrev mt_N_build : Mt := (y_N_build, b_N_build, 3, (some .int))
abbrev b_N_balancer : ByteArray := prog_1_method_3_code
def y_N_balancer : MethodName := ⟨RN, "balancer", "(II)I"⟩
abbrev mt_N_balancer : Mt := (y_N_balancer, b_N_balancer, 3, (some .int))
abbrev b_N_exit : ByteArray := prog_1_method_4_code
def y_N_exit : MethodName := ⟨RN, "exit", "(II)I"⟩
abbrev mt_N_exit : Mt := (y_N_exit, b_N_exit, 3, (some .int))
abbrev b_N_enter : ByteArray := prog_1_method_5_code
def y_N_enter : MethodName := ⟨RN, "enter", "(IZ)I"⟩
abbrev mt_N_enter : Mt := (y_N_enter, b_N_enter, 3, (some .int))
abbrev b_N_move : ByteArray := prog_1_method_6_code
def y_N_move : MethodName := ⟨RN, "move", "(I)I"⟩
abbrev mt_N_move : Mt := (y_N_move, b_N_move, 2, (some .int))
abbrev b_N_deliver : ByteArray := prog_1_method_7_code
def y_N_deliver : MethodName := ⟨RN, "deliver", "(I)I"⟩
abbrev mt_N_deliver : Mt := (y_N_deliver, b_N_deliver, 2, (some .int))
abbrev b_N_lose : ByteArray := prog_1_method_8_code
def y_N_lose : MethodName := ⟨RN, "lose", "(I)V"⟩
abbrev mt_N_lose : Mt := (y_N_lose, b_N_lose, 2, none)
abbrev b_N_twin : ByteArray := prog_1_method_9_code
def y_N_twin : MethodName := ⟨RN, "twin", "(I)V"⟩
abbrev mt_N_twin : Mt := (y_N_twin, b_N_twin, 2, none)
abbrev b_N_letter : ByteArray := prog_1_method_10_code
def y_N_letter : MethodName := ⟨RN, "letter", "(II)I"⟩
abbrev mt_N_letter : Mt := (y_N_letter, b_N_letter, 3, (some .int))
abbrev b_N_resend : ByteArray := prog_1_method_11_code
def y_N_resend : MethodName := ⟨RN, "resend", "()I"⟩
abbrev mt_N_resend : Mt := (y_N_resend, b_N_resend, 3, (some .int))
abbrev b_N_station : ByteArray := prog_1_method_12_code
def y_N_station : MethodName := ⟨RN, "station", "(IZ)V"⟩
abbrev mt_N_station : Mt := (y_N_station, b_N_station, 3, none)
abbrev b_N_token : ByteArray := prog_1_method_13_code
def y_N_token : MethodName := ⟨RN, "token", "(II)I"⟩
abbrev mt_N_token : Mt := (y_N_token, b_N_token, 3, (some .int))
abbrev b_N_about : ByteArray := prog_1_method_14_code
def y_N_about : MethodName := ⟨RN, "about", "(I)I"⟩
abbrev mt_N_about : Mt := (y_N_about, b_N_about, 2, (some .int))
abbrev b_N_settle : ByteArray := prog_1_method_15_code
def y_N_settle : MethodName := ⟨RN, "settle", "(I)I"⟩
abbrev mt_N_settle : Mt := (y_N_settle, b_N_settle, 3, (some .int))
abbrev b_N_startAnew : ByteArray := prog_1_method_16_code
def y_N_startAnew : MethodName := ⟨RN, "startAnew", "(II)V"⟩
abbrev mt_N_startAnew : Mt := (y_N_startAnew, b_N_startAnew, 4, none)
abbrev b_N_stationOfBalancer : ByteArray := prog_1_method_17_code
def y_N_stationOfBalancer : MethodName := ⟨RN, "stationOfBalancer", "(I)I"⟩
abbrev mt_N_stationOfBalancer : Mt := (y_N_stationOfBalancer, b_N_stationOfBalancer, 2, (some .int))
abbrev b_N_stationOfExit : ByteArray := prog_1_method_18_code
def y_N_stationOfExit : MethodName := ⟨RN, "stationOfExit", "(I)I"⟩
abbrev mt_N_stationOfExit : Mt := (y_N_stationOfExit, b_N_stationOfExit, 2, (some .int))
abbrev b_N_nextBalancer : ByteArray := prog_1_method_19_code
def y_N_nextBalancer : MethodName := ⟨RN, "nextBalancer", "(I)I"⟩
abbrev mt_N_nextBalancer : Mt := (y_N_nextBalancer, b_N_nextBalancer, 2, (some .int))
abbrev b_N_stationOfNext : ByteArray := prog_1_method_20_code
def y_N_stationOfNext : MethodName := ⟨RN, "stationOfNext", "(I)I"⟩
abbrev mt_N_stationOfNext : Mt := (y_N_stationOfNext, b_N_stationOfNext, 3, (some .int))
abbrev b_N_canStep : ByteArray := prog_1_method_21_code
def y_N_canStep : MethodName := ⟨RN, "canStep", "(I)Z"⟩
abbrev mt_N_canStep : Mt := (y_N_canStep, b_N_canStep, 2, (some .boolean))
abbrev b_N_isDown : ByteArray := prog_1_method_22_code
def y_N_isDown : MethodName := ⟨RN, "isDown", "(I)Z"⟩
abbrev mt_N_isDown : Mt := (y_N_isDown, b_N_isDown, 2, (some .boolean))
abbrev b_N_step : ByteArray := prog_1_method_23_code
def y_N_step : MethodName := ⟨RN, "step", "(I)I"⟩
abbrev mt_N_step : Mt := (y_N_step, b_N_step, 4, (some .int))
abbrev b_N_goThrough : ByteArray := prog_1_method_24_code
def y_N_goThrough : MethodName := ⟨RN, "goThrough", "(II)V"⟩
abbrev mt_N_goThrough : Mt := (y_N_goThrough, b_N_goThrough, 4, none)
abbrev b_N_comeOut : ByteArray := prog_1_method_25_code
def y_N_comeOut : MethodName := ⟨RN, "comeOut", "(II)V"⟩
abbrev mt_N_comeOut : Mt := (y_N_comeOut, b_N_comeOut, 3, none)
abbrev b_N_nextNumberAt : ByteArray := prog_1_method_26_code
def y_N_nextNumberAt : MethodName := ⟨RN, "nextNumberAt", "(I)I"⟩
abbrev mt_N_nextNumberAt : Mt := (y_N_nextNumberAt, b_N_nextNumberAt, 2, (some .int))
abbrev b_N_handOver : ByteArray := prog_1_method_27_code
def y_N_handOver : MethodName := ⟨RN, "handOver", "(I)Z"⟩
abbrev mt_N_handOver : Mt := (y_N_handOver, b_N_handOver, 5, (some .boolean))
abbrev b_N_stepAll : ByteArray := prog_1_method_28_code
def y_N_stepAll : MethodName := ⟨RN, "stepAll", "()V"⟩
abbrev mt_N_stepAll : Mt := (y_N_stepAll, b_N_stepAll, 2, none)
abbrev b_N_handOverAll : ByteArray := prog_1_method_29_code
def y_N_handOverAll : MethodName := ⟨RN, "handOverAll", "()V"⟩
abbrev mt_N_handOverAll : Mt := (y_N_handOverAll, b_N_handOverAll, 3, none)
abbrev b_N_shownNumber : ByteArray := prog_1_method_30_code
def y_N_shownNumber : MethodName := ⟨RN, "shownNumber", "(I)I"⟩
abbrev mt_N_shownNumber : Mt := (y_N_shownNumber, b_N_shownNumber, 3, (some .int))
abbrev b_N_leastMissing : ByteArray := prog_1_method_31_code
def y_N_leastMissing : MethodName := ⟨RN, "leastMissing", "()I"⟩
abbrev mt_N_leastMissing : Mt := (y_N_leastMissing, b_N_leastMissing, 3, (some .int))
abbrev b_N_highestNumber : ByteArray := prog_1_method_32_code
def y_N_highestNumber : MethodName := ⟨RN, "highestNumber", "()I"⟩
abbrev mt_N_highestNumber : Mt := (y_N_highestNumber, b_N_highestNumber, 3, (some .int))
abbrev b_N_missingBelowHighest : ByteArray := prog_1_method_33_code
def y_N_missingBelowHighest : MethodName := ⟨RN, "missingBelowHighest", "()I"⟩
abbrev mt_N_missingBelowHighest : Mt := (y_N_missingBelowHighest, b_N_missingBelowHighest, 2, (some .int))
abbrev b_M_init : ByteArray := prog_6_method_1_code
def y_M_init : MethodName := ⟨RM, "<init>", "()V"⟩
abbrev mt_M_init : Mt := (y_M_init, b_M_init, 1, none)
abbrev b_M_thrown : ByteArray := prog_6_method_2_code
def y_M_thrown : MethodName := ⟨RM, "thrown", "()I"⟩
abbrev mt_M_thrown : Mt := (y_M_thrown, b_M_thrown, 1, (some .int))
abbrev b_M_refuse : ByteArray := prog_6_method_3_code
def y_M_refuse : MethodName := ⟨RM, "refuse", "(ZZ)Z"⟩
abbrev mt_M_refuse : Mt := (y_M_refuse, b_M_refuse, 3, (some .boolean))
abbrev b_M_in : ByteArray := prog_6_method_4_code
def y_M_in : MethodName := ⟨RM, "in", "(III)Z"⟩
abbrev mt_M_in : Mt := (y_M_in, b_M_in, 3, (some .boolean))
abbrev b_M_lay : ByteArray := prog_6_method_5_code
def y_M_lay : MethodName := ⟨RM, "lay", "(II)V"⟩
abbrev mt_M_lay : Mt := (y_M_lay, b_M_lay, 6, none)
abbrev b_M_mergeOnes : ByteArray := prog_6_method_6_code
def y_M_mergeOnes : MethodName := ⟨RM, "mergeOnes", "(III)V"⟩
abbrev mt_M_mergeOnes : Mt := (y_M_mergeOnes, b_M_mergeOnes, 4, none)
abbrev b_M_join : ByteArray := prog_6_method_7_code
def y_M_join : MethodName := ⟨RM, "join", "(IIII)V"⟩
abbrev mt_M_join : Mt := (y_M_join, b_M_join, 6, none)
abbrev b_M_mergeTwos : ByteArray := prog_6_method_8_code
def y_M_mergeTwos : MethodName := ⟨RM, "mergeTwos", "(III)V"⟩
abbrev mt_M_mergeTwos : Mt := (y_M_mergeTwos, b_M_mergeTwos, 4, none)
abbrev b_M_mergeFours : ByteArray := prog_6_method_9_code
def y_M_mergeFours : MethodName := ⟨RM, "mergeFours", "(III)V"⟩
abbrev mt_M_mergeFours : Mt := (y_M_mergeFours, b_M_mergeFours, 6, none)
abbrev b_M_layFour : ByteArray := prog_6_method_10_code
def y_M_layFour : MethodName := ⟨RM, "layFour", "(II)V"⟩
abbrev mt_M_layFour : Mt := (y_M_layFour, b_M_layFour, 3, none)
abbrev b_M_make : ByteArray := prog_6_method_11_code
def y_M_make : MethodName := ⟨RM, "make", "(II)V"⟩
abbrev mt_M_make : Mt := (y_M_make, b_M_make, 4, none)
abbrev b_M_build : ByteArray := prog_6_method_12_code
def y_M_build : MethodName := ⟨RM, "build", "(II)I"⟩
abbrev mt_M_build : Mt := (y_M_build, b_M_build, 3, (some .int))
abbrev b_M_balancer : ByteArray := prog_6_method_13_code
def y_M_balancer : MethodName := ⟨RM, "balancer", "(II)I"⟩
abbrev mt_M_balancer : Mt := (y_M_balancer, b_M_balancer, 4, (some .int))
abbrev b_M_exit : ByteArray := prog_6_method_14_code
def y_M_exit : MethodName := ⟨RM, "exit", "(II)I"⟩
abbrev mt_M_exit : Mt := (y_M_exit, b_M_exit, 4, (some .int))
abbrev b_M_left : ByteArray := prog_6_method_15_code
def y_M_left : MethodName := ⟨RM, "left", "()I"⟩
abbrev mt_M_left : Mt := (y_M_left, b_M_left, 3, (some .int))
abbrev b_M_enter : ByteArray := prog_6_method_16_code
def y_M_enter : MethodName := ⟨RM, "enter", "(IZ)I"⟩
abbrev mt_M_enter : Mt := (y_M_enter, b_M_enter, 4, (some .int))
abbrev b_M_nextOf : ByteArray := prog_6_method_17_code
def y_M_nextOf : MethodName := ⟨RM, "nextOf", "(I)I"⟩
abbrev mt_M_nextOf : Mt := (y_M_nextOf, b_M_nextOf, 3, (some .int))
abbrev b_M_exitOf : ByteArray := prog_6_method_18_code
def y_M_exitOf : MethodName := ⟨RM, "exitOf", "(I)I"⟩
abbrev mt_M_exitOf : Mt := (y_M_exitOf, b_M_exitOf, 4, (some .int))
abbrev b_M_stationOf : ByteArray := prog_6_method_19_code
def y_M_stationOf : MethodName := ⟨RM, "stationOf", "(I)I"⟩
abbrev mt_M_stationOf : Mt := (y_M_stationOf, b_M_stationOf, 3, (some .int))
abbrev b_M_post : ByteArray := prog_6_method_20_code
def y_M_post : MethodName := ⟨RM, "post", "(I)V"⟩
abbrev mt_M_post : Mt := (y_M_post, b_M_post, 2, none)
abbrev b_M_isStuck : ByteArray := prog_6_method_21_code
def y_M_isStuck : MethodName := ⟨RM, "isStuck", "(I)Z"⟩
abbrev mt_M_isStuck : Mt := (y_M_isStuck, b_M_isStuck, 3, (some .boolean))
abbrev b_M_step : ByteArray := prog_6_method_22_code
def y_M_step : MethodName := ⟨RM, "step", "(I)I"⟩
abbrev mt_M_step : Mt := (y_M_step, b_M_step, 4, (some .int))
abbrev b_M_move : ByteArray := prog_6_method_23_code
def y_M_move : MethodName := ⟨RM, "move", "(I)I"⟩
abbrev mt_M_move : Mt := (y_M_move, b_M_move, 3, (some .int))
abbrev b_M_take : ByteArray := prog_6_method_24_code
def y_M_take : MethodName := ⟨RM, "take", "(I)V"⟩
abbrev mt_M_take : Mt := (y_M_take, b_M_take, 3, none)
abbrev b_M_deliver : ByteArray := prog_6_method_25_code
def y_M_deliver : MethodName := ⟨RM, "deliver", "(I)I"⟩
abbrev mt_M_deliver : Mt := (y_M_deliver, b_M_deliver, 5, (some .int))
abbrev b_M_lose : ByteArray := prog_6_method_26_code
def y_M_lose : MethodName := ⟨RM, "lose", "(I)V"⟩
abbrev mt_M_lose : Mt := (y_M_lose, b_M_lose, 2, none)
abbrev b_M_twin : ByteArray := prog_6_method_27_code
def y_M_twin : MethodName := ⟨RM, "twin", "(I)V"⟩
abbrev mt_M_twin : Mt := (y_M_twin, b_M_twin, 3, none)
abbrev b_M_letter : ByteArray := prog_6_method_28_code
def y_M_letter : MethodName := ⟨RM, "letter", "(II)I"⟩
abbrev mt_M_letter : Mt := (y_M_letter, b_M_letter, 4, (some .int))
abbrev b_M_hasLetter : ByteArray := prog_6_method_29_code
def y_M_hasLetter : MethodName := ⟨RM, "hasLetter", "(I)Z"⟩
abbrev mt_M_hasLetter : Mt := (y_M_hasLetter, b_M_hasLetter, 4, (some .boolean))
abbrev b_M_resend : ByteArray := prog_6_method_30_code
def y_M_resend : MethodName := ⟨RM, "resend", "()I"⟩
abbrev mt_M_resend : Mt := (y_M_resend, b_M_resend, 3, (some .int))
abbrev b_M_station : ByteArray := prog_6_method_31_code
def y_M_station : MethodName := ⟨RM, "station", "(IZ)V"⟩
abbrev mt_M_station : Mt := (y_M_station, b_M_station, 3, none)
abbrev b_M_isHanded : ByteArray := prog_6_method_32_code
def y_M_isHanded : MethodName := ⟨RM, "isHanded", "(I)Z"⟩
abbrev mt_M_isHanded : Mt := (y_M_isHanded, b_M_isHanded, 2, (some .boolean))
abbrev b_M_shown : ByteArray := prog_6_method_33_code
def y_M_shown : MethodName := ⟨RM, "shown", "(I)I"⟩
abbrev mt_M_shown : Mt := (y_M_shown, b_M_shown, 4, (some .int))
abbrev b_M_token : ByteArray := prog_6_method_34_code
def y_M_token : MethodName := ⟨RM, "token", "(II)I"⟩
abbrev mt_M_token : Mt := (y_M_token, b_M_token, 3, (some .int))
abbrev b_M_highest : ByteArray := prog_6_method_35_code
def y_M_highest : MethodName := ⟨RM, "highest", "()I"⟩
abbrev mt_M_highest : Mt := (y_M_highest, b_M_highest, 4, (some .int))
abbrev b_M_gaps : ByteArray := prog_6_method_36_code
def y_M_gaps : MethodName := ⟨RM, "gaps", "()I"⟩
abbrev mt_M_gaps : Mt := (y_M_gaps, b_M_gaps, 3, (some .int))
abbrev b_M_about : ByteArray := prog_6_method_37_code
def y_M_about : MethodName := ⟨RM, "about", "(I)I"⟩
abbrev mt_M_about : Mt := (y_M_about, b_M_about, 2, (some .int))
abbrev b_M_settle : ByteArray := prog_6_method_38_code
def y_M_settle : MethodName := ⟨RM, "settle", "(I)I"⟩
abbrev mt_M_settle : Mt := (y_M_settle, b_M_settle, 4, (some .int))
abbrev b_B_init : ByteArray := prog_2_method_1_code
def y_B_init : MethodName := ⟨RB, "<init>", "()V"⟩
abbrev mt_B_init : Mt := (y_B_init, b_B_init, 1, none)
abbrev b_B_clear : ByteArray := prog_2_method_2_code
def y_B_clear : MethodName := ⟨RB, "clear", "()V"⟩
abbrev mt_B_clear : Mt := (y_B_clear, b_B_clear, 1, none)
abbrev b_B_has : ByteArray := prog_2_method_3_code
def y_B_has : MethodName := ⟨RB, "has", "(I)Z"⟩
abbrev mt_B_has : Mt := (y_B_has, b_B_has, 2, (some .boolean))
abbrev b_B_hasRoom : ByteArray := prog_2_method_4_code
def y_B_hasRoom : MethodName := ⟨RB, "hasRoom", "()Z"⟩
abbrev mt_B_hasRoom : Mt := (y_B_hasRoom, b_B_hasRoom, 1, (some .boolean))
abbrev b_B_holds : ByteArray := prog_2_method_5_code
def y_B_holds : MethodName := ⟨RB, "holds", "(II)Z"⟩
abbrev mt_B_holds : Mt := (y_B_holds, b_B_holds, 4, (some .boolean))
abbrev b_B_post : ByteArray := prog_2_method_6_code
def y_B_post : MethodName := ⟨RB, "post", "(III)V"⟩
abbrev mt_B_post : Mt := (y_B_post, b_B_post, 4, none)
abbrev b_B_takeOut : ByteArray := prog_2_method_7_code
def y_B_takeOut : MethodName := ⟨RB, "takeOut", "(I)V"⟩
abbrev mt_B_takeOut : Mt := (y_B_takeOut, b_B_takeOut, 3, none)
abbrev b_P_init : ByteArray := prog_3_method_1_code
def y_P_init : MethodName := ⟨RP, "<init>", "()V"⟩
abbrev mt_P_init : Mt := (y_P_init, b_P_init, 1, none)
abbrev b_P_drawFor : ByteArray := prog_3_method_2_code
def y_P_drawFor : MethodName := ⟨RP, "drawFor", "(I)V"⟩
abbrev mt_P_drawFor : Mt := (y_P_drawFor, b_P_drawFor, 3, none)
abbrev b_P_balancerBehind : ByteArray := prog_3_method_3_code
def y_P_balancerBehind : MethodName := ⟨RP, "balancerBehind", "(II)I"⟩
abbrev mt_P_balancerBehind : Mt := (y_P_balancerBehind, b_P_balancerBehind, 4, (some .int))
abbrev b_P_exitOf : ByteArray := prog_3_method_4_code
def y_P_exitOf : MethodName := ⟨RP, "exitOf", "(I)I"⟩
abbrev mt_P_exitOf : Mt := (y_P_exitOf, b_P_exitOf, 3, (some .int))
abbrev b_P_layOut : ByteArray := prog_3_method_5_code
def y_P_layOut : MethodName := ⟨RP, "layOut", "(II)V"⟩
abbrev mt_P_layOut : Mt := (y_P_layOut, b_P_layOut, 4, none)
abbrev b_P_merge : ByteArray := prog_3_method_6_code
def y_P_merge : MethodName := ⟨RP, "merge", "(II)V"⟩
abbrev mt_P_merge : Mt := (y_P_merge, b_P_merge, 4, none)
abbrev b_P_sortIntoParts : ByteArray := prog_3_method_7_code
def y_P_sortIntoParts : MethodName := ⟨RP, "sortIntoParts", "(II)V"⟩
abbrev mt_P_sortIntoParts : Mt := (y_P_sortIntoParts, b_P_sortIntoParts, 6, none)
abbrev b_P_joinParts : ByteArray := prog_3_method_8_code
def y_P_joinParts : MethodName := ⟨RP, "joinParts", "(II)V"⟩
abbrev mt_P_joinParts : Mt := (y_P_joinParts, b_P_joinParts, 4, none)
abbrev b_P_lay : ByteArray := prog_3_method_9_code
def y_P_lay : MethodName := ⟨RP, "lay", "(II)V"⟩
abbrev mt_P_lay : Mt := (y_P_lay, b_P_lay, 4, none)
abbrev b_T_init : ByteArray := prog_4_method_1_code
def y_T_init : MethodName := ⟨RT, "<init>", "()V"⟩
abbrev mt_T_init : Mt := (y_T_init, b_T_init, 1, none)
abbrev b_T_clear : ByteArray := prog_4_method_2_code
def y_T_clear : MethodName := ⟨RT, "clear", "()V"⟩
abbrev mt_T_clear : Mt := (y_T_clear, b_T_clear, 1, none)
abbrev b_T_has : ByteArray := prog_4_method_3_code
def y_T_has : MethodName := ⟨RT, "has", "(I)Z"⟩
abbrev mt_T_has : Mt := (y_T_has, b_T_has, 2, (some .boolean))
abbrev b_T_add : ByteArray := prog_4_method_4_code
def y_T_add : MethodName := ⟨RT, "add", "(IZ)I"⟩
abbrev mt_T_add : Mt := (y_T_add, b_T_add, 4, (some .int))
abbrev b_T_setOut : ByteArray := prog_4_method_5_code
def y_T_setOut : MethodName := ⟨RT, "setOut", "(I)V"⟩
abbrev mt_T_setOut : Mt := (y_T_setOut, b_T_setOut, 2, none)
abbrev b_T_arrive : ByteArray := prog_4_method_6_code
def y_T_arrive : MethodName := ⟨RT, "arrive", "(II)V"⟩
abbrev mt_T_arrive : Mt := (y_T_arrive, b_T_arrive, 3, none)
abbrev b_T_pass : ByteArray := prog_4_method_7_code
def y_T_pass : MethodName := ⟨RT, "pass", "(III)V"⟩
abbrev mt_T_pass : Mt := (y_T_pass, b_T_pass, 4, none)
abbrev b_T_finish : ByteArray := prog_4_method_8_code
def y_T_finish : MethodName := ⟨RT, "finish", "(II)V"⟩
abbrev mt_T_finish : Mt := (y_T_finish, b_T_finish, 3, none)
abbrev b_L_build : ByteArray := method_3_code
def y_L_build : MethodName := ⟨RL, "build", "(LCountingNetwork;II[J)I"⟩
abbrev b_L_balancer : ByteArray := method_4_code
def y_L_balancer : MethodName := ⟨RL, "balancer", "(LCountingNetwork;II[J)I"⟩
abbrev b_L_exit : ByteArray := method_5_code
def y_L_exit : MethodName := ⟨RL, "exit", "(LCountingNetwork;II[J)I"⟩
abbrev b_L_enter : ByteArray := method_6_code
def y_L_enter : MethodName := ⟨RL, "enter", "(LCountingNetwork;IZ[J)I"⟩
abbrev b_L_move : ByteArray := method_7_code
def y_L_move : MethodName := ⟨RL, "move", "(LCountingNetwork;I[J)I"⟩
abbrev b_L_deliver : ByteArray := method_8_code
def y_L_deliver : MethodName := ⟨RL, "deliver", "(LCountingNetwork;I[J)I"⟩
abbrev b_L_lose : ByteArray := method_9_code
def y_L_lose : MethodName := ⟨RL, "lose", "(LCountingNetwork;I)I"⟩
abbrev b_L_twin : ByteArray := method_10_code
def y_L_twin : MethodName := ⟨RL, "twin", "(LCountingNetwork;I)I"⟩
abbrev b_L_letter : ByteArray := method_11_code
def y_L_letter : MethodName := ⟨RL, "letter", "(LCountingNetwork;II[J)I"⟩
abbrev b_L_station : ByteArray := method_12_code
def y_L_station : MethodName := ⟨RL, "station", "(LCountingNetwork;IZ)I"⟩
abbrev b_L_token : ByteArray := method_13_code
def y_L_token : MethodName := ⟨RL, "token", "(LCountingNetwork;II[J)I"⟩
abbrev b_L_about : ByteArray := method_14_code
def y_L_about : MethodName := ⟨RL, "about", "(LCountingNetwork;I[J)I"⟩
abbrev b_L_settle : ByteArray := method_15_code
def y_L_settle : MethodName := ⟨RL, "settle", "(LCountingNetwork;I[J)I"⟩
abbrev cls : List vw_C := [(RN, FdN, 7), (RP, FdP, 9), (RT, FdT, 10), (RB, FdB, 4), (RM, FdM, 25)]
end
section
/-! rows that decode each instruction (by program) -/
theorem d_N_init_0 : decode b_N_init 0 = .ok (.aload_n 0, 1) := by decide +kernel
theorem d_N_init_1 : decode b_N_init 1 = .ok (.invokespecial 1, 3) := by decide +kernel
theorem d_N_init_4 : decode b_N_init 4 = .ok (.aload_n 0, 1) := by decide +kernel
theorem d_N_init_5 : decode b_N_init 5 = .ok (.new 7, 3) := by decide +kernel
theorem d_N_init_8 : decode b_N_init 8 = .ok (.dup, 1) := by decide +kernel
theorem d_N_init_9 : decode b_N_init 9 = .ok (.invokespecial 9, 3) := by decide +kernel
theorem d_N_init_12 : decode b_N_init 12 = .ok (.putfield 10, 3) := by decide +kernel
theorem d_N_init_15 : decode b_N_init 15 = .ok (.aload_n 0, 1) := by decide +kernel
theorem d_N_init_16 : decode b_N_init 16 = .ok (.new 16, 3) := by decide +kernel
theorem d_N_init_19 : decode b_N_init 19 = .ok (.dup, 1) := by decide +kernel
theorem d_N_init_20 : decode b_N_init 20 = .ok (.invokespecial 18, 3) := by decide +kernel
theorem d_N_init_23 : decode b_N_init 23 = .ok (.putfield 19, 3) := by decide +kernel
theorem d_N_init_26 : decode b_N_init 26 = .ok (.aload_n 0, 1) := by decide +kernel
theorem d_N_init_27 : decode b_N_init 27 = .ok (.new 23, 3) := by decide +kernel
theorem d_N_init_30 : decode b_N_init 30 = .ok (.dup, 1) := by decide +kernel
theorem d_N_init_31 : decode b_N_init 31 = .ok (.invokespecial 25, 3) := by decide +kernel
theorem d_N_init_34 : decode b_N_init 34 = .ok (.putfield 26, 3) := by decide +kernel
theorem d_N_init_37 : decode b_N_init 37 = .ok (.aload_n 0, 1) := by decide +kernel
theorem d_N_init_38 : decode b_N_init 38 = .ok (.bipush 24, 2) := by decide +kernel
theorem d_N_init_40 : decode b_N_init 40 = .ok (.newarray .int, 2) := by decide +kernel
theorem d_N_init_42 : decode b_N_init 42 = .ok (.putfield 30, 3) := by decide +kernel
theorem d_N_init_45 : decode b_N_init 45 = .ok (.aload_n 0, 1) := by decide +kernel
theorem d_N_init_46 : decode b_N_init 46 = .ok (.bipush 8, 2) := by decide +kernel
theorem d_N_init_48 : decode b_N_init 48 = .ok (.newarray .int, 2) := by decide +kernel
theorem d_N_init_50 : decode b_N_init 50 = .ok (.putfield 34, 3) := by decide +kernel
theorem d_N_init_53 : decode b_N_init 53 = .ok (.aload_n 0, 1) := by decide +kernel
theorem d_N_init_54 : decode b_N_init 54 = .ok (.bipush 6, 2) := by decide +kernel
theorem d_N_init_56 : decode b_N_init 56 = .ok (.newarray .boolean, 2) := by decide +kernel
theorem d_N_init_58 : decode b_N_init 58 = .ok (.putfield 37, 3) := by decide +kernel
theorem d_N_init_61 : decode b_N_init 61 = .ok (.aload_n 0, 1) := by decide +kernel
theorem d_N_init_62 : decode b_N_init 62 = .ok (.iconst 2, 1) := by decide +kernel
theorem d_N_init_63 : decode b_N_init 63 = .ok (.iconst 1, 1) := by decide +kernel
theorem d_N_init_64 : decode b_N_init 64 = .ok (.invokevirtual 41, 3) := by decide +kernel
theorem d_N_init_67 : decode b_N_init 67 = .ok (.return_, 1) := by decide +kernel
theorem d_N_build_0 : decode b_N_build 0 = .ok (.iload_n 1, 1) := by decide +kernel
theorem d_N_build_1 : decode b_N_build 1 = .ok (.iconst 2, 1) := by decide +kernel
theorem d_N_build_2 : decode b_N_build 2 = .ok (.if_icmp .eq 24, 3) := by decide +kernel
theorem d_N_build_5 : decode b_N_build 5 = .ok (.iload_n 1, 1) := by decide +kernel
theorem d_N_build_6 : decode b_N_build 6 = .ok (.iconst 4, 1) := by decide +kernel
theorem d_N_build_7 : decode b_N_build 7 = .ok (.if_icmp .eq 19, 3) := by decide +kernel
theorem d_N_build_10 : decode b_N_build 10 = .ok (.iload_n 1, 1) := by decide +kernel
theorem d_N_build_11 : decode b_N_build 11 = .ok (.bipush 8, 2) := by decide +kernel
theorem d_N_build_13 : decode b_N_build 13 = .ok (.if_icmp .eq 13, 3) := by decide +kernel
theorem d_N_build_16 : decode b_N_build 16 = .ok (.new 45, 3) := by decide +kernel
theorem d_N_build_19 : decode b_N_build 19 = .ok (.dup, 1) := by decide +kernel
theorem d_N_build_20 : decode b_N_build 20 = .ok (.ldc 47, 2) := by decide +kernel
theorem d_N_build_22 : decode b_N_build 22 = .ok (.invokespecial 49, 3) := by decide +kernel
theorem d_N_build_25 : decode b_N_build 25 = .ok (.athrow, 1) := by decide +kernel
theorem d_N_build_26 : decode b_N_build 26 = .ok (.iload_n 2, 1) := by decide +kernel
theorem d_N_build_27 : decode b_N_build 27 = .ok (.iconst 1, 1) := by decide +kernel
theorem d_N_build_28 : decode b_N_build 28 = .ok (.if_icmp .lt 9, 3) := by decide +kernel
theorem d_N_build_31 : decode b_N_build 31 = .ok (.iload_n 2, 1) := by decide +kernel
theorem d_N_build_32 : decode b_N_build 32 = .ok (.bipush 6, 2) := by decide +kernel
theorem d_N_build_34 : decode b_N_build 34 = .ok (.if_icmp .le 13, 3) := by decide +kernel
theorem d_N_build_37 : decode b_N_build 37 = .ok (.new 45, 3) := by decide +kernel
theorem d_N_build_40 : decode b_N_build 40 = .ok (.dup, 1) := by decide +kernel
theorem d_N_build_41 : decode b_N_build 41 = .ok (.ldc 52, 2) := by decide +kernel
theorem d_N_build_43 : decode b_N_build 43 = .ok (.invokespecial 49, 3) := by decide +kernel
theorem d_N_build_46 : decode b_N_build 46 = .ok (.athrow, 1) := by decide +kernel
theorem d_N_build_47 : decode b_N_build 47 = .ok (.aload_n 0, 1) := by decide +kernel
theorem d_N_build_48 : decode b_N_build 48 = .ok (.iload_n 1, 1) := by decide +kernel
theorem d_N_build_49 : decode b_N_build 49 = .ok (.iload_n 2, 1) := by decide +kernel
theorem d_N_build_50 : decode b_N_build 50 = .ok (.invokevirtual 41, 3) := by decide +kernel
theorem d_N_build_53 : decode b_N_build 53 = .ok (.aload_n 0, 1) := by decide +kernel
theorem d_N_build_54 : decode b_N_build 54 = .ok (.getfield 10, 3) := by decide +kernel
theorem d_N_build_57 : decode b_N_build 57 = .ok (.getfield 54, 3) := by decide +kernel
theorem d_N_build_60 : decode b_N_build 60 = .ok (.ireturn, 1) := by decide +kernel
theorem d_N_balancer_0 : decode b_N_balancer 0 = .ok (.iload_n 1, 1) := by decide +kernel
theorem d_N_balancer_1 : decode b_N_balancer 1 = .ok (.ifCond .lt 14, 3) := by decide +kernel
theorem d_N_balancer_4 : decode b_N_balancer 4 = .ok (.iload_n 1, 1) := by decide +kernel
theorem d_N_balancer_5 : decode b_N_balancer 5 = .ok (.aload_n 0, 1) := by decide +kernel
theorem d_N_balancer_6 : decode b_N_balancer 6 = .ok (.getfield 10, 3) := by decide +kernel
theorem d_N_balancer_9 : decode b_N_balancer 9 = .ok (.getfield 54, 3) := by decide +kernel
theorem d_N_balancer_12 : decode b_N_balancer 12 = .ok (.if_icmp .lt 13, 3) := by decide +kernel
theorem d_N_balancer_15 : decode b_N_balancer 15 = .ok (.new 58, 3) := by decide +kernel
theorem d_N_balancer_18 : decode b_N_balancer 18 = .ok (.dup, 1) := by decide +kernel
theorem d_N_balancer_19 : decode b_N_balancer 19 = .ok (.ldc 60, 2) := by decide +kernel
theorem d_N_balancer_21 : decode b_N_balancer 21 = .ok (.invokespecial 62, 3) := by decide +kernel
theorem d_N_balancer_24 : decode b_N_balancer 24 = .ok (.athrow, 1) := by decide +kernel
theorem d_N_balancer_25 : decode b_N_balancer 25 = .ok (.iload_n 2, 1) := by decide +kernel
theorem d_N_balancer_26 : decode b_N_balancer 26 = .ok (.tableswitch 77 0 4 #[34, 44, 54, 64, 70], 34) := by decide +kernel
theorem d_N_balancer_60 : decode b_N_balancer 60 = .ok (.aload_n 0, 1) := by decide +kernel
theorem d_N_balancer_61 : decode b_N_balancer 61 = .ok (.getfield 10, 3) := by decide +kernel
theorem d_N_balancer_64 : decode b_N_balancer 64 = .ok (.getfield 63, 3) := by decide +kernel
theorem d_N_balancer_67 : decode b_N_balancer 67 = .ok (.iload_n 1, 1) := by decide +kernel
theorem d_N_balancer_68 : decode b_N_balancer 68 = .ok (.iaload, 1) := by decide +kernel
theorem d_N_balancer_69 : decode b_N_balancer 69 = .ok (.ireturn, 1) := by decide +kernel
theorem d_N_balancer_70 : decode b_N_balancer 70 = .ok (.aload_n 0, 1) := by decide +kernel
theorem d_N_balancer_71 : decode b_N_balancer 71 = .ok (.getfield 10, 3) := by decide +kernel
theorem d_N_balancer_74 : decode b_N_balancer 74 = .ok (.getfield 66, 3) := by decide +kernel
theorem d_N_balancer_77 : decode b_N_balancer 77 = .ok (.iload_n 1, 1) := by decide +kernel
theorem d_N_balancer_78 : decode b_N_balancer 78 = .ok (.iaload, 1) := by decide +kernel
theorem d_N_balancer_79 : decode b_N_balancer 79 = .ok (.ireturn, 1) := by decide +kernel
theorem d_N_balancer_80 : decode b_N_balancer 80 = .ok (.aload_n 0, 1) := by decide +kernel
theorem d_N_balancer_81 : decode b_N_balancer 81 = .ok (.getfield 10, 3) := by decide +kernel
theorem d_N_balancer_84 : decode b_N_balancer 84 = .ok (.getfield 69, 3) := by decide +kernel
theorem d_N_balancer_87 : decode b_N_balancer 87 = .ok (.iload_n 1, 1) := by decide +kernel
theorem d_N_balancer_88 : decode b_N_balancer 88 = .ok (.iaload, 1) := by decide +kernel
theorem d_N_balancer_89 : decode b_N_balancer 89 = .ok (.ireturn, 1) := by decide +kernel
theorem d_N_balancer_90 : decode b_N_balancer 90 = .ok (.aload_n 0, 1) := by decide +kernel
theorem d_N_balancer_91 : decode b_N_balancer 91 = .ok (.iload_n 1, 1) := by decide +kernel
theorem d_N_balancer_92 : decode b_N_balancer 92 = .ok (.invokevirtual 72, 3) := by decide +kernel
theorem d_N_balancer_95 : decode b_N_balancer 95 = .ok (.ireturn, 1) := by decide +kernel
theorem d_N_balancer_96 : decode b_N_balancer 96 = .ok (.aload_n 0, 1) := by decide +kernel
theorem d_N_balancer_97 : decode b_N_balancer 97 = .ok (.getfield 30, 3) := by decide +kernel
theorem d_N_balancer_100 : decode b_N_balancer 100 = .ok (.iload_n 1, 1) := by decide +kernel
theorem d_N_balancer_101 : decode b_N_balancer 101 = .ok (.iaload, 1) := by decide +kernel
theorem d_N_balancer_102 : decode b_N_balancer 102 = .ok (.ireturn, 1) := by decide +kernel
theorem d_N_balancer_103 : decode b_N_balancer 103 = .ok (.new 45, 3) := by decide +kernel
theorem d_N_balancer_106 : decode b_N_balancer 106 = .ok (.dup, 1) := by decide +kernel
theorem d_N_balancer_107 : decode b_N_balancer 107 = .ok (.ldc 76, 2) := by decide +kernel
theorem d_N_balancer_109 : decode b_N_balancer 109 = .ok (.invokespecial 49, 3) := by decide +kernel
theorem d_N_balancer_112 : decode b_N_balancer 112 = .ok (.athrow, 1) := by decide +kernel
theorem d_N_exit_0 : decode b_N_exit 0 = .ok (.iload_n 1, 1) := by decide +kernel
theorem d_N_exit_1 : decode b_N_exit 1 = .ok (.ifCond .lt 14, 3) := by decide +kernel
theorem d_N_exit_4 : decode b_N_exit 4 = .ok (.iload_n 1, 1) := by decide +kernel
theorem d_N_exit_5 : decode b_N_exit 5 = .ok (.aload_n 0, 1) := by decide +kernel
theorem d_N_exit_6 : decode b_N_exit 6 = .ok (.getfield 10, 3) := by decide +kernel
theorem d_N_exit_9 : decode b_N_exit 9 = .ok (.getfield 78, 3) := by decide +kernel
theorem d_N_exit_12 : decode b_N_exit 12 = .ok (.if_icmp .lt 13, 3) := by decide +kernel
theorem d_N_exit_15 : decode b_N_exit 15 = .ok (.new 58, 3) := by decide +kernel
theorem d_N_exit_18 : decode b_N_exit 18 = .ok (.dup, 1) := by decide +kernel
theorem d_N_exit_19 : decode b_N_exit 19 = .ok (.ldc 80, 2) := by decide +kernel
theorem d_N_exit_21 : decode b_N_exit 21 = .ok (.invokespecial 62, 3) := by decide +kernel
theorem d_N_exit_24 : decode b_N_exit 24 = .ok (.athrow, 1) := by decide +kernel
theorem d_N_exit_25 : decode b_N_exit 25 = .ok (.iload_n 2, 1) := by decide +kernel
theorem d_N_exit_26 : decode b_N_exit 26 = .ok (.tableswitch 49 0 2 #[26, 36, 42], 26) := by decide +kernel
theorem d_N_exit_52 : decode b_N_exit 52 = .ok (.aload_n 0, 1) := by decide +kernel
theorem d_N_exit_53 : decode b_N_exit 53 = .ok (.getfield 10, 3) := by decide +kernel
theorem d_N_exit_56 : decode b_N_exit 56 = .ok (.getfield 82, 3) := by decide +kernel
theorem d_N_exit_59 : decode b_N_exit 59 = .ok (.iload_n 1, 1) := by decide +kernel
theorem d_N_exit_60 : decode b_N_exit 60 = .ok (.iaload, 1) := by decide +kernel
theorem d_N_exit_61 : decode b_N_exit 61 = .ok (.ireturn, 1) := by decide +kernel
theorem d_N_exit_62 : decode b_N_exit 62 = .ok (.aload_n 0, 1) := by decide +kernel
theorem d_N_exit_63 : decode b_N_exit 63 = .ok (.iload_n 1, 1) := by decide +kernel
theorem d_N_exit_64 : decode b_N_exit 64 = .ok (.invokevirtual 85, 3) := by decide +kernel
theorem d_N_exit_67 : decode b_N_exit 67 = .ok (.ireturn, 1) := by decide +kernel
theorem d_N_exit_68 : decode b_N_exit 68 = .ok (.aload_n 0, 1) := by decide +kernel
theorem d_N_exit_69 : decode b_N_exit 69 = .ok (.getfield 34, 3) := by decide +kernel
theorem d_N_exit_72 : decode b_N_exit 72 = .ok (.iload_n 1, 1) := by decide +kernel
theorem d_N_exit_73 : decode b_N_exit 73 = .ok (.iaload, 1) := by decide +kernel
theorem d_N_exit_74 : decode b_N_exit 74 = .ok (.ireturn, 1) := by decide +kernel
theorem d_N_exit_75 : decode b_N_exit 75 = .ok (.new 45, 3) := by decide +kernel
theorem d_N_exit_78 : decode b_N_exit 78 = .ok (.dup, 1) := by decide +kernel
theorem d_N_exit_79 : decode b_N_exit 79 = .ok (.ldc 76, 2) := by decide +kernel
theorem d_N_exit_81 : decode b_N_exit 81 = .ok (.invokespecial 49, 3) := by decide +kernel
theorem d_N_exit_84 : decode b_N_exit 84 = .ok (.athrow, 1) := by decide +kernel
theorem d_N_enter_0 : decode b_N_enter 0 = .ok (.iload_n 1, 1) := by decide +kernel
theorem d_N_enter_1 : decode b_N_enter 1 = .ok (.ifCond .lt 14, 3) := by decide +kernel
theorem d_N_enter_4 : decode b_N_enter 4 = .ok (.iload_n 1, 1) := by decide +kernel
theorem d_N_enter_5 : decode b_N_enter 5 = .ok (.aload_n 0, 1) := by decide +kernel
theorem d_N_enter_6 : decode b_N_enter 6 = .ok (.getfield 10, 3) := by decide +kernel
theorem d_N_enter_9 : decode b_N_enter 9 = .ok (.getfield 78, 3) := by decide +kernel
theorem d_N_enter_12 : decode b_N_enter 12 = .ok (.if_icmp .lt 13, 3) := by decide +kernel
theorem d_N_enter_15 : decode b_N_enter 15 = .ok (.new 45, 3) := by decide +kernel
theorem d_N_enter_18 : decode b_N_enter 18 = .ok (.dup, 1) := by decide +kernel
theorem d_N_enter_19 : decode b_N_enter 19 = .ok (.ldc 88, 2) := by decide +kernel
theorem d_N_enter_21 : decode b_N_enter 21 = .ok (.invokespecial 49, 3) := by decide +kernel
theorem d_N_enter_24 : decode b_N_enter 24 = .ok (.athrow, 1) := by decide +kernel
theorem d_N_enter_25 : decode b_N_enter 25 = .ok (.aload_n 0, 1) := by decide +kernel
theorem d_N_enter_26 : decode b_N_enter 26 = .ok (.getfield 19, 3) := by decide +kernel
theorem d_N_enter_29 : decode b_N_enter 29 = .ok (.getfield 90, 3) := by decide +kernel
theorem d_N_enter_32 : decode b_N_enter 32 = .ok (.sipush 200, 3) := by decide +kernel
theorem d_N_enter_35 : decode b_N_enter 35 = .ok (.if_icmp .ge 15, 3) := by decide +kernel
theorem d_N_enter_38 : decode b_N_enter 38 = .ok (.aload_n 0, 1) := by decide +kernel
theorem d_N_enter_39 : decode b_N_enter 39 = .ok (.getfield 19, 3) := by decide +kernel
theorem d_N_enter_42 : decode b_N_enter 42 = .ok (.getfield 93, 3) := by decide +kernel
theorem d_N_enter_45 : decode b_N_enter 45 = .ok (.bipush 40, 2) := by decide +kernel
theorem d_N_enter_47 : decode b_N_enter 47 = .ok (.if_icmp .lt 13, 3) := by decide +kernel
theorem d_N_enter_50 : decode b_N_enter 50 = .ok (.new 96, 3) := by decide +kernel
theorem d_N_enter_53 : decode b_N_enter 53 = .ok (.dup, 1) := by decide +kernel
theorem d_N_enter_54 : decode b_N_enter 54 = .ok (.ldc 98, 2) := by decide +kernel
theorem d_N_enter_56 : decode b_N_enter 56 = .ok (.invokespecial 100, 3) := by decide +kernel
theorem d_N_enter_59 : decode b_N_enter 59 = .ok (.athrow, 1) := by decide +kernel
theorem d_N_enter_60 : decode b_N_enter 60 = .ok (.aload_n 0, 1) := by decide +kernel
theorem d_N_enter_61 : decode b_N_enter 61 = .ok (.getfield 19, 3) := by decide +kernel
theorem d_N_enter_64 : decode b_N_enter 64 = .ok (.iload_n 1, 1) := by decide +kernel
theorem d_N_enter_65 : decode b_N_enter 65 = .ok (.iload_n 2, 1) := by decide +kernel
theorem d_N_enter_66 : decode b_N_enter 66 = .ok (.invokevirtual 101, 3) := by decide +kernel
theorem d_N_enter_69 : decode b_N_enter 69 = .ok (.ireturn, 1) := by decide +kernel
theorem d_N_move_0 : decode b_N_move 0 = .ok (.aload_n 0, 1) := by decide +kernel
theorem d_N_move_1 : decode b_N_move 1 = .ok (.getfield 19, 3) := by decide +kernel
theorem d_N_move_4 : decode b_N_move 4 = .ok (.iload_n 1, 1) := by decide +kernel
theorem d_N_move_5 : decode b_N_move 5 = .ok (.invokevirtual 105, 3) := by decide +kernel
theorem d_N_move_8 : decode b_N_move 8 = .ok (.ifCond .ne 13, 3) := by decide +kernel
theorem d_N_move_11 : decode b_N_move 11 = .ok (.new 45, 3) := by decide +kernel
theorem d_N_move_14 : decode b_N_move 14 = .ok (.dup, 1) := by decide +kernel
theorem d_N_move_15 : decode b_N_move 15 = .ok (.ldc 109, 2) := by decide +kernel
theorem d_N_move_17 : decode b_N_move 17 = .ok (.invokespecial 49, 3) := by decide +kernel
theorem d_N_move_20 : decode b_N_move 20 = .ok (.athrow, 1) := by decide +kernel
theorem d_N_move_21 : decode b_N_move 21 = .ok (.aload_n 0, 1) := by decide +kernel
theorem d_N_move_22 : decode b_N_move 22 = .ok (.iload_n 1, 1) := by decide +kernel
theorem d_N_move_23 : decode b_N_move 23 = .ok (.invokevirtual 111, 3) := by decide +kernel
theorem d_N_move_26 : decode b_N_move 26 = .ok (.ifCond .ne 13, 3) := by decide +kernel
theorem d_N_move_29 : decode b_N_move 29 = .ok (.new 96, 3) := by decide +kernel
theorem d_N_move_32 : decode b_N_move 32 = .ok (.dup, 1) := by decide +kernel
theorem d_N_move_33 : decode b_N_move 33 = .ok (.ldc 114, 2) := by decide +kernel
theorem d_N_move_35 : decode b_N_move 35 = .ok (.invokespecial 100, 3) := by decide +kernel
theorem d_N_move_38 : decode b_N_move 38 = .ok (.athrow, 1) := by decide +kernel
theorem d_N_move_39 : decode b_N_move 39 = .ok (.aload_n 0, 1) := by decide +kernel
theorem d_N_move_40 : decode b_N_move 40 = .ok (.iload_n 1, 1) := by decide +kernel
theorem d_N_move_41 : decode b_N_move 41 = .ok (.invokevirtual 116, 3) := by decide +kernel
theorem d_N_move_44 : decode b_N_move 44 = .ok (.ireturn, 1) := by decide +kernel
theorem d_N_deliver_0 : decode b_N_deliver 0 = .ok (.aload_n 0, 1) := by decide +kernel
theorem d_N_deliver_1 : decode b_N_deliver 1 = .ok (.getfield 26, 3) := by decide +kernel
theorem d_N_deliver_4 : decode b_N_deliver 4 = .ok (.iload_n 1, 1) := by decide +kernel
theorem d_N_deliver_5 : decode b_N_deliver 5 = .ok (.invokevirtual 119, 3) := by decide +kernel
theorem d_N_deliver_8 : decode b_N_deliver 8 = .ok (.ifCond .ne 13, 3) := by decide +kernel
theorem d_N_deliver_11 : decode b_N_deliver 11 = .ok (.new 58, 3) := by decide +kernel
theorem d_N_deliver_14 : decode b_N_deliver 14 = .ok (.dup, 1) := by decide +kernel
theorem d_N_deliver_15 : decode b_N_deliver 15 = .ok (.ldc 120, 2) := by decide +kernel
theorem d_N_deliver_17 : decode b_N_deliver 17 = .ok (.invokespecial 62, 3) := by decide +kernel
theorem d_N_deliver_20 : decode b_N_deliver 20 = .ok (.athrow, 1) := by decide +kernel
theorem d_N_deliver_21 : decode b_N_deliver 21 = .ok (.aload_n 0, 1) := by decide +kernel
theorem d_N_deliver_22 : decode b_N_deliver 22 = .ok (.iload_n 1, 1) := by decide +kernel
theorem d_N_deliver_23 : decode b_N_deliver 23 = .ok (.invokevirtual 122, 3) := by decide +kernel
theorem d_N_deliver_26 : decode b_N_deliver 26 = .ok (.ifCond .eq 7, 3) := by decide +kernel
theorem d_N_deliver_29 : decode b_N_deliver 29 = .ok (.iconst 1, 1) := by decide +kernel
theorem d_N_deliver_30 : decode b_N_deliver 30 = .ok (.goto 4, 3) := by decide +kernel
theorem d_N_deliver_33 : decode b_N_deliver 33 = .ok (.iconst 0, 1) := by decide +kernel
theorem d_N_deliver_34 : decode b_N_deliver 34 = .ok (.ireturn, 1) := by decide +kernel
theorem d_N_lose_0 : decode b_N_lose 0 = .ok (.aload_n 0, 1) := by decide +kernel
theorem d_N_lose_1 : decode b_N_lose 1 = .ok (.getfield 26, 3) := by decide +kernel
theorem d_N_lose_4 : decode b_N_lose 4 = .ok (.iload_n 1, 1) := by decide +kernel
theorem d_N_lose_5 : decode b_N_lose 5 = .ok (.invokevirtual 119, 3) := by decide +kernel
theorem d_N_lose_8 : decode b_N_lose 8 = .ok (.ifCond .ne 13, 3) := by decide +kernel
theorem d_N_lose_11 : decode b_N_lose 11 = .ok (.new 58, 3) := by decide +kernel
theorem d_N_lose_14 : decode b_N_lose 14 = .ok (.dup, 1) := by decide +kernel
theorem d_N_lose_15 : decode b_N_lose 15 = .ok (.ldc 120, 2) := by decide +kernel
theorem d_N_lose_17 : decode b_N_lose 17 = .ok (.invokespecial 62, 3) := by decide +kernel
theorem d_N_lose_20 : decode b_N_lose 20 = .ok (.athrow, 1) := by decide +kernel
theorem d_N_lose_21 : decode b_N_lose 21 = .ok (.aload_n 0, 1) := by decide +kernel
theorem d_N_lose_22 : decode b_N_lose 22 = .ok (.getfield 26, 3) := by decide +kernel
theorem d_N_lose_25 : decode b_N_lose 25 = .ok (.iload_n 1, 1) := by decide +kernel
theorem d_N_lose_26 : decode b_N_lose 26 = .ok (.invokevirtual 125, 3) := by decide +kernel
theorem d_N_lose_29 : decode b_N_lose 29 = .ok (.return_, 1) := by decide +kernel
theorem d_N_twin_0 : decode b_N_twin 0 = .ok (.aload_n 0, 1) := by decide +kernel
theorem d_N_twin_1 : decode b_N_twin 1 = .ok (.getfield 26, 3) := by decide +kernel
theorem d_N_twin_4 : decode b_N_twin 4 = .ok (.iload_n 1, 1) := by decide +kernel
theorem d_N_twin_5 : decode b_N_twin 5 = .ok (.invokevirtual 119, 3) := by decide +kernel
theorem d_N_twin_8 : decode b_N_twin 8 = .ok (.ifCond .ne 13, 3) := by decide +kernel
theorem d_N_twin_11 : decode b_N_twin 11 = .ok (.new 58, 3) := by decide +kernel
theorem d_N_twin_14 : decode b_N_twin 14 = .ok (.dup, 1) := by decide +kernel
theorem d_N_twin_15 : decode b_N_twin 15 = .ok (.ldc 120, 2) := by decide +kernel
theorem d_N_twin_17 : decode b_N_twin 17 = .ok (.invokespecial 62, 3) := by decide +kernel
theorem d_N_twin_20 : decode b_N_twin 20 = .ok (.athrow, 1) := by decide +kernel
theorem d_N_twin_21 : decode b_N_twin 21 = .ok (.aload_n 0, 1) := by decide +kernel
theorem d_N_twin_22 : decode b_N_twin 22 = .ok (.getfield 26, 3) := by decide +kernel
theorem d_N_twin_25 : decode b_N_twin 25 = .ok (.invokevirtual 129, 3) := by decide +kernel
theorem d_N_twin_28 : decode b_N_twin 28 = .ok (.ifCond .ne 13, 3) := by decide +kernel
theorem d_N_twin_31 : decode b_N_twin 31 = .ok (.new 96, 3) := by decide +kernel
theorem d_N_twin_34 : decode b_N_twin 34 = .ok (.dup, 1) := by decide +kernel
theorem d_N_twin_35 : decode b_N_twin 35 = .ok (.ldc 133, 2) := by decide +kernel
theorem d_N_twin_37 : decode b_N_twin 37 = .ok (.invokespecial 100, 3) := by decide +kernel
theorem d_N_twin_40 : decode b_N_twin 40 = .ok (.athrow, 1) := by decide +kernel
theorem d_N_twin_41 : decode b_N_twin 41 = .ok (.aload_n 0, 1) := by decide +kernel
theorem d_N_twin_42 : decode b_N_twin 42 = .ok (.getfield 26, 3) := by decide +kernel
theorem d_N_twin_45 : decode b_N_twin 45 = .ok (.aload_n 0, 1) := by decide +kernel
theorem d_N_twin_46 : decode b_N_twin 46 = .ok (.getfield 26, 3) := by decide +kernel
theorem d_N_twin_49 : decode b_N_twin 49 = .ok (.getfield 135, 3) := by decide +kernel
theorem d_N_twin_52 : decode b_N_twin 52 = .ok (.iload_n 1, 1) := by decide +kernel
theorem d_N_twin_53 : decode b_N_twin 53 = .ok (.iaload, 1) := by decide +kernel
theorem d_N_twin_54 : decode b_N_twin 54 = .ok (.aload_n 0, 1) := by decide +kernel
theorem d_N_twin_55 : decode b_N_twin 55 = .ok (.getfield 26, 3) := by decide +kernel
theorem d_N_twin_58 : decode b_N_twin 58 = .ok (.getfield 138, 3) := by decide +kernel
theorem d_N_twin_61 : decode b_N_twin 61 = .ok (.iload_n 1, 1) := by decide +kernel
theorem d_N_twin_62 : decode b_N_twin 62 = .ok (.iaload, 1) := by decide +kernel
theorem d_N_twin_63 : decode b_N_twin 63 = .ok (.aload_n 0, 1) := by decide +kernel
theorem d_N_twin_64 : decode b_N_twin 64 = .ok (.getfield 26, 3) := by decide +kernel
theorem d_N_twin_67 : decode b_N_twin 67 = .ok (.getfield 141, 3) := by decide +kernel
theorem d_N_twin_70 : decode b_N_twin 70 = .ok (.iload_n 1, 1) := by decide +kernel
theorem d_N_twin_71 : decode b_N_twin 71 = .ok (.iaload, 1) := by decide +kernel
theorem d_N_twin_72 : decode b_N_twin 72 = .ok (.invokevirtual 144, 3) := by decide +kernel
theorem d_N_twin_75 : decode b_N_twin 75 = .ok (.return_, 1) := by decide +kernel
theorem d_N_letter_0 : decode b_N_letter 0 = .ok (.iload_n 1, 1) := by decide +kernel
theorem d_N_letter_1 : decode b_N_letter 1 = .ok (.iconst (-1), 1) := by decide +kernel
theorem d_N_letter_2 : decode b_N_letter 2 = .ok (.if_icmp .ne 11, 3) := by decide +kernel
theorem d_N_letter_5 : decode b_N_letter 5 = .ok (.aload_n 0, 1) := by decide +kernel
theorem d_N_letter_6 : decode b_N_letter 6 = .ok (.getfield 26, 3) := by decide +kernel
theorem d_N_letter_9 : decode b_N_letter 9 = .ok (.getfield 148, 3) := by decide +kernel
theorem d_N_letter_12 : decode b_N_letter 12 = .ok (.ireturn, 1) := by decide +kernel
theorem d_N_letter_13 : decode b_N_letter 13 = .ok (.aload_n 0, 1) := by decide +kernel
theorem d_N_letter_14 : decode b_N_letter 14 = .ok (.getfield 26, 3) := by decide +kernel
theorem d_N_letter_17 : decode b_N_letter 17 = .ok (.iload_n 1, 1) := by decide +kernel
theorem d_N_letter_18 : decode b_N_letter 18 = .ok (.invokevirtual 119, 3) := by decide +kernel
theorem d_N_letter_21 : decode b_N_letter 21 = .ok (.ifCond .ne 13, 3) := by decide +kernel
theorem d_N_letter_24 : decode b_N_letter 24 = .ok (.new 58, 3) := by decide +kernel
theorem d_N_letter_27 : decode b_N_letter 27 = .ok (.dup, 1) := by decide +kernel
theorem d_N_letter_28 : decode b_N_letter 28 = .ok (.ldc 120, 2) := by decide +kernel
theorem d_N_letter_30 : decode b_N_letter 30 = .ok (.invokespecial 62, 3) := by decide +kernel
theorem d_N_letter_33 : decode b_N_letter 33 = .ok (.athrow, 1) := by decide +kernel
theorem d_N_letter_34 : decode b_N_letter 34 = .ok (.iload_n 2, 1) := by decide +kernel
theorem d_N_letter_35 : decode b_N_letter 35 = .ok (.lookupswitch 45 #[(0, 25), (1, 35)], 25) := by decide +kernel
theorem d_N_letter_60 : decode b_N_letter 60 = .ok (.aload_n 0, 1) := by decide +kernel
theorem d_N_letter_61 : decode b_N_letter 61 = .ok (.getfield 26, 3) := by decide +kernel
theorem d_N_letter_64 : decode b_N_letter 64 = .ok (.getfield 135, 3) := by decide +kernel
theorem d_N_letter_67 : decode b_N_letter 67 = .ok (.iload_n 1, 1) := by decide +kernel
theorem d_N_letter_68 : decode b_N_letter 68 = .ok (.iaload, 1) := by decide +kernel
theorem d_N_letter_69 : decode b_N_letter 69 = .ok (.ireturn, 1) := by decide +kernel
theorem d_N_letter_70 : decode b_N_letter 70 = .ok (.aload_n 0, 1) := by decide +kernel
theorem d_N_letter_71 : decode b_N_letter 71 = .ok (.getfield 26, 3) := by decide +kernel
theorem d_N_letter_74 : decode b_N_letter 74 = .ok (.getfield 141, 3) := by decide +kernel
theorem d_N_letter_77 : decode b_N_letter 77 = .ok (.iload_n 1, 1) := by decide +kernel
theorem d_N_letter_78 : decode b_N_letter 78 = .ok (.iaload, 1) := by decide +kernel
theorem d_N_letter_79 : decode b_N_letter 79 = .ok (.ireturn, 1) := by decide +kernel
theorem d_N_letter_80 : decode b_N_letter 80 = .ok (.new 45, 3) := by decide +kernel
theorem d_N_letter_83 : decode b_N_letter 83 = .ok (.dup, 1) := by decide +kernel
theorem d_N_letter_84 : decode b_N_letter 84 = .ok (.ldc 76, 2) := by decide +kernel
theorem d_N_letter_86 : decode b_N_letter 86 = .ok (.invokespecial 49, 3) := by decide +kernel
theorem d_N_letter_89 : decode b_N_letter 89 = .ok (.athrow, 1) := by decide +kernel
theorem d_N_resend_0 : decode b_N_resend 0 = .ok (.aload_n 0, 1) := by decide +kernel
theorem d_N_resend_1 : decode b_N_resend 1 = .ok (.getfield 26, 3) := by decide +kernel
theorem d_N_resend_4 : decode b_N_resend 4 = .ok (.getfield 148, 3) := by decide +kernel
theorem d_N_resend_7 : decode b_N_resend 7 = .ok (.istore_n 1, 1) := by decide +kernel
theorem d_N_resend_8 : decode b_N_resend 8 = .ok (.iconst 0, 1) := by decide +kernel
theorem d_N_resend_9 : decode b_N_resend 9 = .ok (.istore_n 2, 1) := by decide +kernel
theorem d_N_resend_10 : decode b_N_resend 10 = .ok (.iload_n 2, 1) := by decide +kernel
theorem d_N_resend_11 : decode b_N_resend 11 = .ok (.aload_n 0, 1) := by decide +kernel
theorem d_N_resend_12 : decode b_N_resend 12 = .ok (.getfield 19, 3) := by decide +kernel
theorem d_N_resend_15 : decode b_N_resend 15 = .ok (.getfield 90, 3) := by decide +kernel
theorem d_N_resend_18 : decode b_N_resend 18 = .ok (.if_icmp .ge 74, 3) := by decide +kernel
theorem d_N_resend_21 : decode b_N_resend 21 = .ok (.aload_n 0, 1) := by decide +kernel
theorem d_N_resend_22 : decode b_N_resend 22 = .ok (.getfield 26, 3) := by decide +kernel
theorem d_N_resend_25 : decode b_N_resend 25 = .ok (.invokevirtual 129, 3) := by decide +kernel
theorem d_N_resend_28 : decode b_N_resend 28 = .ok (.ifCond .eq 64, 3) := by decide +kernel
theorem d_N_resend_31 : decode b_N_resend 31 = .ok (.aload_n 0, 1) := by decide +kernel
theorem d_N_resend_32 : decode b_N_resend 32 = .ok (.getfield 19, 3) := by decide +kernel
theorem d_N_resend_35 : decode b_N_resend 35 = .ok (.getfield 151, 3) := by decide +kernel
theorem d_N_resend_38 : decode b_N_resend 38 = .ok (.iload_n 2, 1) := by decide +kernel
theorem d_N_resend_39 : decode b_N_resend 39 = .ok (.iaload, 1) := by decide +kernel
theorem d_N_resend_40 : decode b_N_resend 40 = .ok (.iconst 1, 1) := by decide +kernel
theorem d_N_resend_41 : decode b_N_resend 41 = .ok (.if_icmp .ne 45, 3) := by decide +kernel
theorem d_N_resend_44 : decode b_N_resend 44 = .ok (.aload_n 0, 1) := by decide +kernel
theorem d_N_resend_45 : decode b_N_resend 45 = .ok (.getfield 26, 3) := by decide +kernel
theorem d_N_resend_48 : decode b_N_resend 48 = .ok (.iload_n 2, 1) := by decide +kernel
theorem d_N_resend_49 : decode b_N_resend 49 = .ok (.aload_n 0, 1) := by decide +kernel
theorem d_N_resend_50 : decode b_N_resend 50 = .ok (.getfield 19, 3) := by decide +kernel
theorem d_N_resend_53 : decode b_N_resend 53 = .ok (.getfield 154, 3) := by decide +kernel
theorem d_N_resend_56 : decode b_N_resend 56 = .ok (.iload_n 2, 1) := by decide +kernel
theorem d_N_resend_57 : decode b_N_resend 57 = .ok (.iaload, 1) := by decide +kernel
theorem d_N_resend_58 : decode b_N_resend 58 = .ok (.invokevirtual 155, 3) := by decide +kernel
theorem d_N_resend_61 : decode b_N_resend 61 = .ok (.ifCond .ne 25, 3) := by decide +kernel
theorem d_N_resend_64 : decode b_N_resend 64 = .ok (.aload_n 0, 1) := by decide +kernel
theorem d_N_resend_65 : decode b_N_resend 65 = .ok (.getfield 26, 3) := by decide +kernel
theorem d_N_resend_68 : decode b_N_resend 68 = .ok (.iload_n 2, 1) := by decide +kernel
theorem d_N_resend_69 : decode b_N_resend 69 = .ok (.aload_n 0, 1) := by decide +kernel
theorem d_N_resend_70 : decode b_N_resend 70 = .ok (.getfield 19, 3) := by decide +kernel
theorem d_N_resend_73 : decode b_N_resend 73 = .ok (.getfield 154, 3) := by decide +kernel
theorem d_N_resend_76 : decode b_N_resend 76 = .ok (.iload_n 2, 1) := by decide +kernel
theorem d_N_resend_77 : decode b_N_resend 77 = .ok (.iaload, 1) := by decide +kernel
theorem d_N_resend_78 : decode b_N_resend 78 = .ok (.aload_n 0, 1) := by decide +kernel
theorem d_N_resend_79 : decode b_N_resend 79 = .ok (.iload_n 2, 1) := by decide +kernel
theorem d_N_resend_80 : decode b_N_resend 80 = .ok (.invokevirtual 159, 3) := by decide +kernel
theorem d_N_resend_83 : decode b_N_resend 83 = .ok (.invokevirtual 144, 3) := by decide +kernel
theorem d_N_resend_86 : decode b_N_resend 86 = .ok (.iinc 2 1, 3) := by decide +kernel
theorem d_N_resend_89 : decode b_N_resend 89 = .ok (.goto (-79), 3) := by decide +kernel
theorem d_N_resend_92 : decode b_N_resend 92 = .ok (.aload_n 0, 1) := by decide +kernel
theorem d_N_resend_93 : decode b_N_resend 93 = .ok (.getfield 26, 3) := by decide +kernel
theorem d_N_resend_96 : decode b_N_resend 96 = .ok (.getfield 148, 3) := by decide +kernel
theorem d_N_resend_99 : decode b_N_resend 99 = .ok (.iload_n 1, 1) := by decide +kernel
theorem d_N_resend_100 : decode b_N_resend 100 = .ok (.isub, 1) := by decide +kernel
theorem d_N_resend_101 : decode b_N_resend 101 = .ok (.ireturn, 1) := by decide +kernel
theorem d_N_station_0 : decode b_N_station 0 = .ok (.iload_n 1, 1) := by decide +kernel
theorem d_N_station_1 : decode b_N_station 1 = .ok (.ifCond .lt 11, 3) := by decide +kernel
theorem d_N_station_4 : decode b_N_station 4 = .ok (.iload_n 1, 1) := by decide +kernel
theorem d_N_station_5 : decode b_N_station 5 = .ok (.aload_n 0, 1) := by decide +kernel
theorem d_N_station_6 : decode b_N_station 6 = .ok (.getfield 162, 3) := by decide +kernel
theorem d_N_station_9 : decode b_N_station 9 = .ok (.if_icmp .lt 13, 3) := by decide +kernel
theorem d_N_station_12 : decode b_N_station 12 = .ok (.new 45, 3) := by decide +kernel
theorem d_N_station_15 : decode b_N_station 15 = .ok (.dup, 1) := by decide +kernel
theorem d_N_station_16 : decode b_N_station 16 = .ok (.ldc 164, 2) := by decide +kernel
theorem d_N_station_18 : decode b_N_station 18 = .ok (.invokespecial 49, 3) := by decide +kernel
theorem d_N_station_21 : decode b_N_station 21 = .ok (.athrow, 1) := by decide +kernel
theorem d_N_station_22 : decode b_N_station 22 = .ok (.aload_n 0, 1) := by decide +kernel
theorem d_N_station_23 : decode b_N_station 23 = .ok (.getfield 37, 3) := by decide +kernel
theorem d_N_station_26 : decode b_N_station 26 = .ok (.iload_n 1, 1) := by decide +kernel
theorem d_N_station_27 : decode b_N_station 27 = .ok (.iload_n 2, 1) := by decide +kernel
theorem d_N_station_28 : decode b_N_station 28 = .ok (.bastore, 1) := by decide +kernel
theorem d_N_station_29 : decode b_N_station 29 = .ok (.return_, 1) := by decide +kernel
theorem d_N_token_0 : decode b_N_token 0 = .ok (.aload_n 0, 1) := by decide +kernel
theorem d_N_token_1 : decode b_N_token 1 = .ok (.getfield 19, 3) := by decide +kernel
theorem d_N_token_4 : decode b_N_token 4 = .ok (.iload_n 1, 1) := by decide +kernel
theorem d_N_token_5 : decode b_N_token 5 = .ok (.invokevirtual 105, 3) := by decide +kernel
theorem d_N_token_8 : decode b_N_token 8 = .ok (.ifCond .ne 13, 3) := by decide +kernel
theorem d_N_token_11 : decode b_N_token 11 = .ok (.new 45, 3) := by decide +kernel
theorem d_N_token_14 : decode b_N_token 14 = .ok (.dup, 1) := by decide +kernel
theorem d_N_token_15 : decode b_N_token 15 = .ok (.ldc 109, 2) := by decide +kernel
theorem d_N_token_17 : decode b_N_token 17 = .ok (.invokespecial 49, 3) := by decide +kernel
theorem d_N_token_20 : decode b_N_token 20 = .ok (.athrow, 1) := by decide +kernel
theorem d_N_token_21 : decode b_N_token 21 = .ok (.iload_n 2, 1) := by decide +kernel
theorem d_N_token_22 : decode b_N_token 22 = .ok (.tableswitch 80 0 4 #[34, 44, 54, 64, 74], 34) := by decide +kernel
theorem d_N_token_56 : decode b_N_token 56 = .ok (.aload_n 0, 1) := by decide +kernel
theorem d_N_token_57 : decode b_N_token 57 = .ok (.getfield 19, 3) := by decide +kernel
theorem d_N_token_60 : decode b_N_token 60 = .ok (.getfield 166, 3) := by decide +kernel
theorem d_N_token_63 : decode b_N_token 63 = .ok (.iload_n 1, 1) := by decide +kernel
theorem d_N_token_64 : decode b_N_token 64 = .ok (.iaload, 1) := by decide +kernel
theorem d_N_token_65 : decode b_N_token 65 = .ok (.ireturn, 1) := by decide +kernel
theorem d_N_token_66 : decode b_N_token 66 = .ok (.aload_n 0, 1) := by decide +kernel
theorem d_N_token_67 : decode b_N_token 67 = .ok (.getfield 19, 3) := by decide +kernel
theorem d_N_token_70 : decode b_N_token 70 = .ok (.getfield 168, 3) := by decide +kernel
theorem d_N_token_73 : decode b_N_token 73 = .ok (.iload_n 1, 1) := by decide +kernel
theorem d_N_token_74 : decode b_N_token 74 = .ok (.iaload, 1) := by decide +kernel
theorem d_N_token_75 : decode b_N_token 75 = .ok (.ireturn, 1) := by decide +kernel
theorem d_N_token_76 : decode b_N_token 76 = .ok (.aload_n 0, 1) := by decide +kernel
theorem d_N_token_77 : decode b_N_token 77 = .ok (.getfield 19, 3) := by decide +kernel
theorem d_N_token_80 : decode b_N_token 80 = .ok (.getfield 151, 3) := by decide +kernel
theorem d_N_token_83 : decode b_N_token 83 = .ok (.iload_n 1, 1) := by decide +kernel
theorem d_N_token_84 : decode b_N_token 84 = .ok (.iaload, 1) := by decide +kernel
theorem d_N_token_85 : decode b_N_token 85 = .ok (.ireturn, 1) := by decide +kernel
theorem d_N_token_86 : decode b_N_token 86 = .ok (.aload_n 0, 1) := by decide +kernel
theorem d_N_token_87 : decode b_N_token 87 = .ok (.getfield 19, 3) := by decide +kernel
theorem d_N_token_90 : decode b_N_token 90 = .ok (.getfield 171, 3) := by decide +kernel
theorem d_N_token_93 : decode b_N_token 93 = .ok (.iload_n 1, 1) := by decide +kernel
theorem d_N_token_94 : decode b_N_token 94 = .ok (.iaload, 1) := by decide +kernel
theorem d_N_token_95 : decode b_N_token 95 = .ok (.ireturn, 1) := by decide +kernel
theorem d_N_token_96 : decode b_N_token 96 = .ok (.aload_n 0, 1) := by decide +kernel
theorem d_N_token_97 : decode b_N_token 97 = .ok (.iload_n 1, 1) := by decide +kernel
theorem d_N_token_98 : decode b_N_token 98 = .ok (.invokevirtual 174, 3) := by decide +kernel
theorem d_N_token_101 : decode b_N_token 101 = .ok (.ireturn, 1) := by decide +kernel
theorem d_N_token_102 : decode b_N_token 102 = .ok (.new 45, 3) := by decide +kernel
theorem d_N_token_105 : decode b_N_token 105 = .ok (.dup, 1) := by decide +kernel
theorem d_N_token_106 : decode b_N_token 106 = .ok (.ldc 76, 2) := by decide +kernel
theorem d_N_token_108 : decode b_N_token 108 = .ok (.invokespecial 49, 3) := by decide +kernel
theorem d_N_token_111 : decode b_N_token 111 = .ok (.athrow, 1) := by decide +kernel
theorem d_N_about_0 : decode b_N_about 0 = .ok (.iload_n 1, 1) := by decide +kernel
theorem d_N_about_1 : decode b_N_about 1 = .ok (.tableswitch 81 0 5 #[39, 47, 55, 63, 68, 73], 39) := by decide +kernel
theorem d_N_about_40 : decode b_N_about 40 = .ok (.aload_n 0, 1) := by decide +kernel
theorem d_N_about_41 : decode b_N_about 41 = .ok (.getfield 10, 3) := by decide +kernel
theorem d_N_about_44 : decode b_N_about 44 = .ok (.getfield 78, 3) := by decide +kernel
theorem d_N_about_47 : decode b_N_about 47 = .ok (.ireturn, 1) := by decide +kernel
theorem d_N_about_48 : decode b_N_about 48 = .ok (.aload_n 0, 1) := by decide +kernel
theorem d_N_about_49 : decode b_N_about 49 = .ok (.getfield 19, 3) := by decide +kernel
theorem d_N_about_52 : decode b_N_about 52 = .ok (.getfield 90, 3) := by decide +kernel
theorem d_N_about_55 : decode b_N_about 55 = .ok (.ireturn, 1) := by decide +kernel
theorem d_N_about_56 : decode b_N_about 56 = .ok (.aload_n 0, 1) := by decide +kernel
theorem d_N_about_57 : decode b_N_about 57 = .ok (.getfield 19, 3) := by decide +kernel
theorem d_N_about_60 : decode b_N_about 60 = .ok (.getfield 93, 3) := by decide +kernel
theorem d_N_about_63 : decode b_N_about 63 = .ok (.ireturn, 1) := by decide +kernel
theorem d_N_about_64 : decode b_N_about 64 = .ok (.aload_n 0, 1) := by decide +kernel
theorem d_N_about_65 : decode b_N_about 65 = .ok (.invokevirtual 177, 3) := by decide +kernel
theorem d_N_about_68 : decode b_N_about 68 = .ok (.ireturn, 1) := by decide +kernel
theorem d_N_about_69 : decode b_N_about 69 = .ok (.aload_n 0, 1) := by decide +kernel
theorem d_N_about_70 : decode b_N_about 70 = .ok (.invokevirtual 181, 3) := by decide +kernel
theorem d_N_about_73 : decode b_N_about 73 = .ok (.ireturn, 1) := by decide +kernel
theorem d_N_about_74 : decode b_N_about 74 = .ok (.aload_n 0, 1) := by decide +kernel
theorem d_N_about_75 : decode b_N_about 75 = .ok (.getfield 10, 3) := by decide +kernel
theorem d_N_about_78 : decode b_N_about 78 = .ok (.getfield 184, 3) := by decide +kernel
theorem d_N_about_81 : decode b_N_about 81 = .ok (.ireturn, 1) := by decide +kernel
theorem d_N_about_82 : decode b_N_about 82 = .ok (.new 45, 3) := by decide +kernel
theorem d_N_about_85 : decode b_N_about 85 = .ok (.dup, 1) := by decide +kernel
theorem d_N_about_86 : decode b_N_about 86 = .ok (.ldc 76, 2) := by decide +kernel
theorem d_N_about_88 : decode b_N_about 88 = .ok (.invokespecial 49, 3) := by decide +kernel
theorem d_N_about_91 : decode b_N_about 91 = .ok (.athrow, 1) := by decide +kernel
theorem d_N_settle_0 : decode b_N_settle 0 = .ok (.iload_n 1, 1) := by decide +kernel
theorem d_N_settle_1 : decode b_N_settle 1 = .ok (.ifCond .lt 9, 3) := by decide +kernel
theorem d_N_settle_4 : decode b_N_settle 4 = .ok (.iload_n 1, 1) := by decide +kernel
theorem d_N_settle_5 : decode b_N_settle 5 = .ok (.bipush 100, 2) := by decide +kernel
theorem d_N_settle_7 : decode b_N_settle 7 = .ok (.if_icmp .le 13, 3) := by decide +kernel
theorem d_N_settle_10 : decode b_N_settle 10 = .ok (.new 45, 3) := by decide +kernel
theorem d_N_settle_13 : decode b_N_settle 13 = .ok (.dup, 1) := by decide +kernel
theorem d_N_settle_14 : decode b_N_settle 14 = .ok (.ldc 187, 2) := by decide +kernel
theorem d_N_settle_16 : decode b_N_settle 16 = .ok (.invokespecial 49, 3) := by decide +kernel
theorem d_N_settle_19 : decode b_N_settle 19 = .ok (.athrow, 1) := by decide +kernel
theorem d_N_settle_20 : decode b_N_settle 20 = .ok (.iconst 0, 1) := by decide +kernel
theorem d_N_settle_21 : decode b_N_settle 21 = .ok (.istore_n 2, 1) := by decide +kernel
theorem d_N_settle_22 : decode b_N_settle 22 = .ok (.iload_n 2, 1) := by decide +kernel
theorem d_N_settle_23 : decode b_N_settle 23 = .ok (.iload_n 1, 1) := by decide +kernel
theorem d_N_settle_24 : decode b_N_settle 24 = .ok (.if_icmp .ge 27, 3) := by decide +kernel
theorem d_N_settle_27 : decode b_N_settle 27 = .ok (.aload_n 0, 1) := by decide +kernel
theorem d_N_settle_28 : decode b_N_settle 28 = .ok (.getfield 19, 3) := by decide +kernel
theorem d_N_settle_31 : decode b_N_settle 31 = .ok (.getfield 93, 3) := by decide +kernel
theorem d_N_settle_34 : decode b_N_settle 34 = .ok (.ifCond .le 17, 3) := by decide +kernel
theorem d_N_settle_37 : decode b_N_settle 37 = .ok (.aload_n 0, 1) := by decide +kernel
theorem d_N_settle_38 : decode b_N_settle 38 = .ok (.invokevirtual 189, 3) := by decide +kernel
theorem d_N_settle_41 : decode b_N_settle 41 = .ok (.aload_n 0, 1) := by decide +kernel
theorem d_N_settle_42 : decode b_N_settle 42 = .ok (.invokevirtual 192, 3) := by decide +kernel
theorem d_N_settle_45 : decode b_N_settle 45 = .ok (.iinc 2 1, 3) := by decide +kernel
theorem d_N_settle_48 : decode b_N_settle 48 = .ok (.goto (-26), 3) := by decide +kernel
theorem d_N_settle_51 : decode b_N_settle 51 = .ok (.iload_n 2, 1) := by decide +kernel
theorem d_N_settle_52 : decode b_N_settle 52 = .ok (.ireturn, 1) := by decide +kernel
theorem d_N_startAnew_0 : decode b_N_startAnew 0 = .ok (.aload_n 0, 1) := by decide +kernel
theorem d_N_startAnew_1 : decode b_N_startAnew 1 = .ok (.getfield 10, 3) := by decide +kernel
theorem d_N_startAnew_4 : decode b_N_startAnew 4 = .ok (.iload_n 1, 1) := by decide +kernel
theorem d_N_startAnew_5 : decode b_N_startAnew 5 = .ok (.invokevirtual 195, 3) := by decide +kernel
theorem d_N_startAnew_8 : decode b_N_startAnew 8 = .ok (.aload_n 0, 1) := by decide +kernel
theorem d_N_startAnew_9 : decode b_N_startAnew 9 = .ok (.getfield 19, 3) := by decide +kernel
theorem d_N_startAnew_12 : decode b_N_startAnew 12 = .ok (.invokevirtual 198, 3) := by decide +kernel
theorem d_N_startAnew_15 : decode b_N_startAnew 15 = .ok (.aload_n 0, 1) := by decide +kernel
theorem d_N_startAnew_16 : decode b_N_startAnew 16 = .ok (.getfield 26, 3) := by decide +kernel
theorem d_N_startAnew_19 : decode b_N_startAnew 19 = .ok (.invokevirtual 201, 3) := by decide +kernel
theorem d_N_startAnew_22 : decode b_N_startAnew 22 = .ok (.aload_n 0, 1) := by decide +kernel
theorem d_N_startAnew_23 : decode b_N_startAnew 23 = .ok (.iload_n 2, 1) := by decide +kernel
theorem d_N_startAnew_24 : decode b_N_startAnew 24 = .ok (.putfield 162, 3) := by decide +kernel
theorem d_N_startAnew_27 : decode b_N_startAnew 27 = .ok (.iconst 0, 1) := by decide +kernel
theorem d_N_startAnew_28 : decode b_N_startAnew 28 = .ok (.istore_n 3, 1) := by decide +kernel
theorem d_N_startAnew_29 : decode b_N_startAnew 29 = .ok (.iload_n 3, 1) := by decide +kernel
theorem d_N_startAnew_30 : decode b_N_startAnew 30 = .ok (.bipush 24, 2) := by decide +kernel
theorem d_N_startAnew_32 : decode b_N_startAnew 32 = .ok (.if_icmp .ge 16, 3) := by decide +kernel
theorem d_N_startAnew_35 : decode b_N_startAnew 35 = .ok (.aload_n 0, 1) := by decide +kernel
theorem d_N_startAnew_36 : decode b_N_startAnew 36 = .ok (.getfield 30, 3) := by decide +kernel
theorem d_N_startAnew_39 : decode b_N_startAnew 39 = .ok (.iload_n 3, 1) := by decide +kernel
theorem d_N_startAnew_40 : decode b_N_startAnew 40 = .ok (.iconst 0, 1) := by decide +kernel
theorem d_N_startAnew_41 : decode b_N_startAnew 41 = .ok (.iastore, 1) := by decide +kernel
theorem d_N_startAnew_42 : decode b_N_startAnew 42 = .ok (.iinc 3 1, 3) := by decide +kernel
theorem d_N_startAnew_45 : decode b_N_startAnew 45 = .ok (.goto (-16), 3) := by decide +kernel
theorem d_N_startAnew_48 : decode b_N_startAnew 48 = .ok (.iconst 0, 1) := by decide +kernel
theorem d_N_startAnew_49 : decode b_N_startAnew 49 = .ok (.istore_n 3, 1) := by decide +kernel
theorem d_N_startAnew_50 : decode b_N_startAnew 50 = .ok (.iload_n 3, 1) := by decide +kernel
theorem d_N_startAnew_51 : decode b_N_startAnew 51 = .ok (.bipush 8, 2) := by decide +kernel
theorem d_N_startAnew_53 : decode b_N_startAnew 53 = .ok (.if_icmp .ge 16, 3) := by decide +kernel
theorem d_N_startAnew_56 : decode b_N_startAnew 56 = .ok (.aload_n 0, 1) := by decide +kernel
theorem d_N_startAnew_57 : decode b_N_startAnew 57 = .ok (.getfield 34, 3) := by decide +kernel
theorem d_N_startAnew_60 : decode b_N_startAnew 60 = .ok (.iload_n 3, 1) := by decide +kernel
theorem d_N_startAnew_61 : decode b_N_startAnew 61 = .ok (.iconst 0, 1) := by decide +kernel
theorem d_N_startAnew_62 : decode b_N_startAnew 62 = .ok (.iastore, 1) := by decide +kernel
theorem d_N_startAnew_63 : decode b_N_startAnew 63 = .ok (.iinc 3 1, 3) := by decide +kernel
theorem d_N_startAnew_66 : decode b_N_startAnew 66 = .ok (.goto (-16), 3) := by decide +kernel
theorem d_N_startAnew_69 : decode b_N_startAnew 69 = .ok (.iconst 0, 1) := by decide +kernel
theorem d_N_startAnew_70 : decode b_N_startAnew 70 = .ok (.istore_n 3, 1) := by decide +kernel
theorem d_N_startAnew_71 : decode b_N_startAnew 71 = .ok (.iload_n 3, 1) := by decide +kernel
theorem d_N_startAnew_72 : decode b_N_startAnew 72 = .ok (.bipush 6, 2) := by decide +kernel
theorem d_N_startAnew_74 : decode b_N_startAnew 74 = .ok (.if_icmp .ge 16, 3) := by decide +kernel
theorem d_N_startAnew_77 : decode b_N_startAnew 77 = .ok (.aload_n 0, 1) := by decide +kernel
theorem d_N_startAnew_78 : decode b_N_startAnew 78 = .ok (.getfield 37, 3) := by decide +kernel
theorem d_N_startAnew_81 : decode b_N_startAnew 81 = .ok (.iload_n 3, 1) := by decide +kernel
theorem d_N_startAnew_82 : decode b_N_startAnew 82 = .ok (.iconst 0, 1) := by decide +kernel
theorem d_N_startAnew_83 : decode b_N_startAnew 83 = .ok (.bastore, 1) := by decide +kernel
theorem d_N_startAnew_84 : decode b_N_startAnew 84 = .ok (.iinc 3 1, 3) := by decide +kernel
theorem d_N_startAnew_87 : decode b_N_startAnew 87 = .ok (.goto (-16), 3) := by decide +kernel
theorem d_N_startAnew_90 : decode b_N_startAnew 90 = .ok (.return_, 1) := by decide +kernel
theorem d_N_stationOfBalancer_0 : decode b_N_stationOfBalancer 0 = .ok (.aload_n 0, 1) := by decide +kernel
theorem d_N_stationOfBalancer_1 : decode b_N_stationOfBalancer 1 = .ok (.getfield 10, 3) := by decide +kernel
theorem d_N_stationOfBalancer_4 : decode b_N_stationOfBalancer 4 = .ok (.getfield 69, 3) := by decide +kernel
theorem d_N_stationOfBalancer_7 : decode b_N_stationOfBalancer 7 = .ok (.iload_n 1, 1) := by decide +kernel
theorem d_N_stationOfBalancer_8 : decode b_N_stationOfBalancer 8 = .ok (.iaload, 1) := by decide +kernel
theorem d_N_stationOfBalancer_9 : decode b_N_stationOfBalancer 9 = .ok (.aload_n 0, 1) := by decide +kernel
theorem d_N_stationOfBalancer_10 : decode b_N_stationOfBalancer 10 = .ok (.getfield 162, 3) := by decide +kernel
theorem d_N_stationOfBalancer_13 : decode b_N_stationOfBalancer 13 = .ok (.irem, 1) := by decide +kernel
theorem d_N_stationOfBalancer_14 : decode b_N_stationOfBalancer 14 = .ok (.ireturn, 1) := by decide +kernel
theorem d_N_stationOfExit_0 : decode b_N_stationOfExit 0 = .ok (.iload_n 1, 1) := by decide +kernel
theorem d_N_stationOfExit_1 : decode b_N_stationOfExit 1 = .ok (.aload_n 0, 1) := by decide +kernel
theorem d_N_stationOfExit_2 : decode b_N_stationOfExit 2 = .ok (.getfield 162, 3) := by decide +kernel
theorem d_N_stationOfExit_5 : decode b_N_stationOfExit 5 = .ok (.irem, 1) := by decide +kernel
theorem d_N_stationOfExit_6 : decode b_N_stationOfExit 6 = .ok (.ireturn, 1) := by decide +kernel
theorem d_N_nextBalancer_0 : decode b_N_nextBalancer 0 = .ok (.aload_n 0, 1) := by decide +kernel
theorem d_N_nextBalancer_1 : decode b_N_nextBalancer 1 = .ok (.getfield 10, 3) := by decide +kernel
theorem d_N_nextBalancer_4 : decode b_N_nextBalancer 4 = .ok (.aload_n 0, 1) := by decide +kernel
theorem d_N_nextBalancer_5 : decode b_N_nextBalancer 5 = .ok (.getfield 19, 3) := by decide +kernel
theorem d_N_nextBalancer_8 : decode b_N_nextBalancer 8 = .ok (.getfield 166, 3) := by decide +kernel
theorem d_N_nextBalancer_11 : decode b_N_nextBalancer 11 = .ok (.iload_n 1, 1) := by decide +kernel
theorem d_N_nextBalancer_12 : decode b_N_nextBalancer 12 = .ok (.iaload, 1) := by decide +kernel
theorem d_N_nextBalancer_13 : decode b_N_nextBalancer 13 = .ok (.aload_n 0, 1) := by decide +kernel
theorem d_N_nextBalancer_14 : decode b_N_nextBalancer 14 = .ok (.getfield 19, 3) := by decide +kernel
theorem d_N_nextBalancer_17 : decode b_N_nextBalancer 17 = .ok (.getfield 202, 3) := by decide +kernel
theorem d_N_nextBalancer_20 : decode b_N_nextBalancer 20 = .ok (.iload_n 1, 1) := by decide +kernel
theorem d_N_nextBalancer_21 : decode b_N_nextBalancer 21 = .ok (.iaload, 1) := by decide +kernel
theorem d_N_nextBalancer_22 : decode b_N_nextBalancer 22 = .ok (.invokevirtual 205, 3) := by decide +kernel
theorem d_N_nextBalancer_25 : decode b_N_nextBalancer 25 = .ok (.ireturn, 1) := by decide +kernel
theorem d_N_stationOfNext_0 : decode b_N_stationOfNext 0 = .ok (.aload_n 0, 1) := by decide +kernel
theorem d_N_stationOfNext_1 : decode b_N_stationOfNext 1 = .ok (.iload_n 1, 1) := by decide +kernel
theorem d_N_stationOfNext_2 : decode b_N_stationOfNext 2 = .ok (.invokevirtual 209, 3) := by decide +kernel
theorem d_N_stationOfNext_5 : decode b_N_stationOfNext 5 = .ok (.istore_n 2, 1) := by decide +kernel
theorem d_N_stationOfNext_6 : decode b_N_stationOfNext 6 = .ok (.iload_n 2, 1) := by decide +kernel
theorem d_N_stationOfNext_7 : decode b_N_stationOfNext 7 = .ok (.iconst (-1), 1) := by decide +kernel
theorem d_N_stationOfNext_8 : decode b_N_stationOfNext 8 = .ok (.if_icmp .ne 26, 3) := by decide +kernel
theorem d_N_stationOfNext_11 : decode b_N_stationOfNext 11 = .ok (.aload_n 0, 1) := by decide +kernel
theorem d_N_stationOfNext_12 : decode b_N_stationOfNext 12 = .ok (.aload_n 0, 1) := by decide +kernel
theorem d_N_stationOfNext_13 : decode b_N_stationOfNext 13 = .ok (.getfield 10, 3) := by decide +kernel
theorem d_N_stationOfNext_16 : decode b_N_stationOfNext 16 = .ok (.aload_n 0, 1) := by decide +kernel
theorem d_N_stationOfNext_17 : decode b_N_stationOfNext 17 = .ok (.getfield 19, 3) := by decide +kernel
theorem d_N_stationOfNext_20 : decode b_N_stationOfNext 20 = .ok (.getfield 166, 3) := by decide +kernel
theorem d_N_stationOfNext_23 : decode b_N_stationOfNext 23 = .ok (.iload_n 1, 1) := by decide +kernel
theorem d_N_stationOfNext_24 : decode b_N_stationOfNext 24 = .ok (.iaload, 1) := by decide +kernel
theorem d_N_stationOfNext_25 : decode b_N_stationOfNext 25 = .ok (.invokevirtual 212, 3) := by decide +kernel
theorem d_N_stationOfNext_28 : decode b_N_stationOfNext 28 = .ok (.invokevirtual 85, 3) := by decide +kernel
theorem d_N_stationOfNext_31 : decode b_N_stationOfNext 31 = .ok (.goto 8, 3) := by decide +kernel
theorem d_N_stationOfNext_34 : decode b_N_stationOfNext 34 = .ok (.aload_n 0, 1) := by decide +kernel
theorem d_N_stationOfNext_35 : decode b_N_stationOfNext 35 = .ok (.iload_n 2, 1) := by decide +kernel
theorem d_N_stationOfNext_36 : decode b_N_stationOfNext 36 = .ok (.invokevirtual 72, 3) := by decide +kernel
theorem d_N_stationOfNext_39 : decode b_N_stationOfNext 39 = .ok (.ireturn, 1) := by decide +kernel
theorem d_N_canStep_0 : decode b_N_canStep 0 = .ok (.aload_n 0, 1) := by decide +kernel
theorem d_N_canStep_1 : decode b_N_canStep 1 = .ok (.getfield 19, 3) := by decide +kernel
theorem d_N_canStep_4 : decode b_N_canStep 4 = .ok (.getfield 151, 3) := by decide +kernel
theorem d_N_canStep_7 : decode b_N_canStep 7 = .ok (.iload_n 1, 1) := by decide +kernel
theorem d_N_canStep_8 : decode b_N_canStep 8 = .ok (.iaload, 1) := by decide +kernel
theorem d_N_canStep_9 : decode b_N_canStep 9 = .ok (.iconst 2, 1) := by decide +kernel
theorem d_N_canStep_10 : decode b_N_canStep 10 = .ok (.if_icmp .eq 19, 3) := by decide +kernel
theorem d_N_canStep_13 : decode b_N_canStep 13 = .ok (.aload_n 0, 1) := by decide +kernel
theorem d_N_canStep_14 : decode b_N_canStep 14 = .ok (.aload_n 0, 1) := by decide +kernel
theorem d_N_canStep_15 : decode b_N_canStep 15 = .ok (.getfield 19, 3) := by decide +kernel
theorem d_N_canStep_18 : decode b_N_canStep 18 = .ok (.getfield 168, 3) := by decide +kernel
theorem d_N_canStep_21 : decode b_N_canStep 21 = .ok (.iload_n 1, 1) := by decide +kernel
theorem d_N_canStep_22 : decode b_N_canStep 22 = .ok (.iaload, 1) := by decide +kernel
theorem d_N_canStep_23 : decode b_N_canStep 23 = .ok (.invokevirtual 215, 3) := by decide +kernel
theorem d_N_canStep_26 : decode b_N_canStep 26 = .ok (.ifCond .eq 5, 3) := by decide +kernel
theorem d_N_canStep_29 : decode b_N_canStep 29 = .ok (.iconst 0, 1) := by decide +kernel
theorem d_N_canStep_30 : decode b_N_canStep 30 = .ok (.ireturn, 1) := by decide +kernel
theorem d_N_canStep_31 : decode b_N_canStep 31 = .ok (.aload_n 0, 1) := by decide +kernel
theorem d_N_canStep_32 : decode b_N_canStep 32 = .ok (.getfield 26, 3) := by decide +kernel
theorem d_N_canStep_35 : decode b_N_canStep 35 = .ok (.invokevirtual 129, 3) := by decide +kernel
theorem d_N_canStep_38 : decode b_N_canStep 38 = .ok (.ifCond .ne 33, 3) := by decide +kernel
theorem d_N_canStep_41 : decode b_N_canStep 41 = .ok (.aload_n 0, 1) := by decide +kernel
theorem d_N_canStep_42 : decode b_N_canStep 42 = .ok (.getfield 19, 3) := by decide +kernel
theorem d_N_canStep_45 : decode b_N_canStep 45 = .ok (.getfield 151, 3) := by decide +kernel
theorem d_N_canStep_48 : decode b_N_canStep 48 = .ok (.iload_n 1, 1) := by decide +kernel
theorem d_N_canStep_49 : decode b_N_canStep 49 = .ok (.iaload, 1) := by decide +kernel
theorem d_N_canStep_50 : decode b_N_canStep 50 = .ok (.iconst 1, 1) := by decide +kernel
theorem d_N_canStep_51 : decode b_N_canStep 51 = .ok (.if_icmp .eq 20, 3) := by decide +kernel
theorem d_N_canStep_54 : decode b_N_canStep 54 = .ok (.aload_n 0, 1) := by decide +kernel
theorem d_N_canStep_55 : decode b_N_canStep 55 = .ok (.getfield 19, 3) := by decide +kernel
theorem d_N_canStep_58 : decode b_N_canStep 58 = .ok (.getfield 168, 3) := by decide +kernel
theorem d_N_canStep_61 : decode b_N_canStep 61 = .ok (.iload_n 1, 1) := by decide +kernel
theorem d_N_canStep_62 : decode b_N_canStep 62 = .ok (.iaload, 1) := by decide +kernel
theorem d_N_canStep_63 : decode b_N_canStep 63 = .ok (.aload_n 0, 1) := by decide +kernel
theorem d_N_canStep_64 : decode b_N_canStep 64 = .ok (.iload_n 1, 1) := by decide +kernel
theorem d_N_canStep_65 : decode b_N_canStep 65 = .ok (.invokevirtual 159, 3) := by decide +kernel
theorem d_N_canStep_68 : decode b_N_canStep 68 = .ok (.if_icmp .ne 7, 3) := by decide +kernel
theorem d_N_canStep_71 : decode b_N_canStep 71 = .ok (.iconst 1, 1) := by decide +kernel
theorem d_N_canStep_72 : decode b_N_canStep 72 = .ok (.goto 4, 3) := by decide +kernel
theorem d_N_canStep_75 : decode b_N_canStep 75 = .ok (.iconst 0, 1) := by decide +kernel
theorem d_N_canStep_76 : decode b_N_canStep 76 = .ok (.ireturn, 1) := by decide +kernel
theorem d_N_isDown_0 : decode b_N_isDown 0 = .ok (.iload_n 1, 1) := by decide +kernel
theorem d_N_isDown_1 : decode b_N_isDown 1 = .ok (.iconst (-1), 1) := by decide +kernel
theorem d_N_isDown_2 : decode b_N_isDown 2 = .ok (.if_icmp .eq 16, 3) := by decide +kernel
theorem d_N_isDown_5 : decode b_N_isDown 5 = .ok (.aload_n 0, 1) := by decide +kernel
theorem d_N_isDown_6 : decode b_N_isDown 6 = .ok (.getfield 37, 3) := by decide +kernel
theorem d_N_isDown_9 : decode b_N_isDown 9 = .ok (.iload_n 1, 1) := by decide +kernel
theorem d_N_isDown_10 : decode b_N_isDown 10 = .ok (.baload, 1) := by decide +kernel
theorem d_N_isDown_11 : decode b_N_isDown 11 = .ok (.ifCond .eq 7, 3) := by decide +kernel
theorem d_N_isDown_14 : decode b_N_isDown 14 = .ok (.iconst 1, 1) := by decide +kernel
theorem d_N_isDown_15 : decode b_N_isDown 15 = .ok (.goto 4, 3) := by decide +kernel
theorem d_N_isDown_18 : decode b_N_isDown 18 = .ok (.iconst 0, 1) := by decide +kernel
theorem d_N_isDown_19 : decode b_N_isDown 19 = .ok (.ireturn, 1) := by decide +kernel
theorem d_N_step_0 : decode b_N_step 0 = .ok (.aload_n 0, 1) := by decide +kernel
theorem d_N_step_1 : decode b_N_step 1 = .ok (.getfield 19, 3) := by decide +kernel
theorem d_N_step_4 : decode b_N_step 4 = .ok (.getfield 151, 3) := by decide +kernel
theorem d_N_step_7 : decode b_N_step 7 = .ok (.iload_n 1, 1) := by decide +kernel
theorem d_N_step_8 : decode b_N_step 8 = .ok (.iaload, 1) := by decide +kernel
theorem d_N_step_9 : decode b_N_step 9 = .ok (.iconst 1, 1) := by decide +kernel
theorem d_N_step_10 : decode b_N_step 10 = .ok (.if_icmp .ne 5, 3) := by decide +kernel
theorem d_N_step_13 : decode b_N_step 13 = .ok (.iconst 3, 1) := by decide +kernel
theorem d_N_step_14 : decode b_N_step 14 = .ok (.ireturn, 1) := by decide +kernel
theorem d_N_step_15 : decode b_N_step 15 = .ok (.aload_n 0, 1) := by decide +kernel
theorem d_N_step_16 : decode b_N_step 16 = .ok (.iload_n 1, 1) := by decide +kernel
theorem d_N_step_17 : decode b_N_step 17 = .ok (.invokevirtual 159, 3) := by decide +kernel
theorem d_N_step_20 : decode b_N_step 20 = .ok (.istore_n 2, 1) := by decide +kernel
theorem d_N_step_21 : decode b_N_step 21 = .ok (.aload_n 0, 1) := by decide +kernel
theorem d_N_step_22 : decode b_N_step 22 = .ok (.getfield 19, 3) := by decide +kernel
theorem d_N_step_25 : decode b_N_step 25 = .ok (.getfield 168, 3) := by decide +kernel
theorem d_N_step_28 : decode b_N_step 28 = .ok (.iload_n 1, 1) := by decide +kernel
theorem d_N_step_29 : decode b_N_step 29 = .ok (.iaload, 1) := by decide +kernel
theorem d_N_step_30 : decode b_N_step 30 = .ok (.iload_n 2, 1) := by decide +kernel
theorem d_N_step_31 : decode b_N_step 31 = .ok (.if_icmp .eq 31, 3) := by decide +kernel
theorem d_N_step_34 : decode b_N_step 34 = .ok (.aload_n 0, 1) := by decide +kernel
theorem d_N_step_35 : decode b_N_step 35 = .ok (.getfield 19, 3) := by decide +kernel
theorem d_N_step_38 : decode b_N_step 38 = .ok (.iload_n 1, 1) := by decide +kernel
theorem d_N_step_39 : decode b_N_step 39 = .ok (.invokevirtual 218, 3) := by decide +kernel
theorem d_N_step_42 : decode b_N_step 42 = .ok (.aload_n 0, 1) := by decide +kernel
theorem d_N_step_43 : decode b_N_step 43 = .ok (.getfield 26, 3) := by decide +kernel
theorem d_N_step_46 : decode b_N_step 46 = .ok (.iload_n 1, 1) := by decide +kernel
theorem d_N_step_47 : decode b_N_step 47 = .ok (.aload_n 0, 1) := by decide +kernel
theorem d_N_step_48 : decode b_N_step 48 = .ok (.getfield 19, 3) := by decide +kernel
theorem d_N_step_51 : decode b_N_step 51 = .ok (.getfield 154, 3) := by decide +kernel
theorem d_N_step_54 : decode b_N_step 54 = .ok (.iload_n 1, 1) := by decide +kernel
theorem d_N_step_55 : decode b_N_step 55 = .ok (.iaload, 1) := by decide +kernel
theorem d_N_step_56 : decode b_N_step 56 = .ok (.iload_n 2, 1) := by decide +kernel
theorem d_N_step_57 : decode b_N_step 57 = .ok (.invokevirtual 144, 3) := by decide +kernel
theorem d_N_step_60 : decode b_N_step 60 = .ok (.iconst 2, 1) := by decide +kernel
theorem d_N_step_61 : decode b_N_step 61 = .ok (.ireturn, 1) := by decide +kernel
theorem d_N_step_62 : decode b_N_step 62 = .ok (.aload_n 0, 1) := by decide +kernel
theorem d_N_step_63 : decode b_N_step 63 = .ok (.iload_n 1, 1) := by decide +kernel
theorem d_N_step_64 : decode b_N_step 64 = .ok (.invokevirtual 209, 3) := by decide +kernel
theorem d_N_step_67 : decode b_N_step 67 = .ok (.istore_n 3, 1) := by decide +kernel
theorem d_N_step_68 : decode b_N_step 68 = .ok (.iload_n 3, 1) := by decide +kernel
theorem d_N_step_69 : decode b_N_step 69 = .ok (.iconst (-1), 1) := by decide +kernel
theorem d_N_step_70 : decode b_N_step 70 = .ok (.if_icmp .ne 26, 3) := by decide +kernel
theorem d_N_step_73 : decode b_N_step 73 = .ok (.aload_n 0, 1) := by decide +kernel
theorem d_N_step_74 : decode b_N_step 74 = .ok (.iload_n 1, 1) := by decide +kernel
theorem d_N_step_75 : decode b_N_step 75 = .ok (.aload_n 0, 1) := by decide +kernel
theorem d_N_step_76 : decode b_N_step 76 = .ok (.getfield 10, 3) := by decide +kernel
theorem d_N_step_79 : decode b_N_step 79 = .ok (.aload_n 0, 1) := by decide +kernel
theorem d_N_step_80 : decode b_N_step 80 = .ok (.getfield 19, 3) := by decide +kernel
theorem d_N_step_83 : decode b_N_step 83 = .ok (.getfield 166, 3) := by decide +kernel
theorem d_N_step_86 : decode b_N_step 86 = .ok (.iload_n 1, 1) := by decide +kernel
theorem d_N_step_87 : decode b_N_step 87 = .ok (.iaload, 1) := by decide +kernel
theorem d_N_step_88 : decode b_N_step 88 = .ok (.invokevirtual 212, 3) := by decide +kernel
theorem d_N_step_91 : decode b_N_step 91 = .ok (.invokevirtual 221, 3) := by decide +kernel
theorem d_N_step_94 : decode b_N_step 94 = .ok (.iconst 1, 1) := by decide +kernel
theorem d_N_step_95 : decode b_N_step 95 = .ok (.ireturn, 1) := by decide +kernel
theorem d_N_step_96 : decode b_N_step 96 = .ok (.aload_n 0, 1) := by decide +kernel
theorem d_N_step_97 : decode b_N_step 97 = .ok (.iload_n 1, 1) := by decide +kernel
theorem d_N_step_98 : decode b_N_step 98 = .ok (.iload_n 3, 1) := by decide +kernel
theorem d_N_step_99 : decode b_N_step 99 = .ok (.invokevirtual 224, 3) := by decide +kernel
theorem d_N_step_102 : decode b_N_step 102 = .ok (.iconst 0, 1) := by decide +kernel
theorem d_N_step_103 : decode b_N_step 103 = .ok (.ireturn, 1) := by decide +kernel
theorem d_N_goThrough_0 : decode b_N_goThrough 0 = .ok (.aload_n 0, 1) := by decide +kernel
theorem d_N_goThrough_1 : decode b_N_goThrough 1 = .ok (.getfield 30, 3) := by decide +kernel
theorem d_N_goThrough_4 : decode b_N_goThrough 4 = .ok (.iload_n 2, 1) := by decide +kernel
theorem d_N_goThrough_5 : decode b_N_goThrough 5 = .ok (.iaload, 1) := by decide +kernel
theorem d_N_goThrough_6 : decode b_N_goThrough 6 = .ok (.iconst 2, 1) := by decide +kernel
theorem d_N_goThrough_7 : decode b_N_goThrough 7 = .ok (.irem, 1) := by decide +kernel
theorem d_N_goThrough_8 : decode b_N_goThrough 8 = .ok (.ifCond .ne 15, 3) := by decide +kernel
theorem d_N_goThrough_11 : decode b_N_goThrough 11 = .ok (.aload_n 0, 1) := by decide +kernel
theorem d_N_goThrough_12 : decode b_N_goThrough 12 = .ok (.getfield 10, 3) := by decide +kernel
theorem d_N_goThrough_15 : decode b_N_goThrough 15 = .ok (.getfield 63, 3) := by decide +kernel
theorem d_N_goThrough_18 : decode b_N_goThrough 18 = .ok (.iload_n 2, 1) := by decide +kernel
theorem d_N_goThrough_19 : decode b_N_goThrough 19 = .ok (.iaload, 1) := by decide +kernel
theorem d_N_goThrough_20 : decode b_N_goThrough 20 = .ok (.goto 12, 3) := by decide +kernel
theorem d_N_goThrough_23 : decode b_N_goThrough 23 = .ok (.aload_n 0, 1) := by decide +kernel
theorem d_N_goThrough_24 : decode b_N_goThrough 24 = .ok (.getfield 10, 3) := by decide +kernel
theorem d_N_goThrough_27 : decode b_N_goThrough 27 = .ok (.getfield 66, 3) := by decide +kernel
theorem d_N_goThrough_30 : decode b_N_goThrough 30 = .ok (.iload_n 2, 1) := by decide +kernel
theorem d_N_goThrough_31 : decode b_N_goThrough 31 = .ok (.iaload, 1) := by decide +kernel
theorem d_N_goThrough_32 : decode b_N_goThrough 32 = .ok (.istore_n 3, 1) := by decide +kernel
theorem d_N_goThrough_33 : decode b_N_goThrough 33 = .ok (.aload_n 0, 1) := by decide +kernel
theorem d_N_goThrough_34 : decode b_N_goThrough 34 = .ok (.getfield 30, 3) := by decide +kernel
theorem d_N_goThrough_37 : decode b_N_goThrough 37 = .ok (.iload_n 2, 1) := by decide +kernel
theorem d_N_goThrough_38 : decode b_N_goThrough 38 = .ok (.dup2, 1) := by decide +kernel
theorem d_N_goThrough_39 : decode b_N_goThrough 39 = .ok (.iaload, 1) := by decide +kernel
theorem d_N_goThrough_40 : decode b_N_goThrough 40 = .ok (.iconst 1, 1) := by decide +kernel
theorem d_N_goThrough_41 : decode b_N_goThrough 41 = .ok (.iadd, 1) := by decide +kernel
theorem d_N_goThrough_42 : decode b_N_goThrough 42 = .ok (.iastore, 1) := by decide +kernel
theorem d_N_goThrough_43 : decode b_N_goThrough 43 = .ok (.aload_n 0, 1) := by decide +kernel
theorem d_N_goThrough_44 : decode b_N_goThrough 44 = .ok (.getfield 19, 3) := by decide +kernel
theorem d_N_goThrough_47 : decode b_N_goThrough 47 = .ok (.iload_n 1, 1) := by decide +kernel
theorem d_N_goThrough_48 : decode b_N_goThrough 48 = .ok (.iload_n 2, 1) := by decide +kernel
theorem d_N_goThrough_49 : decode b_N_goThrough 49 = .ok (.iload_n 3, 1) := by decide +kernel
theorem d_N_goThrough_50 : decode b_N_goThrough 50 = .ok (.invokevirtual 227, 3) := by decide +kernel
theorem d_N_goThrough_53 : decode b_N_goThrough 53 = .ok (.return_, 1) := by decide +kernel
theorem d_N_comeOut_0 : decode b_N_comeOut 0 = .ok (.aload_n 0, 1) := by decide +kernel
theorem d_N_comeOut_1 : decode b_N_comeOut 1 = .ok (.getfield 19, 3) := by decide +kernel
theorem d_N_comeOut_4 : decode b_N_comeOut 4 = .ok (.iload_n 1, 1) := by decide +kernel
theorem d_N_comeOut_5 : decode b_N_comeOut 5 = .ok (.aload_n 0, 1) := by decide +kernel
theorem d_N_comeOut_6 : decode b_N_comeOut 6 = .ok (.iload_n 2, 1) := by decide +kernel
theorem d_N_comeOut_7 : decode b_N_comeOut 7 = .ok (.invokevirtual 230, 3) := by decide +kernel
theorem d_N_comeOut_10 : decode b_N_comeOut 10 = .ok (.invokevirtual 233, 3) := by decide +kernel
theorem d_N_comeOut_13 : decode b_N_comeOut 13 = .ok (.aload_n 0, 1) := by decide +kernel
theorem d_N_comeOut_14 : decode b_N_comeOut 14 = .ok (.getfield 34, 3) := by decide +kernel
theorem d_N_comeOut_17 : decode b_N_comeOut 17 = .ok (.iload_n 2, 1) := by decide +kernel
theorem d_N_comeOut_18 : decode b_N_comeOut 18 = .ok (.dup2, 1) := by decide +kernel
theorem d_N_comeOut_19 : decode b_N_comeOut 19 = .ok (.iaload, 1) := by decide +kernel
theorem d_N_comeOut_20 : decode b_N_comeOut 20 = .ok (.iconst 1, 1) := by decide +kernel
theorem d_N_comeOut_21 : decode b_N_comeOut 21 = .ok (.iadd, 1) := by decide +kernel
theorem d_N_comeOut_22 : decode b_N_comeOut 22 = .ok (.iastore, 1) := by decide +kernel
theorem d_N_comeOut_23 : decode b_N_comeOut 23 = .ok (.return_, 1) := by decide +kernel
theorem d_N_nextNumberAt_0 : decode b_N_nextNumberAt 0 = .ok (.iload_n 1, 1) := by decide +kernel
theorem d_N_nextNumberAt_1 : decode b_N_nextNumberAt 1 = .ok (.aload_n 0, 1) := by decide +kernel
theorem d_N_nextNumberAt_2 : decode b_N_nextNumberAt 2 = .ok (.getfield 10, 3) := by decide +kernel
theorem d_N_nextNumberAt_5 : decode b_N_nextNumberAt 5 = .ok (.getfield 78, 3) := by decide +kernel
theorem d_N_nextNumberAt_8 : decode b_N_nextNumberAt 8 = .ok (.aload_n 0, 1) := by decide +kernel
theorem d_N_nextNumberAt_9 : decode b_N_nextNumberAt 9 = .ok (.getfield 34, 3) := by decide +kernel
theorem d_N_nextNumberAt_12 : decode b_N_nextNumberAt 12 = .ok (.iload_n 1, 1) := by decide +kernel
theorem d_N_nextNumberAt_13 : decode b_N_nextNumberAt 13 = .ok (.iaload, 1) := by decide +kernel
theorem d_N_nextNumberAt_14 : decode b_N_nextNumberAt 14 = .ok (.imul, 1) := by decide +kernel
theorem d_N_nextNumberAt_15 : decode b_N_nextNumberAt 15 = .ok (.iadd, 1) := by decide +kernel
theorem d_N_nextNumberAt_16 : decode b_N_nextNumberAt 16 = .ok (.ireturn, 1) := by decide +kernel
theorem d_N_handOver_0 : decode b_N_handOver 0 = .ok (.aload_n 0, 1) := by decide +kernel
theorem d_N_handOver_1 : decode b_N_handOver 1 = .ok (.getfield 26, 3) := by decide +kernel
theorem d_N_handOver_4 : decode b_N_handOver 4 = .ok (.getfield 135, 3) := by decide +kernel
theorem d_N_handOver_7 : decode b_N_handOver 7 = .ok (.iload_n 1, 1) := by decide +kernel
theorem d_N_handOver_8 : decode b_N_handOver 8 = .ok (.iaload, 1) := by decide +kernel
theorem d_N_handOver_9 : decode b_N_handOver 9 = .ok (.istore_n 2, 1) := by decide +kernel
theorem d_N_handOver_10 : decode b_N_handOver 10 = .ok (.aload_n 0, 1) := by decide +kernel
theorem d_N_handOver_11 : decode b_N_handOver 11 = .ok (.getfield 26, 3) := by decide +kernel
theorem d_N_handOver_14 : decode b_N_handOver 14 = .ok (.getfield 138, 3) := by decide +kernel
theorem d_N_handOver_17 : decode b_N_handOver 17 = .ok (.iload_n 1, 1) := by decide +kernel
theorem d_N_handOver_18 : decode b_N_handOver 18 = .ok (.iaload, 1) := by decide +kernel
theorem d_N_handOver_19 : decode b_N_handOver 19 = .ok (.istore_n 3, 1) := by decide +kernel
theorem d_N_handOver_20 : decode b_N_handOver 20 = .ok (.aload_n 0, 1) := by decide +kernel
theorem d_N_handOver_21 : decode b_N_handOver 21 = .ok (.getfield 26, 3) := by decide +kernel
theorem d_N_handOver_24 : decode b_N_handOver 24 = .ok (.getfield 141, 3) := by decide +kernel
theorem d_N_handOver_27 : decode b_N_handOver 27 = .ok (.iload_n 1, 1) := by decide +kernel
theorem d_N_handOver_28 : decode b_N_handOver 28 = .ok (.iaload, 1) := by decide +kernel
theorem d_N_handOver_29 : decode b_N_handOver 29 = .ok (.istore 4, 2) := by decide +kernel
theorem d_N_handOver_31 : decode b_N_handOver 31 = .ok (.aload_n 0, 1) := by decide +kernel
theorem d_N_handOver_32 : decode b_N_handOver 32 = .ok (.getfield 26, 3) := by decide +kernel
theorem d_N_handOver_35 : decode b_N_handOver 35 = .ok (.iload_n 1, 1) := by decide +kernel
theorem d_N_handOver_36 : decode b_N_handOver 36 = .ok (.invokevirtual 125, 3) := by decide +kernel
theorem d_N_handOver_39 : decode b_N_handOver 39 = .ok (.aload_n 0, 1) := by decide +kernel
theorem d_N_handOver_40 : decode b_N_handOver 40 = .ok (.getfield 37, 3) := by decide +kernel
theorem d_N_handOver_43 : decode b_N_handOver 43 = .ok (.iload 4, 2) := by decide +kernel
theorem d_N_handOver_45 : decode b_N_handOver 45 = .ok (.baload, 1) := by decide +kernel
theorem d_N_handOver_46 : decode b_N_handOver 46 = .ok (.ifCond .ne 29, 3) := by decide +kernel
theorem d_N_handOver_49 : decode b_N_handOver 49 = .ok (.aload_n 0, 1) := by decide +kernel
theorem d_N_handOver_50 : decode b_N_handOver 50 = .ok (.getfield 19, 3) := by decide +kernel
theorem d_N_handOver_53 : decode b_N_handOver 53 = .ok (.getfield 151, 3) := by decide +kernel
theorem d_N_handOver_56 : decode b_N_handOver 56 = .ok (.iload_n 2, 1) := by decide +kernel
theorem d_N_handOver_57 : decode b_N_handOver 57 = .ok (.iaload, 1) := by decide +kernel
theorem d_N_handOver_58 : decode b_N_handOver 58 = .ok (.iconst 1, 1) := by decide +kernel
theorem d_N_handOver_59 : decode b_N_handOver 59 = .ok (.if_icmp .ne 16, 3) := by decide +kernel
theorem d_N_handOver_62 : decode b_N_handOver 62 = .ok (.aload_n 0, 1) := by decide +kernel
theorem d_N_handOver_63 : decode b_N_handOver 63 = .ok (.getfield 19, 3) := by decide +kernel
theorem d_N_handOver_66 : decode b_N_handOver 66 = .ok (.getfield 154, 3) := by decide +kernel
theorem d_N_handOver_69 : decode b_N_handOver 69 = .ok (.iload_n 2, 1) := by decide +kernel
theorem d_N_handOver_70 : decode b_N_handOver 70 = .ok (.iaload, 1) := by decide +kernel
theorem d_N_handOver_71 : decode b_N_handOver 71 = .ok (.iload_n 3, 1) := by decide +kernel
theorem d_N_handOver_72 : decode b_N_handOver 72 = .ok (.if_icmp .eq 5, 3) := by decide +kernel
theorem d_N_handOver_75 : decode b_N_handOver 75 = .ok (.iconst 0, 1) := by decide +kernel
theorem d_N_handOver_76 : decode b_N_handOver 76 = .ok (.ireturn, 1) := by decide +kernel
theorem d_N_handOver_77 : decode b_N_handOver 77 = .ok (.aload_n 0, 1) := by decide +kernel
theorem d_N_handOver_78 : decode b_N_handOver 78 = .ok (.getfield 19, 3) := by decide +kernel
theorem d_N_handOver_81 : decode b_N_handOver 81 = .ok (.iload_n 2, 1) := by decide +kernel
theorem d_N_handOver_82 : decode b_N_handOver 82 = .ok (.iload 4, 2) := by decide +kernel
theorem d_N_handOver_84 : decode b_N_handOver 84 = .ok (.invokevirtual 236, 3) := by decide +kernel
theorem d_N_handOver_87 : decode b_N_handOver 87 = .ok (.iconst 1, 1) := by decide +kernel
theorem d_N_handOver_88 : decode b_N_handOver 88 = .ok (.ireturn, 1) := by decide +kernel
theorem d_N_stepAll_0 : decode b_N_stepAll 0 = .ok (.iconst 0, 1) := by decide +kernel
theorem d_N_stepAll_1 : decode b_N_stepAll 1 = .ok (.istore_n 1, 1) := by decide +kernel
theorem d_N_stepAll_2 : decode b_N_stepAll 2 = .ok (.iload_n 1, 1) := by decide +kernel
theorem d_N_stepAll_3 : decode b_N_stepAll 3 = .ok (.aload_n 0, 1) := by decide +kernel
theorem d_N_stepAll_4 : decode b_N_stepAll 4 = .ok (.getfield 19, 3) := by decide +kernel
theorem d_N_stepAll_7 : decode b_N_stepAll 7 = .ok (.getfield 90, 3) := by decide +kernel
theorem d_N_stepAll_10 : decode b_N_stepAll 10 = .ok (.if_icmp .ge 23, 3) := by decide +kernel
theorem d_N_stepAll_13 : decode b_N_stepAll 13 = .ok (.aload_n 0, 1) := by decide +kernel
theorem d_N_stepAll_14 : decode b_N_stepAll 14 = .ok (.iload_n 1, 1) := by decide +kernel
theorem d_N_stepAll_15 : decode b_N_stepAll 15 = .ok (.invokevirtual 111, 3) := by decide +kernel
theorem d_N_stepAll_18 : decode b_N_stepAll 18 = .ok (.ifCond .eq 9, 3) := by decide +kernel
theorem d_N_stepAll_21 : decode b_N_stepAll 21 = .ok (.aload_n 0, 1) := by decide +kernel
theorem d_N_stepAll_22 : decode b_N_stepAll 22 = .ok (.iload_n 1, 1) := by decide +kernel
theorem d_N_stepAll_23 : decode b_N_stepAll 23 = .ok (.invokevirtual 116, 3) := by decide +kernel
theorem d_N_stepAll_26 : decode b_N_stepAll 26 = .ok (.pop, 1) := by decide +kernel
theorem d_N_stepAll_27 : decode b_N_stepAll 27 = .ok (.iinc 1 1, 3) := by decide +kernel
theorem d_N_stepAll_30 : decode b_N_stepAll 30 = .ok (.goto (-28), 3) := by decide +kernel
theorem d_N_stepAll_33 : decode b_N_stepAll 33 = .ok (.return_, 1) := by decide +kernel
theorem d_N_handOverAll_0 : decode b_N_handOverAll 0 = .ok (.aload_n 0, 1) := by decide +kernel
theorem d_N_handOverAll_1 : decode b_N_handOverAll 1 = .ok (.getfield 26, 3) := by decide +kernel
theorem d_N_handOverAll_4 : decode b_N_handOverAll 4 = .ok (.getfield 148, 3) := by decide +kernel
theorem d_N_handOverAll_7 : decode b_N_handOverAll 7 = .ok (.istore_n 1, 1) := by decide +kernel
theorem d_N_handOverAll_8 : decode b_N_handOverAll 8 = .ok (.iconst 0, 1) := by decide +kernel
theorem d_N_handOverAll_9 : decode b_N_handOverAll 9 = .ok (.istore_n 2, 1) := by decide +kernel
theorem d_N_handOverAll_10 : decode b_N_handOverAll 10 = .ok (.iload_n 2, 1) := by decide +kernel
theorem d_N_handOverAll_11 : decode b_N_handOverAll 11 = .ok (.iload_n 1, 1) := by decide +kernel
theorem d_N_handOverAll_12 : decode b_N_handOverAll 12 = .ok (.if_icmp .ge 15, 3) := by decide +kernel
theorem d_N_handOverAll_15 : decode b_N_handOverAll 15 = .ok (.aload_n 0, 1) := by decide +kernel
theorem d_N_handOverAll_16 : decode b_N_handOverAll 16 = .ok (.iconst 0, 1) := by decide +kernel
theorem d_N_handOverAll_17 : decode b_N_handOverAll 17 = .ok (.invokevirtual 122, 3) := by decide +kernel
theorem d_N_handOverAll_20 : decode b_N_handOverAll 20 = .ok (.pop, 1) := by decide +kernel
theorem d_N_handOverAll_21 : decode b_N_handOverAll 21 = .ok (.iinc 2 1, 3) := by decide +kernel
theorem d_N_handOverAll_24 : decode b_N_handOverAll 24 = .ok (.goto (-14), 3) := by decide +kernel
theorem d_N_handOverAll_27 : decode b_N_handOverAll 27 = .ok (.return_, 1) := by decide +kernel
theorem d_N_shownNumber_0 : decode b_N_shownNumber 0 = .ok (.aload_n 0, 1) := by decide +kernel
theorem d_N_shownNumber_1 : decode b_N_shownNumber 1 = .ok (.getfield 19, 3) := by decide +kernel
theorem d_N_shownNumber_4 : decode b_N_shownNumber 4 = .ok (.getfield 151, 3) := by decide +kernel
theorem d_N_shownNumber_7 : decode b_N_shownNumber 7 = .ok (.iload_n 1, 1) := by decide +kernel
theorem d_N_shownNumber_8 : decode b_N_shownNumber 8 = .ok (.iaload, 1) := by decide +kernel
theorem d_N_shownNumber_9 : decode b_N_shownNumber 9 = .ok (.iconst 2, 1) := by decide +kernel
theorem d_N_shownNumber_10 : decode b_N_shownNumber 10 = .ok (.if_icmp .eq 5, 3) := by decide +kernel
theorem d_N_shownNumber_13 : decode b_N_shownNumber 13 = .ok (.iconst (-1), 1) := by decide +kernel
theorem d_N_shownNumber_14 : decode b_N_shownNumber 14 = .ok (.ireturn, 1) := by decide +kernel
theorem d_N_shownNumber_15 : decode b_N_shownNumber 15 = .ok (.aload_n 0, 1) := by decide +kernel
theorem d_N_shownNumber_16 : decode b_N_shownNumber 16 = .ok (.getfield 19, 3) := by decide +kernel
theorem d_N_shownNumber_19 : decode b_N_shownNumber 19 = .ok (.getfield 239, 3) := by decide +kernel
theorem d_N_shownNumber_22 : decode b_N_shownNumber 22 = .ok (.iload_n 1, 1) := by decide +kernel
theorem d_N_shownNumber_23 : decode b_N_shownNumber 23 = .ok (.iaload, 1) := by decide +kernel
theorem d_N_shownNumber_24 : decode b_N_shownNumber 24 = .ok (.istore_n 2, 1) := by decide +kernel
theorem d_N_shownNumber_25 : decode b_N_shownNumber 25 = .ok (.aload_n 0, 1) := by decide +kernel
theorem d_N_shownNumber_26 : decode b_N_shownNumber 26 = .ok (.getfield 19, 3) := by decide +kernel
theorem d_N_shownNumber_29 : decode b_N_shownNumber 29 = .ok (.getfield 242, 3) := by decide +kernel
theorem d_N_shownNumber_32 : decode b_N_shownNumber 32 = .ok (.iload_n 1, 1) := by decide +kernel
theorem d_N_shownNumber_33 : decode b_N_shownNumber 33 = .ok (.baload, 1) := by decide +kernel
theorem d_N_shownNumber_34 : decode b_N_shownNumber 34 = .ok (.ifCond .eq 15, 3) := by decide +kernel
theorem d_N_shownNumber_37 : decode b_N_shownNumber 37 = .ok (.iload_n 2, 1) := by decide +kernel
theorem d_N_shownNumber_38 : decode b_N_shownNumber 38 = .ok (.aload_n 0, 1) := by decide +kernel
theorem d_N_shownNumber_39 : decode b_N_shownNumber 39 = .ok (.invokevirtual 245, 3) := by decide +kernel
theorem d_N_shownNumber_42 : decode b_N_shownNumber 42 = .ok (.if_icmp .le 7, 3) := by decide +kernel
theorem d_N_shownNumber_45 : decode b_N_shownNumber 45 = .ok (.iconst (-1), 1) := by decide +kernel
theorem d_N_shownNumber_46 : decode b_N_shownNumber 46 = .ok (.goto 4, 3) := by decide +kernel
theorem d_N_shownNumber_49 : decode b_N_shownNumber 49 = .ok (.iload_n 2, 1) := by decide +kernel
theorem d_N_shownNumber_50 : decode b_N_shownNumber 50 = .ok (.ireturn, 1) := by decide +kernel
theorem d_N_leastMissing_0 : decode b_N_leastMissing 0 = .ok (.aload_n 0, 1) := by decide +kernel
theorem d_N_leastMissing_1 : decode b_N_leastMissing 1 = .ok (.iconst 0, 1) := by decide +kernel
theorem d_N_leastMissing_2 : decode b_N_leastMissing 2 = .ok (.invokevirtual 230, 3) := by decide +kernel
theorem d_N_leastMissing_5 : decode b_N_leastMissing 5 = .ok (.istore_n 1, 1) := by decide +kernel
theorem d_N_leastMissing_6 : decode b_N_leastMissing 6 = .ok (.iconst 1, 1) := by decide +kernel
theorem d_N_leastMissing_7 : decode b_N_leastMissing 7 = .ok (.istore_n 2, 1) := by decide +kernel
theorem d_N_leastMissing_8 : decode b_N_leastMissing 8 = .ok (.iload_n 2, 1) := by decide +kernel
theorem d_N_leastMissing_9 : decode b_N_leastMissing 9 = .ok (.aload_n 0, 1) := by decide +kernel
theorem d_N_leastMissing_10 : decode b_N_leastMissing 10 = .ok (.getfield 10, 3) := by decide +kernel
theorem d_N_leastMissing_13 : decode b_N_leastMissing 13 = .ok (.getfield 78, 3) := by decide +kernel
theorem d_N_leastMissing_16 : decode b_N_leastMissing 16 = .ok (.if_icmp .ge 19, 3) := by decide +kernel
theorem d_N_leastMissing_19 : decode b_N_leastMissing 19 = .ok (.iload_n 1, 1) := by decide +kernel
theorem d_N_leastMissing_20 : decode b_N_leastMissing 20 = .ok (.aload_n 0, 1) := by decide +kernel
theorem d_N_leastMissing_21 : decode b_N_leastMissing 21 = .ok (.iload_n 2, 1) := by decide +kernel
theorem d_N_leastMissing_22 : decode b_N_leastMissing 22 = .ok (.invokevirtual 230, 3) := by decide +kernel
theorem d_N_leastMissing_25 : decode b_N_leastMissing 25 = .ok (.invokestatic 248, 3) := by decide +kernel
theorem d_N_leastMissing_28 : decode b_N_leastMissing 28 = .ok (.istore_n 1, 1) := by decide +kernel
theorem d_N_leastMissing_29 : decode b_N_leastMissing 29 = .ok (.iinc 2 1, 3) := by decide +kernel
theorem d_N_leastMissing_32 : decode b_N_leastMissing 32 = .ok (.goto (-24), 3) := by decide +kernel
theorem d_N_leastMissing_35 : decode b_N_leastMissing 35 = .ok (.iload_n 1, 1) := by decide +kernel
theorem d_N_leastMissing_36 : decode b_N_leastMissing 36 = .ok (.ireturn, 1) := by decide +kernel
theorem d_N_highestNumber_0 : decode b_N_highestNumber 0 = .ok (.iconst (-1), 1) := by decide +kernel
theorem d_N_highestNumber_1 : decode b_N_highestNumber 1 = .ok (.istore_n 1, 1) := by decide +kernel
theorem d_N_highestNumber_2 : decode b_N_highestNumber 2 = .ok (.iconst 0, 1) := by decide +kernel
theorem d_N_highestNumber_3 : decode b_N_highestNumber 3 = .ok (.istore_n 2, 1) := by decide +kernel
theorem d_N_highestNumber_4 : decode b_N_highestNumber 4 = .ok (.iload_n 2, 1) := by decide +kernel
theorem d_N_highestNumber_5 : decode b_N_highestNumber 5 = .ok (.aload_n 0, 1) := by decide +kernel
theorem d_N_highestNumber_6 : decode b_N_highestNumber 6 = .ok (.getfield 10, 3) := by decide +kernel
theorem d_N_highestNumber_9 : decode b_N_highestNumber 9 = .ok (.getfield 78, 3) := by decide +kernel
theorem d_N_highestNumber_12 : decode b_N_highestNumber 12 = .ok (.if_icmp .ge 36, 3) := by decide +kernel
theorem d_N_highestNumber_15 : decode b_N_highestNumber 15 = .ok (.aload_n 0, 1) := by decide +kernel
theorem d_N_highestNumber_16 : decode b_N_highestNumber 16 = .ok (.getfield 34, 3) := by decide +kernel
theorem d_N_highestNumber_19 : decode b_N_highestNumber 19 = .ok (.iload_n 2, 1) := by decide +kernel
theorem d_N_highestNumber_20 : decode b_N_highestNumber 20 = .ok (.iaload, 1) := by decide +kernel
theorem d_N_highestNumber_21 : decode b_N_highestNumber 21 = .ok (.ifCond .le 21, 3) := by decide +kernel
theorem d_N_highestNumber_24 : decode b_N_highestNumber 24 = .ok (.iload_n 1, 1) := by decide +kernel
theorem d_N_highestNumber_25 : decode b_N_highestNumber 25 = .ok (.aload_n 0, 1) := by decide +kernel
theorem d_N_highestNumber_26 : decode b_N_highestNumber 26 = .ok (.iload_n 2, 1) := by decide +kernel
theorem d_N_highestNumber_27 : decode b_N_highestNumber 27 = .ok (.invokevirtual 230, 3) := by decide +kernel
theorem d_N_highestNumber_30 : decode b_N_highestNumber 30 = .ok (.aload_n 0, 1) := by decide +kernel
theorem d_N_highestNumber_31 : decode b_N_highestNumber 31 = .ok (.getfield 10, 3) := by decide +kernel
theorem d_N_highestNumber_34 : decode b_N_highestNumber 34 = .ok (.getfield 78, 3) := by decide +kernel
theorem d_N_highestNumber_37 : decode b_N_highestNumber 37 = .ok (.isub, 1) := by decide +kernel
theorem d_N_highestNumber_38 : decode b_N_highestNumber 38 = .ok (.invokestatic 253, 3) := by decide +kernel
theorem d_N_highestNumber_41 : decode b_N_highestNumber 41 = .ok (.istore_n 1, 1) := by decide +kernel
theorem d_N_highestNumber_42 : decode b_N_highestNumber 42 = .ok (.iinc 2 1, 3) := by decide +kernel
theorem d_N_highestNumber_45 : decode b_N_highestNumber 45 = .ok (.goto (-41), 3) := by decide +kernel
theorem d_N_highestNumber_48 : decode b_N_highestNumber 48 = .ok (.iload_n 1, 1) := by decide +kernel
theorem d_N_highestNumber_49 : decode b_N_highestNumber 49 = .ok (.ireturn, 1) := by decide +kernel
theorem d_N_missingBelowHighest_0 : decode b_N_missingBelowHighest 0 = .ok (.aload_n 0, 1) := by decide +kernel
theorem d_N_missingBelowHighest_1 : decode b_N_missingBelowHighest 1 = .ok (.getfield 19, 3) := by decide +kernel
theorem d_N_missingBelowHighest_4 : decode b_N_missingBelowHighest 4 = .ok (.getfield 90, 3) := by decide +kernel
theorem d_N_missingBelowHighest_7 : decode b_N_missingBelowHighest 7 = .ok (.aload_n 0, 1) := by decide +kernel
theorem d_N_missingBelowHighest_8 : decode b_N_missingBelowHighest 8 = .ok (.getfield 19, 3) := by decide +kernel
theorem d_N_missingBelowHighest_11 : decode b_N_missingBelowHighest 11 = .ok (.getfield 93, 3) := by decide +kernel
theorem d_N_missingBelowHighest_14 : decode b_N_missingBelowHighest 14 = .ok (.isub, 1) := by decide +kernel
theorem d_N_missingBelowHighest_15 : decode b_N_missingBelowHighest 15 = .ok (.istore_n 1, 1) := by decide +kernel
theorem d_N_missingBelowHighest_16 : decode b_N_missingBelowHighest 16 = .ok (.aload_n 0, 1) := by decide +kernel
theorem d_N_missingBelowHighest_17 : decode b_N_missingBelowHighest 17 = .ok (.invokevirtual 177, 3) := by decide +kernel
theorem d_N_missingBelowHighest_20 : decode b_N_missingBelowHighest 20 = .ok (.iconst 1, 1) := by decide +kernel
theorem d_N_missingBelowHighest_21 : decode b_N_missingBelowHighest 21 = .ok (.iadd, 1) := by decide +kernel
theorem d_N_missingBelowHighest_22 : decode b_N_missingBelowHighest 22 = .ok (.iload_n 1, 1) := by decide +kernel
theorem d_N_missingBelowHighest_23 : decode b_N_missingBelowHighest 23 = .ok (.isub, 1) := by decide +kernel
theorem d_N_missingBelowHighest_24 : decode b_N_missingBelowHighest 24 = .ok (.ireturn, 1) := by decide +kernel
theorem d_B_init_0 : decode b_B_init 0 = .ok (.aload_n 0, 1) := by decide +kernel
theorem d_B_init_1 : decode b_B_init 1 = .ok (.invokespecial 3, 3) := by decide +kernel
theorem d_B_init_4 : decode b_B_init 4 = .ok (.aload_n 0, 1) := by decide +kernel
theorem d_B_init_5 : decode b_B_init 5 = .ok (.bipush 60, 2) := by decide +kernel
theorem d_B_init_7 : decode b_B_init 7 = .ok (.newarray .int, 2) := by decide +kernel
theorem d_B_init_9 : decode b_B_init 9 = .ok (.putfield 9, 3) := by decide +kernel
theorem d_B_init_12 : decode b_B_init 12 = .ok (.aload_n 0, 1) := by decide +kernel
theorem d_B_init_13 : decode b_B_init 13 = .ok (.bipush 60, 2) := by decide +kernel
theorem d_B_init_15 : decode b_B_init 15 = .ok (.newarray .int, 2) := by decide +kernel
theorem d_B_init_17 : decode b_B_init 17 = .ok (.putfield 15, 3) := by decide +kernel
theorem d_B_init_20 : decode b_B_init 20 = .ok (.aload_n 0, 1) := by decide +kernel
theorem d_B_init_21 : decode b_B_init 21 = .ok (.bipush 60, 2) := by decide +kernel
theorem d_B_init_23 : decode b_B_init 23 = .ok (.newarray .int, 2) := by decide +kernel
theorem d_B_init_25 : decode b_B_init 25 = .ok (.putfield 18, 3) := by decide +kernel
theorem d_B_init_28 : decode b_B_init 28 = .ok (.return_, 1) := by decide +kernel
theorem d_B_clear_0 : decode b_B_clear 0 = .ok (.aload_n 0, 1) := by decide +kernel
theorem d_B_clear_1 : decode b_B_clear 1 = .ok (.iconst 0, 1) := by decide +kernel
theorem d_B_clear_2 : decode b_B_clear 2 = .ok (.putfield 21, 3) := by decide +kernel
theorem d_B_clear_5 : decode b_B_clear 5 = .ok (.return_, 1) := by decide +kernel
theorem d_B_has_0 : decode b_B_has 0 = .ok (.iload_n 1, 1) := by decide +kernel
theorem d_B_has_1 : decode b_B_has 1 = .ok (.ifCond .lt 15, 3) := by decide +kernel
theorem d_B_has_4 : decode b_B_has 4 = .ok (.iload_n 1, 1) := by decide +kernel
theorem d_B_has_5 : decode b_B_has 5 = .ok (.aload_n 0, 1) := by decide +kernel
theorem d_B_has_6 : decode b_B_has 6 = .ok (.getfield 21, 3) := by decide +kernel
theorem d_B_has_9 : decode b_B_has 9 = .ok (.if_icmp .ge 7, 3) := by decide +kernel
theorem d_B_has_12 : decode b_B_has 12 = .ok (.iconst 1, 1) := by decide +kernel
theorem d_B_has_13 : decode b_B_has 13 = .ok (.goto 4, 3) := by decide +kernel
theorem d_B_has_16 : decode b_B_has 16 = .ok (.iconst 0, 1) := by decide +kernel
theorem d_B_has_17 : decode b_B_has 17 = .ok (.ireturn, 1) := by decide +kernel
theorem d_B_hasRoom_0 : decode b_B_hasRoom 0 = .ok (.aload_n 0, 1) := by decide +kernel
theorem d_B_hasRoom_1 : decode b_B_hasRoom 1 = .ok (.getfield 21, 3) := by decide +kernel
theorem d_B_hasRoom_4 : decode b_B_hasRoom 4 = .ok (.bipush 60, 2) := by decide +kernel
theorem d_B_hasRoom_6 : decode b_B_hasRoom 6 = .ok (.if_icmp .ge 7, 3) := by decide +kernel
theorem d_B_hasRoom_9 : decode b_B_hasRoom 9 = .ok (.iconst 1, 1) := by decide +kernel
theorem d_B_hasRoom_10 : decode b_B_hasRoom 10 = .ok (.goto 4, 3) := by decide +kernel
theorem d_B_hasRoom_13 : decode b_B_hasRoom 13 = .ok (.iconst 0, 1) := by decide +kernel
theorem d_B_hasRoom_14 : decode b_B_hasRoom 14 = .ok (.ireturn, 1) := by decide +kernel
theorem d_B_holds_0 : decode b_B_holds 0 = .ok (.iconst 0, 1) := by decide +kernel
theorem d_B_holds_1 : decode b_B_holds 1 = .ok (.istore_n 3, 1) := by decide +kernel
theorem d_B_holds_2 : decode b_B_holds 2 = .ok (.iload_n 3, 1) := by decide +kernel
theorem d_B_holds_3 : decode b_B_holds 3 = .ok (.aload_n 0, 1) := by decide +kernel
theorem d_B_holds_4 : decode b_B_holds 4 = .ok (.getfield 21, 3) := by decide +kernel
theorem d_B_holds_7 : decode b_B_holds 7 = .ok (.if_icmp .ge 31, 3) := by decide +kernel
theorem d_B_holds_10 : decode b_B_holds 10 = .ok (.aload_n 0, 1) := by decide +kernel
theorem d_B_holds_11 : decode b_B_holds 11 = .ok (.getfield 9, 3) := by decide +kernel
theorem d_B_holds_14 : decode b_B_holds 14 = .ok (.iload_n 3, 1) := by decide +kernel
theorem d_B_holds_15 : decode b_B_holds 15 = .ok (.iaload, 1) := by decide +kernel
theorem d_B_holds_16 : decode b_B_holds 16 = .ok (.iload_n 1, 1) := by decide +kernel
theorem d_B_holds_17 : decode b_B_holds 17 = .ok (.if_icmp .ne 15, 3) := by decide +kernel
theorem d_B_holds_20 : decode b_B_holds 20 = .ok (.aload_n 0, 1) := by decide +kernel
theorem d_B_holds_21 : decode b_B_holds 21 = .ok (.getfield 15, 3) := by decide +kernel
theorem d_B_holds_24 : decode b_B_holds 24 = .ok (.iload_n 3, 1) := by decide +kernel
theorem d_B_holds_25 : decode b_B_holds 25 = .ok (.iaload, 1) := by decide +kernel
theorem d_B_holds_26 : decode b_B_holds 26 = .ok (.iload_n 2, 1) := by decide +kernel
theorem d_B_holds_27 : decode b_B_holds 27 = .ok (.if_icmp .ne 5, 3) := by decide +kernel
theorem d_B_holds_30 : decode b_B_holds 30 = .ok (.iconst 1, 1) := by decide +kernel
theorem d_B_holds_31 : decode b_B_holds 31 = .ok (.ireturn, 1) := by decide +kernel
theorem d_B_holds_32 : decode b_B_holds 32 = .ok (.iinc 3 1, 3) := by decide +kernel
theorem d_B_holds_35 : decode b_B_holds 35 = .ok (.goto (-33), 3) := by decide +kernel
theorem d_B_holds_38 : decode b_B_holds 38 = .ok (.iconst 0, 1) := by decide +kernel
theorem d_B_holds_39 : decode b_B_holds 39 = .ok (.ireturn, 1) := by decide +kernel
theorem d_B_post_0 : decode b_B_post 0 = .ok (.aload_n 0, 1) := by decide +kernel
theorem d_B_post_1 : decode b_B_post 1 = .ok (.getfield 9, 3) := by decide +kernel
theorem d_B_post_4 : decode b_B_post 4 = .ok (.aload_n 0, 1) := by decide +kernel
theorem d_B_post_5 : decode b_B_post 5 = .ok (.getfield 21, 3) := by decide +kernel
theorem d_B_post_8 : decode b_B_post 8 = .ok (.iload_n 1, 1) := by decide +kernel
theorem d_B_post_9 : decode b_B_post 9 = .ok (.iastore, 1) := by decide +kernel
theorem d_B_post_10 : decode b_B_post 10 = .ok (.aload_n 0, 1) := by decide +kernel
theorem d_B_post_11 : decode b_B_post 11 = .ok (.getfield 15, 3) := by decide +kernel
theorem d_B_post_14 : decode b_B_post 14 = .ok (.aload_n 0, 1) := by decide +kernel
theorem d_B_post_15 : decode b_B_post 15 = .ok (.getfield 21, 3) := by decide +kernel
theorem d_B_post_18 : decode b_B_post 18 = .ok (.iload_n 2, 1) := by decide +kernel
theorem d_B_post_19 : decode b_B_post 19 = .ok (.iastore, 1) := by decide +kernel
theorem d_B_post_20 : decode b_B_post 20 = .ok (.aload_n 0, 1) := by decide +kernel
theorem d_B_post_21 : decode b_B_post 21 = .ok (.getfield 18, 3) := by decide +kernel
theorem d_B_post_24 : decode b_B_post 24 = .ok (.aload_n 0, 1) := by decide +kernel
theorem d_B_post_25 : decode b_B_post 25 = .ok (.getfield 21, 3) := by decide +kernel
theorem d_B_post_28 : decode b_B_post 28 = .ok (.iload_n 3, 1) := by decide +kernel
theorem d_B_post_29 : decode b_B_post 29 = .ok (.iastore, 1) := by decide +kernel
theorem d_B_post_30 : decode b_B_post 30 = .ok (.aload_n 0, 1) := by decide +kernel
theorem d_B_post_31 : decode b_B_post 31 = .ok (.dup, 1) := by decide +kernel
theorem d_B_post_32 : decode b_B_post 32 = .ok (.getfield 21, 3) := by decide +kernel
theorem d_B_post_35 : decode b_B_post 35 = .ok (.iconst 1, 1) := by decide +kernel
theorem d_B_post_36 : decode b_B_post 36 = .ok (.iadd, 1) := by decide +kernel
theorem d_B_post_37 : decode b_B_post 37 = .ok (.putfield 21, 3) := by decide +kernel
theorem d_B_post_40 : decode b_B_post 40 = .ok (.return_, 1) := by decide +kernel
theorem d_B_takeOut_0 : decode b_B_takeOut 0 = .ok (.aload_n 0, 1) := by decide +kernel
theorem d_B_takeOut_1 : decode b_B_takeOut 1 = .ok (.getfield 21, 3) := by decide +kernel
theorem d_B_takeOut_4 : decode b_B_takeOut 4 = .ok (.iload_n 1, 1) := by decide +kernel
theorem d_B_takeOut_5 : decode b_B_takeOut 5 = .ok (.isub, 1) := by decide +kernel
theorem d_B_takeOut_6 : decode b_B_takeOut 6 = .ok (.iconst 1, 1) := by decide +kernel
theorem d_B_takeOut_7 : decode b_B_takeOut 7 = .ok (.isub, 1) := by decide +kernel
theorem d_B_takeOut_8 : decode b_B_takeOut 8 = .ok (.istore_n 2, 1) := by decide +kernel
theorem d_B_takeOut_9 : decode b_B_takeOut 9 = .ok (.aload_n 0, 1) := by decide +kernel
theorem d_B_takeOut_10 : decode b_B_takeOut 10 = .ok (.getfield 9, 3) := by decide +kernel
theorem d_B_takeOut_13 : decode b_B_takeOut 13 = .ok (.iload_n 1, 1) := by decide +kernel
theorem d_B_takeOut_14 : decode b_B_takeOut 14 = .ok (.iconst 1, 1) := by decide +kernel
theorem d_B_takeOut_15 : decode b_B_takeOut 15 = .ok (.iadd, 1) := by decide +kernel
theorem d_B_takeOut_16 : decode b_B_takeOut 16 = .ok (.aload_n 0, 1) := by decide +kernel
theorem d_B_takeOut_17 : decode b_B_takeOut 17 = .ok (.getfield 9, 3) := by decide +kernel
theorem d_B_takeOut_20 : decode b_B_takeOut 20 = .ok (.iload_n 1, 1) := by decide +kernel
theorem d_B_takeOut_21 : decode b_B_takeOut 21 = .ok (.iload_n 2, 1) := by decide +kernel
theorem d_B_takeOut_22 : decode b_B_takeOut 22 = .ok (.invokestatic 25, 3) := by decide +kernel
theorem d_B_takeOut_25 : decode b_B_takeOut 25 = .ok (.aload_n 0, 1) := by decide +kernel
theorem d_B_takeOut_26 : decode b_B_takeOut 26 = .ok (.getfield 15, 3) := by decide +kernel
theorem d_B_takeOut_29 : decode b_B_takeOut 29 = .ok (.iload_n 1, 1) := by decide +kernel
theorem d_B_takeOut_30 : decode b_B_takeOut 30 = .ok (.iconst 1, 1) := by decide +kernel
theorem d_B_takeOut_31 : decode b_B_takeOut 31 = .ok (.iadd, 1) := by decide +kernel
theorem d_B_takeOut_32 : decode b_B_takeOut 32 = .ok (.aload_n 0, 1) := by decide +kernel
theorem d_B_takeOut_33 : decode b_B_takeOut 33 = .ok (.getfield 15, 3) := by decide +kernel
theorem d_B_takeOut_36 : decode b_B_takeOut 36 = .ok (.iload_n 1, 1) := by decide +kernel
theorem d_B_takeOut_37 : decode b_B_takeOut 37 = .ok (.iload_n 2, 1) := by decide +kernel
theorem d_B_takeOut_38 : decode b_B_takeOut 38 = .ok (.invokestatic 25, 3) := by decide +kernel
theorem d_B_takeOut_41 : decode b_B_takeOut 41 = .ok (.aload_n 0, 1) := by decide +kernel
theorem d_B_takeOut_42 : decode b_B_takeOut 42 = .ok (.getfield 18, 3) := by decide +kernel
theorem d_B_takeOut_45 : decode b_B_takeOut 45 = .ok (.iload_n 1, 1) := by decide +kernel
theorem d_B_takeOut_46 : decode b_B_takeOut 46 = .ok (.iconst 1, 1) := by decide +kernel
theorem d_B_takeOut_47 : decode b_B_takeOut 47 = .ok (.iadd, 1) := by decide +kernel
theorem d_B_takeOut_48 : decode b_B_takeOut 48 = .ok (.aload_n 0, 1) := by decide +kernel
theorem d_B_takeOut_49 : decode b_B_takeOut 49 = .ok (.getfield 18, 3) := by decide +kernel
theorem d_B_takeOut_52 : decode b_B_takeOut 52 = .ok (.iload_n 1, 1) := by decide +kernel
theorem d_B_takeOut_53 : decode b_B_takeOut 53 = .ok (.iload_n 2, 1) := by decide +kernel
theorem d_B_takeOut_54 : decode b_B_takeOut 54 = .ok (.invokestatic 25, 3) := by decide +kernel
theorem d_B_takeOut_57 : decode b_B_takeOut 57 = .ok (.aload_n 0, 1) := by decide +kernel
theorem d_B_takeOut_58 : decode b_B_takeOut 58 = .ok (.dup, 1) := by decide +kernel
theorem d_B_takeOut_59 : decode b_B_takeOut 59 = .ok (.getfield 21, 3) := by decide +kernel
theorem d_B_takeOut_62 : decode b_B_takeOut 62 = .ok (.iconst 1, 1) := by decide +kernel
theorem d_B_takeOut_63 : decode b_B_takeOut 63 = .ok (.isub, 1) := by decide +kernel
theorem d_B_takeOut_64 : decode b_B_takeOut 64 = .ok (.putfield 21, 3) := by decide +kernel
theorem d_B_takeOut_67 : decode b_B_takeOut 67 = .ok (.return_, 1) := by decide +kernel
theorem d_P_init_0 : decode b_P_init 0 = .ok (.aload_n 0, 1) := by decide +kernel
theorem d_P_init_1 : decode b_P_init 1 = .ok (.invokespecial 3, 3) := by decide +kernel
theorem d_P_init_4 : decode b_P_init 4 = .ok (.aload_n 0, 1) := by decide +kernel
theorem d_P_init_5 : decode b_P_init 5 = .ok (.bipush 24, 2) := by decide +kernel
theorem d_P_init_7 : decode b_P_init 7 = .ok (.newarray .int, 2) := by decide +kernel
theorem d_P_init_9 : decode b_P_init 9 = .ok (.putfield 9, 3) := by decide +kernel
theorem d_P_init_12 : decode b_P_init 12 = .ok (.aload_n 0, 1) := by decide +kernel
theorem d_P_init_13 : decode b_P_init 13 = .ok (.bipush 24, 2) := by decide +kernel
theorem d_P_init_15 : decode b_P_init 15 = .ok (.newarray .int, 2) := by decide +kernel
theorem d_P_init_17 : decode b_P_init 17 = .ok (.putfield 15, 3) := by decide +kernel
theorem d_P_init_20 : decode b_P_init 20 = .ok (.aload_n 0, 1) := by decide +kernel
theorem d_P_init_21 : decode b_P_init 21 = .ok (.bipush 24, 2) := by decide +kernel
theorem d_P_init_23 : decode b_P_init 23 = .ok (.newarray .int, 2) := by decide +kernel
theorem d_P_init_25 : decode b_P_init 25 = .ok (.putfield 18, 3) := by decide +kernel
theorem d_P_init_28 : decode b_P_init 28 = .ok (.aload_n 0, 1) := by decide +kernel
theorem d_P_init_29 : decode b_P_init 29 = .ok (.bipush 8, 2) := by decide +kernel
theorem d_P_init_31 : decode b_P_init 31 = .ok (.newarray .int, 2) := by decide +kernel
theorem d_P_init_33 : decode b_P_init 33 = .ok (.putfield 21, 3) := by decide +kernel
theorem d_P_init_36 : decode b_P_init 36 = .ok (.aload_n 0, 1) := by decide +kernel
theorem d_P_init_37 : decode b_P_init 37 = .ok (.bipush 8, 2) := by decide +kernel
theorem d_P_init_39 : decode b_P_init 39 = .ok (.newarray .int, 2) := by decide +kernel
theorem d_P_init_41 : decode b_P_init 41 = .ok (.putfield 24, 3) := by decide +kernel
theorem d_P_init_44 : decode b_P_init 44 = .ok (.aload_n 0, 1) := by decide +kernel
theorem d_P_init_45 : decode b_P_init 45 = .ok (.bipush 8, 2) := by decide +kernel
theorem d_P_init_47 : decode b_P_init 47 = .ok (.newarray .int, 2) := by decide +kernel
theorem d_P_init_49 : decode b_P_init 49 = .ok (.putfield 27, 3) := by decide +kernel
theorem d_P_init_52 : decode b_P_init 52 = .ok (.return_, 1) := by decide +kernel
theorem d_P_drawFor_0 : decode b_P_drawFor 0 = .ok (.aload_n 0, 1) := by decide +kernel
theorem d_P_drawFor_1 : decode b_P_drawFor 1 = .ok (.iload_n 1, 1) := by decide +kernel
theorem d_P_drawFor_2 : decode b_P_drawFor 2 = .ok (.putfield 30, 3) := by decide +kernel
theorem d_P_drawFor_5 : decode b_P_drawFor 5 = .ok (.aload_n 0, 1) := by decide +kernel
theorem d_P_drawFor_6 : decode b_P_drawFor 6 = .ok (.iconst 0, 1) := by decide +kernel
theorem d_P_drawFor_7 : decode b_P_drawFor 7 = .ok (.putfield 34, 3) := by decide +kernel
theorem d_P_drawFor_10 : decode b_P_drawFor 10 = .ok (.aload_n 0, 1) := by decide +kernel
theorem d_P_drawFor_11 : decode b_P_drawFor 11 = .ok (.iconst 0, 1) := by decide +kernel
theorem d_P_drawFor_12 : decode b_P_drawFor 12 = .ok (.putfield 37, 3) := by decide +kernel
theorem d_P_drawFor_15 : decode b_P_drawFor 15 = .ok (.iconst 0, 1) := by decide +kernel
theorem d_P_drawFor_16 : decode b_P_drawFor 16 = .ok (.istore_n 2, 1) := by decide +kernel
theorem d_P_drawFor_17 : decode b_P_drawFor 17 = .ok (.iload_n 2, 1) := by decide +kernel
theorem d_P_drawFor_18 : decode b_P_drawFor 18 = .ok (.iload_n 1, 1) := by decide +kernel
theorem d_P_drawFor_19 : decode b_P_drawFor 19 = .ok (.if_icmp .ge 23, 3) := by decide +kernel
theorem d_P_drawFor_22 : decode b_P_drawFor 22 = .ok (.aload_n 0, 1) := by decide +kernel
theorem d_P_drawFor_23 : decode b_P_drawFor 23 = .ok (.getfield 21, 3) := by decide +kernel
theorem d_P_drawFor_26 : decode b_P_drawFor 26 = .ok (.iload_n 2, 1) := by decide +kernel
theorem d_P_drawFor_27 : decode b_P_drawFor 27 = .ok (.iload_n 2, 1) := by decide +kernel
theorem d_P_drawFor_28 : decode b_P_drawFor 28 = .ok (.iastore, 1) := by decide +kernel
theorem d_P_drawFor_29 : decode b_P_drawFor 29 = .ok (.aload_n 0, 1) := by decide +kernel
theorem d_P_drawFor_30 : decode b_P_drawFor 30 = .ok (.getfield 24, 3) := by decide +kernel
theorem d_P_drawFor_33 : decode b_P_drawFor 33 = .ok (.iload_n 2, 1) := by decide +kernel
theorem d_P_drawFor_34 : decode b_P_drawFor 34 = .ok (.iconst 0, 1) := by decide +kernel
theorem d_P_drawFor_35 : decode b_P_drawFor 35 = .ok (.iastore, 1) := by decide +kernel
theorem d_P_drawFor_36 : decode b_P_drawFor 36 = .ok (.iinc 2 1, 3) := by decide +kernel
theorem d_P_drawFor_39 : decode b_P_drawFor 39 = .ok (.goto (-22), 3) := by decide +kernel
theorem d_P_drawFor_42 : decode b_P_drawFor 42 = .ok (.aload_n 0, 1) := by decide +kernel
theorem d_P_drawFor_43 : decode b_P_drawFor 43 = .ok (.iconst 0, 1) := by decide +kernel
theorem d_P_drawFor_44 : decode b_P_drawFor 44 = .ok (.iload_n 1, 1) := by decide +kernel
theorem d_P_drawFor_45 : decode b_P_drawFor 45 = .ok (.invokevirtual 40, 3) := by decide +kernel
theorem d_P_drawFor_48 : decode b_P_drawFor 48 = .ok (.return_, 1) := by decide +kernel
theorem d_P_balancerBehind_0 : decode b_P_balancerBehind 0 = .ok (.iload_n 2, 1) := by decide +kernel
theorem d_P_balancerBehind_1 : decode b_P_balancerBehind 1 = .ok (.iconst 1, 1) := by decide +kernel
theorem d_P_balancerBehind_2 : decode b_P_balancerBehind 2 = .ok (.iadd, 1) := by decide +kernel
theorem d_P_balancerBehind_3 : decode b_P_balancerBehind 3 = .ok (.istore_n 3, 1) := by decide +kernel
theorem d_P_balancerBehind_4 : decode b_P_balancerBehind 4 = .ok (.iload_n 3, 1) := by decide +kernel
theorem d_P_balancerBehind_5 : decode b_P_balancerBehind 5 = .ok (.aload_n 0, 1) := by decide +kernel
theorem d_P_balancerBehind_6 : decode b_P_balancerBehind 6 = .ok (.getfield 34, 3) := by decide +kernel
theorem d_P_balancerBehind_9 : decode b_P_balancerBehind 9 = .ok (.if_icmp .ge 31, 3) := by decide +kernel
theorem d_P_balancerBehind_12 : decode b_P_balancerBehind 12 = .ok (.aload_n 0, 1) := by decide +kernel
theorem d_P_balancerBehind_13 : decode b_P_balancerBehind 13 = .ok (.getfield 9, 3) := by decide +kernel
theorem d_P_balancerBehind_16 : decode b_P_balancerBehind 16 = .ok (.iload_n 3, 1) := by decide +kernel
theorem d_P_balancerBehind_17 : decode b_P_balancerBehind 17 = .ok (.iaload, 1) := by decide +kernel
theorem d_P_balancerBehind_18 : decode b_P_balancerBehind 18 = .ok (.iload_n 1, 1) := by decide +kernel
theorem d_P_balancerBehind_19 : decode b_P_balancerBehind 19 = .ok (.if_icmp .eq 13, 3) := by decide +kernel
theorem d_P_balancerBehind_22 : decode b_P_balancerBehind 22 = .ok (.aload_n 0, 1) := by decide +kernel
theorem d_P_balancerBehind_23 : decode b_P_balancerBehind 23 = .ok (.getfield 15, 3) := by decide +kernel
theorem d_P_balancerBehind_26 : decode b_P_balancerBehind 26 = .ok (.iload_n 3, 1) := by decide +kernel
theorem d_P_balancerBehind_27 : decode b_P_balancerBehind 27 = .ok (.iaload, 1) := by decide +kernel
theorem d_P_balancerBehind_28 : decode b_P_balancerBehind 28 = .ok (.iload_n 1, 1) := by decide +kernel
theorem d_P_balancerBehind_29 : decode b_P_balancerBehind 29 = .ok (.if_icmp .ne 5, 3) := by decide +kernel
theorem d_P_balancerBehind_32 : decode b_P_balancerBehind 32 = .ok (.iload_n 3, 1) := by decide +kernel
theorem d_P_balancerBehind_33 : decode b_P_balancerBehind 33 = .ok (.ireturn, 1) := by decide +kernel
theorem d_P_balancerBehind_34 : decode b_P_balancerBehind 34 = .ok (.iinc 3 1, 3) := by decide +kernel
theorem d_P_balancerBehind_37 : decode b_P_balancerBehind 37 = .ok (.goto (-33), 3) := by decide +kernel
theorem d_P_balancerBehind_40 : decode b_P_balancerBehind 40 = .ok (.iconst (-1), 1) := by decide +kernel
theorem d_P_balancerBehind_41 : decode b_P_balancerBehind 41 = .ok (.ireturn, 1) := by decide +kernel
theorem d_P_exitOf_0 : decode b_P_exitOf 0 = .ok (.iconst 0, 1) := by decide +kernel
theorem d_P_exitOf_1 : decode b_P_exitOf 1 = .ok (.istore_n 2, 1) := by decide +kernel
theorem d_P_exitOf_2 : decode b_P_exitOf 2 = .ok (.iload_n 2, 1) := by decide +kernel
theorem d_P_exitOf_3 : decode b_P_exitOf 3 = .ok (.aload_n 0, 1) := by decide +kernel
theorem d_P_exitOf_4 : decode b_P_exitOf 4 = .ok (.getfield 30, 3) := by decide +kernel
theorem d_P_exitOf_7 : decode b_P_exitOf 7 = .ok (.iconst 1, 1) := by decide +kernel
theorem d_P_exitOf_8 : decode b_P_exitOf 8 = .ok (.isub, 1) := by decide +kernel
theorem d_P_exitOf_9 : decode b_P_exitOf 9 = .ok (.if_icmp .ge 19, 3) := by decide +kernel
theorem d_P_exitOf_12 : decode b_P_exitOf 12 = .ok (.aload_n 0, 1) := by decide +kernel
theorem d_P_exitOf_13 : decode b_P_exitOf 13 = .ok (.getfield 21, 3) := by decide +kernel
theorem d_P_exitOf_16 : decode b_P_exitOf 16 = .ok (.iload_n 2, 1) := by decide +kernel
theorem d_P_exitOf_17 : decode b_P_exitOf 17 = .ok (.iaload, 1) := by decide +kernel
theorem d_P_exitOf_18 : decode b_P_exitOf 18 = .ok (.iload_n 1, 1) := by decide +kernel
theorem d_P_exitOf_19 : decode b_P_exitOf 19 = .ok (.if_icmp .eq 9, 3) := by decide +kernel
theorem d_P_exitOf_22 : decode b_P_exitOf 22 = .ok (.iinc 2 1, 3) := by decide +kernel
theorem d_P_exitOf_25 : decode b_P_exitOf 25 = .ok (.goto (-23), 3) := by decide +kernel
theorem d_P_exitOf_28 : decode b_P_exitOf 28 = .ok (.iload_n 2, 1) := by decide +kernel
theorem d_P_exitOf_29 : decode b_P_exitOf 29 = .ok (.ireturn, 1) := by decide +kernel
theorem d_P_layOut_0 : decode b_P_layOut 0 = .ok (.iload_n 2, 1) := by decide +kernel
theorem d_P_layOut_1 : decode b_P_layOut 1 = .ok (.iconst 2, 1) := by decide +kernel
theorem d_P_layOut_2 : decode b_P_layOut 2 = .ok (.if_icmp .ge 4, 3) := by decide +kernel
theorem d_P_layOut_5 : decode b_P_layOut 5 = .ok (.return_, 1) := by decide +kernel
theorem d_P_layOut_6 : decode b_P_layOut 6 = .ok (.iload_n 2, 1) := by decide +kernel
theorem d_P_layOut_7 : decode b_P_layOut 7 = .ok (.iconst 2, 1) := by decide +kernel
theorem d_P_layOut_8 : decode b_P_layOut 8 = .ok (.idiv, 1) := by decide +kernel
theorem d_P_layOut_9 : decode b_P_layOut 9 = .ok (.istore_n 3, 1) := by decide +kernel
theorem d_P_layOut_10 : decode b_P_layOut 10 = .ok (.aload_n 0, 1) := by decide +kernel
theorem d_P_layOut_11 : decode b_P_layOut 11 = .ok (.iload_n 1, 1) := by decide +kernel
theorem d_P_layOut_12 : decode b_P_layOut 12 = .ok (.iload_n 3, 1) := by decide +kernel
theorem d_P_layOut_13 : decode b_P_layOut 13 = .ok (.invokevirtual 40, 3) := by decide +kernel
theorem d_P_layOut_16 : decode b_P_layOut 16 = .ok (.aload_n 0, 1) := by decide +kernel
theorem d_P_layOut_17 : decode b_P_layOut 17 = .ok (.iload_n 1, 1) := by decide +kernel
theorem d_P_layOut_18 : decode b_P_layOut 18 = .ok (.iload_n 3, 1) := by decide +kernel
theorem d_P_layOut_19 : decode b_P_layOut 19 = .ok (.iadd, 1) := by decide +kernel
theorem d_P_layOut_20 : decode b_P_layOut 20 = .ok (.iload_n 3, 1) := by decide +kernel
theorem d_P_layOut_21 : decode b_P_layOut 21 = .ok (.invokevirtual 40, 3) := by decide +kernel
theorem d_P_layOut_24 : decode b_P_layOut 24 = .ok (.aload_n 0, 1) := by decide +kernel
theorem d_P_layOut_25 : decode b_P_layOut 25 = .ok (.iload_n 1, 1) := by decide +kernel
theorem d_P_layOut_26 : decode b_P_layOut 26 = .ok (.iload_n 2, 1) := by decide +kernel
theorem d_P_layOut_27 : decode b_P_layOut 27 = .ok (.invokevirtual 44, 3) := by decide +kernel
theorem d_P_layOut_30 : decode b_P_layOut 30 = .ok (.return_, 1) := by decide +kernel
theorem d_P_merge_0 : decode b_P_merge 0 = .ok (.iload_n 2, 1) := by decide +kernel
theorem d_P_merge_1 : decode b_P_merge 1 = .ok (.iconst 2, 1) := by decide +kernel
theorem d_P_merge_2 : decode b_P_merge 2 = .ok (.if_icmp .gt 22, 3) := by decide +kernel
theorem d_P_merge_5 : decode b_P_merge 5 = .ok (.aload_n 0, 1) := by decide +kernel
theorem d_P_merge_6 : decode b_P_merge 6 = .ok (.aload_n 0, 1) := by decide +kernel
theorem d_P_merge_7 : decode b_P_merge 7 = .ok (.getfield 21, 3) := by decide +kernel
theorem d_P_merge_10 : decode b_P_merge 10 = .ok (.iload_n 1, 1) := by decide +kernel
theorem d_P_merge_11 : decode b_P_merge 11 = .ok (.iaload, 1) := by decide +kernel
theorem d_P_merge_12 : decode b_P_merge 12 = .ok (.aload_n 0, 1) := by decide +kernel
theorem d_P_merge_13 : decode b_P_merge 13 = .ok (.getfield 21, 3) := by decide +kernel
theorem d_P_merge_16 : decode b_P_merge 16 = .ok (.iload_n 1, 1) := by decide +kernel
theorem d_P_merge_17 : decode b_P_merge 17 = .ok (.iconst 1, 1) := by decide +kernel
theorem d_P_merge_18 : decode b_P_merge 18 = .ok (.iadd, 1) := by decide +kernel
theorem d_P_merge_19 : decode b_P_merge 19 = .ok (.iaload, 1) := by decide +kernel
theorem d_P_merge_20 : decode b_P_merge 20 = .ok (.invokevirtual 47, 3) := by decide +kernel
theorem d_P_merge_23 : decode b_P_merge 23 = .ok (.return_, 1) := by decide +kernel
theorem d_P_merge_24 : decode b_P_merge 24 = .ok (.iload_n 2, 1) := by decide +kernel
theorem d_P_merge_25 : decode b_P_merge 25 = .ok (.iconst 2, 1) := by decide +kernel
theorem d_P_merge_26 : decode b_P_merge 26 = .ok (.idiv, 1) := by decide +kernel
theorem d_P_merge_27 : decode b_P_merge 27 = .ok (.istore_n 3, 1) := by decide +kernel
theorem d_P_merge_28 : decode b_P_merge 28 = .ok (.aload_n 0, 1) := by decide +kernel
theorem d_P_merge_29 : decode b_P_merge 29 = .ok (.iload_n 1, 1) := by decide +kernel
theorem d_P_merge_30 : decode b_P_merge 30 = .ok (.iload_n 3, 1) := by decide +kernel
theorem d_P_merge_31 : decode b_P_merge 31 = .ok (.invokevirtual 50, 3) := by decide +kernel
theorem d_P_merge_34 : decode b_P_merge 34 = .ok (.aload_n 0, 1) := by decide +kernel
theorem d_P_merge_35 : decode b_P_merge 35 = .ok (.iload_n 1, 1) := by decide +kernel
theorem d_P_merge_36 : decode b_P_merge 36 = .ok (.iload_n 3, 1) := by decide +kernel
theorem d_P_merge_37 : decode b_P_merge 37 = .ok (.invokevirtual 44, 3) := by decide +kernel
theorem d_P_merge_40 : decode b_P_merge 40 = .ok (.aload_n 0, 1) := by decide +kernel
theorem d_P_merge_41 : decode b_P_merge 41 = .ok (.iload_n 1, 1) := by decide +kernel
theorem d_P_merge_42 : decode b_P_merge 42 = .ok (.iload_n 3, 1) := by decide +kernel
theorem d_P_merge_43 : decode b_P_merge 43 = .ok (.iadd, 1) := by decide +kernel
theorem d_P_merge_44 : decode b_P_merge 44 = .ok (.iload_n 3, 1) := by decide +kernel
theorem d_P_merge_45 : decode b_P_merge 45 = .ok (.invokevirtual 44, 3) := by decide +kernel
theorem d_P_merge_48 : decode b_P_merge 48 = .ok (.aload_n 0, 1) := by decide +kernel
theorem d_P_merge_49 : decode b_P_merge 49 = .ok (.iload_n 1, 1) := by decide +kernel
theorem d_P_merge_50 : decode b_P_merge 50 = .ok (.iload_n 3, 1) := by decide +kernel
theorem d_P_merge_51 : decode b_P_merge 51 = .ok (.invokevirtual 53, 3) := by decide +kernel
theorem d_P_merge_54 : decode b_P_merge 54 = .ok (.return_, 1) := by decide +kernel
theorem d_P_sortIntoParts_0 : decode b_P_sortIntoParts 0 = .ok (.iload_n 2, 1) := by decide +kernel
theorem d_P_sortIntoParts_1 : decode b_P_sortIntoParts 1 = .ok (.iconst 2, 1) := by decide +kernel
theorem d_P_sortIntoParts_2 : decode b_P_sortIntoParts 2 = .ok (.idiv, 1) := by decide +kernel
theorem d_P_sortIntoParts_3 : decode b_P_sortIntoParts 3 = .ok (.istore_n 3, 1) := by decide +kernel
theorem d_P_sortIntoParts_4 : decode b_P_sortIntoParts 4 = .ok (.iconst 0, 1) := by decide +kernel
theorem d_P_sortIntoParts_5 : decode b_P_sortIntoParts 5 = .ok (.istore 4, 2) := by decide +kernel
theorem d_P_sortIntoParts_7 : decode b_P_sortIntoParts 7 = .ok (.iload 4, 2) := by decide +kernel
theorem d_P_sortIntoParts_9 : decode b_P_sortIntoParts 9 = .ok (.iload_n 2, 1) := by decide +kernel
theorem d_P_sortIntoParts_10 : decode b_P_sortIntoParts 10 = .ok (.if_icmp .ge 85, 3) := by decide +kernel
theorem d_P_sortIntoParts_13 : decode b_P_sortIntoParts 13 = .ok (.iload 4, 2) := by decide +kernel
theorem d_P_sortIntoParts_15 : decode b_P_sortIntoParts 15 = .ok (.iconst 2, 1) := by decide +kernel
theorem d_P_sortIntoParts_16 : decode b_P_sortIntoParts 16 = .ok (.irem, 1) := by decide +kernel
theorem d_P_sortIntoParts_17 : decode b_P_sortIntoParts 17 = .ok (.ifCond .ne 7, 3) := by decide +kernel
theorem d_P_sortIntoParts_20 : decode b_P_sortIntoParts 20 = .ok (.iconst 1, 1) := by decide +kernel
theorem d_P_sortIntoParts_21 : decode b_P_sortIntoParts 21 = .ok (.goto 4, 3) := by decide +kernel
theorem d_P_sortIntoParts_24 : decode b_P_sortIntoParts 24 = .ok (.iconst 0, 1) := by decide +kernel
theorem d_P_sortIntoParts_25 : decode b_P_sortIntoParts 25 = .ok (.istore 5, 2) := by decide +kernel
theorem d_P_sortIntoParts_27 : decode b_P_sortIntoParts 27 = .ok (.aload_n 0, 1) := by decide +kernel
theorem d_P_sortIntoParts_28 : decode b_P_sortIntoParts 28 = .ok (.getfield 27, 3) := by decide +kernel
theorem d_P_sortIntoParts_31 : decode b_P_sortIntoParts 31 = .ok (.iload 5, 2) := by decide +kernel
theorem d_P_sortIntoParts_33 : decode b_P_sortIntoParts 33 = .ok (.ifCond .eq 7, 3) := by decide +kernel
theorem d_P_sortIntoParts_36 : decode b_P_sortIntoParts 36 = .ok (.iconst 0, 1) := by decide +kernel
theorem d_P_sortIntoParts_37 : decode b_P_sortIntoParts 37 = .ok (.goto 4, 3) := by decide +kernel
theorem d_P_sortIntoParts_40 : decode b_P_sortIntoParts 40 = .ok (.iload_n 2, 1) := by decide +kernel
theorem d_P_sortIntoParts_41 : decode b_P_sortIntoParts 41 = .ok (.iload 4, 2) := by decide +kernel
theorem d_P_sortIntoParts_43 : decode b_P_sortIntoParts 43 = .ok (.iconst 2, 1) := by decide +kernel
theorem d_P_sortIntoParts_44 : decode b_P_sortIntoParts 44 = .ok (.idiv, 1) := by decide +kernel
theorem d_P_sortIntoParts_45 : decode b_P_sortIntoParts 45 = .ok (.iadd, 1) := by decide +kernel
theorem d_P_sortIntoParts_46 : decode b_P_sortIntoParts 46 = .ok (.aload_n 0, 1) := by decide +kernel
theorem d_P_sortIntoParts_47 : decode b_P_sortIntoParts 47 = .ok (.getfield 21, 3) := by decide +kernel
theorem d_P_sortIntoParts_50 : decode b_P_sortIntoParts 50 = .ok (.iload_n 1, 1) := by decide +kernel
theorem d_P_sortIntoParts_51 : decode b_P_sortIntoParts 51 = .ok (.iload 4, 2) := by decide +kernel
theorem d_P_sortIntoParts_53 : decode b_P_sortIntoParts 53 = .ok (.iadd, 1) := by decide +kernel
theorem d_P_sortIntoParts_54 : decode b_P_sortIntoParts 54 = .ok (.iaload, 1) := by decide +kernel
theorem d_P_sortIntoParts_55 : decode b_P_sortIntoParts 55 = .ok (.iastore, 1) := by decide +kernel
theorem d_P_sortIntoParts_56 : decode b_P_sortIntoParts 56 = .ok (.aload_n 0, 1) := by decide +kernel
theorem d_P_sortIntoParts_57 : decode b_P_sortIntoParts 57 = .ok (.getfield 27, 3) := by decide +kernel
theorem d_P_sortIntoParts_60 : decode b_P_sortIntoParts 60 = .ok (.iload 5, 2) := by decide +kernel
theorem d_P_sortIntoParts_62 : decode b_P_sortIntoParts 62 = .ok (.ifCond .eq 7, 3) := by decide +kernel
theorem d_P_sortIntoParts_65 : decode b_P_sortIntoParts 65 = .ok (.iload_n 2, 1) := by decide +kernel
theorem d_P_sortIntoParts_66 : decode b_P_sortIntoParts 66 = .ok (.goto 4, 3) := by decide +kernel
theorem d_P_sortIntoParts_69 : decode b_P_sortIntoParts 69 = .ok (.iconst 0, 1) := by decide +kernel
theorem d_P_sortIntoParts_70 : decode b_P_sortIntoParts 70 = .ok (.iload_n 3, 1) := by decide +kernel
theorem d_P_sortIntoParts_71 : decode b_P_sortIntoParts 71 = .ok (.iadd, 1) := by decide +kernel
theorem d_P_sortIntoParts_72 : decode b_P_sortIntoParts 72 = .ok (.iload 4, 2) := by decide +kernel
theorem d_P_sortIntoParts_74 : decode b_P_sortIntoParts 74 = .ok (.iconst 2, 1) := by decide +kernel
theorem d_P_sortIntoParts_75 : decode b_P_sortIntoParts 75 = .ok (.idiv, 1) := by decide +kernel
theorem d_P_sortIntoParts_76 : decode b_P_sortIntoParts 76 = .ok (.iadd, 1) := by decide +kernel
theorem d_P_sortIntoParts_77 : decode b_P_sortIntoParts 77 = .ok (.aload_n 0, 1) := by decide +kernel
theorem d_P_sortIntoParts_78 : decode b_P_sortIntoParts 78 = .ok (.getfield 21, 3) := by decide +kernel
theorem d_P_sortIntoParts_81 : decode b_P_sortIntoParts 81 = .ok (.iload_n 1, 1) := by decide +kernel
theorem d_P_sortIntoParts_82 : decode b_P_sortIntoParts 82 = .ok (.iload_n 2, 1) := by decide +kernel
theorem d_P_sortIntoParts_83 : decode b_P_sortIntoParts 83 = .ok (.iadd, 1) := by decide +kernel
theorem d_P_sortIntoParts_84 : decode b_P_sortIntoParts 84 = .ok (.iload 4, 2) := by decide +kernel
theorem d_P_sortIntoParts_86 : decode b_P_sortIntoParts 86 = .ok (.iadd, 1) := by decide +kernel
theorem d_P_sortIntoParts_87 : decode b_P_sortIntoParts 87 = .ok (.iaload, 1) := by decide +kernel
theorem d_P_sortIntoParts_88 : decode b_P_sortIntoParts 88 = .ok (.iastore, 1) := by decide +kernel
theorem d_P_sortIntoParts_89 : decode b_P_sortIntoParts 89 = .ok (.iinc 4 1, 3) := by decide +kernel
theorem d_P_sortIntoParts_92 : decode b_P_sortIntoParts 92 = .ok (.goto (-85), 3) := by decide +kernel
theorem d_P_sortIntoParts_95 : decode b_P_sortIntoParts 95 = .ok (.aload_n 0, 1) := by decide +kernel
theorem d_P_sortIntoParts_96 : decode b_P_sortIntoParts 96 = .ok (.getfield 27, 3) := by decide +kernel
theorem d_P_sortIntoParts_99 : decode b_P_sortIntoParts 99 = .ok (.iconst 0, 1) := by decide +kernel
theorem d_P_sortIntoParts_100 : decode b_P_sortIntoParts 100 = .ok (.aload_n 0, 1) := by decide +kernel
theorem d_P_sortIntoParts_101 : decode b_P_sortIntoParts 101 = .ok (.getfield 21, 3) := by decide +kernel
theorem d_P_sortIntoParts_104 : decode b_P_sortIntoParts 104 = .ok (.iload_n 1, 1) := by decide +kernel
theorem d_P_sortIntoParts_105 : decode b_P_sortIntoParts 105 = .ok (.iconst 2, 1) := by decide +kernel
theorem d_P_sortIntoParts_106 : decode b_P_sortIntoParts 106 = .ok (.iload_n 2, 1) := by decide +kernel
theorem d_P_sortIntoParts_107 : decode b_P_sortIntoParts 107 = .ok (.imul, 1) := by decide +kernel
theorem d_P_sortIntoParts_108 : decode b_P_sortIntoParts 108 = .ok (.invokestatic 56, 3) := by decide +kernel
theorem d_P_sortIntoParts_111 : decode b_P_sortIntoParts 111 = .ok (.return_, 1) := by decide +kernel
theorem d_P_joinParts_0 : decode b_P_joinParts 0 = .ok (.iconst 0, 1) := by decide +kernel
theorem d_P_joinParts_1 : decode b_P_joinParts 1 = .ok (.istore_n 3, 1) := by decide +kernel
theorem d_P_joinParts_2 : decode b_P_joinParts 2 = .ok (.iload_n 3, 1) := by decide +kernel
theorem d_P_joinParts_3 : decode b_P_joinParts 3 = .ok (.iload_n 2, 1) := by decide +kernel
theorem d_P_joinParts_4 : decode b_P_joinParts 4 = .ok (.if_icmp .ge 67, 3) := by decide +kernel
theorem d_P_joinParts_7 : decode b_P_joinParts 7 = .ok (.aload_n 0, 1) := by decide +kernel
theorem d_P_joinParts_8 : decode b_P_joinParts 8 = .ok (.getfield 27, 3) := by decide +kernel
theorem d_P_joinParts_11 : decode b_P_joinParts 11 = .ok (.iconst 2, 1) := by decide +kernel
theorem d_P_joinParts_12 : decode b_P_joinParts 12 = .ok (.iload_n 3, 1) := by decide +kernel
theorem d_P_joinParts_13 : decode b_P_joinParts 13 = .ok (.imul, 1) := by decide +kernel
theorem d_P_joinParts_14 : decode b_P_joinParts 14 = .ok (.aload_n 0, 1) := by decide +kernel
theorem d_P_joinParts_15 : decode b_P_joinParts 15 = .ok (.getfield 21, 3) := by decide +kernel
theorem d_P_joinParts_18 : decode b_P_joinParts 18 = .ok (.iload_n 1, 1) := by decide +kernel
theorem d_P_joinParts_19 : decode b_P_joinParts 19 = .ok (.iload_n 3, 1) := by decide +kernel
theorem d_P_joinParts_20 : decode b_P_joinParts 20 = .ok (.iadd, 1) := by decide +kernel
theorem d_P_joinParts_21 : decode b_P_joinParts 21 = .ok (.iaload, 1) := by decide +kernel
theorem d_P_joinParts_22 : decode b_P_joinParts 22 = .ok (.iastore, 1) := by decide +kernel
theorem d_P_joinParts_23 : decode b_P_joinParts 23 = .ok (.aload_n 0, 1) := by decide +kernel
theorem d_P_joinParts_24 : decode b_P_joinParts 24 = .ok (.getfield 27, 3) := by decide +kernel
theorem d_P_joinParts_27 : decode b_P_joinParts 27 = .ok (.iconst 2, 1) := by decide +kernel
theorem d_P_joinParts_28 : decode b_P_joinParts 28 = .ok (.iload_n 3, 1) := by decide +kernel
theorem d_P_joinParts_29 : decode b_P_joinParts 29 = .ok (.imul, 1) := by decide +kernel
theorem d_P_joinParts_30 : decode b_P_joinParts 30 = .ok (.iconst 1, 1) := by decide +kernel
theorem d_P_joinParts_31 : decode b_P_joinParts 31 = .ok (.iadd, 1) := by decide +kernel
theorem d_P_joinParts_32 : decode b_P_joinParts 32 = .ok (.aload_n 0, 1) := by decide +kernel
theorem d_P_joinParts_33 : decode b_P_joinParts 33 = .ok (.getfield 21, 3) := by decide +kernel
theorem d_P_joinParts_36 : decode b_P_joinParts 36 = .ok (.iload_n 1, 1) := by decide +kernel
theorem d_P_joinParts_37 : decode b_P_joinParts 37 = .ok (.iload_n 2, 1) := by decide +kernel
theorem d_P_joinParts_38 : decode b_P_joinParts 38 = .ok (.iadd, 1) := by decide +kernel
theorem d_P_joinParts_39 : decode b_P_joinParts 39 = .ok (.iload_n 3, 1) := by decide +kernel
theorem d_P_joinParts_40 : decode b_P_joinParts 40 = .ok (.iadd, 1) := by decide +kernel
theorem d_P_joinParts_41 : decode b_P_joinParts 41 = .ok (.iaload, 1) := by decide +kernel
theorem d_P_joinParts_42 : decode b_P_joinParts 42 = .ok (.iastore, 1) := by decide +kernel
theorem d_P_joinParts_43 : decode b_P_joinParts 43 = .ok (.aload_n 0, 1) := by decide +kernel
theorem d_P_joinParts_44 : decode b_P_joinParts 44 = .ok (.aload_n 0, 1) := by decide +kernel
theorem d_P_joinParts_45 : decode b_P_joinParts 45 = .ok (.getfield 27, 3) := by decide +kernel
theorem d_P_joinParts_48 : decode b_P_joinParts 48 = .ok (.iconst 2, 1) := by decide +kernel
theorem d_P_joinParts_49 : decode b_P_joinParts 49 = .ok (.iload_n 3, 1) := by decide +kernel
theorem d_P_joinParts_50 : decode b_P_joinParts 50 = .ok (.imul, 1) := by decide +kernel
theorem d_P_joinParts_51 : decode b_P_joinParts 51 = .ok (.iaload, 1) := by decide +kernel
theorem d_P_joinParts_52 : decode b_P_joinParts 52 = .ok (.aload_n 0, 1) := by decide +kernel
theorem d_P_joinParts_53 : decode b_P_joinParts 53 = .ok (.getfield 27, 3) := by decide +kernel
theorem d_P_joinParts_56 : decode b_P_joinParts 56 = .ok (.iconst 2, 1) := by decide +kernel
theorem d_P_joinParts_57 : decode b_P_joinParts 57 = .ok (.iload_n 3, 1) := by decide +kernel
theorem d_P_joinParts_58 : decode b_P_joinParts 58 = .ok (.imul, 1) := by decide +kernel
theorem d_P_joinParts_59 : decode b_P_joinParts 59 = .ok (.iconst 1, 1) := by decide +kernel
theorem d_P_joinParts_60 : decode b_P_joinParts 60 = .ok (.iadd, 1) := by decide +kernel
theorem d_P_joinParts_61 : decode b_P_joinParts 61 = .ok (.iaload, 1) := by decide +kernel
theorem d_P_joinParts_62 : decode b_P_joinParts 62 = .ok (.invokevirtual 47, 3) := by decide +kernel
theorem d_P_joinParts_65 : decode b_P_joinParts 65 = .ok (.iinc 3 1, 3) := by decide +kernel
theorem d_P_joinParts_68 : decode b_P_joinParts 68 = .ok (.goto (-66), 3) := by decide +kernel
theorem d_P_joinParts_71 : decode b_P_joinParts 71 = .ok (.aload_n 0, 1) := by decide +kernel
theorem d_P_joinParts_72 : decode b_P_joinParts 72 = .ok (.getfield 27, 3) := by decide +kernel
theorem d_P_joinParts_75 : decode b_P_joinParts 75 = .ok (.iconst 0, 1) := by decide +kernel
theorem d_P_joinParts_76 : decode b_P_joinParts 76 = .ok (.aload_n 0, 1) := by decide +kernel
theorem d_P_joinParts_77 : decode b_P_joinParts 77 = .ok (.getfield 21, 3) := by decide +kernel
theorem d_P_joinParts_80 : decode b_P_joinParts 80 = .ok (.iload_n 1, 1) := by decide +kernel
theorem d_P_joinParts_81 : decode b_P_joinParts 81 = .ok (.iconst 2, 1) := by decide +kernel
theorem d_P_joinParts_82 : decode b_P_joinParts 82 = .ok (.iload_n 2, 1) := by decide +kernel
theorem d_P_joinParts_83 : decode b_P_joinParts 83 = .ok (.imul, 1) := by decide +kernel
theorem d_P_joinParts_84 : decode b_P_joinParts 84 = .ok (.invokestatic 56, 3) := by decide +kernel
theorem d_P_joinParts_87 : decode b_P_joinParts 87 = .ok (.return_, 1) := by decide +kernel
theorem d_P_lay_0 : decode b_P_lay 0 = .ok (.aload_n 0, 1) := by decide +kernel
theorem d_P_lay_1 : decode b_P_lay 1 = .ok (.getfield 24, 3) := by decide +kernel
theorem d_P_lay_4 : decode b_P_lay 4 = .ok (.iload_n 1, 1) := by decide +kernel
theorem d_P_lay_5 : decode b_P_lay 5 = .ok (.iaload, 1) := by decide +kernel
theorem d_P_lay_6 : decode b_P_lay 6 = .ok (.aload_n 0, 1) := by decide +kernel
theorem d_P_lay_7 : decode b_P_lay 7 = .ok (.getfield 24, 3) := by decide +kernel
theorem d_P_lay_10 : decode b_P_lay 10 = .ok (.iload_n 2, 1) := by decide +kernel
theorem d_P_lay_11 : decode b_P_lay 11 = .ok (.iaload, 1) := by decide +kernel
theorem d_P_lay_12 : decode b_P_lay 12 = .ok (.invokestatic 62, 3) := by decide +kernel
theorem d_P_lay_15 : decode b_P_lay 15 = .ok (.istore_n 3, 1) := by decide +kernel
theorem d_P_lay_16 : decode b_P_lay 16 = .ok (.aload_n 0, 1) := by decide +kernel
theorem d_P_lay_17 : decode b_P_lay 17 = .ok (.getfield 9, 3) := by decide +kernel
theorem d_P_lay_20 : decode b_P_lay 20 = .ok (.aload_n 0, 1) := by decide +kernel
theorem d_P_lay_21 : decode b_P_lay 21 = .ok (.getfield 34, 3) := by decide +kernel
theorem d_P_lay_24 : decode b_P_lay 24 = .ok (.iload_n 1, 1) := by decide +kernel
theorem d_P_lay_25 : decode b_P_lay 25 = .ok (.iastore, 1) := by decide +kernel
theorem d_P_lay_26 : decode b_P_lay 26 = .ok (.aload_n 0, 1) := by decide +kernel
theorem d_P_lay_27 : decode b_P_lay 27 = .ok (.getfield 15, 3) := by decide +kernel
theorem d_P_lay_30 : decode b_P_lay 30 = .ok (.aload_n 0, 1) := by decide +kernel
theorem d_P_lay_31 : decode b_P_lay 31 = .ok (.getfield 34, 3) := by decide +kernel
theorem d_P_lay_34 : decode b_P_lay 34 = .ok (.iload_n 2, 1) := by decide +kernel
theorem d_P_lay_35 : decode b_P_lay 35 = .ok (.iastore, 1) := by decide +kernel
theorem d_P_lay_36 : decode b_P_lay 36 = .ok (.aload_n 0, 1) := by decide +kernel
theorem d_P_lay_37 : decode b_P_lay 37 = .ok (.getfield 18, 3) := by decide +kernel
theorem d_P_lay_40 : decode b_P_lay 40 = .ok (.aload_n 0, 1) := by decide +kernel
theorem d_P_lay_41 : decode b_P_lay 41 = .ok (.getfield 34, 3) := by decide +kernel
theorem d_P_lay_44 : decode b_P_lay 44 = .ok (.iload_n 3, 1) := by decide +kernel
theorem d_P_lay_45 : decode b_P_lay 45 = .ok (.iastore, 1) := by decide +kernel
theorem d_P_lay_46 : decode b_P_lay 46 = .ok (.aload_n 0, 1) := by decide +kernel
theorem d_P_lay_47 : decode b_P_lay 47 = .ok (.dup, 1) := by decide +kernel
theorem d_P_lay_48 : decode b_P_lay 48 = .ok (.getfield 34, 3) := by decide +kernel
theorem d_P_lay_51 : decode b_P_lay 51 = .ok (.iconst 1, 1) := by decide +kernel
theorem d_P_lay_52 : decode b_P_lay 52 = .ok (.iadd, 1) := by decide +kernel
theorem d_P_lay_53 : decode b_P_lay 53 = .ok (.putfield 34, 3) := by decide +kernel
theorem d_P_lay_56 : decode b_P_lay 56 = .ok (.aload_n 0, 1) := by decide +kernel
theorem d_P_lay_57 : decode b_P_lay 57 = .ok (.getfield 24, 3) := by decide +kernel
theorem d_P_lay_60 : decode b_P_lay 60 = .ok (.iload_n 1, 1) := by decide +kernel
theorem d_P_lay_61 : decode b_P_lay 61 = .ok (.iload_n 3, 1) := by decide +kernel
theorem d_P_lay_62 : decode b_P_lay 62 = .ok (.iconst 1, 1) := by decide +kernel
theorem d_P_lay_63 : decode b_P_lay 63 = .ok (.iadd, 1) := by decide +kernel
theorem d_P_lay_64 : decode b_P_lay 64 = .ok (.iastore, 1) := by decide +kernel
theorem d_P_lay_65 : decode b_P_lay 65 = .ok (.aload_n 0, 1) := by decide +kernel
theorem d_P_lay_66 : decode b_P_lay 66 = .ok (.getfield 24, 3) := by decide +kernel
theorem d_P_lay_69 : decode b_P_lay 69 = .ok (.iload_n 2, 1) := by decide +kernel
theorem d_P_lay_70 : decode b_P_lay 70 = .ok (.iload_n 3, 1) := by decide +kernel
theorem d_P_lay_71 : decode b_P_lay 71 = .ok (.iconst 1, 1) := by decide +kernel
theorem d_P_lay_72 : decode b_P_lay 72 = .ok (.iadd, 1) := by decide +kernel
theorem d_P_lay_73 : decode b_P_lay 73 = .ok (.iastore, 1) := by decide +kernel
theorem d_P_lay_74 : decode b_P_lay 74 = .ok (.aload_n 0, 1) := by decide +kernel
theorem d_P_lay_75 : decode b_P_lay 75 = .ok (.aload_n 0, 1) := by decide +kernel
theorem d_P_lay_76 : decode b_P_lay 76 = .ok (.getfield 37, 3) := by decide +kernel
theorem d_P_lay_79 : decode b_P_lay 79 = .ok (.iload_n 3, 1) := by decide +kernel
theorem d_P_lay_80 : decode b_P_lay 80 = .ok (.iconst 1, 1) := by decide +kernel
theorem d_P_lay_81 : decode b_P_lay 81 = .ok (.iadd, 1) := by decide +kernel
theorem d_P_lay_82 : decode b_P_lay 82 = .ok (.invokestatic 62, 3) := by decide +kernel
theorem d_P_lay_85 : decode b_P_lay 85 = .ok (.putfield 37, 3) := by decide +kernel
theorem d_P_lay_88 : decode b_P_lay 88 = .ok (.return_, 1) := by decide +kernel
theorem d_T_init_0 : decode b_T_init 0 = .ok (.aload_n 0, 1) := by decide +kernel
theorem d_T_init_1 : decode b_T_init 1 = .ok (.invokespecial 3, 3) := by decide +kernel
theorem d_T_init_4 : decode b_T_init 4 = .ok (.aload_n 0, 1) := by decide +kernel
theorem d_T_init_5 : decode b_T_init 5 = .ok (.sipush 200, 3) := by decide +kernel
theorem d_T_init_8 : decode b_T_init 8 = .ok (.newarray .int, 2) := by decide +kernel
theorem d_T_init_10 : decode b_T_init 10 = .ok (.putfield 9, 3) := by decide +kernel
theorem d_T_init_13 : decode b_T_init 13 = .ok (.aload_n 0, 1) := by decide +kernel
theorem d_T_init_14 : decode b_T_init 14 = .ok (.sipush 200, 3) := by decide +kernel
theorem d_T_init_17 : decode b_T_init 17 = .ok (.newarray .int, 2) := by decide +kernel
theorem d_T_init_19 : decode b_T_init 19 = .ok (.putfield 15, 3) := by decide +kernel
theorem d_T_init_22 : decode b_T_init 22 = .ok (.aload_n 0, 1) := by decide +kernel
theorem d_T_init_23 : decode b_T_init 23 = .ok (.sipush 200, 3) := by decide +kernel
theorem d_T_init_26 : decode b_T_init 26 = .ok (.newarray .int, 2) := by decide +kernel
theorem d_T_init_28 : decode b_T_init 28 = .ok (.putfield 18, 3) := by decide +kernel
theorem d_T_init_31 : decode b_T_init 31 = .ok (.aload_n 0, 1) := by decide +kernel
theorem d_T_init_32 : decode b_T_init 32 = .ok (.sipush 200, 3) := by decide +kernel
theorem d_T_init_35 : decode b_T_init 35 = .ok (.newarray .int, 2) := by decide +kernel
theorem d_T_init_37 : decode b_T_init 37 = .ok (.putfield 21, 3) := by decide +kernel
theorem d_T_init_40 : decode b_T_init 40 = .ok (.aload_n 0, 1) := by decide +kernel
theorem d_T_init_41 : decode b_T_init 41 = .ok (.sipush 200, 3) := by decide +kernel
theorem d_T_init_44 : decode b_T_init 44 = .ok (.newarray .int, 2) := by decide +kernel
theorem d_T_init_46 : decode b_T_init 46 = .ok (.putfield 24, 3) := by decide +kernel
theorem d_T_init_49 : decode b_T_init 49 = .ok (.aload_n 0, 1) := by decide +kernel
theorem d_T_init_50 : decode b_T_init 50 = .ok (.sipush 200, 3) := by decide +kernel
theorem d_T_init_53 : decode b_T_init 53 = .ok (.newarray .int, 2) := by decide +kernel
theorem d_T_init_55 : decode b_T_init 55 = .ok (.putfield 27, 3) := by decide +kernel
theorem d_T_init_58 : decode b_T_init 58 = .ok (.aload_n 0, 1) := by decide +kernel
theorem d_T_init_59 : decode b_T_init 59 = .ok (.sipush 200, 3) := by decide +kernel
theorem d_T_init_62 : decode b_T_init 62 = .ok (.newarray .int, 2) := by decide +kernel
theorem d_T_init_64 : decode b_T_init 64 = .ok (.putfield 30, 3) := by decide +kernel
theorem d_T_init_67 : decode b_T_init 67 = .ok (.aload_n 0, 1) := by decide +kernel
theorem d_T_init_68 : decode b_T_init 68 = .ok (.sipush 200, 3) := by decide +kernel
theorem d_T_init_71 : decode b_T_init 71 = .ok (.newarray .boolean, 2) := by decide +kernel
theorem d_T_init_73 : decode b_T_init 73 = .ok (.putfield 33, 3) := by decide +kernel
theorem d_T_init_76 : decode b_T_init 76 = .ok (.return_, 1) := by decide +kernel
theorem d_T_clear_0 : decode b_T_clear 0 = .ok (.aload_n 0, 1) := by decide +kernel
theorem d_T_clear_1 : decode b_T_clear 1 = .ok (.iconst 0, 1) := by decide +kernel
theorem d_T_clear_2 : decode b_T_clear 2 = .ok (.putfield 37, 3) := by decide +kernel
theorem d_T_clear_5 : decode b_T_clear 5 = .ok (.aload_n 0, 1) := by decide +kernel
theorem d_T_clear_6 : decode b_T_clear 6 = .ok (.iconst 0, 1) := by decide +kernel
theorem d_T_clear_7 : decode b_T_clear 7 = .ok (.putfield 41, 3) := by decide +kernel
theorem d_T_clear_10 : decode b_T_clear 10 = .ok (.return_, 1) := by decide +kernel
theorem d_T_has_0 : decode b_T_has 0 = .ok (.iload_n 1, 1) := by decide +kernel
theorem d_T_has_1 : decode b_T_has 1 = .ok (.ifCond .lt 15, 3) := by decide +kernel
theorem d_T_has_4 : decode b_T_has 4 = .ok (.iload_n 1, 1) := by decide +kernel
theorem d_T_has_5 : decode b_T_has 5 = .ok (.aload_n 0, 1) := by decide +kernel
theorem d_T_has_6 : decode b_T_has 6 = .ok (.getfield 37, 3) := by decide +kernel
theorem d_T_has_9 : decode b_T_has 9 = .ok (.if_icmp .ge 7, 3) := by decide +kernel
theorem d_T_has_12 : decode b_T_has 12 = .ok (.iconst 1, 1) := by decide +kernel
theorem d_T_has_13 : decode b_T_has 13 = .ok (.goto 4, 3) := by decide +kernel
theorem d_T_has_16 : decode b_T_has 16 = .ok (.iconst 0, 1) := by decide +kernel
theorem d_T_has_17 : decode b_T_has 17 = .ok (.ireturn, 1) := by decide +kernel
theorem d_T_add_0 : decode b_T_add 0 = .ok (.aload_n 0, 1) := by decide +kernel
theorem d_T_add_1 : decode b_T_add 1 = .ok (.getfield 37, 3) := by decide +kernel
theorem d_T_add_4 : decode b_T_add 4 = .ok (.istore_n 3, 1) := by decide +kernel
theorem d_T_add_5 : decode b_T_add 5 = .ok (.aload_n 0, 1) := by decide +kernel
theorem d_T_add_6 : decode b_T_add 6 = .ok (.dup, 1) := by decide +kernel
theorem d_T_add_7 : decode b_T_add 7 = .ok (.getfield 37, 3) := by decide +kernel
theorem d_T_add_10 : decode b_T_add 10 = .ok (.iconst 1, 1) := by decide +kernel
theorem d_T_add_11 : decode b_T_add 11 = .ok (.iadd, 1) := by decide +kernel
theorem d_T_add_12 : decode b_T_add 12 = .ok (.putfield 37, 3) := by decide +kernel
theorem d_T_add_15 : decode b_T_add 15 = .ok (.aload_n 0, 1) := by decide +kernel
theorem d_T_add_16 : decode b_T_add 16 = .ok (.dup, 1) := by decide +kernel
theorem d_T_add_17 : decode b_T_add 17 = .ok (.getfield 41, 3) := by decide +kernel
theorem d_T_add_20 : decode b_T_add 20 = .ok (.iconst 1, 1) := by decide +kernel
theorem d_T_add_21 : decode b_T_add 21 = .ok (.iadd, 1) := by decide +kernel
theorem d_T_add_22 : decode b_T_add 22 = .ok (.putfield 41, 3) := by decide +kernel
theorem d_T_add_25 : decode b_T_add 25 = .ok (.aload_n 0, 1) := by decide +kernel
theorem d_T_add_26 : decode b_T_add 26 = .ok (.getfield 9, 3) := by decide +kernel
theorem d_T_add_29 : decode b_T_add 29 = .ok (.iload_n 3, 1) := by decide +kernel
theorem d_T_add_30 : decode b_T_add 30 = .ok (.iload_n 1, 1) := by decide +kernel
theorem d_T_add_31 : decode b_T_add 31 = .ok (.iastore, 1) := by decide +kernel
theorem d_T_add_32 : decode b_T_add 32 = .ok (.aload_n 0, 1) := by decide +kernel
theorem d_T_add_33 : decode b_T_add 33 = .ok (.getfield 15, 3) := by decide +kernel
theorem d_T_add_36 : decode b_T_add 36 = .ok (.iload_n 3, 1) := by decide +kernel
theorem d_T_add_37 : decode b_T_add 37 = .ok (.iconst (-1), 1) := by decide +kernel
theorem d_T_add_38 : decode b_T_add 38 = .ok (.iastore, 1) := by decide +kernel
theorem d_T_add_39 : decode b_T_add 39 = .ok (.aload_n 0, 1) := by decide +kernel
theorem d_T_add_40 : decode b_T_add 40 = .ok (.getfield 18, 3) := by decide +kernel
theorem d_T_add_43 : decode b_T_add 43 = .ok (.iload_n 3, 1) := by decide +kernel
theorem d_T_add_44 : decode b_T_add 44 = .ok (.iconst 0, 1) := by decide +kernel
theorem d_T_add_45 : decode b_T_add 45 = .ok (.iastore, 1) := by decide +kernel
theorem d_T_add_46 : decode b_T_add 46 = .ok (.aload_n 0, 1) := by decide +kernel
theorem d_T_add_47 : decode b_T_add 47 = .ok (.getfield 21, 3) := by decide +kernel
theorem d_T_add_50 : decode b_T_add 50 = .ok (.iload_n 3, 1) := by decide +kernel
theorem d_T_add_51 : decode b_T_add 51 = .ok (.iconst 0, 1) := by decide +kernel
theorem d_T_add_52 : decode b_T_add 52 = .ok (.iastore, 1) := by decide +kernel
theorem d_T_add_53 : decode b_T_add 53 = .ok (.aload_n 0, 1) := by decide +kernel
theorem d_T_add_54 : decode b_T_add 54 = .ok (.getfield 24, 3) := by decide +kernel
theorem d_T_add_57 : decode b_T_add 57 = .ok (.iload_n 3, 1) := by decide +kernel
theorem d_T_add_58 : decode b_T_add 58 = .ok (.iconst (-1), 1) := by decide +kernel
theorem d_T_add_59 : decode b_T_add 59 = .ok (.iastore, 1) := by decide +kernel
theorem d_T_add_60 : decode b_T_add 60 = .ok (.aload_n 0, 1) := by decide +kernel
theorem d_T_add_61 : decode b_T_add 61 = .ok (.getfield 27, 3) := by decide +kernel
theorem d_T_add_64 : decode b_T_add 64 = .ok (.iload_n 3, 1) := by decide +kernel
theorem d_T_add_65 : decode b_T_add 65 = .ok (.iconst 0, 1) := by decide +kernel
theorem d_T_add_66 : decode b_T_add 66 = .ok (.iastore, 1) := by decide +kernel
theorem d_T_add_67 : decode b_T_add 67 = .ok (.aload_n 0, 1) := by decide +kernel
theorem d_T_add_68 : decode b_T_add 68 = .ok (.getfield 30, 3) := by decide +kernel
theorem d_T_add_71 : decode b_T_add 71 = .ok (.iload_n 3, 1) := by decide +kernel
theorem d_T_add_72 : decode b_T_add 72 = .ok (.iconst (-1), 1) := by decide +kernel
theorem d_T_add_73 : decode b_T_add 73 = .ok (.iastore, 1) := by decide +kernel
theorem d_T_add_74 : decode b_T_add 74 = .ok (.aload_n 0, 1) := by decide +kernel
theorem d_T_add_75 : decode b_T_add 75 = .ok (.getfield 33, 3) := by decide +kernel
theorem d_T_add_78 : decode b_T_add 78 = .ok (.iload_n 3, 1) := by decide +kernel
theorem d_T_add_79 : decode b_T_add 79 = .ok (.iload_n 2, 1) := by decide +kernel
theorem d_T_add_80 : decode b_T_add 80 = .ok (.bastore, 1) := by decide +kernel
theorem d_T_add_81 : decode b_T_add 81 = .ok (.iload_n 3, 1) := by decide +kernel
theorem d_T_add_82 : decode b_T_add 82 = .ok (.ireturn, 1) := by decide +kernel
theorem d_T_setOut_0 : decode b_T_setOut 0 = .ok (.aload_n 0, 1) := by decide +kernel
theorem d_T_setOut_1 : decode b_T_setOut 1 = .ok (.getfield 27, 3) := by decide +kernel
theorem d_T_setOut_4 : decode b_T_setOut 4 = .ok (.iload_n 1, 1) := by decide +kernel
theorem d_T_setOut_5 : decode b_T_setOut 5 = .ok (.dup2, 1) := by decide +kernel
theorem d_T_setOut_6 : decode b_T_setOut 6 = .ok (.iaload, 1) := by decide +kernel
theorem d_T_setOut_7 : decode b_T_setOut 7 = .ok (.iconst 1, 1) := by decide +kernel
theorem d_T_setOut_8 : decode b_T_setOut 8 = .ok (.iadd, 1) := by decide +kernel
theorem d_T_setOut_9 : decode b_T_setOut 9 = .ok (.iastore, 1) := by decide +kernel
theorem d_T_setOut_10 : decode b_T_setOut 10 = .ok (.aload_n 0, 1) := by decide +kernel
theorem d_T_setOut_11 : decode b_T_setOut 11 = .ok (.getfield 18, 3) := by decide +kernel
theorem d_T_setOut_14 : decode b_T_setOut 14 = .ok (.iload_n 1, 1) := by decide +kernel
theorem d_T_setOut_15 : decode b_T_setOut 15 = .ok (.iconst 1, 1) := by decide +kernel
theorem d_T_setOut_16 : decode b_T_setOut 16 = .ok (.iastore, 1) := by decide +kernel
theorem d_T_setOut_17 : decode b_T_setOut 17 = .ok (.return_, 1) := by decide +kernel
theorem d_T_arrive_0 : decode b_T_arrive 0 = .ok (.aload_n 0, 1) := by decide +kernel
theorem d_T_arrive_1 : decode b_T_arrive 1 = .ok (.getfield 15, 3) := by decide +kernel
theorem d_T_arrive_4 : decode b_T_arrive 4 = .ok (.iload_n 1, 1) := by decide +kernel
theorem d_T_arrive_5 : decode b_T_arrive 5 = .ok (.iload_n 2, 1) := by decide +kernel
theorem d_T_arrive_6 : decode b_T_arrive 6 = .ok (.iastore, 1) := by decide +kernel
theorem d_T_arrive_7 : decode b_T_arrive 7 = .ok (.aload_n 0, 1) := by decide +kernel
theorem d_T_arrive_8 : decode b_T_arrive 8 = .ok (.getfield 18, 3) := by decide +kernel
theorem d_T_arrive_11 : decode b_T_arrive 11 = .ok (.iload_n 1, 1) := by decide +kernel
theorem d_T_arrive_12 : decode b_T_arrive 12 = .ok (.iconst 0, 1) := by decide +kernel
theorem d_T_arrive_13 : decode b_T_arrive 13 = .ok (.iastore, 1) := by decide +kernel
theorem d_T_arrive_14 : decode b_T_arrive 14 = .ok (.return_, 1) := by decide +kernel
theorem d_T_pass_0 : decode b_T_pass 0 = .ok (.aload_n 0, 1) := by decide +kernel
theorem d_T_pass_1 : decode b_T_pass 1 = .ok (.getfield 21, 3) := by decide +kernel
theorem d_T_pass_4 : decode b_T_pass 4 = .ok (.iload_n 1, 1) := by decide +kernel
theorem d_T_pass_5 : decode b_T_pass 5 = .ok (.dup2, 1) := by decide +kernel
theorem d_T_pass_6 : decode b_T_pass 6 = .ok (.iaload, 1) := by decide +kernel
theorem d_T_pass_7 : decode b_T_pass 7 = .ok (.iconst 1, 1) := by decide +kernel
theorem d_T_pass_8 : decode b_T_pass 8 = .ok (.iadd, 1) := by decide +kernel
theorem d_T_pass_9 : decode b_T_pass 9 = .ok (.iastore, 1) := by decide +kernel
theorem d_T_pass_10 : decode b_T_pass 10 = .ok (.aload_n 0, 1) := by decide +kernel
theorem d_T_pass_11 : decode b_T_pass 11 = .ok (.getfield 24, 3) := by decide +kernel
theorem d_T_pass_14 : decode b_T_pass 14 = .ok (.iload_n 1, 1) := by decide +kernel
theorem d_T_pass_15 : decode b_T_pass 15 = .ok (.iload_n 2, 1) := by decide +kernel
theorem d_T_pass_16 : decode b_T_pass 16 = .ok (.iastore, 1) := by decide +kernel
theorem d_T_pass_17 : decode b_T_pass 17 = .ok (.aload_n 0, 1) := by decide +kernel
theorem d_T_pass_18 : decode b_T_pass 18 = .ok (.getfield 9, 3) := by decide +kernel
theorem d_T_pass_21 : decode b_T_pass 21 = .ok (.iload_n 1, 1) := by decide +kernel
theorem d_T_pass_22 : decode b_T_pass 22 = .ok (.iload_n 3, 1) := by decide +kernel
theorem d_T_pass_23 : decode b_T_pass 23 = .ok (.iastore, 1) := by decide +kernel
theorem d_T_pass_24 : decode b_T_pass 24 = .ok (.return_, 1) := by decide +kernel
theorem d_T_finish_0 : decode b_T_finish 0 = .ok (.aload_n 0, 1) := by decide +kernel
theorem d_T_finish_1 : decode b_T_finish 1 = .ok (.getfield 30, 3) := by decide +kernel
theorem d_T_finish_4 : decode b_T_finish 4 = .ok (.iload_n 1, 1) := by decide +kernel
theorem d_T_finish_5 : decode b_T_finish 5 = .ok (.iload_n 2, 1) := by decide +kernel
theorem d_T_finish_6 : decode b_T_finish 6 = .ok (.iastore, 1) := by decide +kernel
theorem d_T_finish_7 : decode b_T_finish 7 = .ok (.aload_n 0, 1) := by decide +kernel
theorem d_T_finish_8 : decode b_T_finish 8 = .ok (.getfield 18, 3) := by decide +kernel
theorem d_T_finish_11 : decode b_T_finish 11 = .ok (.iload_n 1, 1) := by decide +kernel
theorem d_T_finish_12 : decode b_T_finish 12 = .ok (.iconst 2, 1) := by decide +kernel
theorem d_T_finish_13 : decode b_T_finish 13 = .ok (.iastore, 1) := by decide +kernel
theorem d_T_finish_14 : decode b_T_finish 14 = .ok (.aload_n 0, 1) := by decide +kernel
theorem d_T_finish_15 : decode b_T_finish 15 = .ok (.dup, 1) := by decide +kernel
theorem d_T_finish_16 : decode b_T_finish 16 = .ok (.getfield 41, 3) := by decide +kernel
theorem d_T_finish_19 : decode b_T_finish 19 = .ok (.iconst 1, 1) := by decide +kernel
theorem d_T_finish_20 : decode b_T_finish 20 = .ok (.isub, 1) := by decide +kernel
theorem d_T_finish_21 : decode b_T_finish 21 = .ok (.putfield 41, 3) := by decide +kernel
theorem d_T_finish_24 : decode b_T_finish 24 = .ok (.return_, 1) := by decide +kernel
end
section
/-! rows that decode each instruction (by program) -/
theorem d_M_init_0 : decode b_M_init 0 = .ok (.aload_n 0, 1) := by decide +kernel
theorem d_M_init_1 : decode b_M_init 1 = .ok (.invokespecial 1, 3) := by decide +kernel
theorem d_M_init_4 : decode b_M_init 4 = .ok (.aload_n 0, 1) := by decide +kernel
theorem d_M_init_5 : decode b_M_init 5 = .ok (.bipush 24, 2) := by decide +kernel
theorem d_M_init_7 : decode b_M_init 7 = .ok (.newarray .int, 2) := by decide +kernel
theorem d_M_init_9 : decode b_M_init 9 = .ok (.putfield 7, 3) := by decide +kernel
theorem d_M_init_12 : decode b_M_init 12 = .ok (.aload_n 0, 1) := by decide +kernel
theorem d_M_init_13 : decode b_M_init 13 = .ok (.bipush 24, 2) := by decide +kernel
theorem d_M_init_15 : decode b_M_init 15 = .ok (.newarray .int, 2) := by decide +kernel
theorem d_M_init_17 : decode b_M_init 17 = .ok (.putfield 13, 3) := by decide +kernel
theorem d_M_init_20 : decode b_M_init 20 = .ok (.aload_n 0, 1) := by decide +kernel
theorem d_M_init_21 : decode b_M_init 21 = .ok (.bipush 24, 2) := by decide +kernel
theorem d_M_init_23 : decode b_M_init 23 = .ok (.newarray .int, 2) := by decide +kernel
theorem d_M_init_25 : decode b_M_init 25 = .ok (.putfield 16, 3) := by decide +kernel
theorem d_M_init_28 : decode b_M_init 28 = .ok (.aload_n 0, 1) := by decide +kernel
theorem d_M_init_29 : decode b_M_init 29 = .ok (.bipush 24, 2) := by decide +kernel
theorem d_M_init_31 : decode b_M_init 31 = .ok (.newarray .int, 2) := by decide +kernel
theorem d_M_init_33 : decode b_M_init 33 = .ok (.putfield 19, 3) := by decide +kernel
theorem d_M_init_36 : decode b_M_init 36 = .ok (.aload_n 0, 1) := by decide +kernel
theorem d_M_init_37 : decode b_M_init 37 = .ok (.bipush 8, 2) := by decide +kernel
theorem d_M_init_39 : decode b_M_init 39 = .ok (.newarray .int, 2) := by decide +kernel
theorem d_M_init_41 : decode b_M_init 41 = .ok (.putfield 22, 3) := by decide +kernel
theorem d_M_init_44 : decode b_M_init 44 = .ok (.aload_n 0, 1) := by decide +kernel
theorem d_M_init_45 : decode b_M_init 45 = .ok (.bipush 8, 2) := by decide +kernel
theorem d_M_init_47 : decode b_M_init 47 = .ok (.newarray .int, 2) := by decide +kernel
theorem d_M_init_49 : decode b_M_init 49 = .ok (.putfield 25, 3) := by decide +kernel
theorem d_M_init_52 : decode b_M_init 52 = .ok (.aload_n 0, 1) := by decide +kernel
theorem d_M_init_53 : decode b_M_init 53 = .ok (.bipush 6, 2) := by decide +kernel
theorem d_M_init_55 : decode b_M_init 55 = .ok (.newarray .boolean, 2) := by decide +kernel
theorem d_M_init_57 : decode b_M_init 57 = .ok (.putfield 28, 3) := by decide +kernel
theorem d_M_init_60 : decode b_M_init 60 = .ok (.aload_n 0, 1) := by decide +kernel
theorem d_M_init_61 : decode b_M_init 61 = .ok (.bipush 80, 2) := by decide +kernel
theorem d_M_init_63 : decode b_M_init 63 = .ok (.newarray .int, 2) := by decide +kernel
theorem d_M_init_65 : decode b_M_init 65 = .ok (.putfield 32, 3) := by decide +kernel
theorem d_M_init_68 : decode b_M_init 68 = .ok (.aload_n 0, 1) := by decide +kernel
theorem d_M_init_69 : decode b_M_init 69 = .ok (.sipush 200, 3) := by decide +kernel
theorem d_M_init_72 : decode b_M_init 72 = .ok (.newarray .int, 2) := by decide +kernel
theorem d_M_init_74 : decode b_M_init 74 = .ok (.putfield 35, 3) := by decide +kernel
theorem d_M_init_77 : decode b_M_init 77 = .ok (.aload_n 0, 1) := by decide +kernel
theorem d_M_init_78 : decode b_M_init 78 = .ok (.sipush 200, 3) := by decide +kernel
theorem d_M_init_81 : decode b_M_init 81 = .ok (.newarray .int, 2) := by decide +kernel
theorem d_M_init_83 : decode b_M_init 83 = .ok (.putfield 38, 3) := by decide +kernel
theorem d_M_init_86 : decode b_M_init 86 = .ok (.aload_n 0, 1) := by decide +kernel
theorem d_M_init_87 : decode b_M_init 87 = .ok (.sipush 200, 3) := by decide +kernel
theorem d_M_init_90 : decode b_M_init 90 = .ok (.newarray .int, 2) := by decide +kernel
theorem d_M_init_92 : decode b_M_init 92 = .ok (.putfield 41, 3) := by decide +kernel
theorem d_M_init_95 : decode b_M_init 95 = .ok (.aload_n 0, 1) := by decide +kernel
theorem d_M_init_96 : decode b_M_init 96 = .ok (.sipush 200, 3) := by decide +kernel
theorem d_M_init_99 : decode b_M_init 99 = .ok (.newarray .int, 2) := by decide +kernel
theorem d_M_init_101 : decode b_M_init 101 = .ok (.putfield 44, 3) := by decide +kernel
theorem d_M_init_104 : decode b_M_init 104 = .ok (.aload_n 0, 1) := by decide +kernel
theorem d_M_init_105 : decode b_M_init 105 = .ok (.sipush 200, 3) := by decide +kernel
theorem d_M_init_108 : decode b_M_init 108 = .ok (.newarray .int, 2) := by decide +kernel
theorem d_M_init_110 : decode b_M_init 110 = .ok (.putfield 47, 3) := by decide +kernel
theorem d_M_init_113 : decode b_M_init 113 = .ok (.aload_n 0, 1) := by decide +kernel
theorem d_M_init_114 : decode b_M_init 114 = .ok (.sipush 200, 3) := by decide +kernel
theorem d_M_init_117 : decode b_M_init 117 = .ok (.newarray .int, 2) := by decide +kernel
theorem d_M_init_119 : decode b_M_init 119 = .ok (.putfield 50, 3) := by decide +kernel
theorem d_M_init_122 : decode b_M_init 122 = .ok (.aload_n 0, 1) := by decide +kernel
theorem d_M_init_123 : decode b_M_init 123 = .ok (.sipush 200, 3) := by decide +kernel
theorem d_M_init_126 : decode b_M_init 126 = .ok (.newarray .int, 2) := by decide +kernel
theorem d_M_init_128 : decode b_M_init 128 = .ok (.putfield 53, 3) := by decide +kernel
theorem d_M_init_131 : decode b_M_init 131 = .ok (.aload_n 0, 1) := by decide +kernel
theorem d_M_init_132 : decode b_M_init 132 = .ok (.sipush 200, 3) := by decide +kernel
theorem d_M_init_135 : decode b_M_init 135 = .ok (.newarray .boolean, 2) := by decide +kernel
theorem d_M_init_137 : decode b_M_init 137 = .ok (.putfield 56, 3) := by decide +kernel
theorem d_M_init_140 : decode b_M_init 140 = .ok (.aload_n 0, 1) := by decide +kernel
theorem d_M_init_141 : decode b_M_init 141 = .ok (.bipush 60, 2) := by decide +kernel
theorem d_M_init_143 : decode b_M_init 143 = .ok (.newarray .int, 2) := by decide +kernel
theorem d_M_init_145 : decode b_M_init 145 = .ok (.putfield 59, 3) := by decide +kernel
theorem d_M_init_148 : decode b_M_init 148 = .ok (.aload_n 0, 1) := by decide +kernel
theorem d_M_init_149 : decode b_M_init 149 = .ok (.bipush 60, 2) := by decide +kernel
theorem d_M_init_151 : decode b_M_init 151 = .ok (.newarray .int, 2) := by decide +kernel
theorem d_M_init_153 : decode b_M_init 153 = .ok (.putfield 62, 3) := by decide +kernel
theorem d_M_init_156 : decode b_M_init 156 = .ok (.aload_n 0, 1) := by decide +kernel
theorem d_M_init_157 : decode b_M_init 157 = .ok (.bipush 60, 2) := by decide +kernel
theorem d_M_init_159 : decode b_M_init 159 = .ok (.newarray .int, 2) := by decide +kernel
theorem d_M_init_161 : decode b_M_init 161 = .ok (.putfield 65, 3) := by decide +kernel
theorem d_M_init_164 : decode b_M_init 164 = .ok (.aload_n 0, 1) := by decide +kernel
theorem d_M_init_165 : decode b_M_init 165 = .ok (.iconst 2, 1) := by decide +kernel
theorem d_M_init_166 : decode b_M_init 166 = .ok (.iconst 1, 1) := by decide +kernel
theorem d_M_init_167 : decode b_M_init 167 = .ok (.invokevirtual 68, 3) := by decide +kernel
theorem d_M_init_170 : decode b_M_init 170 = .ok (.return_, 1) := by decide +kernel
theorem d_M_thrown_0 : decode b_M_thrown 0 = .ok (.aload_n 0, 1) := by decide +kernel
theorem d_M_thrown_1 : decode b_M_thrown 1 = .ok (.getfield 72, 3) := by decide +kernel
theorem d_M_thrown_4 : decode b_M_thrown 4 = .ok (.ireturn, 1) := by decide +kernel
theorem d_M_refuse_0 : decode b_M_refuse 0 = .ok (.aload_n 0, 1) := by decide +kernel
theorem d_M_refuse_1 : decode b_M_refuse 1 = .ok (.iload_n 1, 1) := by decide +kernel
theorem d_M_refuse_2 : decode b_M_refuse 2 = .ok (.ifCond .eq 7, 3) := by decide +kernel
theorem d_M_refuse_5 : decode b_M_refuse 5 = .ok (.iconst 1, 1) := by decide +kernel
theorem d_M_refuse_6 : decode b_M_refuse 6 = .ok (.goto 12, 3) := by decide +kernel
theorem d_M_refuse_9 : decode b_M_refuse 9 = .ok (.iload_n 2, 1) := by decide +kernel
theorem d_M_refuse_10 : decode b_M_refuse 10 = .ok (.ifCond .eq 7, 3) := by decide +kernel
theorem d_M_refuse_13 : decode b_M_refuse 13 = .ok (.iconst 2, 1) := by decide +kernel
theorem d_M_refuse_14 : decode b_M_refuse 14 = .ok (.goto 4, 3) := by decide +kernel
theorem d_M_refuse_17 : decode b_M_refuse 17 = .ok (.iconst 0, 1) := by decide +kernel
theorem d_M_refuse_18 : decode b_M_refuse 18 = .ok (.putfield 72, 3) := by decide +kernel
theorem d_M_refuse_21 : decode b_M_refuse 21 = .ok (.aload_n 0, 1) := by decide +kernel
theorem d_M_refuse_22 : decode b_M_refuse 22 = .ok (.getfield 72, 3) := by decide +kernel
theorem d_M_refuse_25 : decode b_M_refuse 25 = .ok (.ifCond .le 7, 3) := by decide +kernel
theorem d_M_refuse_28 : decode b_M_refuse 28 = .ok (.iconst 1, 1) := by decide +kernel
theorem d_M_refuse_29 : decode b_M_refuse 29 = .ok (.goto 4, 3) := by decide +kernel
theorem d_M_refuse_32 : decode b_M_refuse 32 = .ok (.iconst 0, 1) := by decide +kernel
theorem d_M_refuse_33 : decode b_M_refuse 33 = .ok (.ireturn, 1) := by decide +kernel
theorem d_M_in_0 : decode b_M_in 0 = .ok (.iload_n 0, 1) := by decide +kernel
theorem d_M_in_1 : decode b_M_in 1 = .ok (.iload_n 1, 1) := by decide +kernel
theorem d_M_in_2 : decode b_M_in 2 = .ok (.if_icmp .lt 12, 3) := by decide +kernel
theorem d_M_in_5 : decode b_M_in 5 = .ok (.iload_n 0, 1) := by decide +kernel
theorem d_M_in_6 : decode b_M_in 6 = .ok (.iload_n 2, 1) := by decide +kernel
theorem d_M_in_7 : decode b_M_in 7 = .ok (.if_icmp .gt 7, 3) := by decide +kernel
theorem d_M_in_10 : decode b_M_in 10 = .ok (.iconst 1, 1) := by decide +kernel
theorem d_M_in_11 : decode b_M_in 11 = .ok (.goto 4, 3) := by decide +kernel
theorem d_M_in_14 : decode b_M_in 14 = .ok (.iconst 0, 1) := by decide +kernel
theorem d_M_in_15 : decode b_M_in 15 = .ok (.ireturn, 1) := by decide +kernel
theorem d_M_lay_0 : decode b_M_lay 0 = .ok (.iconst 0, 1) := by decide +kernel
theorem d_M_lay_1 : decode b_M_lay 1 = .ok (.istore_n 3, 1) := by decide +kernel
theorem d_M_lay_2 : decode b_M_lay 2 = .ok (.iconst 0, 1) := by decide +kernel
theorem d_M_lay_3 : decode b_M_lay 3 = .ok (.istore 4, 2) := by decide +kernel
theorem d_M_lay_5 : decode b_M_lay 5 = .ok (.iload 4, 2) := by decide +kernel
theorem d_M_lay_7 : decode b_M_lay 7 = .ok (.aload_n 0, 1) := by decide +kernel
theorem d_M_lay_8 : decode b_M_lay 8 = .ok (.getfield 76, 3) := by decide +kernel
theorem d_M_lay_11 : decode b_M_lay 11 = .ok (.if_icmp .ge 92, 3) := by decide +kernel
theorem d_M_lay_14 : decode b_M_lay 14 = .ok (.aload_n 0, 1) := by decide +kernel
theorem d_M_lay_15 : decode b_M_lay 15 = .ok (.getfield 7, 3) := by decide +kernel
theorem d_M_lay_18 : decode b_M_lay 18 = .ok (.iload 4, 2) := by decide +kernel
theorem d_M_lay_20 : decode b_M_lay 20 = .ok (.iaload, 1) := by decide +kernel
theorem d_M_lay_21 : decode b_M_lay 21 = .ok (.iload_n 1, 1) := by decide +kernel
theorem d_M_lay_22 : decode b_M_lay 22 = .ok (.if_icmp .eq 36, 3) := by decide +kernel
theorem d_M_lay_25 : decode b_M_lay 25 = .ok (.aload_n 0, 1) := by decide +kernel
theorem d_M_lay_26 : decode b_M_lay 26 = .ok (.getfield 13, 3) := by decide +kernel
theorem d_M_lay_29 : decode b_M_lay 29 = .ok (.iload 4, 2) := by decide +kernel
theorem d_M_lay_31 : decode b_M_lay 31 = .ok (.iaload, 1) := by decide +kernel
theorem d_M_lay_32 : decode b_M_lay 32 = .ok (.iload_n 1, 1) := by decide +kernel
theorem d_M_lay_33 : decode b_M_lay 33 = .ok (.if_icmp .eq 25, 3) := by decide +kernel
theorem d_M_lay_36 : decode b_M_lay 36 = .ok (.aload_n 0, 1) := by decide +kernel
theorem d_M_lay_37 : decode b_M_lay 37 = .ok (.getfield 7, 3) := by decide +kernel
theorem d_M_lay_40 : decode b_M_lay 40 = .ok (.iload 4, 2) := by decide +kernel
theorem d_M_lay_42 : decode b_M_lay 42 = .ok (.iaload, 1) := by decide +kernel
theorem d_M_lay_43 : decode b_M_lay 43 = .ok (.iload_n 2, 1) := by decide +kernel
theorem d_M_lay_44 : decode b_M_lay 44 = .ok (.if_icmp .eq 14, 3) := by decide +kernel
theorem d_M_lay_47 : decode b_M_lay 47 = .ok (.aload_n 0, 1) := by decide +kernel
theorem d_M_lay_48 : decode b_M_lay 48 = .ok (.getfield 13, 3) := by decide +kernel
theorem d_M_lay_51 : decode b_M_lay 51 = .ok (.iload 4, 2) := by decide +kernel
theorem d_M_lay_53 : decode b_M_lay 53 = .ok (.iaload, 1) := by decide +kernel
theorem d_M_lay_54 : decode b_M_lay 54 = .ok (.iload_n 2, 1) := by decide +kernel
theorem d_M_lay_55 : decode b_M_lay 55 = .ok (.if_icmp .ne 7, 3) := by decide +kernel
theorem d_M_lay_58 : decode b_M_lay 58 = .ok (.iconst 1, 1) := by decide +kernel
theorem d_M_lay_59 : decode b_M_lay 59 = .ok (.goto 4, 3) := by decide +kernel
theorem d_M_lay_62 : decode b_M_lay 62 = .ok (.iconst 0, 1) := by decide +kernel
theorem d_M_lay_63 : decode b_M_lay 63 = .ok (.istore 5, 2) := by decide +kernel
theorem d_M_lay_65 : decode b_M_lay 65 = .ok (.iload 5, 2) := by decide +kernel
theorem d_M_lay_67 : decode b_M_lay 67 = .ok (.ifCond .eq 28, 3) := by decide +kernel
theorem d_M_lay_70 : decode b_M_lay 70 = .ok (.aload_n 0, 1) := by decide +kernel
theorem d_M_lay_71 : decode b_M_lay 71 = .ok (.getfield 16, 3) := by decide +kernel
theorem d_M_lay_74 : decode b_M_lay 74 = .ok (.iload 4, 2) := by decide +kernel
theorem d_M_lay_76 : decode b_M_lay 76 = .ok (.iaload, 1) := by decide +kernel
theorem d_M_lay_77 : decode b_M_lay 77 = .ok (.iconst 1, 1) := by decide +kernel
theorem d_M_lay_78 : decode b_M_lay 78 = .ok (.iadd, 1) := by decide +kernel
theorem d_M_lay_79 : decode b_M_lay 79 = .ok (.iload_n 3, 1) := by decide +kernel
theorem d_M_lay_80 : decode b_M_lay 80 = .ok (.if_icmp .le 15, 3) := by decide +kernel
theorem d_M_lay_83 : decode b_M_lay 83 = .ok (.aload_n 0, 1) := by decide +kernel
theorem d_M_lay_84 : decode b_M_lay 84 = .ok (.getfield 16, 3) := by decide +kernel
theorem d_M_lay_87 : decode b_M_lay 87 = .ok (.iload 4, 2) := by decide +kernel
theorem d_M_lay_89 : decode b_M_lay 89 = .ok (.iaload, 1) := by decide +kernel
theorem d_M_lay_90 : decode b_M_lay 90 = .ok (.iconst 1, 1) := by decide +kernel
theorem d_M_lay_91 : decode b_M_lay 91 = .ok (.iadd, 1) := by decide +kernel
theorem d_M_lay_92 : decode b_M_lay 92 = .ok (.goto 4, 3) := by decide +kernel
theorem d_M_lay_95 : decode b_M_lay 95 = .ok (.iload_n 3, 1) := by decide +kernel
theorem d_M_lay_96 : decode b_M_lay 96 = .ok (.istore_n 3, 1) := by decide +kernel
theorem d_M_lay_97 : decode b_M_lay 97 = .ok (.iinc 4 1, 3) := by decide +kernel
theorem d_M_lay_100 : decode b_M_lay 100 = .ok (.goto (-95), 3) := by decide +kernel
theorem d_M_lay_103 : decode b_M_lay 103 = .ok (.aload_n 0, 1) := by decide +kernel
theorem d_M_lay_104 : decode b_M_lay 104 = .ok (.getfield 7, 3) := by decide +kernel
theorem d_M_lay_107 : decode b_M_lay 107 = .ok (.aload_n 0, 1) := by decide +kernel
theorem d_M_lay_108 : decode b_M_lay 108 = .ok (.getfield 76, 3) := by decide +kernel
theorem d_M_lay_111 : decode b_M_lay 111 = .ok (.iload_n 1, 1) := by decide +kernel
theorem d_M_lay_112 : decode b_M_lay 112 = .ok (.iastore, 1) := by decide +kernel
theorem d_M_lay_113 : decode b_M_lay 113 = .ok (.aload_n 0, 1) := by decide +kernel
theorem d_M_lay_114 : decode b_M_lay 114 = .ok (.getfield 13, 3) := by decide +kernel
theorem d_M_lay_117 : decode b_M_lay 117 = .ok (.aload_n 0, 1) := by decide +kernel
theorem d_M_lay_118 : decode b_M_lay 118 = .ok (.getfield 76, 3) := by decide +kernel
theorem d_M_lay_121 : decode b_M_lay 121 = .ok (.iload_n 2, 1) := by decide +kernel
theorem d_M_lay_122 : decode b_M_lay 122 = .ok (.iastore, 1) := by decide +kernel
theorem d_M_lay_123 : decode b_M_lay 123 = .ok (.aload_n 0, 1) := by decide +kernel
theorem d_M_lay_124 : decode b_M_lay 124 = .ok (.getfield 16, 3) := by decide +kernel
theorem d_M_lay_127 : decode b_M_lay 127 = .ok (.aload_n 0, 1) := by decide +kernel
theorem d_M_lay_128 : decode b_M_lay 128 = .ok (.getfield 76, 3) := by decide +kernel
theorem d_M_lay_131 : decode b_M_lay 131 = .ok (.iload_n 3, 1) := by decide +kernel
theorem d_M_lay_132 : decode b_M_lay 132 = .ok (.iastore, 1) := by decide +kernel
theorem d_M_lay_133 : decode b_M_lay 133 = .ok (.aload_n 0, 1) := by decide +kernel
theorem d_M_lay_134 : decode b_M_lay 134 = .ok (.getfield 19, 3) := by decide +kernel
theorem d_M_lay_137 : decode b_M_lay 137 = .ok (.aload_n 0, 1) := by decide +kernel
theorem d_M_lay_138 : decode b_M_lay 138 = .ok (.getfield 76, 3) := by decide +kernel
theorem d_M_lay_141 : decode b_M_lay 141 = .ok (.iconst 0, 1) := by decide +kernel
theorem d_M_lay_142 : decode b_M_lay 142 = .ok (.iastore, 1) := by decide +kernel
theorem d_M_lay_143 : decode b_M_lay 143 = .ok (.aload_n 0, 1) := by decide +kernel
theorem d_M_lay_144 : decode b_M_lay 144 = .ok (.dup, 1) := by decide +kernel
theorem d_M_lay_145 : decode b_M_lay 145 = .ok (.getfield 76, 3) := by decide +kernel
theorem d_M_lay_148 : decode b_M_lay 148 = .ok (.iconst 1, 1) := by decide +kernel
theorem d_M_lay_149 : decode b_M_lay 149 = .ok (.iadd, 1) := by decide +kernel
theorem d_M_lay_150 : decode b_M_lay 150 = .ok (.putfield 76, 3) := by decide +kernel
theorem d_M_lay_153 : decode b_M_lay 153 = .ok (.return_, 1) := by decide +kernel
theorem d_M_mergeOnes_0 : decode b_M_mergeOnes 0 = .ok (.aload_n 0, 1) := by decide +kernel
theorem d_M_mergeOnes_1 : decode b_M_mergeOnes 1 = .ok (.iload_n 1, 1) := by decide +kernel
theorem d_M_mergeOnes_2 : decode b_M_mergeOnes 2 = .ok (.iload_n 2, 1) := by decide +kernel
theorem d_M_mergeOnes_3 : decode b_M_mergeOnes 3 = .ok (.invokevirtual 79, 3) := by decide +kernel
theorem d_M_mergeOnes_6 : decode b_M_mergeOnes 6 = .ok (.aload_n 0, 1) := by decide +kernel
theorem d_M_mergeOnes_7 : decode b_M_mergeOnes 7 = .ok (.getfield 32, 3) := by decide +kernel
theorem d_M_mergeOnes_10 : decode b_M_mergeOnes 10 = .ok (.iload_n 3, 1) := by decide +kernel
theorem d_M_mergeOnes_11 : decode b_M_mergeOnes 11 = .ok (.iload_n 1, 1) := by decide +kernel
theorem d_M_mergeOnes_12 : decode b_M_mergeOnes 12 = .ok (.iastore, 1) := by decide +kernel
theorem d_M_mergeOnes_13 : decode b_M_mergeOnes 13 = .ok (.aload_n 0, 1) := by decide +kernel
theorem d_M_mergeOnes_14 : decode b_M_mergeOnes 14 = .ok (.getfield 32, 3) := by decide +kernel
theorem d_M_mergeOnes_17 : decode b_M_mergeOnes 17 = .ok (.iload_n 3, 1) := by decide +kernel
theorem d_M_mergeOnes_18 : decode b_M_mergeOnes 18 = .ok (.iconst 1, 1) := by decide +kernel
theorem d_M_mergeOnes_19 : decode b_M_mergeOnes 19 = .ok (.iadd, 1) := by decide +kernel
theorem d_M_mergeOnes_20 : decode b_M_mergeOnes 20 = .ok (.iload_n 2, 1) := by decide +kernel
theorem d_M_mergeOnes_21 : decode b_M_mergeOnes 21 = .ok (.iastore, 1) := by decide +kernel
theorem d_M_mergeOnes_22 : decode b_M_mergeOnes 22 = .ok (.return_, 1) := by decide +kernel
theorem d_M_join_0 : decode b_M_join 0 = .ok (.iconst 0, 1) := by decide +kernel
theorem d_M_join_1 : decode b_M_join 1 = .ok (.istore 5, 2) := by decide +kernel
theorem d_M_join_3 : decode b_M_join 3 = .ok (.iload 5, 2) := by decide +kernel
theorem d_M_join_5 : decode b_M_join 5 = .ok (.iload_n 3, 1) := by decide +kernel
theorem d_M_join_6 : decode b_M_join 6 = .ok (.if_icmp .ge 31, 3) := by decide +kernel
theorem d_M_join_9 : decode b_M_join 9 = .ok (.aload_n 0, 1) := by decide +kernel
theorem d_M_join_10 : decode b_M_join 10 = .ok (.aload_n 0, 1) := by decide +kernel
theorem d_M_join_11 : decode b_M_join 11 = .ok (.getfield 32, 3) := by decide +kernel
theorem d_M_join_14 : decode b_M_join 14 = .ok (.iload_n 1, 1) := by decide +kernel
theorem d_M_join_15 : decode b_M_join 15 = .ok (.iload 5, 2) := by decide +kernel
theorem d_M_join_17 : decode b_M_join 17 = .ok (.iadd, 1) := by decide +kernel
theorem d_M_join_18 : decode b_M_join 18 = .ok (.iaload, 1) := by decide +kernel
theorem d_M_join_19 : decode b_M_join 19 = .ok (.aload_n 0, 1) := by decide +kernel
theorem d_M_join_20 : decode b_M_join 20 = .ok (.getfield 32, 3) := by decide +kernel
theorem d_M_join_23 : decode b_M_join 23 = .ok (.iload_n 2, 1) := by decide +kernel
theorem d_M_join_24 : decode b_M_join 24 = .ok (.iload 5, 2) := by decide +kernel
theorem d_M_join_26 : decode b_M_join 26 = .ok (.iadd, 1) := by decide +kernel
theorem d_M_join_27 : decode b_M_join 27 = .ok (.iaload, 1) := by decide +kernel
theorem d_M_join_28 : decode b_M_join 28 = .ok (.invokevirtual 79, 3) := by decide +kernel
theorem d_M_join_31 : decode b_M_join 31 = .ok (.iinc 5 1, 3) := by decide +kernel
theorem d_M_join_34 : decode b_M_join 34 = .ok (.goto (-31), 3) := by decide +kernel
theorem d_M_join_37 : decode b_M_join 37 = .ok (.iconst 0, 1) := by decide +kernel
theorem d_M_join_38 : decode b_M_join 38 = .ok (.istore 5, 2) := by decide +kernel
theorem d_M_join_40 : decode b_M_join 40 = .ok (.iload 5, 2) := by decide +kernel
theorem d_M_join_42 : decode b_M_join 42 = .ok (.iload_n 3, 1) := by decide +kernel
theorem d_M_join_43 : decode b_M_join 43 = .ok (.if_icmp .ge 53, 3) := by decide +kernel
theorem d_M_join_46 : decode b_M_join 46 = .ok (.aload_n 0, 1) := by decide +kernel
theorem d_M_join_47 : decode b_M_join 47 = .ok (.getfield 32, 3) := by decide +kernel
theorem d_M_join_50 : decode b_M_join 50 = .ok (.iload 4, 2) := by decide +kernel
theorem d_M_join_52 : decode b_M_join 52 = .ok (.iconst 2, 1) := by decide +kernel
theorem d_M_join_53 : decode b_M_join 53 = .ok (.iload 5, 2) := by decide +kernel
theorem d_M_join_55 : decode b_M_join 55 = .ok (.imul, 1) := by decide +kernel
theorem d_M_join_56 : decode b_M_join 56 = .ok (.iadd, 1) := by decide +kernel
theorem d_M_join_57 : decode b_M_join 57 = .ok (.aload_n 0, 1) := by decide +kernel
theorem d_M_join_58 : decode b_M_join 58 = .ok (.getfield 32, 3) := by decide +kernel
theorem d_M_join_61 : decode b_M_join 61 = .ok (.iload_n 1, 1) := by decide +kernel
theorem d_M_join_62 : decode b_M_join 62 = .ok (.iload 5, 2) := by decide +kernel
theorem d_M_join_64 : decode b_M_join 64 = .ok (.iadd, 1) := by decide +kernel
theorem d_M_join_65 : decode b_M_join 65 = .ok (.iaload, 1) := by decide +kernel
theorem d_M_join_66 : decode b_M_join 66 = .ok (.iastore, 1) := by decide +kernel
theorem d_M_join_67 : decode b_M_join 67 = .ok (.aload_n 0, 1) := by decide +kernel
theorem d_M_join_68 : decode b_M_join 68 = .ok (.getfield 32, 3) := by decide +kernel
theorem d_M_join_71 : decode b_M_join 71 = .ok (.iload 4, 2) := by decide +kernel
theorem d_M_join_73 : decode b_M_join 73 = .ok (.iconst 2, 1) := by decide +kernel
theorem d_M_join_74 : decode b_M_join 74 = .ok (.iload 5, 2) := by decide +kernel
theorem d_M_join_76 : decode b_M_join 76 = .ok (.imul, 1) := by decide +kernel
theorem d_M_join_77 : decode b_M_join 77 = .ok (.iadd, 1) := by decide +kernel
theorem d_M_join_78 : decode b_M_join 78 = .ok (.iconst 1, 1) := by decide +kernel
theorem d_M_join_79 : decode b_M_join 79 = .ok (.iadd, 1) := by decide +kernel
theorem d_M_join_80 : decode b_M_join 80 = .ok (.aload_n 0, 1) := by decide +kernel
theorem d_M_join_81 : decode b_M_join 81 = .ok (.getfield 32, 3) := by decide +kernel
theorem d_M_join_84 : decode b_M_join 84 = .ok (.iload_n 2, 1) := by decide +kernel
theorem d_M_join_85 : decode b_M_join 85 = .ok (.iload 5, 2) := by decide +kernel
theorem d_M_join_87 : decode b_M_join 87 = .ok (.iadd, 1) := by decide +kernel
theorem d_M_join_88 : decode b_M_join 88 = .ok (.iaload, 1) := by decide +kernel
theorem d_M_join_89 : decode b_M_join 89 = .ok (.iastore, 1) := by decide +kernel
theorem d_M_join_90 : decode b_M_join 90 = .ok (.iinc 5 1, 3) := by decide +kernel
theorem d_M_join_93 : decode b_M_join 93 = .ok (.goto (-53), 3) := by decide +kernel
theorem d_M_join_96 : decode b_M_join 96 = .ok (.return_, 1) := by decide +kernel
theorem d_M_mergeTwos_0 : decode b_M_mergeTwos 0 = .ok (.aload_n 0, 1) := by decide +kernel
theorem d_M_mergeTwos_1 : decode b_M_mergeTwos 1 = .ok (.aload_n 0, 1) := by decide +kernel
theorem d_M_mergeTwos_2 : decode b_M_mergeTwos 2 = .ok (.getfield 32, 3) := by decide +kernel
theorem d_M_mergeTwos_5 : decode b_M_mergeTwos 5 = .ok (.iload_n 1, 1) := by decide +kernel
theorem d_M_mergeTwos_6 : decode b_M_mergeTwos 6 = .ok (.iaload, 1) := by decide +kernel
theorem d_M_mergeTwos_7 : decode b_M_mergeTwos 7 = .ok (.aload_n 0, 1) := by decide +kernel
theorem d_M_mergeTwos_8 : decode b_M_mergeTwos 8 = .ok (.getfield 32, 3) := by decide +kernel
theorem d_M_mergeTwos_11 : decode b_M_mergeTwos 11 = .ok (.iload_n 2, 1) := by decide +kernel
theorem d_M_mergeTwos_12 : decode b_M_mergeTwos 12 = .ok (.iconst 1, 1) := by decide +kernel
theorem d_M_mergeTwos_13 : decode b_M_mergeTwos 13 = .ok (.iadd, 1) := by decide +kernel
theorem d_M_mergeTwos_14 : decode b_M_mergeTwos 14 = .ok (.iaload, 1) := by decide +kernel
theorem d_M_mergeTwos_15 : decode b_M_mergeTwos 15 = .ok (.iload_n 3, 1) := by decide +kernel
theorem d_M_mergeTwos_16 : decode b_M_mergeTwos 16 = .ok (.iconst 4, 1) := by decide +kernel
theorem d_M_mergeTwos_17 : decode b_M_mergeTwos 17 = .ok (.iadd, 1) := by decide +kernel
theorem d_M_mergeTwos_18 : decode b_M_mergeTwos 18 = .ok (.invokevirtual 82, 3) := by decide +kernel
theorem d_M_mergeTwos_21 : decode b_M_mergeTwos 21 = .ok (.aload_n 0, 1) := by decide +kernel
theorem d_M_mergeTwos_22 : decode b_M_mergeTwos 22 = .ok (.aload_n 0, 1) := by decide +kernel
theorem d_M_mergeTwos_23 : decode b_M_mergeTwos 23 = .ok (.getfield 32, 3) := by decide +kernel
theorem d_M_mergeTwos_26 : decode b_M_mergeTwos 26 = .ok (.iload_n 1, 1) := by decide +kernel
theorem d_M_mergeTwos_27 : decode b_M_mergeTwos 27 = .ok (.iconst 1, 1) := by decide +kernel
theorem d_M_mergeTwos_28 : decode b_M_mergeTwos 28 = .ok (.iadd, 1) := by decide +kernel
theorem d_M_mergeTwos_29 : decode b_M_mergeTwos 29 = .ok (.iaload, 1) := by decide +kernel
theorem d_M_mergeTwos_30 : decode b_M_mergeTwos 30 = .ok (.aload_n 0, 1) := by decide +kernel
theorem d_M_mergeTwos_31 : decode b_M_mergeTwos 31 = .ok (.getfield 32, 3) := by decide +kernel
theorem d_M_mergeTwos_34 : decode b_M_mergeTwos 34 = .ok (.iload_n 2, 1) := by decide +kernel
theorem d_M_mergeTwos_35 : decode b_M_mergeTwos 35 = .ok (.iaload, 1) := by decide +kernel
theorem d_M_mergeTwos_36 : decode b_M_mergeTwos 36 = .ok (.iload_n 3, 1) := by decide +kernel
theorem d_M_mergeTwos_37 : decode b_M_mergeTwos 37 = .ok (.bipush 6, 2) := by decide +kernel
theorem d_M_mergeTwos_39 : decode b_M_mergeTwos 39 = .ok (.iadd, 1) := by decide +kernel
theorem d_M_mergeTwos_40 : decode b_M_mergeTwos 40 = .ok (.invokevirtual 82, 3) := by decide +kernel
theorem d_M_mergeTwos_43 : decode b_M_mergeTwos 43 = .ok (.aload_n 0, 1) := by decide +kernel
theorem d_M_mergeTwos_44 : decode b_M_mergeTwos 44 = .ok (.iload_n 3, 1) := by decide +kernel
theorem d_M_mergeTwos_45 : decode b_M_mergeTwos 45 = .ok (.iconst 4, 1) := by decide +kernel
theorem d_M_mergeTwos_46 : decode b_M_mergeTwos 46 = .ok (.iadd, 1) := by decide +kernel
theorem d_M_mergeTwos_47 : decode b_M_mergeTwos 47 = .ok (.iload_n 3, 1) := by decide +kernel
theorem d_M_mergeTwos_48 : decode b_M_mergeTwos 48 = .ok (.bipush 6, 2) := by decide +kernel
theorem d_M_mergeTwos_50 : decode b_M_mergeTwos 50 = .ok (.iadd, 1) := by decide +kernel
theorem d_M_mergeTwos_51 : decode b_M_mergeTwos 51 = .ok (.iconst 2, 1) := by decide +kernel
theorem d_M_mergeTwos_52 : decode b_M_mergeTwos 52 = .ok (.iload_n 3, 1) := by decide +kernel
theorem d_M_mergeTwos_53 : decode b_M_mergeTwos 53 = .ok (.invokevirtual 86, 3) := by decide +kernel
theorem d_M_mergeTwos_56 : decode b_M_mergeTwos 56 = .ok (.return_, 1) := by decide +kernel
theorem d_M_mergeFours_0 : decode b_M_mergeFours 0 = .ok (.iconst 0, 1) := by decide +kernel
theorem d_M_mergeFours_1 : decode b_M_mergeFours 1 = .ok (.istore 4, 2) := by decide +kernel
theorem d_M_mergeFours_3 : decode b_M_mergeFours 3 = .ok (.iload 4, 2) := by decide +kernel
theorem d_M_mergeFours_5 : decode b_M_mergeFours 5 = .ok (.iconst 2, 1) := by decide +kernel
theorem d_M_mergeFours_6 : decode b_M_mergeFours 6 = .ok (.if_icmp .ge 100, 3) := by decide +kernel
theorem d_M_mergeFours_9 : decode b_M_mergeFours 9 = .ok (.iconst 0, 1) := by decide +kernel
theorem d_M_mergeFours_10 : decode b_M_mergeFours 10 = .ok (.istore 5, 2) := by decide +kernel
theorem d_M_mergeFours_12 : decode b_M_mergeFours 12 = .ok (.iload 5, 2) := by decide +kernel
theorem d_M_mergeFours_14 : decode b_M_mergeFours 14 = .ok (.iconst 2, 1) := by decide +kernel
theorem d_M_mergeFours_15 : decode b_M_mergeFours 15 = .ok (.if_icmp .ge 63, 3) := by decide +kernel
theorem d_M_mergeFours_18 : decode b_M_mergeFours 18 = .ok (.aload_n 0, 1) := by decide +kernel
theorem d_M_mergeFours_19 : decode b_M_mergeFours 19 = .ok (.getfield 32, 3) := by decide +kernel
theorem d_M_mergeFours_22 : decode b_M_mergeFours 22 = .ok (.iload_n 3, 1) := by decide +kernel
theorem d_M_mergeFours_23 : decode b_M_mergeFours 23 = .ok (.bipush 8, 2) := by decide +kernel
theorem d_M_mergeFours_25 : decode b_M_mergeFours 25 = .ok (.iadd, 1) := by decide +kernel
theorem d_M_mergeFours_26 : decode b_M_mergeFours 26 = .ok (.iload 5, 2) := by decide +kernel
theorem d_M_mergeFours_28 : decode b_M_mergeFours 28 = .ok (.iadd, 1) := by decide +kernel
theorem d_M_mergeFours_29 : decode b_M_mergeFours 29 = .ok (.aload_n 0, 1) := by decide +kernel
theorem d_M_mergeFours_30 : decode b_M_mergeFours 30 = .ok (.getfield 32, 3) := by decide +kernel
theorem d_M_mergeFours_33 : decode b_M_mergeFours 33 = .ok (.iload_n 1, 1) := by decide +kernel
theorem d_M_mergeFours_34 : decode b_M_mergeFours 34 = .ok (.iconst 2, 1) := by decide +kernel
theorem d_M_mergeFours_35 : decode b_M_mergeFours 35 = .ok (.iload 5, 2) := by decide +kernel
theorem d_M_mergeFours_37 : decode b_M_mergeFours 37 = .ok (.imul, 1) := by decide +kernel
theorem d_M_mergeFours_38 : decode b_M_mergeFours 38 = .ok (.iadd, 1) := by decide +kernel
theorem d_M_mergeFours_39 : decode b_M_mergeFours 39 = .ok (.iload 4, 2) := by decide +kernel
theorem d_M_mergeFours_41 : decode b_M_mergeFours 41 = .ok (.iadd, 1) := by decide +kernel
theorem d_M_mergeFours_42 : decode b_M_mergeFours 42 = .ok (.iaload, 1) := by decide +kernel
theorem d_M_mergeFours_43 : decode b_M_mergeFours 43 = .ok (.iastore, 1) := by decide +kernel
theorem d_M_mergeFours_44 : decode b_M_mergeFours 44 = .ok (.aload_n 0, 1) := by decide +kernel
theorem d_M_mergeFours_45 : decode b_M_mergeFours 45 = .ok (.getfield 32, 3) := by decide +kernel
theorem d_M_mergeFours_48 : decode b_M_mergeFours 48 = .ok (.iload_n 3, 1) := by decide +kernel
theorem d_M_mergeFours_49 : decode b_M_mergeFours 49 = .ok (.bipush 10, 2) := by decide +kernel
theorem d_M_mergeFours_51 : decode b_M_mergeFours 51 = .ok (.iadd, 1) := by decide +kernel
theorem d_M_mergeFours_52 : decode b_M_mergeFours 52 = .ok (.iload 5, 2) := by decide +kernel
theorem d_M_mergeFours_54 : decode b_M_mergeFours 54 = .ok (.iadd, 1) := by decide +kernel
theorem d_M_mergeFours_55 : decode b_M_mergeFours 55 = .ok (.aload_n 0, 1) := by decide +kernel
theorem d_M_mergeFours_56 : decode b_M_mergeFours 56 = .ok (.getfield 32, 3) := by decide +kernel
theorem d_M_mergeFours_59 : decode b_M_mergeFours 59 = .ok (.iload_n 2, 1) := by decide +kernel
theorem d_M_mergeFours_60 : decode b_M_mergeFours 60 = .ok (.iconst 2, 1) := by decide +kernel
theorem d_M_mergeFours_61 : decode b_M_mergeFours 61 = .ok (.iload 5, 2) := by decide +kernel
theorem d_M_mergeFours_63 : decode b_M_mergeFours 63 = .ok (.imul, 1) := by decide +kernel
theorem d_M_mergeFours_64 : decode b_M_mergeFours 64 = .ok (.iadd, 1) := by decide +kernel
theorem d_M_mergeFours_65 : decode b_M_mergeFours 65 = .ok (.iconst 1, 1) := by decide +kernel
theorem d_M_mergeFours_66 : decode b_M_mergeFours 66 = .ok (.iadd, 1) := by decide +kernel
theorem d_M_mergeFours_67 : decode b_M_mergeFours 67 = .ok (.iload 4, 2) := by decide +kernel
theorem d_M_mergeFours_69 : decode b_M_mergeFours 69 = .ok (.isub, 1) := by decide +kernel
theorem d_M_mergeFours_70 : decode b_M_mergeFours 70 = .ok (.iaload, 1) := by decide +kernel
theorem d_M_mergeFours_71 : decode b_M_mergeFours 71 = .ok (.iastore, 1) := by decide +kernel
theorem d_M_mergeFours_72 : decode b_M_mergeFours 72 = .ok (.iinc 5 1, 3) := by decide +kernel
theorem d_M_mergeFours_75 : decode b_M_mergeFours 75 = .ok (.goto (-63), 3) := by decide +kernel
theorem d_M_mergeFours_78 : decode b_M_mergeFours 78 = .ok (.aload_n 0, 1) := by decide +kernel
theorem d_M_mergeFours_79 : decode b_M_mergeFours 79 = .ok (.iload_n 3, 1) := by decide +kernel
theorem d_M_mergeFours_80 : decode b_M_mergeFours 80 = .ok (.bipush 8, 2) := by decide +kernel
theorem d_M_mergeFours_82 : decode b_M_mergeFours 82 = .ok (.iadd, 1) := by decide +kernel
theorem d_M_mergeFours_83 : decode b_M_mergeFours 83 = .ok (.iload_n 3, 1) := by decide +kernel
theorem d_M_mergeFours_84 : decode b_M_mergeFours 84 = .ok (.bipush 10, 2) := by decide +kernel
theorem d_M_mergeFours_86 : decode b_M_mergeFours 86 = .ok (.iadd, 1) := by decide +kernel
theorem d_M_mergeFours_87 : decode b_M_mergeFours 87 = .ok (.iload_n 3, 1) := by decide +kernel
theorem d_M_mergeFours_88 : decode b_M_mergeFours 88 = .ok (.bipush 16, 2) := by decide +kernel
theorem d_M_mergeFours_90 : decode b_M_mergeFours 90 = .ok (.iadd, 1) := by decide +kernel
theorem d_M_mergeFours_91 : decode b_M_mergeFours 91 = .ok (.bipush 8, 2) := by decide +kernel
theorem d_M_mergeFours_93 : decode b_M_mergeFours 93 = .ok (.iload 4, 2) := by decide +kernel
theorem d_M_mergeFours_95 : decode b_M_mergeFours 95 = .ok (.imul, 1) := by decide +kernel
theorem d_M_mergeFours_96 : decode b_M_mergeFours 96 = .ok (.iadd, 1) := by decide +kernel
theorem d_M_mergeFours_97 : decode b_M_mergeFours 97 = .ok (.invokevirtual 90, 3) := by decide +kernel
theorem d_M_mergeFours_100 : decode b_M_mergeFours 100 = .ok (.iinc 4 1, 3) := by decide +kernel
theorem d_M_mergeFours_103 : decode b_M_mergeFours 103 = .ok (.goto (-100), 3) := by decide +kernel
theorem d_M_mergeFours_106 : decode b_M_mergeFours 106 = .ok (.aload_n 0, 1) := by decide +kernel
theorem d_M_mergeFours_107 : decode b_M_mergeFours 107 = .ok (.iload_n 3, 1) := by decide +kernel
theorem d_M_mergeFours_108 : decode b_M_mergeFours 108 = .ok (.bipush 16, 2) := by decide +kernel
theorem d_M_mergeFours_110 : decode b_M_mergeFours 110 = .ok (.iadd, 1) := by decide +kernel
theorem d_M_mergeFours_111 : decode b_M_mergeFours 111 = .ok (.iload_n 3, 1) := by decide +kernel
theorem d_M_mergeFours_112 : decode b_M_mergeFours 112 = .ok (.bipush 24, 2) := by decide +kernel
theorem d_M_mergeFours_114 : decode b_M_mergeFours 114 = .ok (.iadd, 1) := by decide +kernel
theorem d_M_mergeFours_115 : decode b_M_mergeFours 115 = .ok (.iconst 4, 1) := by decide +kernel
theorem d_M_mergeFours_116 : decode b_M_mergeFours 116 = .ok (.iload_n 3, 1) := by decide +kernel
theorem d_M_mergeFours_117 : decode b_M_mergeFours 117 = .ok (.invokevirtual 86, 3) := by decide +kernel
theorem d_M_mergeFours_120 : decode b_M_mergeFours 120 = .ok (.return_, 1) := by decide +kernel
theorem d_M_layFour_0 : decode b_M_layFour 0 = .ok (.aload_n 0, 1) := by decide +kernel
theorem d_M_layFour_1 : decode b_M_layFour 1 = .ok (.iload_n 1, 1) := by decide +kernel
theorem d_M_layFour_2 : decode b_M_layFour 2 = .ok (.iload_n 1, 1) := by decide +kernel
theorem d_M_layFour_3 : decode b_M_layFour 3 = .ok (.iconst 1, 1) := by decide +kernel
theorem d_M_layFour_4 : decode b_M_layFour 4 = .ok (.iadd, 1) := by decide +kernel
theorem d_M_layFour_5 : decode b_M_layFour 5 = .ok (.iload_n 2, 1) := by decide +kernel
theorem d_M_layFour_6 : decode b_M_layFour 6 = .ok (.bipush 16, 2) := by decide +kernel
theorem d_M_layFour_8 : decode b_M_layFour 8 = .ok (.iadd, 1) := by decide +kernel
theorem d_M_layFour_9 : decode b_M_layFour 9 = .ok (.invokevirtual 82, 3) := by decide +kernel
theorem d_M_layFour_12 : decode b_M_layFour 12 = .ok (.aload_n 0, 1) := by decide +kernel
theorem d_M_layFour_13 : decode b_M_layFour 13 = .ok (.iload_n 1, 1) := by decide +kernel
theorem d_M_layFour_14 : decode b_M_layFour 14 = .ok (.iconst 2, 1) := by decide +kernel
theorem d_M_layFour_15 : decode b_M_layFour 15 = .ok (.iadd, 1) := by decide +kernel
theorem d_M_layFour_16 : decode b_M_layFour 16 = .ok (.iload_n 1, 1) := by decide +kernel
theorem d_M_layFour_17 : decode b_M_layFour 17 = .ok (.iconst 3, 1) := by decide +kernel
theorem d_M_layFour_18 : decode b_M_layFour 18 = .ok (.iadd, 1) := by decide +kernel
theorem d_M_layFour_19 : decode b_M_layFour 19 = .ok (.iload_n 2, 1) := by decide +kernel
theorem d_M_layFour_20 : decode b_M_layFour 20 = .ok (.bipush 18, 2) := by decide +kernel
theorem d_M_layFour_22 : decode b_M_layFour 22 = .ok (.iadd, 1) := by decide +kernel
theorem d_M_layFour_23 : decode b_M_layFour 23 = .ok (.invokevirtual 82, 3) := by decide +kernel
theorem d_M_layFour_26 : decode b_M_layFour 26 = .ok (.aload_n 0, 1) := by decide +kernel
theorem d_M_layFour_27 : decode b_M_layFour 27 = .ok (.iload_n 2, 1) := by decide +kernel
theorem d_M_layFour_28 : decode b_M_layFour 28 = .ok (.bipush 16, 2) := by decide +kernel
theorem d_M_layFour_30 : decode b_M_layFour 30 = .ok (.iadd, 1) := by decide +kernel
theorem d_M_layFour_31 : decode b_M_layFour 31 = .ok (.iload_n 2, 1) := by decide +kernel
theorem d_M_layFour_32 : decode b_M_layFour 32 = .ok (.bipush 18, 2) := by decide +kernel
theorem d_M_layFour_34 : decode b_M_layFour 34 = .ok (.iadd, 1) := by decide +kernel
theorem d_M_layFour_35 : decode b_M_layFour 35 = .ok (.iload_n 2, 1) := by decide +kernel
theorem d_M_layFour_36 : decode b_M_layFour 36 = .ok (.invokevirtual 90, 3) := by decide +kernel
theorem d_M_layFour_39 : decode b_M_layFour 39 = .ok (.return_, 1) := by decide +kernel
theorem d_M_make_0 : decode b_M_make 0 = .ok (.aload_n 0, 1) := by decide +kernel
theorem d_M_make_1 : decode b_M_make 1 = .ok (.iload_n 1, 1) := by decide +kernel
theorem d_M_make_2 : decode b_M_make 2 = .ok (.putfield 93, 3) := by decide +kernel
theorem d_M_make_5 : decode b_M_make 5 = .ok (.aload_n 0, 1) := by decide +kernel
theorem d_M_make_6 : decode b_M_make 6 = .ok (.iload_n 2, 1) := by decide +kernel
theorem d_M_make_7 : decode b_M_make 7 = .ok (.putfield 96, 3) := by decide +kernel
theorem d_M_make_10 : decode b_M_make 10 = .ok (.aload_n 0, 1) := by decide +kernel
theorem d_M_make_11 : decode b_M_make 11 = .ok (.iconst 0, 1) := by decide +kernel
theorem d_M_make_12 : decode b_M_make 12 = .ok (.putfield 76, 3) := by decide +kernel
theorem d_M_make_15 : decode b_M_make 15 = .ok (.aload_n 0, 1) := by decide +kernel
theorem d_M_make_16 : decode b_M_make 16 = .ok (.iconst 0, 1) := by decide +kernel
theorem d_M_make_17 : decode b_M_make 17 = .ok (.putfield 99, 3) := by decide +kernel
theorem d_M_make_20 : decode b_M_make 20 = .ok (.aload_n 0, 1) := by decide +kernel
theorem d_M_make_21 : decode b_M_make 21 = .ok (.iconst 0, 1) := by decide +kernel
theorem d_M_make_22 : decode b_M_make 22 = .ok (.putfield 102, 3) := by decide +kernel
theorem d_M_make_25 : decode b_M_make 25 = .ok (.iload_n 1, 1) := by decide +kernel
theorem d_M_make_26 : decode b_M_make 26 = .ok (.iconst 2, 1) := by decide +kernel
theorem d_M_make_27 : decode b_M_make 27 = .ok (.if_icmp .ne 13, 3) := by decide +kernel
theorem d_M_make_30 : decode b_M_make 30 = .ok (.aload_n 0, 1) := by decide +kernel
theorem d_M_make_31 : decode b_M_make 31 = .ok (.iconst 0, 1) := by decide +kernel
theorem d_M_make_32 : decode b_M_make 32 = .ok (.iconst 1, 1) := by decide +kernel
theorem d_M_make_33 : decode b_M_make 33 = .ok (.iconst 0, 1) := by decide +kernel
theorem d_M_make_34 : decode b_M_make 34 = .ok (.invokevirtual 82, 3) := by decide +kernel
theorem d_M_make_37 : decode b_M_make 37 = .ok (.goto 40, 3) := by decide +kernel
theorem d_M_make_40 : decode b_M_make 40 = .ok (.iload_n 1, 1) := by decide +kernel
theorem d_M_make_41 : decode b_M_make 41 = .ok (.iconst 4, 1) := by decide +kernel
theorem d_M_make_42 : decode b_M_make 42 = .ok (.if_icmp .ne 12, 3) := by decide +kernel
theorem d_M_make_45 : decode b_M_make 45 = .ok (.aload_n 0, 1) := by decide +kernel
theorem d_M_make_46 : decode b_M_make 46 = .ok (.iconst 0, 1) := by decide +kernel
theorem d_M_make_47 : decode b_M_make 47 = .ok (.iconst 0, 1) := by decide +kernel
theorem d_M_make_48 : decode b_M_make 48 = .ok (.invokevirtual 105, 3) := by decide +kernel
theorem d_M_make_51 : decode b_M_make 51 = .ok (.goto 26, 3) := by decide +kernel
theorem d_M_make_54 : decode b_M_make 54 = .ok (.aload_n 0, 1) := by decide +kernel
theorem d_M_make_55 : decode b_M_make 55 = .ok (.iconst 0, 1) := by decide +kernel
theorem d_M_make_56 : decode b_M_make 56 = .ok (.bipush 40, 2) := by decide +kernel
theorem d_M_make_58 : decode b_M_make 58 = .ok (.invokevirtual 105, 3) := by decide +kernel
theorem d_M_make_61 : decode b_M_make 61 = .ok (.aload_n 0, 1) := by decide +kernel
theorem d_M_make_62 : decode b_M_make 62 = .ok (.iconst 4, 1) := by decide +kernel
theorem d_M_make_63 : decode b_M_make 63 = .ok (.bipush 48, 2) := by decide +kernel
theorem d_M_make_65 : decode b_M_make 65 = .ok (.invokevirtual 105, 3) := by decide +kernel
theorem d_M_make_68 : decode b_M_make 68 = .ok (.aload_n 0, 1) := by decide +kernel
theorem d_M_make_69 : decode b_M_make 69 = .ok (.bipush 40, 2) := by decide +kernel
theorem d_M_make_71 : decode b_M_make 71 = .ok (.bipush 48, 2) := by decide +kernel
theorem d_M_make_73 : decode b_M_make 73 = .ok (.iconst 0, 1) := by decide +kernel
theorem d_M_make_74 : decode b_M_make 74 = .ok (.invokevirtual 108, 3) := by decide +kernel
theorem d_M_make_77 : decode b_M_make 77 = .ok (.iconst 0, 1) := by decide +kernel
theorem d_M_make_78 : decode b_M_make 78 = .ok (.istore_n 3, 1) := by decide +kernel
theorem d_M_make_79 : decode b_M_make 79 = .ok (.iload_n 3, 1) := by decide +kernel
theorem d_M_make_80 : decode b_M_make 80 = .ok (.iload_n 1, 1) := by decide +kernel
theorem d_M_make_81 : decode b_M_make 81 = .ok (.if_icmp .ge 28, 3) := by decide +kernel
theorem d_M_make_84 : decode b_M_make 84 = .ok (.aload_n 0, 1) := by decide +kernel
theorem d_M_make_85 : decode b_M_make 85 = .ok (.getfield 22, 3) := by decide +kernel
theorem d_M_make_88 : decode b_M_make 88 = .ok (.iload_n 3, 1) := by decide +kernel
theorem d_M_make_89 : decode b_M_make 89 = .ok (.aload_n 0, 1) := by decide +kernel
theorem d_M_make_90 : decode b_M_make 90 = .ok (.getfield 32, 3) := by decide +kernel
theorem d_M_make_93 : decode b_M_make 93 = .ok (.iload_n 3, 1) := by decide +kernel
theorem d_M_make_94 : decode b_M_make 94 = .ok (.iaload, 1) := by decide +kernel
theorem d_M_make_95 : decode b_M_make 95 = .ok (.iastore, 1) := by decide +kernel
theorem d_M_make_96 : decode b_M_make 96 = .ok (.aload_n 0, 1) := by decide +kernel
theorem d_M_make_97 : decode b_M_make 97 = .ok (.getfield 25, 3) := by decide +kernel
theorem d_M_make_100 : decode b_M_make 100 = .ok (.iload_n 3, 1) := by decide +kernel
theorem d_M_make_101 : decode b_M_make 101 = .ok (.iconst 0, 1) := by decide +kernel
theorem d_M_make_102 : decode b_M_make 102 = .ok (.iastore, 1) := by decide +kernel
theorem d_M_make_103 : decode b_M_make 103 = .ok (.iinc 3 1, 3) := by decide +kernel
theorem d_M_make_106 : decode b_M_make 106 = .ok (.goto (-27), 3) := by decide +kernel
theorem d_M_make_109 : decode b_M_make 109 = .ok (.iconst 0, 1) := by decide +kernel
theorem d_M_make_110 : decode b_M_make 110 = .ok (.istore_n 3, 1) := by decide +kernel
theorem d_M_make_111 : decode b_M_make 111 = .ok (.iload_n 3, 1) := by decide +kernel
theorem d_M_make_112 : decode b_M_make 112 = .ok (.bipush 6, 2) := by decide +kernel
theorem d_M_make_114 : decode b_M_make 114 = .ok (.if_icmp .ge 16, 3) := by decide +kernel
theorem d_M_make_117 : decode b_M_make 117 = .ok (.aload_n 0, 1) := by decide +kernel
theorem d_M_make_118 : decode b_M_make 118 = .ok (.getfield 28, 3) := by decide +kernel
theorem d_M_make_121 : decode b_M_make 121 = .ok (.iload_n 3, 1) := by decide +kernel
theorem d_M_make_122 : decode b_M_make 122 = .ok (.iconst 0, 1) := by decide +kernel
theorem d_M_make_123 : decode b_M_make 123 = .ok (.bastore, 1) := by decide +kernel
theorem d_M_make_124 : decode b_M_make 124 = .ok (.iinc 3 1, 3) := by decide +kernel
theorem d_M_make_127 : decode b_M_make 127 = .ok (.goto (-16), 3) := by decide +kernel
theorem d_M_make_130 : decode b_M_make 130 = .ok (.return_, 1) := by decide +kernel
theorem d_M_build_0 : decode b_M_build 0 = .ok (.aload_n 0, 1) := by decide +kernel
theorem d_M_build_1 : decode b_M_build 1 = .ok (.iload_n 1, 1) := by decide +kernel
theorem d_M_build_2 : decode b_M_build 2 = .ok (.iconst 2, 1) := by decide +kernel
theorem d_M_build_3 : decode b_M_build 3 = .ok (.if_icmp .eq 14, 3) := by decide +kernel
theorem d_M_build_6 : decode b_M_build 6 = .ok (.iload_n 1, 1) := by decide +kernel
theorem d_M_build_7 : decode b_M_build 7 = .ok (.iconst 4, 1) := by decide +kernel
theorem d_M_build_8 : decode b_M_build 8 = .ok (.if_icmp .eq 9, 3) := by decide +kernel
theorem d_M_build_11 : decode b_M_build 11 = .ok (.iload_n 1, 1) := by decide +kernel
theorem d_M_build_12 : decode b_M_build 12 = .ok (.bipush 8, 2) := by decide +kernel
theorem d_M_build_14 : decode b_M_build 14 = .ok (.if_icmp .ne 13, 3) := by decide +kernel
theorem d_M_build_17 : decode b_M_build 17 = .ok (.iload_n 2, 1) := by decide +kernel
theorem d_M_build_18 : decode b_M_build 18 = .ok (.iconst 1, 1) := by decide +kernel
theorem d_M_build_19 : decode b_M_build 19 = .ok (.bipush 6, 2) := by decide +kernel
theorem d_M_build_21 : decode b_M_build 21 = .ok (.invokestatic 111, 3) := by decide +kernel
theorem d_M_build_24 : decode b_M_build 24 = .ok (.ifCond .ne 7, 3) := by decide +kernel
theorem d_M_build_27 : decode b_M_build 27 = .ok (.iconst 1, 1) := by decide +kernel
theorem d_M_build_28 : decode b_M_build 28 = .ok (.goto 4, 3) := by decide +kernel
theorem d_M_build_31 : decode b_M_build 31 = .ok (.iconst 0, 1) := by decide +kernel
theorem d_M_build_32 : decode b_M_build 32 = .ok (.iconst 0, 1) := by decide +kernel
theorem d_M_build_33 : decode b_M_build 33 = .ok (.invokevirtual 115, 3) := by decide +kernel
theorem d_M_build_36 : decode b_M_build 36 = .ok (.ifCond .eq 5, 3) := by decide +kernel
theorem d_M_build_39 : decode b_M_build 39 = .ok (.iconst 0, 1) := by decide +kernel
theorem d_M_build_40 : decode b_M_build 40 = .ok (.ireturn, 1) := by decide +kernel
theorem d_M_build_41 : decode b_M_build 41 = .ok (.aload_n 0, 1) := by decide +kernel
theorem d_M_build_42 : decode b_M_build 42 = .ok (.iload_n 1, 1) := by decide +kernel
theorem d_M_build_43 : decode b_M_build 43 = .ok (.iload_n 2, 1) := by decide +kernel
theorem d_M_build_44 : decode b_M_build 44 = .ok (.invokevirtual 68, 3) := by decide +kernel
theorem d_M_build_47 : decode b_M_build 47 = .ok (.aload_n 0, 1) := by decide +kernel
theorem d_M_build_48 : decode b_M_build 48 = .ok (.getfield 76, 3) := by decide +kernel
theorem d_M_build_51 : decode b_M_build 51 = .ok (.ireturn, 1) := by decide +kernel
theorem d_M_balancer_0 : decode b_M_balancer 0 = .ok (.iload_n 1, 1) := by decide +kernel
theorem d_M_balancer_1 : decode b_M_balancer 1 = .ok (.iconst 0, 1) := by decide +kernel
theorem d_M_balancer_2 : decode b_M_balancer 2 = .ok (.aload_n 0, 1) := by decide +kernel
theorem d_M_balancer_3 : decode b_M_balancer 3 = .ok (.getfield 76, 3) := by decide +kernel
theorem d_M_balancer_6 : decode b_M_balancer 6 = .ok (.iconst 1, 1) := by decide +kernel
theorem d_M_balancer_7 : decode b_M_balancer 7 = .ok (.isub, 1) := by decide +kernel
theorem d_M_balancer_8 : decode b_M_balancer 8 = .ok (.invokestatic 111, 3) := by decide +kernel
theorem d_M_balancer_11 : decode b_M_balancer 11 = .ok (.istore_n 3, 1) := by decide +kernel
theorem d_M_balancer_12 : decode b_M_balancer 12 = .ok (.aload_n 0, 1) := by decide +kernel
theorem d_M_balancer_13 : decode b_M_balancer 13 = .ok (.iload_n 3, 1) := by decide +kernel
theorem d_M_balancer_14 : decode b_M_balancer 14 = .ok (.ifCond .ne 7, 3) := by decide +kernel
theorem d_M_balancer_17 : decode b_M_balancer 17 = .ok (.iconst 1, 1) := by decide +kernel
theorem d_M_balancer_18 : decode b_M_balancer 18 = .ok (.goto 4, 3) := by decide +kernel
theorem d_M_balancer_21 : decode b_M_balancer 21 = .ok (.iconst 0, 1) := by decide +kernel
theorem d_M_balancer_22 : decode b_M_balancer 22 = .ok (.iload_n 3, 1) := by decide +kernel
theorem d_M_balancer_23 : decode b_M_balancer 23 = .ok (.ifCond .eq 16, 3) := by decide +kernel
theorem d_M_balancer_26 : decode b_M_balancer 26 = .ok (.iload_n 2, 1) := by decide +kernel
theorem d_M_balancer_27 : decode b_M_balancer 27 = .ok (.iconst 0, 1) := by decide +kernel
theorem d_M_balancer_28 : decode b_M_balancer 28 = .ok (.iconst 4, 1) := by decide +kernel
theorem d_M_balancer_29 : decode b_M_balancer 29 = .ok (.invokestatic 111, 3) := by decide +kernel
theorem d_M_balancer_32 : decode b_M_balancer 32 = .ok (.ifCond .ne 7, 3) := by decide +kernel
theorem d_M_balancer_35 : decode b_M_balancer 35 = .ok (.iconst 1, 1) := by decide +kernel
theorem d_M_balancer_36 : decode b_M_balancer 36 = .ok (.goto 4, 3) := by decide +kernel
theorem d_M_balancer_39 : decode b_M_balancer 39 = .ok (.iconst 0, 1) := by decide +kernel
theorem d_M_balancer_40 : decode b_M_balancer 40 = .ok (.invokevirtual 115, 3) := by decide +kernel
theorem d_M_balancer_43 : decode b_M_balancer 43 = .ok (.ifCond .eq 5, 3) := by decide +kernel
theorem d_M_balancer_46 : decode b_M_balancer 46 = .ok (.iconst 0, 1) := by decide +kernel
theorem d_M_balancer_47 : decode b_M_balancer 47 = .ok (.ireturn, 1) := by decide +kernel
theorem d_M_balancer_48 : decode b_M_balancer 48 = .ok (.iload_n 2, 1) := by decide +kernel
theorem d_M_balancer_49 : decode b_M_balancer 49 = .ok (.tableswitch 64 0 3 #[31, 38, 45, 52], 31) := by decide +kernel
theorem d_M_balancer_80 : decode b_M_balancer 80 = .ok (.aload_n 0, 1) := by decide +kernel
theorem d_M_balancer_81 : decode b_M_balancer 81 = .ok (.getfield 7, 3) := by decide +kernel
theorem d_M_balancer_84 : decode b_M_balancer 84 = .ok (.iload_n 1, 1) := by decide +kernel
theorem d_M_balancer_85 : decode b_M_balancer 85 = .ok (.iaload, 1) := by decide +kernel
theorem d_M_balancer_86 : decode b_M_balancer 86 = .ok (.ireturn, 1) := by decide +kernel
theorem d_M_balancer_87 : decode b_M_balancer 87 = .ok (.aload_n 0, 1) := by decide +kernel
theorem d_M_balancer_88 : decode b_M_balancer 88 = .ok (.getfield 13, 3) := by decide +kernel
theorem d_M_balancer_91 : decode b_M_balancer 91 = .ok (.iload_n 1, 1) := by decide +kernel
theorem d_M_balancer_92 : decode b_M_balancer 92 = .ok (.iaload, 1) := by decide +kernel
theorem d_M_balancer_93 : decode b_M_balancer 93 = .ok (.ireturn, 1) := by decide +kernel
theorem d_M_balancer_94 : decode b_M_balancer 94 = .ok (.aload_n 0, 1) := by decide +kernel
theorem d_M_balancer_95 : decode b_M_balancer 95 = .ok (.getfield 16, 3) := by decide +kernel
theorem d_M_balancer_98 : decode b_M_balancer 98 = .ok (.iload_n 1, 1) := by decide +kernel
theorem d_M_balancer_99 : decode b_M_balancer 99 = .ok (.iaload, 1) := by decide +kernel
theorem d_M_balancer_100 : decode b_M_balancer 100 = .ok (.ireturn, 1) := by decide +kernel
theorem d_M_balancer_101 : decode b_M_balancer 101 = .ok (.aload_n 0, 1) := by decide +kernel
theorem d_M_balancer_102 : decode b_M_balancer 102 = .ok (.getfield 16, 3) := by decide +kernel
theorem d_M_balancer_105 : decode b_M_balancer 105 = .ok (.iload_n 1, 1) := by decide +kernel
theorem d_M_balancer_106 : decode b_M_balancer 106 = .ok (.iaload, 1) := by decide +kernel
theorem d_M_balancer_107 : decode b_M_balancer 107 = .ok (.aload_n 0, 1) := by decide +kernel
theorem d_M_balancer_108 : decode b_M_balancer 108 = .ok (.getfield 96, 3) := by decide +kernel
theorem d_M_balancer_111 : decode b_M_balancer 111 = .ok (.irem, 1) := by decide +kernel
theorem d_M_balancer_112 : decode b_M_balancer 112 = .ok (.ireturn, 1) := by decide +kernel
theorem d_M_balancer_113 : decode b_M_balancer 113 = .ok (.aload_n 0, 1) := by decide +kernel
theorem d_M_balancer_114 : decode b_M_balancer 114 = .ok (.getfield 19, 3) := by decide +kernel
theorem d_M_balancer_117 : decode b_M_balancer 117 = .ok (.iload_n 1, 1) := by decide +kernel
theorem d_M_balancer_118 : decode b_M_balancer 118 = .ok (.iaload, 1) := by decide +kernel
theorem d_M_balancer_119 : decode b_M_balancer 119 = .ok (.ireturn, 1) := by decide +kernel
theorem d_M_exit_0 : decode b_M_exit 0 = .ok (.iload_n 1, 1) := by decide +kernel
theorem d_M_exit_1 : decode b_M_exit 1 = .ok (.iconst 0, 1) := by decide +kernel
theorem d_M_exit_2 : decode b_M_exit 2 = .ok (.aload_n 0, 1) := by decide +kernel
theorem d_M_exit_3 : decode b_M_exit 3 = .ok (.getfield 93, 3) := by decide +kernel
theorem d_M_exit_6 : decode b_M_exit 6 = .ok (.iconst 1, 1) := by decide +kernel
theorem d_M_exit_7 : decode b_M_exit 7 = .ok (.isub, 1) := by decide +kernel
theorem d_M_exit_8 : decode b_M_exit 8 = .ok (.invokestatic 111, 3) := by decide +kernel
theorem d_M_exit_11 : decode b_M_exit 11 = .ok (.istore_n 3, 1) := by decide +kernel
theorem d_M_exit_12 : decode b_M_exit 12 = .ok (.aload_n 0, 1) := by decide +kernel
theorem d_M_exit_13 : decode b_M_exit 13 = .ok (.iload_n 3, 1) := by decide +kernel
theorem d_M_exit_14 : decode b_M_exit 14 = .ok (.ifCond .ne 7, 3) := by decide +kernel
theorem d_M_exit_17 : decode b_M_exit 17 = .ok (.iconst 1, 1) := by decide +kernel
theorem d_M_exit_18 : decode b_M_exit 18 = .ok (.goto 4, 3) := by decide +kernel
theorem d_M_exit_21 : decode b_M_exit 21 = .ok (.iconst 0, 1) := by decide +kernel
theorem d_M_exit_22 : decode b_M_exit 22 = .ok (.iload_n 3, 1) := by decide +kernel
theorem d_M_exit_23 : decode b_M_exit 23 = .ok (.ifCond .eq 16, 3) := by decide +kernel
theorem d_M_exit_26 : decode b_M_exit 26 = .ok (.iload_n 2, 1) := by decide +kernel
theorem d_M_exit_27 : decode b_M_exit 27 = .ok (.iconst 0, 1) := by decide +kernel
theorem d_M_exit_28 : decode b_M_exit 28 = .ok (.iconst 2, 1) := by decide +kernel
theorem d_M_exit_29 : decode b_M_exit 29 = .ok (.invokestatic 111, 3) := by decide +kernel
theorem d_M_exit_32 : decode b_M_exit 32 = .ok (.ifCond .ne 7, 3) := by decide +kernel
theorem d_M_exit_35 : decode b_M_exit 35 = .ok (.iconst 1, 1) := by decide +kernel
theorem d_M_exit_36 : decode b_M_exit 36 = .ok (.goto 4, 3) := by decide +kernel
theorem d_M_exit_39 : decode b_M_exit 39 = .ok (.iconst 0, 1) := by decide +kernel
theorem d_M_exit_40 : decode b_M_exit 40 = .ok (.invokevirtual 115, 3) := by decide +kernel
theorem d_M_exit_43 : decode b_M_exit 43 = .ok (.ifCond .eq 5, 3) := by decide +kernel
theorem d_M_exit_46 : decode b_M_exit 46 = .ok (.iconst 0, 1) := by decide +kernel
theorem d_M_exit_47 : decode b_M_exit 47 = .ok (.ireturn, 1) := by decide +kernel
theorem d_M_exit_48 : decode b_M_exit 48 = .ok (.iload_n 2, 1) := by decide +kernel
theorem d_M_exit_49 : decode b_M_exit 49 = .ok (.ifCond .ne 12, 3) := by decide +kernel
theorem d_M_exit_52 : decode b_M_exit 52 = .ok (.aload_n 0, 1) := by decide +kernel
theorem d_M_exit_53 : decode b_M_exit 53 = .ok (.getfield 22, 3) := by decide +kernel
theorem d_M_exit_56 : decode b_M_exit 56 = .ok (.iload_n 1, 1) := by decide +kernel
theorem d_M_exit_57 : decode b_M_exit 57 = .ok (.iaload, 1) := by decide +kernel
theorem d_M_exit_58 : decode b_M_exit 58 = .ok (.goto 23, 3) := by decide +kernel
theorem d_M_exit_61 : decode b_M_exit 61 = .ok (.iload_n 2, 1) := by decide +kernel
theorem d_M_exit_62 : decode b_M_exit 62 = .ok (.iconst 1, 1) := by decide +kernel
theorem d_M_exit_63 : decode b_M_exit 63 = .ok (.if_icmp .ne 12, 3) := by decide +kernel
theorem d_M_exit_66 : decode b_M_exit 66 = .ok (.iload_n 1, 1) := by decide +kernel
theorem d_M_exit_67 : decode b_M_exit 67 = .ok (.aload_n 0, 1) := by decide +kernel
theorem d_M_exit_68 : decode b_M_exit 68 = .ok (.getfield 96, 3) := by decide +kernel
theorem d_M_exit_71 : decode b_M_exit 71 = .ok (.irem, 1) := by decide +kernel
theorem d_M_exit_72 : decode b_M_exit 72 = .ok (.goto 9, 3) := by decide +kernel
theorem d_M_exit_75 : decode b_M_exit 75 = .ok (.aload_n 0, 1) := by decide +kernel
theorem d_M_exit_76 : decode b_M_exit 76 = .ok (.getfield 25, 3) := by decide +kernel
theorem d_M_exit_79 : decode b_M_exit 79 = .ok (.iload_n 1, 1) := by decide +kernel
theorem d_M_exit_80 : decode b_M_exit 80 = .ok (.iaload, 1) := by decide +kernel
theorem d_M_exit_81 : decode b_M_exit 81 = .ok (.ireturn, 1) := by decide +kernel
theorem d_M_left_0 : decode b_M_left 0 = .ok (.iconst 0, 1) := by decide +kernel
theorem d_M_left_1 : decode b_M_left 1 = .ok (.istore_n 1, 1) := by decide +kernel
theorem d_M_left_2 : decode b_M_left 2 = .ok (.iconst 0, 1) := by decide +kernel
theorem d_M_left_3 : decode b_M_left 3 = .ok (.istore_n 2, 1) := by decide +kernel
theorem d_M_left_4 : decode b_M_left 4 = .ok (.iload_n 2, 1) := by decide +kernel
theorem d_M_left_5 : decode b_M_left 5 = .ok (.aload_n 0, 1) := by decide +kernel
theorem d_M_left_6 : decode b_M_left 6 = .ok (.getfield 99, 3) := by decide +kernel
theorem d_M_left_9 : decode b_M_left 9 = .ok (.if_icmp .ge 27, 3) := by decide +kernel
theorem d_M_left_12 : decode b_M_left 12 = .ok (.aload_n 0, 1) := by decide +kernel
theorem d_M_left_13 : decode b_M_left 13 = .ok (.getfield 41, 3) := by decide +kernel
theorem d_M_left_16 : decode b_M_left 16 = .ok (.iload_n 2, 1) := by decide +kernel
theorem d_M_left_17 : decode b_M_left 17 = .ok (.iaload, 1) := by decide +kernel
theorem d_M_left_18 : decode b_M_left 18 = .ok (.iconst 2, 1) := by decide +kernel
theorem d_M_left_19 : decode b_M_left 19 = .ok (.if_icmp .ne 7, 3) := by decide +kernel
theorem d_M_left_22 : decode b_M_left 22 = .ok (.iload_n 1, 1) := by decide +kernel
theorem d_M_left_23 : decode b_M_left 23 = .ok (.goto 6, 3) := by decide +kernel
theorem d_M_left_26 : decode b_M_left 26 = .ok (.iload_n 1, 1) := by decide +kernel
theorem d_M_left_27 : decode b_M_left 27 = .ok (.iconst 1, 1) := by decide +kernel
theorem d_M_left_28 : decode b_M_left 28 = .ok (.iadd, 1) := by decide +kernel
theorem d_M_left_29 : decode b_M_left 29 = .ok (.istore_n 1, 1) := by decide +kernel
theorem d_M_left_30 : decode b_M_left 30 = .ok (.iinc 2 1, 3) := by decide +kernel
theorem d_M_left_33 : decode b_M_left 33 = .ok (.goto (-29), 3) := by decide +kernel
theorem d_M_left_36 : decode b_M_left 36 = .ok (.iload_n 1, 1) := by decide +kernel
theorem d_M_left_37 : decode b_M_left 37 = .ok (.ireturn, 1) := by decide +kernel
theorem d_M_enter_0 : decode b_M_enter 0 = .ok (.iload_n 1, 1) := by decide +kernel
theorem d_M_enter_1 : decode b_M_enter 1 = .ok (.iconst 0, 1) := by decide +kernel
theorem d_M_enter_2 : decode b_M_enter 2 = .ok (.aload_n 0, 1) := by decide +kernel
theorem d_M_enter_3 : decode b_M_enter 3 = .ok (.getfield 93, 3) := by decide +kernel
theorem d_M_enter_6 : decode b_M_enter 6 = .ok (.iconst 1, 1) := by decide +kernel
theorem d_M_enter_7 : decode b_M_enter 7 = .ok (.isub, 1) := by decide +kernel
theorem d_M_enter_8 : decode b_M_enter 8 = .ok (.invokestatic 111, 3) := by decide +kernel
theorem d_M_enter_11 : decode b_M_enter 11 = .ok (.istore_n 3, 1) := by decide +kernel
theorem d_M_enter_12 : decode b_M_enter 12 = .ok (.aload_n 0, 1) := by decide +kernel
theorem d_M_enter_13 : decode b_M_enter 13 = .ok (.iload_n 3, 1) := by decide +kernel
theorem d_M_enter_14 : decode b_M_enter 14 = .ok (.ifCond .ne 7, 3) := by decide +kernel
theorem d_M_enter_17 : decode b_M_enter 17 = .ok (.iconst 1, 1) := by decide +kernel
theorem d_M_enter_18 : decode b_M_enter 18 = .ok (.goto 4, 3) := by decide +kernel
theorem d_M_enter_21 : decode b_M_enter 21 = .ok (.iconst 0, 1) := by decide +kernel
theorem d_M_enter_22 : decode b_M_enter 22 = .ok (.iload_n 3, 1) := by decide +kernel
theorem d_M_enter_23 : decode b_M_enter 23 = .ok (.ifCond .eq 26, 3) := by decide +kernel
theorem d_M_enter_26 : decode b_M_enter 26 = .ok (.aload_n 0, 1) := by decide +kernel
theorem d_M_enter_27 : decode b_M_enter 27 = .ok (.getfield 99, 3) := by decide +kernel
theorem d_M_enter_30 : decode b_M_enter 30 = .ok (.sipush 200, 3) := by decide +kernel
theorem d_M_enter_33 : decode b_M_enter 33 = .ok (.if_icmp .eq 12, 3) := by decide +kernel
theorem d_M_enter_36 : decode b_M_enter 36 = .ok (.aload_n 0, 1) := by decide +kernel
theorem d_M_enter_37 : decode b_M_enter 37 = .ok (.invokevirtual 119, 3) := by decide +kernel
theorem d_M_enter_40 : decode b_M_enter 40 = .ok (.bipush 40, 2) := by decide +kernel
theorem d_M_enter_42 : decode b_M_enter 42 = .ok (.if_icmp .ne 7, 3) := by decide +kernel
theorem d_M_enter_45 : decode b_M_enter 45 = .ok (.iconst 1, 1) := by decide +kernel
theorem d_M_enter_46 : decode b_M_enter 46 = .ok (.goto 4, 3) := by decide +kernel
theorem d_M_enter_49 : decode b_M_enter 49 = .ok (.iconst 0, 1) := by decide +kernel
theorem d_M_enter_50 : decode b_M_enter 50 = .ok (.invokevirtual 115, 3) := by decide +kernel
theorem d_M_enter_53 : decode b_M_enter 53 = .ok (.ifCond .eq 5, 3) := by decide +kernel
theorem d_M_enter_56 : decode b_M_enter 56 = .ok (.iconst 0, 1) := by decide +kernel
theorem d_M_enter_57 : decode b_M_enter 57 = .ok (.ireturn, 1) := by decide +kernel
theorem d_M_enter_58 : decode b_M_enter 58 = .ok (.aload_n 0, 1) := by decide +kernel
theorem d_M_enter_59 : decode b_M_enter 59 = .ok (.getfield 35, 3) := by decide +kernel
theorem d_M_enter_62 : decode b_M_enter 62 = .ok (.aload_n 0, 1) := by decide +kernel
theorem d_M_enter_63 : decode b_M_enter 63 = .ok (.getfield 99, 3) := by decide +kernel
theorem d_M_enter_66 : decode b_M_enter 66 = .ok (.iload_n 1, 1) := by decide +kernel
theorem d_M_enter_67 : decode b_M_enter 67 = .ok (.iastore, 1) := by decide +kernel
theorem d_M_enter_68 : decode b_M_enter 68 = .ok (.aload_n 0, 1) := by decide +kernel
theorem d_M_enter_69 : decode b_M_enter 69 = .ok (.getfield 38, 3) := by decide +kernel
theorem d_M_enter_72 : decode b_M_enter 72 = .ok (.aload_n 0, 1) := by decide +kernel
theorem d_M_enter_73 : decode b_M_enter 73 = .ok (.getfield 99, 3) := by decide +kernel
theorem d_M_enter_76 : decode b_M_enter 76 = .ok (.iconst (-1), 1) := by decide +kernel
theorem d_M_enter_77 : decode b_M_enter 77 = .ok (.iastore, 1) := by decide +kernel
theorem d_M_enter_78 : decode b_M_enter 78 = .ok (.aload_n 0, 1) := by decide +kernel
theorem d_M_enter_79 : decode b_M_enter 79 = .ok (.getfield 41, 3) := by decide +kernel
theorem d_M_enter_82 : decode b_M_enter 82 = .ok (.aload_n 0, 1) := by decide +kernel
theorem d_M_enter_83 : decode b_M_enter 83 = .ok (.getfield 99, 3) := by decide +kernel
theorem d_M_enter_86 : decode b_M_enter 86 = .ok (.iconst 0, 1) := by decide +kernel
theorem d_M_enter_87 : decode b_M_enter 87 = .ok (.iastore, 1) := by decide +kernel
theorem d_M_enter_88 : decode b_M_enter 88 = .ok (.aload_n 0, 1) := by decide +kernel
theorem d_M_enter_89 : decode b_M_enter 89 = .ok (.getfield 44, 3) := by decide +kernel
theorem d_M_enter_92 : decode b_M_enter 92 = .ok (.aload_n 0, 1) := by decide +kernel
theorem d_M_enter_93 : decode b_M_enter 93 = .ok (.getfield 99, 3) := by decide +kernel
theorem d_M_enter_96 : decode b_M_enter 96 = .ok (.iconst (-1), 1) := by decide +kernel
theorem d_M_enter_97 : decode b_M_enter 97 = .ok (.iastore, 1) := by decide +kernel
theorem d_M_enter_98 : decode b_M_enter 98 = .ok (.aload_n 0, 1) := by decide +kernel
theorem d_M_enter_99 : decode b_M_enter 99 = .ok (.getfield 47, 3) := by decide +kernel
theorem d_M_enter_102 : decode b_M_enter 102 = .ok (.aload_n 0, 1) := by decide +kernel
theorem d_M_enter_103 : decode b_M_enter 103 = .ok (.getfield 99, 3) := by decide +kernel
theorem d_M_enter_106 : decode b_M_enter 106 = .ok (.iconst 0, 1) := by decide +kernel
theorem d_M_enter_107 : decode b_M_enter 107 = .ok (.iastore, 1) := by decide +kernel
theorem d_M_enter_108 : decode b_M_enter 108 = .ok (.aload_n 0, 1) := by decide +kernel
theorem d_M_enter_109 : decode b_M_enter 109 = .ok (.getfield 50, 3) := by decide +kernel
theorem d_M_enter_112 : decode b_M_enter 112 = .ok (.aload_n 0, 1) := by decide +kernel
theorem d_M_enter_113 : decode b_M_enter 113 = .ok (.getfield 99, 3) := by decide +kernel
theorem d_M_enter_116 : decode b_M_enter 116 = .ok (.iconst (-1), 1) := by decide +kernel
theorem d_M_enter_117 : decode b_M_enter 117 = .ok (.iastore, 1) := by decide +kernel
theorem d_M_enter_118 : decode b_M_enter 118 = .ok (.aload_n 0, 1) := by decide +kernel
theorem d_M_enter_119 : decode b_M_enter 119 = .ok (.getfield 53, 3) := by decide +kernel
theorem d_M_enter_122 : decode b_M_enter 122 = .ok (.aload_n 0, 1) := by decide +kernel
theorem d_M_enter_123 : decode b_M_enter 123 = .ok (.getfield 99, 3) := by decide +kernel
theorem d_M_enter_126 : decode b_M_enter 126 = .ok (.iconst 0, 1) := by decide +kernel
theorem d_M_enter_127 : decode b_M_enter 127 = .ok (.iastore, 1) := by decide +kernel
theorem d_M_enter_128 : decode b_M_enter 128 = .ok (.aload_n 0, 1) := by decide +kernel
theorem d_M_enter_129 : decode b_M_enter 129 = .ok (.getfield 56, 3) := by decide +kernel
theorem d_M_enter_132 : decode b_M_enter 132 = .ok (.aload_n 0, 1) := by decide +kernel
theorem d_M_enter_133 : decode b_M_enter 133 = .ok (.getfield 99, 3) := by decide +kernel
theorem d_M_enter_136 : decode b_M_enter 136 = .ok (.iload_n 2, 1) := by decide +kernel
theorem d_M_enter_137 : decode b_M_enter 137 = .ok (.bastore, 1) := by decide +kernel
theorem d_M_enter_138 : decode b_M_enter 138 = .ok (.aload_n 0, 1) := by decide +kernel
theorem d_M_enter_139 : decode b_M_enter 139 = .ok (.dup, 1) := by decide +kernel
theorem d_M_enter_140 : decode b_M_enter 140 = .ok (.getfield 99, 3) := by decide +kernel
theorem d_M_enter_143 : decode b_M_enter 143 = .ok (.iconst 1, 1) := by decide +kernel
theorem d_M_enter_144 : decode b_M_enter 144 = .ok (.iadd, 1) := by decide +kernel
theorem d_M_enter_145 : decode b_M_enter 145 = .ok (.putfield 99, 3) := by decide +kernel
theorem d_M_enter_148 : decode b_M_enter 148 = .ok (.aload_n 0, 1) := by decide +kernel
theorem d_M_enter_149 : decode b_M_enter 149 = .ok (.getfield 99, 3) := by decide +kernel
theorem d_M_enter_152 : decode b_M_enter 152 = .ok (.iconst 1, 1) := by decide +kernel
theorem d_M_enter_153 : decode b_M_enter 153 = .ok (.isub, 1) := by decide +kernel
theorem d_M_enter_154 : decode b_M_enter 154 = .ok (.ireturn, 1) := by decide +kernel
theorem d_M_nextOf_0 : decode b_M_nextOf 0 = .ok (.aload_n 0, 1) := by decide +kernel
theorem d_M_nextOf_1 : decode b_M_nextOf 1 = .ok (.getfield 44, 3) := by decide +kernel
theorem d_M_nextOf_4 : decode b_M_nextOf 4 = .ok (.iload_n 1, 1) := by decide +kernel
theorem d_M_nextOf_5 : decode b_M_nextOf 5 = .ok (.iaload, 1) := by decide +kernel
theorem d_M_nextOf_6 : decode b_M_nextOf 6 = .ok (.iconst 1, 1) := by decide +kernel
theorem d_M_nextOf_7 : decode b_M_nextOf 7 = .ok (.iadd, 1) := by decide +kernel
theorem d_M_nextOf_8 : decode b_M_nextOf 8 = .ok (.istore_n 2, 1) := by decide +kernel
theorem d_M_nextOf_9 : decode b_M_nextOf 9 = .ok (.iload_n 2, 1) := by decide +kernel
theorem d_M_nextOf_10 : decode b_M_nextOf 10 = .ok (.aload_n 0, 1) := by decide +kernel
theorem d_M_nextOf_11 : decode b_M_nextOf 11 = .ok (.getfield 76, 3) := by decide +kernel
theorem d_M_nextOf_14 : decode b_M_nextOf 14 = .ok (.if_icmp .ge 41, 3) := by decide +kernel
theorem d_M_nextOf_17 : decode b_M_nextOf 17 = .ok (.aload_n 0, 1) := by decide +kernel
theorem d_M_nextOf_18 : decode b_M_nextOf 18 = .ok (.getfield 7, 3) := by decide +kernel
theorem d_M_nextOf_21 : decode b_M_nextOf 21 = .ok (.iload_n 2, 1) := by decide +kernel
theorem d_M_nextOf_22 : decode b_M_nextOf 22 = .ok (.iaload, 1) := by decide +kernel
theorem d_M_nextOf_23 : decode b_M_nextOf 23 = .ok (.aload_n 0, 1) := by decide +kernel
theorem d_M_nextOf_24 : decode b_M_nextOf 24 = .ok (.getfield 35, 3) := by decide +kernel
theorem d_M_nextOf_27 : decode b_M_nextOf 27 = .ok (.iload_n 1, 1) := by decide +kernel
theorem d_M_nextOf_28 : decode b_M_nextOf 28 = .ok (.iaload, 1) := by decide +kernel
theorem d_M_nextOf_29 : decode b_M_nextOf 29 = .ok (.if_icmp .eq 18, 3) := by decide +kernel
theorem d_M_nextOf_32 : decode b_M_nextOf 32 = .ok (.aload_n 0, 1) := by decide +kernel
theorem d_M_nextOf_33 : decode b_M_nextOf 33 = .ok (.getfield 13, 3) := by decide +kernel
theorem d_M_nextOf_36 : decode b_M_nextOf 36 = .ok (.iload_n 2, 1) := by decide +kernel
theorem d_M_nextOf_37 : decode b_M_nextOf 37 = .ok (.iaload, 1) := by decide +kernel
theorem d_M_nextOf_38 : decode b_M_nextOf 38 = .ok (.aload_n 0, 1) := by decide +kernel
theorem d_M_nextOf_39 : decode b_M_nextOf 39 = .ok (.getfield 35, 3) := by decide +kernel
theorem d_M_nextOf_42 : decode b_M_nextOf 42 = .ok (.iload_n 1, 1) := by decide +kernel
theorem d_M_nextOf_43 : decode b_M_nextOf 43 = .ok (.iaload, 1) := by decide +kernel
theorem d_M_nextOf_44 : decode b_M_nextOf 44 = .ok (.if_icmp .ne 5, 3) := by decide +kernel
theorem d_M_nextOf_47 : decode b_M_nextOf 47 = .ok (.iload_n 2, 1) := by decide +kernel
theorem d_M_nextOf_48 : decode b_M_nextOf 48 = .ok (.ireturn, 1) := by decide +kernel
theorem d_M_nextOf_49 : decode b_M_nextOf 49 = .ok (.iinc 2 1, 3) := by decide +kernel
theorem d_M_nextOf_52 : decode b_M_nextOf 52 = .ok (.goto (-43), 3) := by decide +kernel
theorem d_M_nextOf_55 : decode b_M_nextOf 55 = .ok (.iconst (-1), 1) := by decide +kernel
theorem d_M_nextOf_56 : decode b_M_nextOf 56 = .ok (.ireturn, 1) := by decide +kernel
theorem d_M_exitOf_0 : decode b_M_exitOf 0 = .ok (.iconst 0, 1) := by decide +kernel
theorem d_M_exitOf_1 : decode b_M_exitOf 1 = .ok (.istore_n 2, 1) := by decide +kernel
theorem d_M_exitOf_2 : decode b_M_exitOf 2 = .ok (.iconst 0, 1) := by decide +kernel
theorem d_M_exitOf_3 : decode b_M_exitOf 3 = .ok (.istore_n 3, 1) := by decide +kernel
theorem d_M_exitOf_4 : decode b_M_exitOf 4 = .ok (.iload_n 3, 1) := by decide +kernel
theorem d_M_exitOf_5 : decode b_M_exitOf 5 = .ok (.aload_n 0, 1) := by decide +kernel
theorem d_M_exitOf_6 : decode b_M_exitOf 6 = .ok (.getfield 93, 3) := by decide +kernel
theorem d_M_exitOf_9 : decode b_M_exitOf 9 = .ok (.if_icmp .ge 25, 3) := by decide +kernel
theorem d_M_exitOf_12 : decode b_M_exitOf 12 = .ok (.aload_n 0, 1) := by decide +kernel
theorem d_M_exitOf_13 : decode b_M_exitOf 13 = .ok (.getfield 22, 3) := by decide +kernel
theorem d_M_exitOf_16 : decode b_M_exitOf 16 = .ok (.iload_n 3, 1) := by decide +kernel
theorem d_M_exitOf_17 : decode b_M_exitOf 17 = .ok (.iaload, 1) := by decide +kernel
theorem d_M_exitOf_18 : decode b_M_exitOf 18 = .ok (.iload_n 1, 1) := by decide +kernel
theorem d_M_exitOf_19 : decode b_M_exitOf 19 = .ok (.if_icmp .ne 7, 3) := by decide +kernel
theorem d_M_exitOf_22 : decode b_M_exitOf 22 = .ok (.iload_n 3, 1) := by decide +kernel
theorem d_M_exitOf_23 : decode b_M_exitOf 23 = .ok (.goto 4, 3) := by decide +kernel
theorem d_M_exitOf_26 : decode b_M_exitOf 26 = .ok (.iload_n 2, 1) := by decide +kernel
theorem d_M_exitOf_27 : decode b_M_exitOf 27 = .ok (.istore_n 2, 1) := by decide +kernel
theorem d_M_exitOf_28 : decode b_M_exitOf 28 = .ok (.iinc 3 1, 3) := by decide +kernel
theorem d_M_exitOf_31 : decode b_M_exitOf 31 = .ok (.goto (-27), 3) := by decide +kernel
theorem d_M_exitOf_34 : decode b_M_exitOf 34 = .ok (.iload_n 2, 1) := by decide +kernel
theorem d_M_exitOf_35 : decode b_M_exitOf 35 = .ok (.ireturn, 1) := by decide +kernel
theorem d_M_stationOf_0 : decode b_M_stationOf 0 = .ok (.aload_n 0, 1) := by decide +kernel
theorem d_M_stationOf_1 : decode b_M_stationOf 1 = .ok (.iload_n 1, 1) := by decide +kernel
theorem d_M_stationOf_2 : decode b_M_stationOf 2 = .ok (.invokevirtual 123, 3) := by decide +kernel
theorem d_M_stationOf_5 : decode b_M_stationOf 5 = .ok (.istore_n 2, 1) := by decide +kernel
theorem d_M_stationOf_6 : decode b_M_stationOf 6 = .ok (.iload_n 2, 1) := by decide +kernel
theorem d_M_stationOf_7 : decode b_M_stationOf 7 = .ok (.ifCond .ge 21, 3) := by decide +kernel
theorem d_M_stationOf_10 : decode b_M_stationOf 10 = .ok (.aload_n 0, 1) := by decide +kernel
theorem d_M_stationOf_11 : decode b_M_stationOf 11 = .ok (.aload_n 0, 1) := by decide +kernel
theorem d_M_stationOf_12 : decode b_M_stationOf 12 = .ok (.getfield 35, 3) := by decide +kernel
theorem d_M_stationOf_15 : decode b_M_stationOf 15 = .ok (.iload_n 1, 1) := by decide +kernel
theorem d_M_stationOf_16 : decode b_M_stationOf 16 = .ok (.iaload, 1) := by decide +kernel
theorem d_M_stationOf_17 : decode b_M_stationOf 17 = .ok (.invokevirtual 127, 3) := by decide +kernel
theorem d_M_stationOf_20 : decode b_M_stationOf 20 = .ok (.aload_n 0, 1) := by decide +kernel
theorem d_M_stationOf_21 : decode b_M_stationOf 21 = .ok (.getfield 96, 3) := by decide +kernel
theorem d_M_stationOf_24 : decode b_M_stationOf 24 = .ok (.irem, 1) := by decide +kernel
theorem d_M_stationOf_25 : decode b_M_stationOf 25 = .ok (.goto 14, 3) := by decide +kernel
theorem d_M_stationOf_28 : decode b_M_stationOf 28 = .ok (.aload_n 0, 1) := by decide +kernel
theorem d_M_stationOf_29 : decode b_M_stationOf 29 = .ok (.getfield 16, 3) := by decide +kernel
theorem d_M_stationOf_32 : decode b_M_stationOf 32 = .ok (.iload_n 2, 1) := by decide +kernel
theorem d_M_stationOf_33 : decode b_M_stationOf 33 = .ok (.iaload, 1) := by decide +kernel
theorem d_M_stationOf_34 : decode b_M_stationOf 34 = .ok (.aload_n 0, 1) := by decide +kernel
theorem d_M_stationOf_35 : decode b_M_stationOf 35 = .ok (.getfield 96, 3) := by decide +kernel
theorem d_M_stationOf_38 : decode b_M_stationOf 38 = .ok (.irem, 1) := by decide +kernel
theorem d_M_stationOf_39 : decode b_M_stationOf 39 = .ok (.ireturn, 1) := by decide +kernel
theorem d_M_post_0 : decode b_M_post 0 = .ok (.aload_n 0, 1) := by decide +kernel
theorem d_M_post_1 : decode b_M_post 1 = .ok (.getfield 59, 3) := by decide +kernel
theorem d_M_post_4 : decode b_M_post 4 = .ok (.aload_n 0, 1) := by decide +kernel
theorem d_M_post_5 : decode b_M_post 5 = .ok (.getfield 102, 3) := by decide +kernel
theorem d_M_post_8 : decode b_M_post 8 = .ok (.iload_n 1, 1) := by decide +kernel
theorem d_M_post_9 : decode b_M_post 9 = .ok (.iastore, 1) := by decide +kernel
theorem d_M_post_10 : decode b_M_post 10 = .ok (.aload_n 0, 1) := by decide +kernel
theorem d_M_post_11 : decode b_M_post 11 = .ok (.getfield 62, 3) := by decide +kernel
theorem d_M_post_14 : decode b_M_post 14 = .ok (.aload_n 0, 1) := by decide +kernel
theorem d_M_post_15 : decode b_M_post 15 = .ok (.getfield 102, 3) := by decide +kernel
theorem d_M_post_18 : decode b_M_post 18 = .ok (.aload_n 0, 1) := by decide +kernel
theorem d_M_post_19 : decode b_M_post 19 = .ok (.iload_n 1, 1) := by decide +kernel
theorem d_M_post_20 : decode b_M_post 20 = .ok (.invokevirtual 130, 3) := by decide +kernel
theorem d_M_post_23 : decode b_M_post 23 = .ok (.iastore, 1) := by decide +kernel
theorem d_M_post_24 : decode b_M_post 24 = .ok (.aload_n 0, 1) := by decide +kernel
theorem d_M_post_25 : decode b_M_post 25 = .ok (.getfield 65, 3) := by decide +kernel
theorem d_M_post_28 : decode b_M_post 28 = .ok (.aload_n 0, 1) := by decide +kernel
theorem d_M_post_29 : decode b_M_post 29 = .ok (.getfield 102, 3) := by decide +kernel
theorem d_M_post_32 : decode b_M_post 32 = .ok (.aload_n 0, 1) := by decide +kernel
theorem d_M_post_33 : decode b_M_post 33 = .ok (.getfield 53, 3) := by decide +kernel
theorem d_M_post_36 : decode b_M_post 36 = .ok (.iload_n 1, 1) := by decide +kernel
theorem d_M_post_37 : decode b_M_post 37 = .ok (.iaload, 1) := by decide +kernel
theorem d_M_post_38 : decode b_M_post 38 = .ok (.iastore, 1) := by decide +kernel
theorem d_M_post_39 : decode b_M_post 39 = .ok (.aload_n 0, 1) := by decide +kernel
theorem d_M_post_40 : decode b_M_post 40 = .ok (.dup, 1) := by decide +kernel
theorem d_M_post_41 : decode b_M_post 41 = .ok (.getfield 102, 3) := by decide +kernel
theorem d_M_post_44 : decode b_M_post 44 = .ok (.iconst 1, 1) := by decide +kernel
theorem d_M_post_45 : decode b_M_post 45 = .ok (.iadd, 1) := by decide +kernel
theorem d_M_post_46 : decode b_M_post 46 = .ok (.putfield 102, 3) := by decide +kernel
theorem d_M_post_49 : decode b_M_post 49 = .ok (.return_, 1) := by decide +kernel
theorem d_M_isStuck_0 : decode b_M_isStuck 0 = .ok (.aload_n 0, 1) := by decide +kernel
theorem d_M_isStuck_1 : decode b_M_isStuck 1 = .ok (.getfield 38, 3) := by decide +kernel
theorem d_M_isStuck_4 : decode b_M_isStuck 4 = .ok (.iload_n 1, 1) := by decide +kernel
theorem d_M_isStuck_5 : decode b_M_isStuck 5 = .ok (.iaload, 1) := by decide +kernel
theorem d_M_isStuck_6 : decode b_M_isStuck 6 = .ok (.ifCond .lt 21, 3) := by decide +kernel
theorem d_M_isStuck_9 : decode b_M_isStuck 9 = .ok (.aload_n 0, 1) := by decide +kernel
theorem d_M_isStuck_10 : decode b_M_isStuck 10 = .ok (.getfield 28, 3) := by decide +kernel
theorem d_M_isStuck_13 : decode b_M_isStuck 13 = .ok (.aload_n 0, 1) := by decide +kernel
theorem d_M_isStuck_14 : decode b_M_isStuck 14 = .ok (.getfield 38, 3) := by decide +kernel
theorem d_M_isStuck_17 : decode b_M_isStuck 17 = .ok (.iload_n 1, 1) := by decide +kernel
theorem d_M_isStuck_18 : decode b_M_isStuck 18 = .ok (.iaload, 1) := by decide +kernel
theorem d_M_isStuck_19 : decode b_M_isStuck 19 = .ok (.baload, 1) := by decide +kernel
theorem d_M_isStuck_20 : decode b_M_isStuck 20 = .ok (.ifCond .eq 7, 3) := by decide +kernel
theorem d_M_isStuck_23 : decode b_M_isStuck 23 = .ok (.iconst 1, 1) := by decide +kernel
theorem d_M_isStuck_24 : decode b_M_isStuck 24 = .ok (.goto 4, 3) := by decide +kernel
theorem d_M_isStuck_27 : decode b_M_isStuck 27 = .ok (.iconst 0, 1) := by decide +kernel
theorem d_M_isStuck_28 : decode b_M_isStuck 28 = .ok (.istore_n 2, 1) := by decide +kernel
theorem d_M_isStuck_29 : decode b_M_isStuck 29 = .ok (.aload_n 0, 1) := by decide +kernel
theorem d_M_isStuck_30 : decode b_M_isStuck 30 = .ok (.getfield 41, 3) := by decide +kernel
theorem d_M_isStuck_33 : decode b_M_isStuck 33 = .ok (.iload_n 1, 1) := by decide +kernel
theorem d_M_isStuck_34 : decode b_M_isStuck 34 = .ok (.iaload, 1) := by decide +kernel
theorem d_M_isStuck_35 : decode b_M_isStuck 35 = .ok (.iconst 2, 1) := by decide +kernel
theorem d_M_isStuck_36 : decode b_M_isStuck 36 = .ok (.if_icmp .eq 39, 3) := by decide +kernel
theorem d_M_isStuck_39 : decode b_M_isStuck 39 = .ok (.iload_n 2, 1) := by decide +kernel
theorem d_M_isStuck_40 : decode b_M_isStuck 40 = .ok (.ifCond .ne 35, 3) := by decide +kernel
theorem d_M_isStuck_43 : decode b_M_isStuck 43 = .ok (.aload_n 0, 1) := by decide +kernel
theorem d_M_isStuck_44 : decode b_M_isStuck 44 = .ok (.getfield 41, 3) := by decide +kernel
theorem d_M_isStuck_47 : decode b_M_isStuck 47 = .ok (.iload_n 1, 1) := by decide +kernel
theorem d_M_isStuck_48 : decode b_M_isStuck 48 = .ok (.iaload, 1) := by decide +kernel
theorem d_M_isStuck_49 : decode b_M_isStuck 49 = .ok (.ifCond .ne 30, 3) := by decide +kernel
theorem d_M_isStuck_52 : decode b_M_isStuck 52 = .ok (.aload_n 0, 1) := by decide +kernel
theorem d_M_isStuck_53 : decode b_M_isStuck 53 = .ok (.getfield 38, 3) := by decide +kernel
theorem d_M_isStuck_56 : decode b_M_isStuck 56 = .ok (.iload_n 1, 1) := by decide +kernel
theorem d_M_isStuck_57 : decode b_M_isStuck 57 = .ok (.iaload, 1) := by decide +kernel
theorem d_M_isStuck_58 : decode b_M_isStuck 58 = .ok (.aload_n 0, 1) := by decide +kernel
theorem d_M_isStuck_59 : decode b_M_isStuck 59 = .ok (.iload_n 1, 1) := by decide +kernel
theorem d_M_isStuck_60 : decode b_M_isStuck 60 = .ok (.invokevirtual 130, 3) := by decide +kernel
theorem d_M_isStuck_63 : decode b_M_isStuck 63 = .ok (.if_icmp .eq 16, 3) := by decide +kernel
theorem d_M_isStuck_66 : decode b_M_isStuck 66 = .ok (.aload_n 0, 1) := by decide +kernel
theorem d_M_isStuck_67 : decode b_M_isStuck 67 = .ok (.getfield 102, 3) := by decide +kernel
theorem d_M_isStuck_70 : decode b_M_isStuck 70 = .ok (.bipush 60, 2) := by decide +kernel
theorem d_M_isStuck_72 : decode b_M_isStuck 72 = .ok (.if_icmp .ne 7, 3) := by decide +kernel
theorem d_M_isStuck_75 : decode b_M_isStuck 75 = .ok (.iconst 1, 1) := by decide +kernel
theorem d_M_isStuck_76 : decode b_M_isStuck 76 = .ok (.goto 4, 3) := by decide +kernel
theorem d_M_isStuck_79 : decode b_M_isStuck 79 = .ok (.iconst 0, 1) := by decide +kernel
theorem d_M_isStuck_80 : decode b_M_isStuck 80 = .ok (.ireturn, 1) := by decide +kernel
theorem d_M_step_0 : decode b_M_step 0 = .ok (.aload_n 0, 1) := by decide +kernel
theorem d_M_step_1 : decode b_M_step 1 = .ok (.getfield 41, 3) := by decide +kernel
theorem d_M_step_4 : decode b_M_step 4 = .ok (.iload_n 1, 1) := by decide +kernel
theorem d_M_step_5 : decode b_M_step 5 = .ok (.iaload, 1) := by decide +kernel
theorem d_M_step_6 : decode b_M_step 6 = .ok (.iconst 1, 1) := by decide +kernel
theorem d_M_step_7 : decode b_M_step 7 = .ok (.if_icmp .ne 5, 3) := by decide +kernel
theorem d_M_step_10 : decode b_M_step 10 = .ok (.iconst 3, 1) := by decide +kernel
theorem d_M_step_11 : decode b_M_step 11 = .ok (.ireturn, 1) := by decide +kernel
theorem d_M_step_12 : decode b_M_step 12 = .ok (.aload_n 0, 1) := by decide +kernel
theorem d_M_step_13 : decode b_M_step 13 = .ok (.getfield 38, 3) := by decide +kernel
theorem d_M_step_16 : decode b_M_step 16 = .ok (.iload_n 1, 1) := by decide +kernel
theorem d_M_step_17 : decode b_M_step 17 = .ok (.iaload, 1) := by decide +kernel
theorem d_M_step_18 : decode b_M_step 18 = .ok (.aload_n 0, 1) := by decide +kernel
theorem d_M_step_19 : decode b_M_step 19 = .ok (.iload_n 1, 1) := by decide +kernel
theorem d_M_step_20 : decode b_M_step 20 = .ok (.invokevirtual 130, 3) := by decide +kernel
theorem d_M_step_23 : decode b_M_step 23 = .ok (.if_icmp .eq 27, 3) := by decide +kernel
theorem d_M_step_26 : decode b_M_step 26 = .ok (.aload_n 0, 1) := by decide +kernel
theorem d_M_step_27 : decode b_M_step 27 = .ok (.getfield 41, 3) := by decide +kernel
theorem d_M_step_30 : decode b_M_step 30 = .ok (.iload_n 1, 1) := by decide +kernel
theorem d_M_step_31 : decode b_M_step 31 = .ok (.iconst 1, 1) := by decide +kernel
theorem d_M_step_32 : decode b_M_step 32 = .ok (.iastore, 1) := by decide +kernel
theorem d_M_step_33 : decode b_M_step 33 = .ok (.aload_n 0, 1) := by decide +kernel
theorem d_M_step_34 : decode b_M_step 34 = .ok (.getfield 53, 3) := by decide +kernel
theorem d_M_step_37 : decode b_M_step 37 = .ok (.iload_n 1, 1) := by decide +kernel
theorem d_M_step_38 : decode b_M_step 38 = .ok (.dup2, 1) := by decide +kernel
theorem d_M_step_39 : decode b_M_step 39 = .ok (.iaload, 1) := by decide +kernel
theorem d_M_step_40 : decode b_M_step 40 = .ok (.iconst 1, 1) := by decide +kernel
theorem d_M_step_41 : decode b_M_step 41 = .ok (.iadd, 1) := by decide +kernel
theorem d_M_step_42 : decode b_M_step 42 = .ok (.iastore, 1) := by decide +kernel
theorem d_M_step_43 : decode b_M_step 43 = .ok (.aload_n 0, 1) := by decide +kernel
theorem d_M_step_44 : decode b_M_step 44 = .ok (.iload_n 1, 1) := by decide +kernel
theorem d_M_step_45 : decode b_M_step 45 = .ok (.invokevirtual 133, 3) := by decide +kernel
theorem d_M_step_48 : decode b_M_step 48 = .ok (.iconst 2, 1) := by decide +kernel
theorem d_M_step_49 : decode b_M_step 49 = .ok (.ireturn, 1) := by decide +kernel
theorem d_M_step_50 : decode b_M_step 50 = .ok (.aload_n 0, 1) := by decide +kernel
theorem d_M_step_51 : decode b_M_step 51 = .ok (.iload_n 1, 1) := by decide +kernel
theorem d_M_step_52 : decode b_M_step 52 = .ok (.invokevirtual 123, 3) := by decide +kernel
theorem d_M_step_55 : decode b_M_step 55 = .ok (.istore_n 2, 1) := by decide +kernel
theorem d_M_step_56 : decode b_M_step 56 = .ok (.iload_n 2, 1) := by decide +kernel
theorem d_M_step_57 : decode b_M_step 57 = .ok (.ifCond .lt 64, 3) := by decide +kernel
theorem d_M_step_60 : decode b_M_step 60 = .ok (.aload_n 0, 1) := by decide +kernel
theorem d_M_step_61 : decode b_M_step 61 = .ok (.getfield 35, 3) := by decide +kernel
theorem d_M_step_64 : decode b_M_step 64 = .ok (.iload_n 1, 1) := by decide +kernel
theorem d_M_step_65 : decode b_M_step 65 = .ok (.aload_n 0, 1) := by decide +kernel
theorem d_M_step_66 : decode b_M_step 66 = .ok (.getfield 19, 3) := by decide +kernel
theorem d_M_step_69 : decode b_M_step 69 = .ok (.iload_n 2, 1) := by decide +kernel
theorem d_M_step_70 : decode b_M_step 70 = .ok (.iaload, 1) := by decide +kernel
theorem d_M_step_71 : decode b_M_step 71 = .ok (.iconst 2, 1) := by decide +kernel
theorem d_M_step_72 : decode b_M_step 72 = .ok (.irem, 1) := by decide +kernel
theorem d_M_step_73 : decode b_M_step 73 = .ok (.ifCond .ne 12, 3) := by decide +kernel
theorem d_M_step_76 : decode b_M_step 76 = .ok (.aload_n 0, 1) := by decide +kernel
theorem d_M_step_77 : decode b_M_step 77 = .ok (.getfield 7, 3) := by decide +kernel
theorem d_M_step_80 : decode b_M_step 80 = .ok (.iload_n 2, 1) := by decide +kernel
theorem d_M_step_81 : decode b_M_step 81 = .ok (.iaload, 1) := by decide +kernel
theorem d_M_step_82 : decode b_M_step 82 = .ok (.goto 9, 3) := by decide +kernel
theorem d_M_step_85 : decode b_M_step 85 = .ok (.aload_n 0, 1) := by decide +kernel
theorem d_M_step_86 : decode b_M_step 86 = .ok (.getfield 13, 3) := by decide +kernel
theorem d_M_step_89 : decode b_M_step 89 = .ok (.iload_n 2, 1) := by decide +kernel
theorem d_M_step_90 : decode b_M_step 90 = .ok (.iaload, 1) := by decide +kernel
theorem d_M_step_91 : decode b_M_step 91 = .ok (.iastore, 1) := by decide +kernel
theorem d_M_step_92 : decode b_M_step 92 = .ok (.aload_n 0, 1) := by decide +kernel
theorem d_M_step_93 : decode b_M_step 93 = .ok (.getfield 19, 3) := by decide +kernel
theorem d_M_step_96 : decode b_M_step 96 = .ok (.iload_n 2, 1) := by decide +kernel
theorem d_M_step_97 : decode b_M_step 97 = .ok (.dup2, 1) := by decide +kernel
theorem d_M_step_98 : decode b_M_step 98 = .ok (.iaload, 1) := by decide +kernel
theorem d_M_step_99 : decode b_M_step 99 = .ok (.iconst 1, 1) := by decide +kernel
theorem d_M_step_100 : decode b_M_step 100 = .ok (.iadd, 1) := by decide +kernel
theorem d_M_step_101 : decode b_M_step 101 = .ok (.iastore, 1) := by decide +kernel
theorem d_M_step_102 : decode b_M_step 102 = .ok (.aload_n 0, 1) := by decide +kernel
theorem d_M_step_103 : decode b_M_step 103 = .ok (.getfield 44, 3) := by decide +kernel
theorem d_M_step_106 : decode b_M_step 106 = .ok (.iload_n 1, 1) := by decide +kernel
theorem d_M_step_107 : decode b_M_step 107 = .ok (.iload_n 2, 1) := by decide +kernel
theorem d_M_step_108 : decode b_M_step 108 = .ok (.iastore, 1) := by decide +kernel
theorem d_M_step_109 : decode b_M_step 109 = .ok (.aload_n 0, 1) := by decide +kernel
theorem d_M_step_110 : decode b_M_step 110 = .ok (.getfield 47, 3) := by decide +kernel
theorem d_M_step_113 : decode b_M_step 113 = .ok (.iload_n 1, 1) := by decide +kernel
theorem d_M_step_114 : decode b_M_step 114 = .ok (.dup2, 1) := by decide +kernel
theorem d_M_step_115 : decode b_M_step 115 = .ok (.iaload, 1) := by decide +kernel
theorem d_M_step_116 : decode b_M_step 116 = .ok (.iconst 1, 1) := by decide +kernel
theorem d_M_step_117 : decode b_M_step 117 = .ok (.iadd, 1) := by decide +kernel
theorem d_M_step_118 : decode b_M_step 118 = .ok (.iastore, 1) := by decide +kernel
theorem d_M_step_119 : decode b_M_step 119 = .ok (.iconst 0, 1) := by decide +kernel
theorem d_M_step_120 : decode b_M_step 120 = .ok (.ireturn, 1) := by decide +kernel
theorem d_M_step_121 : decode b_M_step 121 = .ok (.aload_n 0, 1) := by decide +kernel
theorem d_M_step_122 : decode b_M_step 122 = .ok (.aload_n 0, 1) := by decide +kernel
theorem d_M_step_123 : decode b_M_step 123 = .ok (.getfield 35, 3) := by decide +kernel
theorem d_M_step_126 : decode b_M_step 126 = .ok (.iload_n 1, 1) := by decide +kernel
theorem d_M_step_127 : decode b_M_step 127 = .ok (.iaload, 1) := by decide +kernel
theorem d_M_step_128 : decode b_M_step 128 = .ok (.invokevirtual 127, 3) := by decide +kernel
theorem d_M_step_131 : decode b_M_step 131 = .ok (.istore_n 3, 1) := by decide +kernel
theorem d_M_step_132 : decode b_M_step 132 = .ok (.aload_n 0, 1) := by decide +kernel
theorem d_M_step_133 : decode b_M_step 133 = .ok (.getfield 50, 3) := by decide +kernel
theorem d_M_step_136 : decode b_M_step 136 = .ok (.iload_n 1, 1) := by decide +kernel
theorem d_M_step_137 : decode b_M_step 137 = .ok (.iload_n 3, 1) := by decide +kernel
theorem d_M_step_138 : decode b_M_step 138 = .ok (.aload_n 0, 1) := by decide +kernel
theorem d_M_step_139 : decode b_M_step 139 = .ok (.getfield 93, 3) := by decide +kernel
theorem d_M_step_142 : decode b_M_step 142 = .ok (.aload_n 0, 1) := by decide +kernel
theorem d_M_step_143 : decode b_M_step 143 = .ok (.getfield 25, 3) := by decide +kernel
theorem d_M_step_146 : decode b_M_step 146 = .ok (.iload_n 3, 1) := by decide +kernel
theorem d_M_step_147 : decode b_M_step 147 = .ok (.iaload, 1) := by decide +kernel
theorem d_M_step_148 : decode b_M_step 148 = .ok (.imul, 1) := by decide +kernel
theorem d_M_step_149 : decode b_M_step 149 = .ok (.iadd, 1) := by decide +kernel
theorem d_M_step_150 : decode b_M_step 150 = .ok (.iastore, 1) := by decide +kernel
theorem d_M_step_151 : decode b_M_step 151 = .ok (.aload_n 0, 1) := by decide +kernel
theorem d_M_step_152 : decode b_M_step 152 = .ok (.getfield 25, 3) := by decide +kernel
theorem d_M_step_155 : decode b_M_step 155 = .ok (.iload_n 3, 1) := by decide +kernel
theorem d_M_step_156 : decode b_M_step 156 = .ok (.dup2, 1) := by decide +kernel
theorem d_M_step_157 : decode b_M_step 157 = .ok (.iaload, 1) := by decide +kernel
theorem d_M_step_158 : decode b_M_step 158 = .ok (.iconst 1, 1) := by decide +kernel
theorem d_M_step_159 : decode b_M_step 159 = .ok (.iadd, 1) := by decide +kernel
theorem d_M_step_160 : decode b_M_step 160 = .ok (.iastore, 1) := by decide +kernel
theorem d_M_step_161 : decode b_M_step 161 = .ok (.aload_n 0, 1) := by decide +kernel
theorem d_M_step_162 : decode b_M_step 162 = .ok (.getfield 41, 3) := by decide +kernel
theorem d_M_step_165 : decode b_M_step 165 = .ok (.iload_n 1, 1) := by decide +kernel
theorem d_M_step_166 : decode b_M_step 166 = .ok (.iconst 2, 1) := by decide +kernel
theorem d_M_step_167 : decode b_M_step 167 = .ok (.iastore, 1) := by decide +kernel
theorem d_M_step_168 : decode b_M_step 168 = .ok (.iconst 1, 1) := by decide +kernel
theorem d_M_step_169 : decode b_M_step 169 = .ok (.ireturn, 1) := by decide +kernel
theorem d_M_move_0 : decode b_M_move 0 = .ok (.iload_n 1, 1) := by decide +kernel
theorem d_M_move_1 : decode b_M_move 1 = .ok (.iconst 0, 1) := by decide +kernel
theorem d_M_move_2 : decode b_M_move 2 = .ok (.aload_n 0, 1) := by decide +kernel
theorem d_M_move_3 : decode b_M_move 3 = .ok (.getfield 99, 3) := by decide +kernel
theorem d_M_move_6 : decode b_M_move 6 = .ok (.iconst 1, 1) := by decide +kernel
theorem d_M_move_7 : decode b_M_move 7 = .ok (.isub, 1) := by decide +kernel
theorem d_M_move_8 : decode b_M_move 8 = .ok (.invokestatic 111, 3) := by decide +kernel
theorem d_M_move_11 : decode b_M_move 11 = .ok (.istore_n 2, 1) := by decide +kernel
theorem d_M_move_12 : decode b_M_move 12 = .ok (.aload_n 0, 1) := by decide +kernel
theorem d_M_move_13 : decode b_M_move 13 = .ok (.iload_n 2, 1) := by decide +kernel
theorem d_M_move_14 : decode b_M_move 14 = .ok (.ifCond .ne 7, 3) := by decide +kernel
theorem d_M_move_17 : decode b_M_move 17 = .ok (.iconst 1, 1) := by decide +kernel
theorem d_M_move_18 : decode b_M_move 18 = .ok (.goto 4, 3) := by decide +kernel
theorem d_M_move_21 : decode b_M_move 21 = .ok (.iconst 0, 1) := by decide +kernel
theorem d_M_move_22 : decode b_M_move 22 = .ok (.iload_n 2, 1) := by decide +kernel
theorem d_M_move_23 : decode b_M_move 23 = .ok (.ifCond .eq 15, 3) := by decide +kernel
theorem d_M_move_26 : decode b_M_move 26 = .ok (.aload_n 0, 1) := by decide +kernel
theorem d_M_move_27 : decode b_M_move 27 = .ok (.iload_n 1, 1) := by decide +kernel
theorem d_M_move_28 : decode b_M_move 28 = .ok (.invokevirtual 137, 3) := by decide +kernel
theorem d_M_move_31 : decode b_M_move 31 = .ok (.ifCond .eq 7, 3) := by decide +kernel
theorem d_M_move_34 : decode b_M_move 34 = .ok (.iconst 1, 1) := by decide +kernel
theorem d_M_move_35 : decode b_M_move 35 = .ok (.goto 4, 3) := by decide +kernel
theorem d_M_move_38 : decode b_M_move 38 = .ok (.iconst 0, 1) := by decide +kernel
theorem d_M_move_39 : decode b_M_move 39 = .ok (.invokevirtual 115, 3) := by decide +kernel
theorem d_M_move_42 : decode b_M_move 42 = .ok (.ifCond .eq 5, 3) := by decide +kernel
theorem d_M_move_45 : decode b_M_move 45 = .ok (.iconst 0, 1) := by decide +kernel
theorem d_M_move_46 : decode b_M_move 46 = .ok (.ireturn, 1) := by decide +kernel
theorem d_M_move_47 : decode b_M_move 47 = .ok (.aload_n 0, 1) := by decide +kernel
theorem d_M_move_48 : decode b_M_move 48 = .ok (.iload_n 1, 1) := by decide +kernel
theorem d_M_move_49 : decode b_M_move 49 = .ok (.invokevirtual 141, 3) := by decide +kernel
theorem d_M_move_52 : decode b_M_move 52 = .ok (.ireturn, 1) := by decide +kernel
theorem d_M_take_0 : decode b_M_take 0 = .ok (.aload_n 0, 1) := by decide +kernel
theorem d_M_take_1 : decode b_M_take 1 = .ok (.dup, 1) := by decide +kernel
theorem d_M_take_2 : decode b_M_take 2 = .ok (.getfield 102, 3) := by decide +kernel
theorem d_M_take_5 : decode b_M_take 5 = .ok (.iconst 1, 1) := by decide +kernel
theorem d_M_take_6 : decode b_M_take 6 = .ok (.isub, 1) := by decide +kernel
theorem d_M_take_7 : decode b_M_take 7 = .ok (.putfield 102, 3) := by decide +kernel
theorem d_M_take_10 : decode b_M_take 10 = .ok (.iload_n 1, 1) := by decide +kernel
theorem d_M_take_11 : decode b_M_take 11 = .ok (.istore_n 2, 1) := by decide +kernel
theorem d_M_take_12 : decode b_M_take 12 = .ok (.iload_n 2, 1) := by decide +kernel
theorem d_M_take_13 : decode b_M_take 13 = .ok (.aload_n 0, 1) := by decide +kernel
theorem d_M_take_14 : decode b_M_take 14 = .ok (.getfield 102, 3) := by decide +kernel
theorem d_M_take_17 : decode b_M_take 17 = .ok (.if_icmp .ge 51, 3) := by decide +kernel
theorem d_M_take_20 : decode b_M_take 20 = .ok (.aload_n 0, 1) := by decide +kernel
theorem d_M_take_21 : decode b_M_take 21 = .ok (.getfield 59, 3) := by decide +kernel
theorem d_M_take_24 : decode b_M_take 24 = .ok (.iload_n 2, 1) := by decide +kernel
theorem d_M_take_25 : decode b_M_take 25 = .ok (.aload_n 0, 1) := by decide +kernel
theorem d_M_take_26 : decode b_M_take 26 = .ok (.getfield 59, 3) := by decide +kernel
theorem d_M_take_29 : decode b_M_take 29 = .ok (.iload_n 2, 1) := by decide +kernel
theorem d_M_take_30 : decode b_M_take 30 = .ok (.iconst 1, 1) := by decide +kernel
theorem d_M_take_31 : decode b_M_take 31 = .ok (.iadd, 1) := by decide +kernel
theorem d_M_take_32 : decode b_M_take 32 = .ok (.iaload, 1) := by decide +kernel
theorem d_M_take_33 : decode b_M_take 33 = .ok (.iastore, 1) := by decide +kernel
theorem d_M_take_34 : decode b_M_take 34 = .ok (.aload_n 0, 1) := by decide +kernel
theorem d_M_take_35 : decode b_M_take 35 = .ok (.getfield 62, 3) := by decide +kernel
theorem d_M_take_38 : decode b_M_take 38 = .ok (.iload_n 2, 1) := by decide +kernel
theorem d_M_take_39 : decode b_M_take 39 = .ok (.aload_n 0, 1) := by decide +kernel
theorem d_M_take_40 : decode b_M_take 40 = .ok (.getfield 62, 3) := by decide +kernel
theorem d_M_take_43 : decode b_M_take 43 = .ok (.iload_n 2, 1) := by decide +kernel
theorem d_M_take_44 : decode b_M_take 44 = .ok (.iconst 1, 1) := by decide +kernel
theorem d_M_take_45 : decode b_M_take 45 = .ok (.iadd, 1) := by decide +kernel
theorem d_M_take_46 : decode b_M_take 46 = .ok (.iaload, 1) := by decide +kernel
theorem d_M_take_47 : decode b_M_take 47 = .ok (.iastore, 1) := by decide +kernel
theorem d_M_take_48 : decode b_M_take 48 = .ok (.aload_n 0, 1) := by decide +kernel
theorem d_M_take_49 : decode b_M_take 49 = .ok (.getfield 65, 3) := by decide +kernel
theorem d_M_take_52 : decode b_M_take 52 = .ok (.iload_n 2, 1) := by decide +kernel
theorem d_M_take_53 : decode b_M_take 53 = .ok (.aload_n 0, 1) := by decide +kernel
theorem d_M_take_54 : decode b_M_take 54 = .ok (.getfield 65, 3) := by decide +kernel
theorem d_M_take_57 : decode b_M_take 57 = .ok (.iload_n 2, 1) := by decide +kernel
theorem d_M_take_58 : decode b_M_take 58 = .ok (.iconst 1, 1) := by decide +kernel
theorem d_M_take_59 : decode b_M_take 59 = .ok (.iadd, 1) := by decide +kernel
theorem d_M_take_60 : decode b_M_take 60 = .ok (.iaload, 1) := by decide +kernel
theorem d_M_take_61 : decode b_M_take 61 = .ok (.iastore, 1) := by decide +kernel
theorem d_M_take_62 : decode b_M_take 62 = .ok (.iinc 2 1, 3) := by decide +kernel
theorem d_M_take_65 : decode b_M_take 65 = .ok (.goto (-53), 3) := by decide +kernel
theorem d_M_take_68 : decode b_M_take 68 = .ok (.return_, 1) := by decide +kernel
theorem d_M_deliver_0 : decode b_M_deliver 0 = .ok (.aload_n 0, 1) := by decide +kernel
theorem d_M_deliver_1 : decode b_M_deliver 1 = .ok (.iload_n 1, 1) := by decide +kernel
theorem d_M_deliver_2 : decode b_M_deliver 2 = .ok (.iconst 0, 1) := by decide +kernel
theorem d_M_deliver_3 : decode b_M_deliver 3 = .ok (.aload_n 0, 1) := by decide +kernel
theorem d_M_deliver_4 : decode b_M_deliver 4 = .ok (.getfield 102, 3) := by decide +kernel
theorem d_M_deliver_7 : decode b_M_deliver 7 = .ok (.iconst 1, 1) := by decide +kernel
theorem d_M_deliver_8 : decode b_M_deliver 8 = .ok (.isub, 1) := by decide +kernel
theorem d_M_deliver_9 : decode b_M_deliver 9 = .ok (.invokestatic 111, 3) := by decide +kernel
theorem d_M_deliver_12 : decode b_M_deliver 12 = .ok (.ifCond .ne 7, 3) := by decide +kernel
theorem d_M_deliver_15 : decode b_M_deliver 15 = .ok (.iconst 1, 1) := by decide +kernel
theorem d_M_deliver_16 : decode b_M_deliver 16 = .ok (.goto 4, 3) := by decide +kernel
theorem d_M_deliver_19 : decode b_M_deliver 19 = .ok (.iconst 0, 1) := by decide +kernel
theorem d_M_deliver_20 : decode b_M_deliver 20 = .ok (.iconst 0, 1) := by decide +kernel
theorem d_M_deliver_21 : decode b_M_deliver 21 = .ok (.invokevirtual 115, 3) := by decide +kernel
theorem d_M_deliver_24 : decode b_M_deliver 24 = .ok (.ifCond .eq 5, 3) := by decide +kernel
theorem d_M_deliver_27 : decode b_M_deliver 27 = .ok (.iconst 0, 1) := by decide +kernel
theorem d_M_deliver_28 : decode b_M_deliver 28 = .ok (.ireturn, 1) := by decide +kernel
theorem d_M_deliver_29 : decode b_M_deliver 29 = .ok (.aload_n 0, 1) := by decide +kernel
theorem d_M_deliver_30 : decode b_M_deliver 30 = .ok (.getfield 59, 3) := by decide +kernel
theorem d_M_deliver_33 : decode b_M_deliver 33 = .ok (.iload_n 1, 1) := by decide +kernel
theorem d_M_deliver_34 : decode b_M_deliver 34 = .ok (.iaload, 1) := by decide +kernel
theorem d_M_deliver_35 : decode b_M_deliver 35 = .ok (.istore_n 2, 1) := by decide +kernel
theorem d_M_deliver_36 : decode b_M_deliver 36 = .ok (.aload_n 0, 1) := by decide +kernel
theorem d_M_deliver_37 : decode b_M_deliver 37 = .ok (.getfield 62, 3) := by decide +kernel
theorem d_M_deliver_40 : decode b_M_deliver 40 = .ok (.iload_n 1, 1) := by decide +kernel
theorem d_M_deliver_41 : decode b_M_deliver 41 = .ok (.iaload, 1) := by decide +kernel
theorem d_M_deliver_42 : decode b_M_deliver 42 = .ok (.istore_n 3, 1) := by decide +kernel
theorem d_M_deliver_43 : decode b_M_deliver 43 = .ok (.aload_n 0, 1) := by decide +kernel
theorem d_M_deliver_44 : decode b_M_deliver 44 = .ok (.getfield 28, 3) := by decide +kernel
theorem d_M_deliver_47 : decode b_M_deliver 47 = .ok (.iload_n 3, 1) := by decide +kernel
theorem d_M_deliver_48 : decode b_M_deliver 48 = .ok (.baload, 1) := by decide +kernel
theorem d_M_deliver_49 : decode b_M_deliver 49 = .ok (.ifCond .ne 32, 3) := by decide +kernel
theorem d_M_deliver_52 : decode b_M_deliver 52 = .ok (.aload_n 0, 1) := by decide +kernel
theorem d_M_deliver_53 : decode b_M_deliver 53 = .ok (.getfield 41, 3) := by decide +kernel
theorem d_M_deliver_56 : decode b_M_deliver 56 = .ok (.iload_n 2, 1) := by decide +kernel
theorem d_M_deliver_57 : decode b_M_deliver 57 = .ok (.iaload, 1) := by decide +kernel
theorem d_M_deliver_58 : decode b_M_deliver 58 = .ok (.iconst 1, 1) := by decide +kernel
theorem d_M_deliver_59 : decode b_M_deliver 59 = .ok (.if_icmp .ne 22, 3) := by decide +kernel
theorem d_M_deliver_62 : decode b_M_deliver 62 = .ok (.aload_n 0, 1) := by decide +kernel
theorem d_M_deliver_63 : decode b_M_deliver 63 = .ok (.getfield 65, 3) := by decide +kernel
theorem d_M_deliver_66 : decode b_M_deliver 66 = .ok (.iload_n 1, 1) := by decide +kernel
theorem d_M_deliver_67 : decode b_M_deliver 67 = .ok (.iaload, 1) := by decide +kernel
theorem d_M_deliver_68 : decode b_M_deliver 68 = .ok (.aload_n 0, 1) := by decide +kernel
theorem d_M_deliver_69 : decode b_M_deliver 69 = .ok (.getfield 53, 3) := by decide +kernel
theorem d_M_deliver_72 : decode b_M_deliver 72 = .ok (.iload_n 2, 1) := by decide +kernel
theorem d_M_deliver_73 : decode b_M_deliver 73 = .ok (.iaload, 1) := by decide +kernel
theorem d_M_deliver_74 : decode b_M_deliver 74 = .ok (.if_icmp .ne 7, 3) := by decide +kernel
theorem d_M_deliver_77 : decode b_M_deliver 77 = .ok (.iconst 1, 1) := by decide +kernel
theorem d_M_deliver_78 : decode b_M_deliver 78 = .ok (.goto 4, 3) := by decide +kernel
theorem d_M_deliver_81 : decode b_M_deliver 81 = .ok (.iconst 0, 1) := by decide +kernel
theorem d_M_deliver_82 : decode b_M_deliver 82 = .ok (.istore 4, 2) := by decide +kernel
theorem d_M_deliver_84 : decode b_M_deliver 84 = .ok (.aload_n 0, 1) := by decide +kernel
theorem d_M_deliver_85 : decode b_M_deliver 85 = .ok (.iload_n 1, 1) := by decide +kernel
theorem d_M_deliver_86 : decode b_M_deliver 86 = .ok (.invokevirtual 144, 3) := by decide +kernel
theorem d_M_deliver_89 : decode b_M_deliver 89 = .ok (.iload 4, 2) := by decide +kernel
theorem d_M_deliver_91 : decode b_M_deliver 91 = .ok (.ifCond .ne 5, 3) := by decide +kernel
theorem d_M_deliver_94 : decode b_M_deliver 94 = .ok (.iconst 0, 1) := by decide +kernel
theorem d_M_deliver_95 : decode b_M_deliver 95 = .ok (.ireturn, 1) := by decide +kernel
theorem d_M_deliver_96 : decode b_M_deliver 96 = .ok (.aload_n 0, 1) := by decide +kernel
theorem d_M_deliver_97 : decode b_M_deliver 97 = .ok (.getfield 38, 3) := by decide +kernel
theorem d_M_deliver_100 : decode b_M_deliver 100 = .ok (.iload_n 2, 1) := by decide +kernel
theorem d_M_deliver_101 : decode b_M_deliver 101 = .ok (.iload_n 3, 1) := by decide +kernel
theorem d_M_deliver_102 : decode b_M_deliver 102 = .ok (.iastore, 1) := by decide +kernel
theorem d_M_deliver_103 : decode b_M_deliver 103 = .ok (.aload_n 0, 1) := by decide +kernel
theorem d_M_deliver_104 : decode b_M_deliver 104 = .ok (.getfield 41, 3) := by decide +kernel
theorem d_M_deliver_107 : decode b_M_deliver 107 = .ok (.iload_n 2, 1) := by decide +kernel
theorem d_M_deliver_108 : decode b_M_deliver 108 = .ok (.iconst 0, 1) := by decide +kernel
theorem d_M_deliver_109 : decode b_M_deliver 109 = .ok (.iastore, 1) := by decide +kernel
theorem d_M_deliver_110 : decode b_M_deliver 110 = .ok (.iconst 1, 1) := by decide +kernel
theorem d_M_deliver_111 : decode b_M_deliver 111 = .ok (.ireturn, 1) := by decide +kernel
theorem d_M_lose_0 : decode b_M_lose 0 = .ok (.aload_n 0, 1) := by decide +kernel
theorem d_M_lose_1 : decode b_M_lose 1 = .ok (.iload_n 1, 1) := by decide +kernel
theorem d_M_lose_2 : decode b_M_lose 2 = .ok (.iconst 0, 1) := by decide +kernel
theorem d_M_lose_3 : decode b_M_lose 3 = .ok (.aload_n 0, 1) := by decide +kernel
theorem d_M_lose_4 : decode b_M_lose 4 = .ok (.getfield 102, 3) := by decide +kernel
theorem d_M_lose_7 : decode b_M_lose 7 = .ok (.iconst 1, 1) := by decide +kernel
theorem d_M_lose_8 : decode b_M_lose 8 = .ok (.isub, 1) := by decide +kernel
theorem d_M_lose_9 : decode b_M_lose 9 = .ok (.invokestatic 111, 3) := by decide +kernel
theorem d_M_lose_12 : decode b_M_lose 12 = .ok (.ifCond .ne 7, 3) := by decide +kernel
theorem d_M_lose_15 : decode b_M_lose 15 = .ok (.iconst 1, 1) := by decide +kernel
theorem d_M_lose_16 : decode b_M_lose 16 = .ok (.goto 4, 3) := by decide +kernel
theorem d_M_lose_19 : decode b_M_lose 19 = .ok (.iconst 0, 1) := by decide +kernel
theorem d_M_lose_20 : decode b_M_lose 20 = .ok (.iconst 0, 1) := by decide +kernel
theorem d_M_lose_21 : decode b_M_lose 21 = .ok (.invokevirtual 115, 3) := by decide +kernel
theorem d_M_lose_24 : decode b_M_lose 24 = .ok (.ifCond .ne 8, 3) := by decide +kernel
theorem d_M_lose_27 : decode b_M_lose 27 = .ok (.aload_n 0, 1) := by decide +kernel
theorem d_M_lose_28 : decode b_M_lose 28 = .ok (.iload_n 1, 1) := by decide +kernel
theorem d_M_lose_29 : decode b_M_lose 29 = .ok (.invokevirtual 144, 3) := by decide +kernel
theorem d_M_lose_32 : decode b_M_lose 32 = .ok (.return_, 1) := by decide +kernel
theorem d_M_twin_0 : decode b_M_twin 0 = .ok (.iload_n 1, 1) := by decide +kernel
theorem d_M_twin_1 : decode b_M_twin 1 = .ok (.iconst 0, 1) := by decide +kernel
theorem d_M_twin_2 : decode b_M_twin 2 = .ok (.aload_n 0, 1) := by decide +kernel
theorem d_M_twin_3 : decode b_M_twin 3 = .ok (.getfield 102, 3) := by decide +kernel
theorem d_M_twin_6 : decode b_M_twin 6 = .ok (.iconst 1, 1) := by decide +kernel
theorem d_M_twin_7 : decode b_M_twin 7 = .ok (.isub, 1) := by decide +kernel
theorem d_M_twin_8 : decode b_M_twin 8 = .ok (.invokestatic 111, 3) := by decide +kernel
theorem d_M_twin_11 : decode b_M_twin 11 = .ok (.istore_n 2, 1) := by decide +kernel
theorem d_M_twin_12 : decode b_M_twin 12 = .ok (.aload_n 0, 1) := by decide +kernel
theorem d_M_twin_13 : decode b_M_twin 13 = .ok (.iload_n 2, 1) := by decide +kernel
theorem d_M_twin_14 : decode b_M_twin 14 = .ok (.ifCond .ne 7, 3) := by decide +kernel
theorem d_M_twin_17 : decode b_M_twin 17 = .ok (.iconst 1, 1) := by decide +kernel
theorem d_M_twin_18 : decode b_M_twin 18 = .ok (.goto 4, 3) := by decide +kernel
theorem d_M_twin_21 : decode b_M_twin 21 = .ok (.iconst 0, 1) := by decide +kernel
theorem d_M_twin_22 : decode b_M_twin 22 = .ok (.iload_n 2, 1) := by decide +kernel
theorem d_M_twin_23 : decode b_M_twin 23 = .ok (.ifCond .eq 16, 3) := by decide +kernel
theorem d_M_twin_26 : decode b_M_twin 26 = .ok (.aload_n 0, 1) := by decide +kernel
theorem d_M_twin_27 : decode b_M_twin 27 = .ok (.getfield 102, 3) := by decide +kernel
theorem d_M_twin_30 : decode b_M_twin 30 = .ok (.bipush 60, 2) := by decide +kernel
theorem d_M_twin_32 : decode b_M_twin 32 = .ok (.if_icmp .ne 7, 3) := by decide +kernel
theorem d_M_twin_35 : decode b_M_twin 35 = .ok (.iconst 1, 1) := by decide +kernel
theorem d_M_twin_36 : decode b_M_twin 36 = .ok (.goto 4, 3) := by decide +kernel
theorem d_M_twin_39 : decode b_M_twin 39 = .ok (.iconst 0, 1) := by decide +kernel
theorem d_M_twin_40 : decode b_M_twin 40 = .ok (.invokevirtual 115, 3) := by decide +kernel
theorem d_M_twin_43 : decode b_M_twin 43 = .ok (.ifCond .eq 4, 3) := by decide +kernel
theorem d_M_twin_46 : decode b_M_twin 46 = .ok (.return_, 1) := by decide +kernel
theorem d_M_twin_47 : decode b_M_twin 47 = .ok (.aload_n 0, 1) := by decide +kernel
theorem d_M_twin_48 : decode b_M_twin 48 = .ok (.getfield 59, 3) := by decide +kernel
theorem d_M_twin_51 : decode b_M_twin 51 = .ok (.aload_n 0, 1) := by decide +kernel
theorem d_M_twin_52 : decode b_M_twin 52 = .ok (.getfield 102, 3) := by decide +kernel
theorem d_M_twin_55 : decode b_M_twin 55 = .ok (.aload_n 0, 1) := by decide +kernel
theorem d_M_twin_56 : decode b_M_twin 56 = .ok (.getfield 59, 3) := by decide +kernel
theorem d_M_twin_59 : decode b_M_twin 59 = .ok (.iload_n 1, 1) := by decide +kernel
theorem d_M_twin_60 : decode b_M_twin 60 = .ok (.iaload, 1) := by decide +kernel
theorem d_M_twin_61 : decode b_M_twin 61 = .ok (.iastore, 1) := by decide +kernel
theorem d_M_twin_62 : decode b_M_twin 62 = .ok (.aload_n 0, 1) := by decide +kernel
theorem d_M_twin_63 : decode b_M_twin 63 = .ok (.getfield 62, 3) := by decide +kernel
theorem d_M_twin_66 : decode b_M_twin 66 = .ok (.aload_n 0, 1) := by decide +kernel
theorem d_M_twin_67 : decode b_M_twin 67 = .ok (.getfield 102, 3) := by decide +kernel
theorem d_M_twin_70 : decode b_M_twin 70 = .ok (.aload_n 0, 1) := by decide +kernel
theorem d_M_twin_71 : decode b_M_twin 71 = .ok (.getfield 62, 3) := by decide +kernel
theorem d_M_twin_74 : decode b_M_twin 74 = .ok (.iload_n 1, 1) := by decide +kernel
theorem d_M_twin_75 : decode b_M_twin 75 = .ok (.iaload, 1) := by decide +kernel
theorem d_M_twin_76 : decode b_M_twin 76 = .ok (.iastore, 1) := by decide +kernel
theorem d_M_twin_77 : decode b_M_twin 77 = .ok (.aload_n 0, 1) := by decide +kernel
theorem d_M_twin_78 : decode b_M_twin 78 = .ok (.getfield 65, 3) := by decide +kernel
theorem d_M_twin_81 : decode b_M_twin 81 = .ok (.aload_n 0, 1) := by decide +kernel
theorem d_M_twin_82 : decode b_M_twin 82 = .ok (.getfield 102, 3) := by decide +kernel
theorem d_M_twin_85 : decode b_M_twin 85 = .ok (.aload_n 0, 1) := by decide +kernel
theorem d_M_twin_86 : decode b_M_twin 86 = .ok (.getfield 65, 3) := by decide +kernel
theorem d_M_twin_89 : decode b_M_twin 89 = .ok (.iload_n 1, 1) := by decide +kernel
theorem d_M_twin_90 : decode b_M_twin 90 = .ok (.iaload, 1) := by decide +kernel
theorem d_M_twin_91 : decode b_M_twin 91 = .ok (.iastore, 1) := by decide +kernel
theorem d_M_twin_92 : decode b_M_twin 92 = .ok (.aload_n 0, 1) := by decide +kernel
theorem d_M_twin_93 : decode b_M_twin 93 = .ok (.dup, 1) := by decide +kernel
theorem d_M_twin_94 : decode b_M_twin 94 = .ok (.getfield 102, 3) := by decide +kernel
theorem d_M_twin_97 : decode b_M_twin 97 = .ok (.iconst 1, 1) := by decide +kernel
theorem d_M_twin_98 : decode b_M_twin 98 = .ok (.iadd, 1) := by decide +kernel
theorem d_M_twin_99 : decode b_M_twin 99 = .ok (.putfield 102, 3) := by decide +kernel
theorem d_M_twin_102 : decode b_M_twin 102 = .ok (.return_, 1) := by decide +kernel
theorem d_M_letter_0 : decode b_M_letter 0 = .ok (.iload_n 1, 1) := by decide +kernel
theorem d_M_letter_1 : decode b_M_letter 1 = .ok (.iconst (-1), 1) := by decide +kernel
theorem d_M_letter_2 : decode b_M_letter 2 = .ok (.aload_n 0, 1) := by decide +kernel
theorem d_M_letter_3 : decode b_M_letter 3 = .ok (.getfield 102, 3) := by decide +kernel
theorem d_M_letter_6 : decode b_M_letter 6 = .ok (.iconst 1, 1) := by decide +kernel
theorem d_M_letter_7 : decode b_M_letter 7 = .ok (.isub, 1) := by decide +kernel
theorem d_M_letter_8 : decode b_M_letter 8 = .ok (.invokestatic 111, 3) := by decide +kernel
theorem d_M_letter_11 : decode b_M_letter 11 = .ok (.istore_n 3, 1) := by decide +kernel
theorem d_M_letter_12 : decode b_M_letter 12 = .ok (.aload_n 0, 1) := by decide +kernel
theorem d_M_letter_13 : decode b_M_letter 13 = .ok (.iload_n 3, 1) := by decide +kernel
theorem d_M_letter_14 : decode b_M_letter 14 = .ok (.ifCond .ne 7, 3) := by decide +kernel
theorem d_M_letter_17 : decode b_M_letter 17 = .ok (.iconst 1, 1) := by decide +kernel
theorem d_M_letter_18 : decode b_M_letter 18 = .ok (.goto 4, 3) := by decide +kernel
theorem d_M_letter_21 : decode b_M_letter 21 = .ok (.iconst 0, 1) := by decide +kernel
theorem d_M_letter_22 : decode b_M_letter 22 = .ok (.iload_n 3, 1) := by decide +kernel
theorem d_M_letter_23 : decode b_M_letter 23 = .ok (.ifCond .eq 20, 3) := by decide +kernel
theorem d_M_letter_26 : decode b_M_letter 26 = .ok (.iload_n 1, 1) := by decide +kernel
theorem d_M_letter_27 : decode b_M_letter 27 = .ok (.ifCond .lt 16, 3) := by decide +kernel
theorem d_M_letter_30 : decode b_M_letter 30 = .ok (.iload_n 2, 1) := by decide +kernel
theorem d_M_letter_31 : decode b_M_letter 31 = .ok (.iconst 0, 1) := by decide +kernel
theorem d_M_letter_32 : decode b_M_letter 32 = .ok (.iconst 1, 1) := by decide +kernel
theorem d_M_letter_33 : decode b_M_letter 33 = .ok (.invokestatic 111, 3) := by decide +kernel
theorem d_M_letter_36 : decode b_M_letter 36 = .ok (.ifCond .ne 7, 3) := by decide +kernel
theorem d_M_letter_39 : decode b_M_letter 39 = .ok (.iconst 1, 1) := by decide +kernel
theorem d_M_letter_40 : decode b_M_letter 40 = .ok (.goto 4, 3) := by decide +kernel
theorem d_M_letter_43 : decode b_M_letter 43 = .ok (.iconst 0, 1) := by decide +kernel
theorem d_M_letter_44 : decode b_M_letter 44 = .ok (.invokevirtual 115, 3) := by decide +kernel
theorem d_M_letter_47 : decode b_M_letter 47 = .ok (.ifCond .eq 5, 3) := by decide +kernel
theorem d_M_letter_50 : decode b_M_letter 50 = .ok (.iconst 0, 1) := by decide +kernel
theorem d_M_letter_51 : decode b_M_letter 51 = .ok (.ireturn, 1) := by decide +kernel
theorem d_M_letter_52 : decode b_M_letter 52 = .ok (.iload_n 1, 1) := by decide +kernel
theorem d_M_letter_53 : decode b_M_letter 53 = .ok (.ifCond .ge 10, 3) := by decide +kernel
theorem d_M_letter_56 : decode b_M_letter 56 = .ok (.aload_n 0, 1) := by decide +kernel
theorem d_M_letter_57 : decode b_M_letter 57 = .ok (.getfield 102, 3) := by decide +kernel
theorem d_M_letter_60 : decode b_M_letter 60 = .ok (.goto 22, 3) := by decide +kernel
theorem d_M_letter_63 : decode b_M_letter 63 = .ok (.iload_n 2, 1) := by decide +kernel
theorem d_M_letter_64 : decode b_M_letter 64 = .ok (.ifCond .ne 12, 3) := by decide +kernel
theorem d_M_letter_67 : decode b_M_letter 67 = .ok (.aload_n 0, 1) := by decide +kernel
theorem d_M_letter_68 : decode b_M_letter 68 = .ok (.getfield 59, 3) := by decide +kernel
theorem d_M_letter_71 : decode b_M_letter 71 = .ok (.iload_n 1, 1) := by decide +kernel
theorem d_M_letter_72 : decode b_M_letter 72 = .ok (.iaload, 1) := by decide +kernel
theorem d_M_letter_73 : decode b_M_letter 73 = .ok (.goto 9, 3) := by decide +kernel
theorem d_M_letter_76 : decode b_M_letter 76 = .ok (.aload_n 0, 1) := by decide +kernel
theorem d_M_letter_77 : decode b_M_letter 77 = .ok (.getfield 62, 3) := by decide +kernel
theorem d_M_letter_80 : decode b_M_letter 80 = .ok (.iload_n 1, 1) := by decide +kernel
theorem d_M_letter_81 : decode b_M_letter 81 = .ok (.iaload, 1) := by decide +kernel
theorem d_M_letter_82 : decode b_M_letter 82 = .ok (.ireturn, 1) := by decide +kernel
theorem d_M_hasLetter_0 : decode b_M_hasLetter 0 = .ok (.iconst 0, 1) := by decide +kernel
theorem d_M_hasLetter_1 : decode b_M_hasLetter 1 = .ok (.istore_n 2, 1) := by decide +kernel
theorem d_M_hasLetter_2 : decode b_M_hasLetter 2 = .ok (.iconst 0, 1) := by decide +kernel
theorem d_M_hasLetter_3 : decode b_M_hasLetter 3 = .ok (.istore_n 3, 1) := by decide +kernel
theorem d_M_hasLetter_4 : decode b_M_hasLetter 4 = .ok (.iload_n 3, 1) := by decide +kernel
theorem d_M_hasLetter_5 : decode b_M_hasLetter 5 = .ok (.aload_n 0, 1) := by decide +kernel
theorem d_M_hasLetter_6 : decode b_M_hasLetter 6 = .ok (.getfield 102, 3) := by decide +kernel
theorem d_M_hasLetter_9 : decode b_M_hasLetter 9 = .ok (.if_icmp .ge 44, 3) := by decide +kernel
theorem d_M_hasLetter_12 : decode b_M_hasLetter 12 = .ok (.iload_n 2, 1) := by decide +kernel
theorem d_M_hasLetter_13 : decode b_M_hasLetter 13 = .ok (.ifCond .ne 28, 3) := by decide +kernel
theorem d_M_hasLetter_16 : decode b_M_hasLetter 16 = .ok (.aload_n 0, 1) := by decide +kernel
theorem d_M_hasLetter_17 : decode b_M_hasLetter 17 = .ok (.getfield 59, 3) := by decide +kernel
theorem d_M_hasLetter_20 : decode b_M_hasLetter 20 = .ok (.iload_n 3, 1) := by decide +kernel
theorem d_M_hasLetter_21 : decode b_M_hasLetter 21 = .ok (.iaload, 1) := by decide +kernel
theorem d_M_hasLetter_22 : decode b_M_hasLetter 22 = .ok (.iload_n 1, 1) := by decide +kernel
theorem d_M_hasLetter_23 : decode b_M_hasLetter 23 = .ok (.if_icmp .ne 22, 3) := by decide +kernel
theorem d_M_hasLetter_26 : decode b_M_hasLetter 26 = .ok (.aload_n 0, 1) := by decide +kernel
theorem d_M_hasLetter_27 : decode b_M_hasLetter 27 = .ok (.getfield 65, 3) := by decide +kernel
theorem d_M_hasLetter_30 : decode b_M_hasLetter 30 = .ok (.iload_n 3, 1) := by decide +kernel
theorem d_M_hasLetter_31 : decode b_M_hasLetter 31 = .ok (.iaload, 1) := by decide +kernel
theorem d_M_hasLetter_32 : decode b_M_hasLetter 32 = .ok (.aload_n 0, 1) := by decide +kernel
theorem d_M_hasLetter_33 : decode b_M_hasLetter 33 = .ok (.getfield 53, 3) := by decide +kernel
theorem d_M_hasLetter_36 : decode b_M_hasLetter 36 = .ok (.iload_n 1, 1) := by decide +kernel
theorem d_M_hasLetter_37 : decode b_M_hasLetter 37 = .ok (.iaload, 1) := by decide +kernel
theorem d_M_hasLetter_38 : decode b_M_hasLetter 38 = .ok (.if_icmp .ne 7, 3) := by decide +kernel
theorem d_M_hasLetter_41 : decode b_M_hasLetter 41 = .ok (.iconst 1, 1) := by decide +kernel
theorem d_M_hasLetter_42 : decode b_M_hasLetter 42 = .ok (.goto 4, 3) := by decide +kernel
theorem d_M_hasLetter_45 : decode b_M_hasLetter 45 = .ok (.iconst 0, 1) := by decide +kernel
theorem d_M_hasLetter_46 : decode b_M_hasLetter 46 = .ok (.istore_n 2, 1) := by decide +kernel
theorem d_M_hasLetter_47 : decode b_M_hasLetter 47 = .ok (.iinc 3 1, 3) := by decide +kernel
theorem d_M_hasLetter_50 : decode b_M_hasLetter 50 = .ok (.goto (-46), 3) := by decide +kernel
theorem d_M_hasLetter_53 : decode b_M_hasLetter 53 = .ok (.iload_n 2, 1) := by decide +kernel
theorem d_M_hasLetter_54 : decode b_M_hasLetter 54 = .ok (.ireturn, 1) := by decide +kernel
theorem d_M_resend_0 : decode b_M_resend 0 = .ok (.aload_n 0, 1) := by decide +kernel
theorem d_M_resend_1 : decode b_M_resend 1 = .ok (.iconst 0, 1) := by decide +kernel
theorem d_M_resend_2 : decode b_M_resend 2 = .ok (.putfield 72, 3) := by decide +kernel
theorem d_M_resend_5 : decode b_M_resend 5 = .ok (.iconst 0, 1) := by decide +kernel
theorem d_M_resend_6 : decode b_M_resend 6 = .ok (.istore_n 1, 1) := by decide +kernel
theorem d_M_resend_7 : decode b_M_resend 7 = .ok (.iconst 0, 1) := by decide +kernel
theorem d_M_resend_8 : decode b_M_resend 8 = .ok (.istore_n 2, 1) := by decide +kernel
theorem d_M_resend_9 : decode b_M_resend 9 = .ok (.iload_n 2, 1) := by decide +kernel
theorem d_M_resend_10 : decode b_M_resend 10 = .ok (.aload_n 0, 1) := by decide +kernel
theorem d_M_resend_11 : decode b_M_resend 11 = .ok (.getfield 99, 3) := by decide +kernel
theorem d_M_resend_14 : decode b_M_resend 14 = .ok (.if_icmp .ge 44, 3) := by decide +kernel
theorem d_M_resend_17 : decode b_M_resend 17 = .ok (.aload_n 0, 1) := by decide +kernel
theorem d_M_resend_18 : decode b_M_resend 18 = .ok (.getfield 102, 3) := by decide +kernel
theorem d_M_resend_21 : decode b_M_resend 21 = .ok (.bipush 60, 2) := by decide +kernel
theorem d_M_resend_23 : decode b_M_resend 23 = .ok (.if_icmp .ge 35, 3) := by decide +kernel
theorem d_M_resend_26 : decode b_M_resend 26 = .ok (.aload_n 0, 1) := by decide +kernel
theorem d_M_resend_27 : decode b_M_resend 27 = .ok (.getfield 41, 3) := by decide +kernel
theorem d_M_resend_30 : decode b_M_resend 30 = .ok (.iload_n 2, 1) := by decide +kernel
theorem d_M_resend_31 : decode b_M_resend 31 = .ok (.iaload, 1) := by decide +kernel
theorem d_M_resend_32 : decode b_M_resend 32 = .ok (.iconst 1, 1) := by decide +kernel
theorem d_M_resend_33 : decode b_M_resend 33 = .ok (.if_icmp .ne 19, 3) := by decide +kernel
theorem d_M_resend_36 : decode b_M_resend 36 = .ok (.aload_n 0, 1) := by decide +kernel
theorem d_M_resend_37 : decode b_M_resend 37 = .ok (.iload_n 2, 1) := by decide +kernel
theorem d_M_resend_38 : decode b_M_resend 38 = .ok (.invokevirtual 147, 3) := by decide +kernel
theorem d_M_resend_41 : decode b_M_resend 41 = .ok (.ifCond .ne 11, 3) := by decide +kernel
theorem d_M_resend_44 : decode b_M_resend 44 = .ok (.aload_n 0, 1) := by decide +kernel
theorem d_M_resend_45 : decode b_M_resend 45 = .ok (.iload_n 2, 1) := by decide +kernel
theorem d_M_resend_46 : decode b_M_resend 46 = .ok (.invokevirtual 133, 3) := by decide +kernel
theorem d_M_resend_49 : decode b_M_resend 49 = .ok (.iinc 1 1, 3) := by decide +kernel
theorem d_M_resend_52 : decode b_M_resend 52 = .ok (.iinc 2 1, 3) := by decide +kernel
theorem d_M_resend_55 : decode b_M_resend 55 = .ok (.goto (-46), 3) := by decide +kernel
theorem d_M_resend_58 : decode b_M_resend 58 = .ok (.iload_n 1, 1) := by decide +kernel
theorem d_M_resend_59 : decode b_M_resend 59 = .ok (.ireturn, 1) := by decide +kernel
theorem d_M_station_0 : decode b_M_station 0 = .ok (.aload_n 0, 1) := by decide +kernel
theorem d_M_station_1 : decode b_M_station 1 = .ok (.iload_n 1, 1) := by decide +kernel
theorem d_M_station_2 : decode b_M_station 2 = .ok (.iconst 0, 1) := by decide +kernel
theorem d_M_station_3 : decode b_M_station 3 = .ok (.aload_n 0, 1) := by decide +kernel
theorem d_M_station_4 : decode b_M_station 4 = .ok (.getfield 96, 3) := by decide +kernel
theorem d_M_station_7 : decode b_M_station 7 = .ok (.iconst 1, 1) := by decide +kernel
theorem d_M_station_8 : decode b_M_station 8 = .ok (.isub, 1) := by decide +kernel
theorem d_M_station_9 : decode b_M_station 9 = .ok (.invokestatic 111, 3) := by decide +kernel
theorem d_M_station_12 : decode b_M_station 12 = .ok (.ifCond .ne 7, 3) := by decide +kernel
theorem d_M_station_15 : decode b_M_station 15 = .ok (.iconst 1, 1) := by decide +kernel
theorem d_M_station_16 : decode b_M_station 16 = .ok (.goto 4, 3) := by decide +kernel
theorem d_M_station_19 : decode b_M_station 19 = .ok (.iconst 0, 1) := by decide +kernel
theorem d_M_station_20 : decode b_M_station 20 = .ok (.iconst 0, 1) := by decide +kernel
theorem d_M_station_21 : decode b_M_station 21 = .ok (.invokevirtual 115, 3) := by decide +kernel
theorem d_M_station_24 : decode b_M_station 24 = .ok (.ifCond .ne 10, 3) := by decide +kernel
theorem d_M_station_27 : decode b_M_station 27 = .ok (.aload_n 0, 1) := by decide +kernel
theorem d_M_station_28 : decode b_M_station 28 = .ok (.getfield 28, 3) := by decide +kernel
theorem d_M_station_31 : decode b_M_station 31 = .ok (.iload_n 1, 1) := by decide +kernel
theorem d_M_station_32 : decode b_M_station 32 = .ok (.iload_n 2, 1) := by decide +kernel
theorem d_M_station_33 : decode b_M_station 33 = .ok (.bastore, 1) := by decide +kernel
theorem d_M_station_34 : decode b_M_station 34 = .ok (.return_, 1) := by decide +kernel
theorem d_M_isHanded_0 : decode b_M_isHanded 0 = .ok (.aload_n 0, 1) := by decide +kernel
theorem d_M_isHanded_1 : decode b_M_isHanded 1 = .ok (.getfield 25, 3) := by decide +kernel
theorem d_M_isHanded_4 : decode b_M_isHanded 4 = .ok (.iload_n 1, 1) := by decide +kernel
theorem d_M_isHanded_5 : decode b_M_isHanded 5 = .ok (.aload_n 0, 1) := by decide +kernel
theorem d_M_isHanded_6 : decode b_M_isHanded 6 = .ok (.getfield 93, 3) := by decide +kernel
theorem d_M_isHanded_9 : decode b_M_isHanded 9 = .ok (.irem, 1) := by decide +kernel
theorem d_M_isHanded_10 : decode b_M_isHanded 10 = .ok (.iaload, 1) := by decide +kernel
theorem d_M_isHanded_11 : decode b_M_isHanded 11 = .ok (.iload_n 1, 1) := by decide +kernel
theorem d_M_isHanded_12 : decode b_M_isHanded 12 = .ok (.aload_n 0, 1) := by decide +kernel
theorem d_M_isHanded_13 : decode b_M_isHanded 13 = .ok (.getfield 93, 3) := by decide +kernel
theorem d_M_isHanded_16 : decode b_M_isHanded 16 = .ok (.idiv, 1) := by decide +kernel
theorem d_M_isHanded_17 : decode b_M_isHanded 17 = .ok (.if_icmp .le 7, 3) := by decide +kernel
theorem d_M_isHanded_20 : decode b_M_isHanded 20 = .ok (.iconst 1, 1) := by decide +kernel
theorem d_M_isHanded_21 : decode b_M_isHanded 21 = .ok (.goto 4, 3) := by decide +kernel
theorem d_M_isHanded_24 : decode b_M_isHanded 24 = .ok (.iconst 0, 1) := by decide +kernel
theorem d_M_isHanded_25 : decode b_M_isHanded 25 = .ok (.ireturn, 1) := by decide +kernel
theorem d_M_shown_0 : decode b_M_shown 0 = .ok (.iconst 1, 1) := by decide +kernel
theorem d_M_shown_1 : decode b_M_shown 1 = .ok (.istore_n 2, 1) := by decide +kernel
theorem d_M_shown_2 : decode b_M_shown 2 = .ok (.iconst 0, 1) := by decide +kernel
theorem d_M_shown_3 : decode b_M_shown 3 = .ok (.istore_n 3, 1) := by decide +kernel
theorem d_M_shown_4 : decode b_M_shown 4 = .ok (.iload_n 3, 1) := by decide +kernel
theorem d_M_shown_5 : decode b_M_shown 5 = .ok (.aload_n 0, 1) := by decide +kernel
theorem d_M_shown_6 : decode b_M_shown 6 = .ok (.getfield 50, 3) := by decide +kernel
theorem d_M_shown_9 : decode b_M_shown 9 = .ok (.iload_n 1, 1) := by decide +kernel
theorem d_M_shown_10 : decode b_M_shown 10 = .ok (.iaload, 1) := by decide +kernel
theorem d_M_shown_11 : decode b_M_shown 11 = .ok (.if_icmp .ge 36, 3) := by decide +kernel
theorem d_M_shown_14 : decode b_M_shown 14 = .ok (.aload_n 0, 1) := by decide +kernel
theorem d_M_shown_15 : decode b_M_shown 15 = .ok (.getfield 56, 3) := by decide +kernel
theorem d_M_shown_18 : decode b_M_shown 18 = .ok (.iload_n 1, 1) := by decide +kernel
theorem d_M_shown_19 : decode b_M_shown 19 = .ok (.baload, 1) := by decide +kernel
theorem d_M_shown_20 : decode b_M_shown 20 = .ok (.ifCond .eq 27, 3) := by decide +kernel
theorem d_M_shown_23 : decode b_M_shown 23 = .ok (.iload_n 2, 1) := by decide +kernel
theorem d_M_shown_24 : decode b_M_shown 24 = .ok (.ifCond .eq 15, 3) := by decide +kernel
theorem d_M_shown_27 : decode b_M_shown 27 = .ok (.aload_n 0, 1) := by decide +kernel
theorem d_M_shown_28 : decode b_M_shown 28 = .ok (.iload_n 3, 1) := by decide +kernel
theorem d_M_shown_29 : decode b_M_shown 29 = .ok (.invokevirtual 150, 3) := by decide +kernel
theorem d_M_shown_32 : decode b_M_shown 32 = .ok (.ifCond .eq 7, 3) := by decide +kernel
theorem d_M_shown_35 : decode b_M_shown 35 = .ok (.iconst 1, 1) := by decide +kernel
theorem d_M_shown_36 : decode b_M_shown 36 = .ok (.goto 4, 3) := by decide +kernel
theorem d_M_shown_39 : decode b_M_shown 39 = .ok (.iconst 0, 1) := by decide +kernel
theorem d_M_shown_40 : decode b_M_shown 40 = .ok (.istore_n 2, 1) := by decide +kernel
theorem d_M_shown_41 : decode b_M_shown 41 = .ok (.iinc 3 1, 3) := by decide +kernel
theorem d_M_shown_44 : decode b_M_shown 44 = .ok (.goto (-40), 3) := by decide +kernel
theorem d_M_shown_47 : decode b_M_shown 47 = .ok (.iload_n 2, 1) := by decide +kernel
theorem d_M_shown_48 : decode b_M_shown 48 = .ok (.ifCond .eq 12, 3) := by decide +kernel
theorem d_M_shown_51 : decode b_M_shown 51 = .ok (.aload_n 0, 1) := by decide +kernel
theorem d_M_shown_52 : decode b_M_shown 52 = .ok (.getfield 50, 3) := by decide +kernel
theorem d_M_shown_55 : decode b_M_shown 55 = .ok (.iload_n 1, 1) := by decide +kernel
theorem d_M_shown_56 : decode b_M_shown 56 = .ok (.iaload, 1) := by decide +kernel
theorem d_M_shown_57 : decode b_M_shown 57 = .ok (.goto 4, 3) := by decide +kernel
theorem d_M_shown_60 : decode b_M_shown 60 = .ok (.iconst (-1), 1) := by decide +kernel
theorem d_M_shown_61 : decode b_M_shown 61 = .ok (.ireturn, 1) := by decide +kernel
theorem d_M_token_0 : decode b_M_token 0 = .ok (.aload_n 0, 1) := by decide +kernel
theorem d_M_token_1 : decode b_M_token 1 = .ok (.iload_n 1, 1) := by decide +kernel
theorem d_M_token_2 : decode b_M_token 2 = .ok (.iconst 0, 1) := by decide +kernel
theorem d_M_token_3 : decode b_M_token 3 = .ok (.aload_n 0, 1) := by decide +kernel
theorem d_M_token_4 : decode b_M_token 4 = .ok (.getfield 99, 3) := by decide +kernel
theorem d_M_token_7 : decode b_M_token 7 = .ok (.iconst 1, 1) := by decide +kernel
theorem d_M_token_8 : decode b_M_token 8 = .ok (.isub, 1) := by decide +kernel
theorem d_M_token_9 : decode b_M_token 9 = .ok (.invokestatic 111, 3) := by decide +kernel
theorem d_M_token_12 : decode b_M_token 12 = .ok (.ifCond .eq 12, 3) := by decide +kernel
theorem d_M_token_15 : decode b_M_token 15 = .ok (.iload_n 2, 1) := by decide +kernel
theorem d_M_token_16 : decode b_M_token 16 = .ok (.iconst 0, 1) := by decide +kernel
theorem d_M_token_17 : decode b_M_token 17 = .ok (.iconst 4, 1) := by decide +kernel
theorem d_M_token_18 : decode b_M_token 18 = .ok (.invokestatic 111, 3) := by decide +kernel
theorem d_M_token_21 : decode b_M_token 21 = .ok (.ifCond .ne 7, 3) := by decide +kernel
theorem d_M_token_24 : decode b_M_token 24 = .ok (.iconst 1, 1) := by decide +kernel
theorem d_M_token_25 : decode b_M_token 25 = .ok (.goto 4, 3) := by decide +kernel
theorem d_M_token_28 : decode b_M_token 28 = .ok (.iconst 0, 1) := by decide +kernel
theorem d_M_token_29 : decode b_M_token 29 = .ok (.iconst 0, 1) := by decide +kernel
theorem d_M_token_30 : decode b_M_token 30 = .ok (.invokevirtual 115, 3) := by decide +kernel
theorem d_M_token_33 : decode b_M_token 33 = .ok (.ifCond .eq 5, 3) := by decide +kernel
theorem d_M_token_36 : decode b_M_token 36 = .ok (.iconst 0, 1) := by decide +kernel
theorem d_M_token_37 : decode b_M_token 37 = .ok (.ireturn, 1) := by decide +kernel
theorem d_M_token_38 : decode b_M_token 38 = .ok (.iload_n 2, 1) := by decide +kernel
theorem d_M_token_39 : decode b_M_token 39 = .ok (.tableswitch 57 0 3 #[29, 36, 43, 50], 29) := by decide +kernel
theorem d_M_token_68 : decode b_M_token 68 = .ok (.aload_n 0, 1) := by decide +kernel
theorem d_M_token_69 : decode b_M_token 69 = .ok (.getfield 35, 3) := by decide +kernel
theorem d_M_token_72 : decode b_M_token 72 = .ok (.iload_n 1, 1) := by decide +kernel
theorem d_M_token_73 : decode b_M_token 73 = .ok (.iaload, 1) := by decide +kernel
theorem d_M_token_74 : decode b_M_token 74 = .ok (.ireturn, 1) := by decide +kernel
theorem d_M_token_75 : decode b_M_token 75 = .ok (.aload_n 0, 1) := by decide +kernel
theorem d_M_token_76 : decode b_M_token 76 = .ok (.getfield 38, 3) := by decide +kernel
theorem d_M_token_79 : decode b_M_token 79 = .ok (.iload_n 1, 1) := by decide +kernel
theorem d_M_token_80 : decode b_M_token 80 = .ok (.iaload, 1) := by decide +kernel
theorem d_M_token_81 : decode b_M_token 81 = .ok (.ireturn, 1) := by decide +kernel
theorem d_M_token_82 : decode b_M_token 82 = .ok (.aload_n 0, 1) := by decide +kernel
theorem d_M_token_83 : decode b_M_token 83 = .ok (.getfield 41, 3) := by decide +kernel
theorem d_M_token_86 : decode b_M_token 86 = .ok (.iload_n 1, 1) := by decide +kernel
theorem d_M_token_87 : decode b_M_token 87 = .ok (.iaload, 1) := by decide +kernel
theorem d_M_token_88 : decode b_M_token 88 = .ok (.ireturn, 1) := by decide +kernel
theorem d_M_token_89 : decode b_M_token 89 = .ok (.aload_n 0, 1) := by decide +kernel
theorem d_M_token_90 : decode b_M_token 90 = .ok (.getfield 47, 3) := by decide +kernel
theorem d_M_token_93 : decode b_M_token 93 = .ok (.iload_n 1, 1) := by decide +kernel
theorem d_M_token_94 : decode b_M_token 94 = .ok (.iaload, 1) := by decide +kernel
theorem d_M_token_95 : decode b_M_token 95 = .ok (.ireturn, 1) := by decide +kernel
theorem d_M_token_96 : decode b_M_token 96 = .ok (.aload_n 0, 1) := by decide +kernel
theorem d_M_token_97 : decode b_M_token 97 = .ok (.iload_n 1, 1) := by decide +kernel
theorem d_M_token_98 : decode b_M_token 98 = .ok (.invokevirtual 153, 3) := by decide +kernel
theorem d_M_token_101 : decode b_M_token 101 = .ok (.ireturn, 1) := by decide +kernel
theorem d_M_highest_0 : decode b_M_highest 0 = .ok (.iconst (-1), 1) := by decide +kernel
theorem d_M_highest_1 : decode b_M_highest 1 = .ok (.istore_n 1, 1) := by decide +kernel
theorem d_M_highest_2 : decode b_M_highest 2 = .ok (.iconst 0, 1) := by decide +kernel
theorem d_M_highest_3 : decode b_M_highest 3 = .ok (.istore_n 2, 1) := by decide +kernel
theorem d_M_highest_4 : decode b_M_highest 4 = .ok (.iload_n 2, 1) := by decide +kernel
theorem d_M_highest_5 : decode b_M_highest 5 = .ok (.aload_n 0, 1) := by decide +kernel
theorem d_M_highest_6 : decode b_M_highest 6 = .ok (.getfield 93, 3) := by decide +kernel
theorem d_M_highest_9 : decode b_M_highest 9 = .ok (.if_icmp .ge 49, 3) := by decide +kernel
theorem d_M_highest_12 : decode b_M_highest 12 = .ok (.aload_n 0, 1) := by decide +kernel
theorem d_M_highest_13 : decode b_M_highest 13 = .ok (.getfield 25, 3) := by decide +kernel
theorem d_M_highest_16 : decode b_M_highest 16 = .ok (.iload_n 2, 1) := by decide +kernel
theorem d_M_highest_17 : decode b_M_highest 17 = .ok (.iaload, 1) := by decide +kernel
theorem d_M_highest_18 : decode b_M_highest 18 = .ok (.ifCond .ne 7, 3) := by decide +kernel
theorem d_M_highest_21 : decode b_M_highest 21 = .ok (.iconst (-1), 1) := by decide +kernel
theorem d_M_highest_22 : decode b_M_highest 22 = .ok (.goto 18, 3) := by decide +kernel
theorem d_M_highest_25 : decode b_M_highest 25 = .ok (.iload_n 2, 1) := by decide +kernel
theorem d_M_highest_26 : decode b_M_highest 26 = .ok (.aload_n 0, 1) := by decide +kernel
theorem d_M_highest_27 : decode b_M_highest 27 = .ok (.getfield 93, 3) := by decide +kernel
theorem d_M_highest_30 : decode b_M_highest 30 = .ok (.aload_n 0, 1) := by decide +kernel
theorem d_M_highest_31 : decode b_M_highest 31 = .ok (.getfield 25, 3) := by decide +kernel
theorem d_M_highest_34 : decode b_M_highest 34 = .ok (.iload_n 2, 1) := by decide +kernel
theorem d_M_highest_35 : decode b_M_highest 35 = .ok (.iaload, 1) := by decide +kernel
theorem d_M_highest_36 : decode b_M_highest 36 = .ok (.iconst 1, 1) := by decide +kernel
theorem d_M_highest_37 : decode b_M_highest 37 = .ok (.isub, 1) := by decide +kernel
theorem d_M_highest_38 : decode b_M_highest 38 = .ok (.imul, 1) := by decide +kernel
theorem d_M_highest_39 : decode b_M_highest 39 = .ok (.iadd, 1) := by decide +kernel
theorem d_M_highest_40 : decode b_M_highest 40 = .ok (.istore_n 3, 1) := by decide +kernel
theorem d_M_highest_41 : decode b_M_highest 41 = .ok (.iload_n 3, 1) := by decide +kernel
theorem d_M_highest_42 : decode b_M_highest 42 = .ok (.iload_n 1, 1) := by decide +kernel
theorem d_M_highest_43 : decode b_M_highest 43 = .ok (.if_icmp .le 7, 3) := by decide +kernel
theorem d_M_highest_46 : decode b_M_highest 46 = .ok (.iload_n 3, 1) := by decide +kernel
theorem d_M_highest_47 : decode b_M_highest 47 = .ok (.goto 4, 3) := by decide +kernel
theorem d_M_highest_50 : decode b_M_highest 50 = .ok (.iload_n 1, 1) := by decide +kernel
theorem d_M_highest_51 : decode b_M_highest 51 = .ok (.istore_n 1, 1) := by decide +kernel
theorem d_M_highest_52 : decode b_M_highest 52 = .ok (.iinc 2 1, 3) := by decide +kernel
theorem d_M_highest_55 : decode b_M_highest 55 = .ok (.goto (-51), 3) := by decide +kernel
theorem d_M_highest_58 : decode b_M_highest 58 = .ok (.iload_n 1, 1) := by decide +kernel
theorem d_M_highest_59 : decode b_M_highest 59 = .ok (.ireturn, 1) := by decide +kernel
theorem d_M_gaps_0 : decode b_M_gaps 0 = .ok (.iconst 0, 1) := by decide +kernel
theorem d_M_gaps_1 : decode b_M_gaps 1 = .ok (.istore_n 1, 1) := by decide +kernel
theorem d_M_gaps_2 : decode b_M_gaps 2 = .ok (.iconst 0, 1) := by decide +kernel
theorem d_M_gaps_3 : decode b_M_gaps 3 = .ok (.istore_n 2, 1) := by decide +kernel
theorem d_M_gaps_4 : decode b_M_gaps 4 = .ok (.iload_n 2, 1) := by decide +kernel
theorem d_M_gaps_5 : decode b_M_gaps 5 = .ok (.aload_n 0, 1) := by decide +kernel
theorem d_M_gaps_6 : decode b_M_gaps 6 = .ok (.invokevirtual 156, 3) := by decide +kernel
theorem d_M_gaps_9 : decode b_M_gaps 9 = .ok (.if_icmp .ge 25, 3) := by decide +kernel
theorem d_M_gaps_12 : decode b_M_gaps 12 = .ok (.aload_n 0, 1) := by decide +kernel
theorem d_M_gaps_13 : decode b_M_gaps 13 = .ok (.iload_n 2, 1) := by decide +kernel
theorem d_M_gaps_14 : decode b_M_gaps 14 = .ok (.invokevirtual 150, 3) := by decide +kernel
theorem d_M_gaps_17 : decode b_M_gaps 17 = .ok (.ifCond .eq 7, 3) := by decide +kernel
theorem d_M_gaps_20 : decode b_M_gaps 20 = .ok (.iload_n 1, 1) := by decide +kernel
theorem d_M_gaps_21 : decode b_M_gaps 21 = .ok (.goto 6, 3) := by decide +kernel
theorem d_M_gaps_24 : decode b_M_gaps 24 = .ok (.iload_n 1, 1) := by decide +kernel
theorem d_M_gaps_25 : decode b_M_gaps 25 = .ok (.iconst 1, 1) := by decide +kernel
theorem d_M_gaps_26 : decode b_M_gaps 26 = .ok (.iadd, 1) := by decide +kernel
theorem d_M_gaps_27 : decode b_M_gaps 27 = .ok (.istore_n 1, 1) := by decide +kernel
theorem d_M_gaps_28 : decode b_M_gaps 28 = .ok (.iinc 2 1, 3) := by decide +kernel
theorem d_M_gaps_31 : decode b_M_gaps 31 = .ok (.goto (-27), 3) := by decide +kernel
theorem d_M_gaps_34 : decode b_M_gaps 34 = .ok (.iload_n 1, 1) := by decide +kernel
theorem d_M_gaps_35 : decode b_M_gaps 35 = .ok (.ireturn, 1) := by decide +kernel
theorem d_M_about_0 : decode b_M_about 0 = .ok (.aload_n 0, 1) := by decide +kernel
theorem d_M_about_1 : decode b_M_about 1 = .ok (.iload_n 1, 1) := by decide +kernel
theorem d_M_about_2 : decode b_M_about 2 = .ok (.iconst 0, 1) := by decide +kernel
theorem d_M_about_3 : decode b_M_about 3 = .ok (.iconst 5, 1) := by decide +kernel
theorem d_M_about_4 : decode b_M_about 4 = .ok (.invokestatic 111, 3) := by decide +kernel
theorem d_M_about_7 : decode b_M_about 7 = .ok (.ifCond .ne 7, 3) := by decide +kernel
theorem d_M_about_10 : decode b_M_about 10 = .ok (.iconst 1, 1) := by decide +kernel
theorem d_M_about_11 : decode b_M_about 11 = .ok (.goto 4, 3) := by decide +kernel
theorem d_M_about_14 : decode b_M_about 14 = .ok (.iconst 0, 1) := by decide +kernel
theorem d_M_about_15 : decode b_M_about 15 = .ok (.iconst 0, 1) := by decide +kernel
theorem d_M_about_16 : decode b_M_about 16 = .ok (.invokevirtual 115, 3) := by decide +kernel
theorem d_M_about_19 : decode b_M_about 19 = .ok (.ifCond .eq 5, 3) := by decide +kernel
theorem d_M_about_22 : decode b_M_about 22 = .ok (.iconst 0, 1) := by decide +kernel
theorem d_M_about_23 : decode b_M_about 23 = .ok (.ireturn, 1) := by decide +kernel
theorem d_M_about_24 : decode b_M_about 24 = .ok (.iload_n 1, 1) := by decide +kernel
theorem d_M_about_25 : decode b_M_about 25 = .ok (.tableswitch 60 0 4 #[35, 40, 45, 50, 55], 35) := by decide +kernel
theorem d_M_about_60 : decode b_M_about 60 = .ok (.aload_n 0, 1) := by decide +kernel
theorem d_M_about_61 : decode b_M_about 61 = .ok (.getfield 93, 3) := by decide +kernel
theorem d_M_about_64 : decode b_M_about 64 = .ok (.ireturn, 1) := by decide +kernel
theorem d_M_about_65 : decode b_M_about 65 = .ok (.aload_n 0, 1) := by decide +kernel
theorem d_M_about_66 : decode b_M_about 66 = .ok (.getfield 99, 3) := by decide +kernel
theorem d_M_about_69 : decode b_M_about 69 = .ok (.ireturn, 1) := by decide +kernel
theorem d_M_about_70 : decode b_M_about 70 = .ok (.aload_n 0, 1) := by decide +kernel
theorem d_M_about_71 : decode b_M_about 71 = .ok (.invokevirtual 119, 3) := by decide +kernel
theorem d_M_about_74 : decode b_M_about 74 = .ok (.ireturn, 1) := by decide +kernel
theorem d_M_about_75 : decode b_M_about 75 = .ok (.aload_n 0, 1) := by decide +kernel
theorem d_M_about_76 : decode b_M_about 76 = .ok (.invokevirtual 156, 3) := by decide +kernel
theorem d_M_about_79 : decode b_M_about 79 = .ok (.ireturn, 1) := by decide +kernel
theorem d_M_about_80 : decode b_M_about 80 = .ok (.aload_n 0, 1) := by decide +kernel
theorem d_M_about_81 : decode b_M_about 81 = .ok (.invokevirtual 159, 3) := by decide +kernel
theorem d_M_about_84 : decode b_M_about 84 = .ok (.ireturn, 1) := by decide +kernel
theorem d_M_about_85 : decode b_M_about 85 = .ok (.aload_n 0, 1) := by decide +kernel
theorem d_M_about_86 : decode b_M_about 86 = .ok (.getfield 93, 3) := by decide +kernel
theorem d_M_about_89 : decode b_M_about 89 = .ok (.iconst 2, 1) := by decide +kernel
theorem d_M_about_90 : decode b_M_about 90 = .ok (.if_icmp .ne 7, 3) := by decide +kernel
theorem d_M_about_93 : decode b_M_about 93 = .ok (.iconst 1, 1) := by decide +kernel
theorem d_M_about_94 : decode b_M_about 94 = .ok (.goto 17, 3) := by decide +kernel
theorem d_M_about_97 : decode b_M_about 97 = .ok (.aload_n 0, 1) := by decide +kernel
theorem d_M_about_98 : decode b_M_about 98 = .ok (.getfield 93, 3) := by decide +kernel
theorem d_M_about_101 : decode b_M_about 101 = .ok (.iconst 4, 1) := by decide +kernel
theorem d_M_about_102 : decode b_M_about 102 = .ok (.if_icmp .ne 7, 3) := by decide +kernel
theorem d_M_about_105 : decode b_M_about 105 = .ok (.iconst 3, 1) := by decide +kernel
theorem d_M_about_106 : decode b_M_about 106 = .ok (.goto 5, 3) := by decide +kernel
theorem d_M_about_109 : decode b_M_about 109 = .ok (.bipush 6, 2) := by decide +kernel
theorem d_M_about_111 : decode b_M_about 111 = .ok (.ireturn, 1) := by decide +kernel
theorem d_M_settle_0 : decode b_M_settle 0 = .ok (.aload_n 0, 1) := by decide +kernel
theorem d_M_settle_1 : decode b_M_settle 1 = .ok (.iload_n 1, 1) := by decide +kernel
theorem d_M_settle_2 : decode b_M_settle 2 = .ok (.iconst 0, 1) := by decide +kernel
theorem d_M_settle_3 : decode b_M_settle 3 = .ok (.bipush 100, 2) := by decide +kernel
theorem d_M_settle_5 : decode b_M_settle 5 = .ok (.invokestatic 111, 3) := by decide +kernel
theorem d_M_settle_8 : decode b_M_settle 8 = .ok (.ifCond .ne 7, 3) := by decide +kernel
theorem d_M_settle_11 : decode b_M_settle 11 = .ok (.iconst 1, 1) := by decide +kernel
theorem d_M_settle_12 : decode b_M_settle 12 = .ok (.goto 4, 3) := by decide +kernel
theorem d_M_settle_15 : decode b_M_settle 15 = .ok (.iconst 0, 1) := by decide +kernel
theorem d_M_settle_16 : decode b_M_settle 16 = .ok (.iconst 0, 1) := by decide +kernel
theorem d_M_settle_17 : decode b_M_settle 17 = .ok (.invokevirtual 115, 3) := by decide +kernel
theorem d_M_settle_20 : decode b_M_settle 20 = .ok (.ifCond .eq 5, 3) := by decide +kernel
theorem d_M_settle_23 : decode b_M_settle 23 = .ok (.iconst 0, 1) := by decide +kernel
theorem d_M_settle_24 : decode b_M_settle 24 = .ok (.ireturn, 1) := by decide +kernel
theorem d_M_settle_25 : decode b_M_settle 25 = .ok (.iconst 0, 1) := by decide +kernel
theorem d_M_settle_26 : decode b_M_settle 26 = .ok (.istore_n 2, 1) := by decide +kernel
theorem d_M_settle_27 : decode b_M_settle 27 = .ok (.iload_n 2, 1) := by decide +kernel
theorem d_M_settle_28 : decode b_M_settle 28 = .ok (.iload_n 1, 1) := by decide +kernel
theorem d_M_settle_29 : decode b_M_settle 29 = .ok (.if_icmp .ge 67, 3) := by decide +kernel
theorem d_M_settle_32 : decode b_M_settle 32 = .ok (.aload_n 0, 1) := by decide +kernel
theorem d_M_settle_33 : decode b_M_settle 33 = .ok (.invokevirtual 119, 3) := by decide +kernel
theorem d_M_settle_36 : decode b_M_settle 36 = .ok (.ifCond .le 60, 3) := by decide +kernel
theorem d_M_settle_39 : decode b_M_settle 39 = .ok (.iconst 0, 1) := by decide +kernel
theorem d_M_settle_40 : decode b_M_settle 40 = .ok (.istore_n 3, 1) := by decide +kernel
theorem d_M_settle_41 : decode b_M_settle 41 = .ok (.iload_n 3, 1) := by decide +kernel
theorem d_M_settle_42 : decode b_M_settle 42 = .ok (.aload_n 0, 1) := by decide +kernel
theorem d_M_settle_43 : decode b_M_settle 43 = .ok (.getfield 99, 3) := by decide +kernel
theorem d_M_settle_46 : decode b_M_settle 46 = .ok (.if_icmp .ge 23, 3) := by decide +kernel
theorem d_M_settle_49 : decode b_M_settle 49 = .ok (.aload_n 0, 1) := by decide +kernel
theorem d_M_settle_50 : decode b_M_settle 50 = .ok (.iload_n 3, 1) := by decide +kernel
theorem d_M_settle_51 : decode b_M_settle 51 = .ok (.invokevirtual 137, 3) := by decide +kernel
theorem d_M_settle_54 : decode b_M_settle 54 = .ok (.ifCond .ne 9, 3) := by decide +kernel
theorem d_M_settle_57 : decode b_M_settle 57 = .ok (.aload_n 0, 1) := by decide +kernel
theorem d_M_settle_58 : decode b_M_settle 58 = .ok (.iload_n 3, 1) := by decide +kernel
theorem d_M_settle_59 : decode b_M_settle 59 = .ok (.invokevirtual 141, 3) := by decide +kernel
theorem d_M_settle_62 : decode b_M_settle 62 = .ok (.pop, 1) := by decide +kernel
theorem d_M_settle_63 : decode b_M_settle 63 = .ok (.iinc 3 1, 3) := by decide +kernel
theorem d_M_settle_66 : decode b_M_settle 66 = .ok (.goto (-25), 3) := by decide +kernel
theorem d_M_settle_69 : decode b_M_settle 69 = .ok (.aload_n 0, 1) := by decide +kernel
theorem d_M_settle_70 : decode b_M_settle 70 = .ok (.getfield 102, 3) := by decide +kernel
theorem d_M_settle_73 : decode b_M_settle 73 = .ok (.istore_n 3, 1) := by decide +kernel
theorem d_M_settle_74 : decode b_M_settle 74 = .ok (.iload_n 3, 1) := by decide +kernel
theorem d_M_settle_75 : decode b_M_settle 75 = .ok (.ifCond .le 15, 3) := by decide +kernel
theorem d_M_settle_78 : decode b_M_settle 78 = .ok (.aload_n 0, 1) := by decide +kernel
theorem d_M_settle_79 : decode b_M_settle 79 = .ok (.iconst 0, 1) := by decide +kernel
theorem d_M_settle_80 : decode b_M_settle 80 = .ok (.invokevirtual 162, 3) := by decide +kernel
theorem d_M_settle_83 : decode b_M_settle 83 = .ok (.pop, 1) := by decide +kernel
theorem d_M_settle_84 : decode b_M_settle 84 = .ok (.iinc 3 (-1), 3) := by decide +kernel
theorem d_M_settle_87 : decode b_M_settle 87 = .ok (.goto (-13), 3) := by decide +kernel
theorem d_M_settle_90 : decode b_M_settle 90 = .ok (.iinc 2 1, 3) := by decide +kernel
theorem d_M_settle_93 : decode b_M_settle 93 = .ok (.goto (-66), 3) := by decide +kernel
theorem d_M_settle_96 : decode b_M_settle 96 = .ok (.iload_n 2, 1) := by decide +kernel
theorem d_M_settle_97 : decode b_M_settle 97 = .ok (.ireturn, 1) := by decide +kernel
end
section
def lnC : Nat → Nat := fun k => match k with
  | 0 => 24
  | 1 => 8
  | 2 => 6
  | 3 => 24
  | 4 => 24
  | 5 => 24
  | 6 => 8
  | 7 => 8
  | 8 => 8
  | 9 => 200
  | 10 => 200
  | 11 => 200
  | 12 => 200
  | 13 => 200
  | 14 => 200
  | 15 => 200
  | 16 => 200
  | 17 => 60
  | 18 => 60
  | _ => 60
def tyC_ : Nat → FieldType := fun k => match k with
  | 0 => .int
  | 1 => .int
  | 2 => .boolean
  | 3 => .int
  | 4 => .int
  | 5 => .int
  | 6 => .int
  | 7 => .int
  | 8 => .int
  | 9 => .int
  | 10 => .int
  | 11 => .int
  | 12 => .int
  | 13 => .int
  | 14 => .int
  | 15 => .int
  | 16 => .boolean
  | 17 => .int
  | 18 => .int
  | _ => .int
def obC (ad : Nat → Nat) (F : Nat → Int32) : va_W := [(ad 20, .inr (0, [.ref (ad 21), .ref (ad 22), .ref (ad 23), .ref (ad 0), .ref (ad 1), .ref (ad 2), .int (F 0)])), (ad 21, .inr (1, [.int (F 1), .int (F 2), .int (F 3), .ref (ad 3), .ref (ad 4), .ref (ad 5), .ref (ad 6), .ref (ad 7), .ref (ad 8)])), (ad 22, .inr (2, [.int (F 4), .int (F 5), .ref (ad 9), .ref (ad 10), .ref (ad 11), .ref (ad 12), .ref (ad 13), .ref (ad 14), .ref (ad 15), .ref (ad 16)])), (ad 23, .inr (3, [.int (F 6), .ref (ad 17), .ref (ad 18), .ref (ad 19)]))]
abbrev yC (D : va_G) (ad : Nat → Nat) (ac : Nat → ClassId) : Wx := jY D cls 20 ad ac lnC tyC_ (obC ad)
theorem oC_0 : 0 < 20 ∧ tyC_ 0 = .int ∧ lnC 0 < 2 ^ 31 := ⟨by decide, rfl, by decide⟩
theorem oC_1 : 1 < 20 ∧ tyC_ 1 = .int ∧ lnC 1 < 2 ^ 31 := ⟨by decide, rfl, by decide⟩
theorem oC_2 : 2 < 20 ∧ tyC_ 2 = .boolean ∧ lnC 2 < 2 ^ 31 := ⟨by decide, rfl, by decide⟩
theorem oC_3 : 3 < 20 ∧ tyC_ 3 = .int ∧ lnC 3 < 2 ^ 31 := ⟨by decide, rfl, by decide⟩
theorem oC_4 : 4 < 20 ∧ tyC_ 4 = .int ∧ lnC 4 < 2 ^ 31 := ⟨by decide, rfl, by decide⟩
theorem oC_5 : 5 < 20 ∧ tyC_ 5 = .int ∧ lnC 5 < 2 ^ 31 := ⟨by decide, rfl, by decide⟩
theorem oC_6 : 6 < 20 ∧ tyC_ 6 = .int ∧ lnC 6 < 2 ^ 31 := ⟨by decide, rfl, by decide⟩
theorem oC_7 : 7 < 20 ∧ tyC_ 7 = .int ∧ lnC 7 < 2 ^ 31 := ⟨by decide, rfl, by decide⟩
theorem oC_8 : 8 < 20 ∧ tyC_ 8 = .int ∧ lnC 8 < 2 ^ 31 := ⟨by decide, rfl, by decide⟩
theorem oC_9 : 9 < 20 ∧ tyC_ 9 = .int ∧ lnC 9 < 2 ^ 31 := ⟨by decide, rfl, by decide⟩
theorem oC_10 : 10 < 20 ∧ tyC_ 10 = .int ∧ lnC 10 < 2 ^ 31 := ⟨by decide, rfl, by decide⟩
theorem oC_11 : 11 < 20 ∧ tyC_ 11 = .int ∧ lnC 11 < 2 ^ 31 := ⟨by decide, rfl, by decide⟩
theorem oC_12 : 12 < 20 ∧ tyC_ 12 = .int ∧ lnC 12 < 2 ^ 31 := ⟨by decide, rfl, by decide⟩
theorem oC_13 : 13 < 20 ∧ tyC_ 13 = .int ∧ lnC 13 < 2 ^ 31 := ⟨by decide, rfl, by decide⟩
theorem oC_14 : 14 < 20 ∧ tyC_ 14 = .int ∧ lnC 14 < 2 ^ 31 := ⟨by decide, rfl, by decide⟩
theorem oC_15 : 15 < 20 ∧ tyC_ 15 = .int ∧ lnC 15 < 2 ^ 31 := ⟨by decide, rfl, by decide⟩
theorem oC_16 : 16 < 20 ∧ tyC_ 16 = .boolean ∧ lnC 16 < 2 ^ 31 := ⟨by decide, rfl, by decide⟩
theorem oC_17 : 17 < 20 ∧ tyC_ 17 = .int ∧ lnC 17 < 2 ^ 31 := ⟨by decide, rfl, by decide⟩
theorem oC_18 : 18 < 20 ∧ tyC_ 18 = .int ∧ lnC 18 < 2 ^ 31 := ⟨by decide, rfl, by decide⟩
theorem oC_19 : 19 < 20 ∧ tyC_ 19 = .int ∧ lnC 19 < 2 ^ 31 := ⟨by decide, rfl, by decide⟩
theorem eC20 {D : va_G} {ad : Nat → Nat} {ac : Nat → ClassId} {σ : St} : ((yC D ad ac).sh σ)[20]? = some (ad 20, .inr (0, [.ref (ad 21), .ref (ad 22), .ref (ad 23), .ref (ad 0), .ref (ad 1), .ref (ad 2), .int (σ.1 0)])) := rfl
theorem eC21 {D : va_G} {ad : Nat → Nat} {ac : Nat → ClassId} {σ : St} : ((yC D ad ac).sh σ)[21]? = some (ad 21, .inr (1, [.int (σ.1 1), .int (σ.1 2), .int (σ.1 3), .ref (ad 3), .ref (ad 4), .ref (ad 5), .ref (ad 6), .ref (ad 7), .ref (ad 8)])) := rfl
theorem eC22 {D : va_G} {ad : Nat → Nat} {ac : Nat → ClassId} {σ : St} : ((yC D ad ac).sh σ)[22]? = some (ad 22, .inr (2, [.int (σ.1 4), .int (σ.1 5), .ref (ad 9), .ref (ad 10), .ref (ad 11), .ref (ad 12), .ref (ad 13), .ref (ad 14), .ref (ad 15), .ref (ad 16)])) := rfl
theorem eC23 {D : va_G} {ad : Nat → Nat} {ac : Nat → ClassId} {σ : St} : ((yC D ad ac).sh σ)[23]? = some (ad 23, .inr (3, [.int (σ.1 6), .ref (ad 17), .ref (ad 18), .ref (ad 19)])) := rfl
def lnM : Nat → Nat := fun k => match k with
  | 0 => 24
  | 1 => 24
  | 2 => 24
  | 3 => 24
  | 4 => 8
  | 5 => 8
  | 6 => 6
  | 7 => 80
  | 8 => 200
  | 9 => 200
  | 10 => 200
  | 11 => 200
  | 12 => 200
  | 13 => 200
  | 14 => 200
  | 15 => 200
  | 16 => 60
  | 17 => 60
  | _ => 60
def tyM_ : Nat → FieldType := fun k => match k with
  | 0 => .int
  | 1 => .int
  | 2 => .int
  | 3 => .int
  | 4 => .int
  | 5 => .int
  | 6 => .boolean
  | 7 => .int
  | 8 => .int
  | 9 => .int
  | 10 => .int
  | 11 => .int
  | 12 => .int
  | 13 => .int
  | 14 => .int
  | 15 => .boolean
  | 16 => .int
  | 17 => .int
  | _ => .int
def obM (ad : Nat → Nat) (F : Nat → Int32) : va_W := [(ad 19, .inr (4, [.int (F 0), .int (F 1), .int (F 2), .int (F 3), .ref (ad 0), .ref (ad 1), .ref (ad 2), .ref (ad 3), .ref (ad 4), .ref (ad 5), .ref (ad 6), .ref (ad 7), .int (F 4), .ref (ad 8), .ref (ad 9), .ref (ad 10), .ref (ad 11), .ref (ad 12), .ref (ad 13), .ref (ad 14), .ref (ad 15), .int (F 5), .ref (ad 16), .ref (ad 17), .ref (ad 18)]))]
abbrev yM (D : va_G) (ad : Nat → Nat) (ac : Nat → ClassId) : Wx := jY D cls 19 ad ac lnM tyM_ (obM ad)
theorem oM_0 : 0 < 19 ∧ tyM_ 0 = .int ∧ lnM 0 < 2 ^ 31 := ⟨by decide, rfl, by decide⟩
theorem oM_1 : 1 < 19 ∧ tyM_ 1 = .int ∧ lnM 1 < 2 ^ 31 := ⟨by decide, rfl, by decide⟩
theorem oM_2 : 2 < 19 ∧ tyM_ 2 = .int ∧ lnM 2 < 2 ^ 31 := ⟨by decide, rfl, by decide⟩
theorem oM_3 : 3 < 19 ∧ tyM_ 3 = .int ∧ lnM 3 < 2 ^ 31 := ⟨by decide, rfl, by decide⟩
theorem oM_4 : 4 < 19 ∧ tyM_ 4 = .int ∧ lnM 4 < 2 ^ 31 := ⟨by decide, rfl, by decide⟩
theorem oM_5 : 5 < 19 ∧ tyM_ 5 = .int ∧ lnM 5 < 2 ^ 31 := ⟨by decide, rfl, by decide⟩
theorem oM_6 : 6 < 19 ∧ tyM_ 6 = .boolean ∧ lnM 6 < 2 ^ 31 := ⟨by decide, rfl, by decide⟩
theorem oM_7 : 7 < 19 ∧ tyM_ 7 = .int ∧ lnM 7 < 2 ^ 31 := ⟨by decide, rfl, by decide⟩
theorem oM_8 : 8 < 19 ∧ tyM_ 8 = .int ∧ lnM 8 < 2 ^ 31 := ⟨by decide, rfl, by decide⟩
theorem oM_9 : 9 < 19 ∧ tyM_ 9 = .int ∧ lnM 9 < 2 ^ 31 := ⟨by decide, rfl, by decide⟩
theorem oM_10 : 10 < 19 ∧ tyM_ 10 = .int ∧ lnM 10 < 2 ^ 31 := ⟨by decide, rfl, by decide⟩
theorem oM_11 : 11 < 19 ∧ tyM_ 11 = .int ∧ lnM 11 < 2 ^ 31 := ⟨by decide, rfl, by decide⟩
theorem oM_12 : 12 < 19 ∧ tyM_ 12 = .int ∧ lnM 12 < 2 ^ 31 := ⟨by decide, rfl, by decide⟩
theorem oM_13 : 13 < 19 ∧ tyM_ 13 = .int ∧ lnM 13 < 2 ^ 31 := ⟨by decide, rfl, by decide⟩
theorem oM_14 : 14 < 19 ∧ tyM_ 14 = .int ∧ lnM 14 < 2 ^ 31 := ⟨by decide, rfl, by decide⟩
theorem oM_15 : 15 < 19 ∧ tyM_ 15 = .boolean ∧ lnM 15 < 2 ^ 31 := ⟨by decide, rfl, by decide⟩
theorem oM_16 : 16 < 19 ∧ tyM_ 16 = .int ∧ lnM 16 < 2 ^ 31 := ⟨by decide, rfl, by decide⟩
theorem oM_17 : 17 < 19 ∧ tyM_ 17 = .int ∧ lnM 17 < 2 ^ 31 := ⟨by decide, rfl, by decide⟩
theorem oM_18 : 18 < 19 ∧ tyM_ 18 = .int ∧ lnM 18 < 2 ^ 31 := ⟨by decide, rfl, by decide⟩
theorem eM19 {D : va_G} {ad : Nat → Nat} {ac : Nat → ClassId} {σ : St} : ((yM D ad ac).sh σ)[19]? = some (ad 19, .inr (4, [.int (σ.1 0), .int (σ.1 1), .int (σ.1 2), .int (σ.1 3), .ref (ad 0), .ref (ad 1), .ref (ad 2), .ref (ad 3), .ref (ad 4), .ref (ad 5), .ref (ad 6), .ref (ad 7), .int (σ.1 4), .ref (ad 8), .ref (ad 9), .ref (ad 10), .ref (ad 11), .ref (ad 12), .ref (ad 13), .ref (ad 14), .ref (ad 15), .int (σ.1 5), .ref (ad 16), .ref (ad 17), .ref (ad 18)])) := rfl
theorem qs_44 : Cond.selects "CountingNetworkModel" ({ cls := "CountingNetworkModel", name := "gaps", desc := "()I" } : MethodName) ({ cls := "CountingNetworkModel", name := "gaps", desc := "()I" } : MethodName) ∈ TT := TT_mem (List.mem_of_getElem? (i := 44) (by decide +kernel)) rfl
theorem qs_43 : Cond.selects "CountingNetworkModel" ({ cls := "CountingNetworkModel", name := "highest", desc := "()I" } : MethodName) ({ cls := "CountingNetworkModel", name := "highest", desc := "()I" } : MethodName) ∈ TT := TT_mem (List.mem_of_getElem? (i := 43) (by decide +kernel)) rfl
theorem qs_42 : Cond.selects "CountingNetworkModel" ({ cls := "CountingNetworkModel", name := "isHanded", desc := "(I)Z" } : MethodName) ({ cls := "CountingNetworkModel", name := "isHanded", desc := "(I)Z" } : MethodName) ∈ TT := TT_mem (List.mem_of_getElem? (i := 42) (by decide +kernel)) rfl
theorem qs_41 : Cond.selects "CountingNetworkModel" ({ cls := "CountingNetworkModel", name := "shown", desc := "(I)I" } : MethodName) ({ cls := "CountingNetworkModel", name := "shown", desc := "(I)I" } : MethodName) ∈ TT := TT_mem (List.mem_of_getElem? (i := 41) (by decide +kernel)) rfl
theorem qs_40 : Cond.selects "CountingNetworkModel" ({ cls := "CountingNetworkModel", name := "hasLetter", desc := "(I)Z" } : MethodName) ({ cls := "CountingNetworkModel", name := "hasLetter", desc := "(I)Z" } : MethodName) ∈ TT := TT_mem (List.mem_of_getElem? (i := 40) (by decide +kernel)) rfl
theorem qs_39 : Cond.selects "CountingNetworkModel" ({ cls := "CountingNetworkModel", name := "take", desc := "(I)V" } : MethodName) ({ cls := "CountingNetworkModel", name := "take", desc := "(I)V" } : MethodName) ∈ TT := TT_mem (List.mem_of_getElem? (i := 39) (by decide +kernel)) rfl
theorem qs_38 : Cond.selects "CountingNetworkModel" ({ cls := "CountingNetworkModel", name := "post", desc := "(I)V" } : MethodName) ({ cls := "CountingNetworkModel", name := "post", desc := "(I)V" } : MethodName) ∈ TT := TT_mem (List.mem_of_getElem? (i := 38) (by decide +kernel)) rfl
theorem qs_37 : Cond.selects "CountingNetworkModel" ({ cls := "CountingNetworkModel", name := "step", desc := "(I)I" } : MethodName) ({ cls := "CountingNetworkModel", name := "step", desc := "(I)I" } : MethodName) ∈ TT := TT_mem (List.mem_of_getElem? (i := 37) (by decide +kernel)) rfl
theorem qs_36 : Cond.selects "CountingNetworkModel" ({ cls := "CountingNetworkModel", name := "exitOf", desc := "(I)I" } : MethodName) ({ cls := "CountingNetworkModel", name := "exitOf", desc := "(I)I" } : MethodName) ∈ TT := TT_mem (List.mem_of_getElem? (i := 36) (by decide +kernel)) rfl
theorem qs_35 : Cond.selects "CountingNetworkModel" ({ cls := "CountingNetworkModel", name := "nextOf", desc := "(I)I" } : MethodName) ({ cls := "CountingNetworkModel", name := "nextOf", desc := "(I)I" } : MethodName) ∈ TT := TT_mem (List.mem_of_getElem? (i := 35) (by decide +kernel)) rfl
theorem qs_34 : Cond.selects "CountingNetworkModel" ({ cls := "CountingNetworkModel", name := "stationOf", desc := "(I)I" } : MethodName) ({ cls := "CountingNetworkModel", name := "stationOf", desc := "(I)I" } : MethodName) ∈ TT := TT_mem (List.mem_of_getElem? (i := 34) (by decide +kernel)) rfl
theorem qs_33 : Cond.selects "CountingNetworkModel" ({ cls := "CountingNetworkModel", name := "isStuck", desc := "(I)Z" } : MethodName) ({ cls := "CountingNetworkModel", name := "isStuck", desc := "(I)Z" } : MethodName) ∈ TT := TT_mem (List.mem_of_getElem? (i := 33) (by decide +kernel)) rfl
theorem qs_32 : Cond.selects "CountingNetworkModel" ({ cls := "CountingNetworkModel", name := "left", desc := "()I" } : MethodName) ({ cls := "CountingNetworkModel", name := "left", desc := "()I" } : MethodName) ∈ TT := TT_mem (List.mem_of_getElem? (i := 32) (by decide +kernel)) rfl
theorem qs_31 : Cond.selects "CountingNetworkModel" ({ cls := "CountingNetworkModel", name := "refuse", desc := "(ZZ)Z" } : MethodName) ({ cls := "CountingNetworkModel", name := "refuse", desc := "(ZZ)Z" } : MethodName) ∈ TT := TT_mem (List.mem_of_getElem? (i := 31) (by decide +kernel)) rfl
theorem qs_30 : Cond.selects "CountingNetworkModel" ({ cls := "CountingNetworkModel", name := "mergeFours", desc := "(III)V" } : MethodName) ({ cls := "CountingNetworkModel", name := "mergeFours", desc := "(III)V" } : MethodName) ∈ TT := TT_mem (List.mem_of_getElem? (i := 30) (by decide +kernel)) rfl
theorem qs_29 : Cond.selects "CountingNetworkModel" ({ cls := "CountingNetworkModel", name := "join", desc := "(IIII)V" } : MethodName) ({ cls := "CountingNetworkModel", name := "join", desc := "(IIII)V" } : MethodName) ∈ TT := TT_mem (List.mem_of_getElem? (i := 29) (by decide +kernel)) rfl
theorem qs_28 : Cond.selects "CountingNetworkModel" ({ cls := "CountingNetworkModel", name := "mergeTwos", desc := "(III)V" } : MethodName) ({ cls := "CountingNetworkModel", name := "mergeTwos", desc := "(III)V" } : MethodName) ∈ TT := TT_mem (List.mem_of_getElem? (i := 28) (by decide +kernel)) rfl
theorem qs_27 : Cond.selects "CountingNetworkModel" ({ cls := "CountingNetworkModel", name := "layFour", desc := "(II)V" } : MethodName) ({ cls := "CountingNetworkModel", name := "layFour", desc := "(II)V" } : MethodName) ∈ TT := TT_mem (List.mem_of_getElem? (i := 27) (by decide +kernel)) rfl
theorem qs_26 : Cond.selects "CountingNetworkModel" ({ cls := "CountingNetworkModel", name := "lay", desc := "(II)V" } : MethodName) ({ cls := "CountingNetworkModel", name := "lay", desc := "(II)V" } : MethodName) ∈ TT := TT_mem (List.mem_of_getElem? (i := 26) (by decide +kernel)) rfl
theorem qs_25 : Cond.selects "CountingNetworkModel" ({ cls := "CountingNetworkModel", name := "mergeOnes", desc := "(III)V" } : MethodName) ({ cls := "CountingNetworkModel", name := "mergeOnes", desc := "(III)V" } : MethodName) ∈ TT := TT_mem (List.mem_of_getElem? (i := 25) (by decide +kernel)) rfl
theorem qs_24 : Cond.selects "CountingNetworkModel" ({ cls := "CountingNetworkModel", name := "make", desc := "(II)V" } : MethodName) ({ cls := "CountingNetworkModel", name := "make", desc := "(II)V" } : MethodName) ∈ TT := TT_mem (List.mem_of_getElem? (i := 24) (by decide +kernel)) rfl
theorem qs_23 : Cond.selects "CountingNetwork" ({ cls := "CountingNetwork", name := "handOverAll", desc := "()V" } : MethodName) ({ cls := "CountingNetwork", name := "handOverAll", desc := "()V" } : MethodName) ∈ TT := TT_mem (List.mem_of_getElem? (i := 23) (by decide +kernel)) rfl
theorem qs_22 : Cond.selects "CountingNetwork" ({ cls := "CountingNetwork", name := "stepAll", desc := "()V" } : MethodName) ({ cls := "CountingNetwork", name := "stepAll", desc := "()V" } : MethodName) ∈ TT := TT_mem (List.mem_of_getElem? (i := 22) (by decide +kernel)) rfl
theorem qs_21 : Cond.selects "CountingNetwork" ({ cls := "CountingNetwork", name := "missingBelowHighest", desc := "()I" } : MethodName) ({ cls := "CountingNetwork", name := "missingBelowHighest", desc := "()I" } : MethodName) ∈ TT := TT_mem (List.mem_of_getElem? (i := 21) (by decide +kernel)) rfl
theorem qs_20 : Cond.selects "CountingNetwork" ({ cls := "CountingNetwork", name := "highestNumber", desc := "()I" } : MethodName) ({ cls := "CountingNetwork", name := "highestNumber", desc := "()I" } : MethodName) ∈ TT := TT_mem (List.mem_of_getElem? (i := 20) (by decide +kernel)) rfl
theorem qs_19 : Cond.selects "CountingNetwork" ({ cls := "CountingNetwork", name := "leastMissing", desc := "()I" } : MethodName) ({ cls := "CountingNetwork", name := "leastMissing", desc := "()I" } : MethodName) ∈ TT := TT_mem (List.mem_of_getElem? (i := 19) (by decide +kernel)) rfl
theorem qs_18 : Cond.selects "CountingNetwork" ({ cls := "CountingNetwork", name := "shownNumber", desc := "(I)I" } : MethodName) ({ cls := "CountingNetwork", name := "shownNumber", desc := "(I)I" } : MethodName) ∈ TT := TT_mem (List.mem_of_getElem? (i := 18) (by decide +kernel)) rfl
theorem qs_17 : Cond.selects "CountingNetwork" ({ cls := "CountingNetwork", name := "handOver", desc := "(I)Z" } : MethodName) ({ cls := "CountingNetwork", name := "handOver", desc := "(I)Z" } : MethodName) ∈ TT := TT_mem (List.mem_of_getElem? (i := 17) (by decide +kernel)) rfl
theorem qs_16 : Cond.selects "CountingNetwork" ({ cls := "CountingNetwork", name := "goThrough", desc := "(II)V" } : MethodName) ({ cls := "CountingNetwork", name := "goThrough", desc := "(II)V" } : MethodName) ∈ TT := TT_mem (List.mem_of_getElem? (i := 16) (by decide +kernel)) rfl
theorem qs_15 : Cond.selects "CountingNetwork" ({ cls := "CountingNetwork", name := "nextNumberAt", desc := "(I)I" } : MethodName) ({ cls := "CountingNetwork", name := "nextNumberAt", desc := "(I)I" } : MethodName) ∈ TT := TT_mem (List.mem_of_getElem? (i := 15) (by decide +kernel)) rfl
theorem qs_14 : Cond.selects "CountingNetwork" ({ cls := "CountingNetwork", name := "comeOut", desc := "(II)V" } : MethodName) ({ cls := "CountingNetwork", name := "comeOut", desc := "(II)V" } : MethodName) ∈ TT := TT_mem (List.mem_of_getElem? (i := 14) (by decide +kernel)) rfl
theorem qs_13 : Cond.selects "CountingNetwork" ({ cls := "CountingNetwork", name := "step", desc := "(I)I" } : MethodName) ({ cls := "CountingNetwork", name := "step", desc := "(I)I" } : MethodName) ∈ TT := TT_mem (List.mem_of_getElem? (i := 13) (by decide +kernel)) rfl
theorem qs_12 : Cond.selects "CountingNetwork" ({ cls := "CountingNetwork", name := "isDown", desc := "(I)Z" } : MethodName) ({ cls := "CountingNetwork", name := "isDown", desc := "(I)Z" } : MethodName) ∈ TT := TT_mem (List.mem_of_getElem? (i := 12) (by decide +kernel)) rfl
theorem qs_11 : Cond.selects "CountingNetwork" ({ cls := "CountingNetwork", name := "canStep", desc := "(I)Z" } : MethodName) ({ cls := "CountingNetwork", name := "canStep", desc := "(I)Z" } : MethodName) ∈ TT := TT_mem (List.mem_of_getElem? (i := 11) (by decide +kernel)) rfl
theorem qs_9 : Cond.selects "CountingNetwork" ({ cls := "CountingNetwork", name := "stationOfBalancer", desc := "(I)I" } : MethodName) ({ cls := "CountingNetwork", name := "stationOfBalancer", desc := "(I)I" } : MethodName) ∈ TT := TT_mem (List.mem_of_getElem? (i := 9) (by decide +kernel)) rfl
theorem qs_8 : Cond.selects "CountingNetwork" ({ cls := "CountingNetwork", name := "stationOfExit", desc := "(I)I" } : MethodName) ({ cls := "CountingNetwork", name := "stationOfExit", desc := "(I)I" } : MethodName) ∈ TT := TT_mem (List.mem_of_getElem? (i := 8) (by decide +kernel)) rfl
theorem qs_7 : Cond.selects "CountingNetwork" ({ cls := "CountingNetwork", name := "nextBalancer", desc := "(I)I" } : MethodName) ({ cls := "CountingNetwork", name := "nextBalancer", desc := "(I)I" } : MethodName) ∈ TT := TT_mem (List.mem_of_getElem? (i := 7) (by decide +kernel)) rfl
theorem qs_6 : Cond.selects "CountingNetwork" ({ cls := "CountingNetwork", name := "stationOfNext", desc := "(I)I" } : MethodName) ({ cls := "CountingNetwork", name := "stationOfNext", desc := "(I)I" } : MethodName) ∈ TT := TT_mem (List.mem_of_getElem? (i := 6) (by decide +kernel)) rfl
theorem qs_5 : Cond.selects "CountingNetwork$Plan" ({ cls := "CountingNetwork$Plan", name := "joinParts", desc := "(II)V" } : MethodName) ({ cls := "CountingNetwork$Plan", name := "joinParts", desc := "(II)V" } : MethodName) ∈ TT := TT_mem (List.mem_of_getElem? (i := 5) (by decide +kernel)) rfl
theorem qs_4 : Cond.selects "CountingNetwork$Plan" ({ cls := "CountingNetwork$Plan", name := "sortIntoParts", desc := "(II)V" } : MethodName) ({ cls := "CountingNetwork$Plan", name := "sortIntoParts", desc := "(II)V" } : MethodName) ∈ TT := TT_mem (List.mem_of_getElem? (i := 4) (by decide +kernel)) rfl
theorem qs_3 : Cond.selects "CountingNetwork$Plan" ({ cls := "CountingNetwork$Plan", name := "lay", desc := "(II)V" } : MethodName) ({ cls := "CountingNetwork$Plan", name := "lay", desc := "(II)V" } : MethodName) ∈ TT := TT_mem (List.mem_of_getElem? (i := 3) (by decide +kernel)) rfl
theorem qs_2 : Cond.selects "CountingNetwork$Plan" ({ cls := "CountingNetwork$Plan", name := "merge", desc := "(II)V" } : MethodName) ({ cls := "CountingNetwork$Plan", name := "merge", desc := "(II)V" } : MethodName) ∈ TT := TT_mem (List.mem_of_getElem? (i := 2) (by decide +kernel)) rfl
theorem qs_1 : Cond.selects "CountingNetwork$Plan" ({ cls := "CountingNetwork$Plan", name := "layOut", desc := "(II)V" } : MethodName) ({ cls := "CountingNetwork$Plan", name := "layOut", desc := "(II)V" } : MethodName) ∈ TT := TT_mem (List.mem_of_getElem? (i := 1) (by decide +kernel)) rfl
theorem qs_0 : Cond.selects "CountingNetwork" ({ cls := "CountingNetwork", name := "startAnew", desc := "(II)V" } : MethodName) ({ cls := "CountingNetwork", name := "startAnew", desc := "(II)V" } : MethodName) ∈ TT := TT_mem (List.mem_of_getElem? (i := 0) (by decide +kernel)) rfl
theorem q_1 : Cond.initialized "CountingNetwork" ∈ TT := TT_mem (List.mem_of_getElem? (i := 46) (by decide +kernel)) rfl
theorem q_2 : Cond.initialized "CountingNetwork$Plan" ∈ TT := TT_mem (List.mem_of_getElem? (i := 47) (by decide +kernel)) rfl
theorem q_3 : Cond.initialized "CountingNetwork$Tokens" ∈ TT := TT_mem (List.mem_of_getElem? (i := 48) (by decide +kernel)) rfl
theorem q_4 : Cond.initialized "CountingNetwork$Bag" ∈ TT := TT_mem (List.mem_of_getElem? (i := 49) (by decide +kernel)) rfl
theorem q_5 : Cond.initialized "java/lang/Math" ∈ TT := TT_mem (List.mem_of_getElem? (i := 50) (by decide +kernel)) rfl
theorem q_6 : Cond.initialized "java/lang/System" ∈ TT := TT_mem (List.mem_of_getElem? (i := 51) (by decide +kernel)) rfl
theorem q_7 : Cond.initialized "CountingNetworkModel" ∈ TT := TT_mem (List.mem_of_getElem? (i := 52) (by decide +kernel)) rfl
theorem q_28 : Cond.fieldLink "CountingNetwork$Plan" (30 : Nat) "CountingNetwork$Plan" "width" "I" ∈ TT := TT_mem (List.mem_of_getElem? (i := 73) (by decide +kernel)) rfl
theorem q_29 : Cond.fieldLink "CountingNetwork" (78 : Nat) "CountingNetwork$Plan" "width" "I" ∈ TT := TT_mem (List.mem_of_getElem? (i := 74) (by decide +kernel)) rfl
theorem q_30 : Cond.fieldLink "CountingNetwork$Plan" (34 : Nat) "CountingNetwork$Plan" "balancers" "I" ∈ TT := TT_mem (List.mem_of_getElem? (i := 75) (by decide +kernel)) rfl
theorem q_31 : Cond.fieldLink "CountingNetwork" (54 : Nat) "CountingNetwork$Plan" "balancers" "I" ∈ TT := TT_mem (List.mem_of_getElem? (i := 76) (by decide +kernel)) rfl
theorem q_32 : Cond.fieldLink "CountingNetwork$Plan" (37 : Nat) "CountingNetwork$Plan" "columns" "I" ∈ TT := TT_mem (List.mem_of_getElem? (i := 77) (by decide +kernel)) rfl
theorem q_33 : Cond.fieldLink "CountingNetwork" (184 : Nat) "CountingNetwork$Plan" "columns" "I" ∈ TT := TT_mem (List.mem_of_getElem? (i := 78) (by decide +kernel)) rfl
theorem q_34 : Cond.fieldLink "CountingNetwork$Plan" (9 : Nat) "CountingNetwork$Plan" "upper" "[I" ∈ TT := TT_mem (List.mem_of_getElem? (i := 79) (by decide +kernel)) rfl
theorem q_35 : Cond.fieldLink "CountingNetwork" (63 : Nat) "CountingNetwork$Plan" "upper" "[I" ∈ TT := TT_mem (List.mem_of_getElem? (i := 80) (by decide +kernel)) rfl
theorem q_36 : Cond.fieldLink "CountingNetwork$Plan" (15 : Nat) "CountingNetwork$Plan" "lower" "[I" ∈ TT := TT_mem (List.mem_of_getElem? (i := 81) (by decide +kernel)) rfl
theorem q_37 : Cond.fieldLink "CountingNetwork" (66 : Nat) "CountingNetwork$Plan" "lower" "[I" ∈ TT := TT_mem (List.mem_of_getElem? (i := 82) (by decide +kernel)) rfl
theorem q_38 : Cond.fieldLink "CountingNetwork$Plan" (18 : Nat) "CountingNetwork$Plan" "column" "[I" ∈ TT := TT_mem (List.mem_of_getElem? (i := 83) (by decide +kernel)) rfl
theorem q_39 : Cond.fieldLink "CountingNetwork" (69 : Nat) "CountingNetwork$Plan" "column" "[I" ∈ TT := TT_mem (List.mem_of_getElem? (i := 84) (by decide +kernel)) rfl
theorem q_40 : Cond.fieldLink "CountingNetwork$Plan" (21 : Nat) "CountingNetwork$Plan" "row" "[I" ∈ TT := TT_mem (List.mem_of_getElem? (i := 85) (by decide +kernel)) rfl
theorem q_41 : Cond.fieldLink "CountingNetwork" (82 : Nat) "CountingNetwork$Plan" "row" "[I" ∈ TT := TT_mem (List.mem_of_getElem? (i := 86) (by decide +kernel)) rfl
theorem q_42 : Cond.fieldLink "CountingNetwork$Plan" (24 : Nat) "CountingNetwork$Plan" "columnsOnWire" "[I" ∈ TT := TT_mem (List.mem_of_getElem? (i := 87) (by decide +kernel)) rfl
theorem q_43 : Cond.fieldLink "CountingNetwork$Plan" (27 : Nat) "CountingNetwork$Plan" "spare" "[I" ∈ TT := TT_mem (List.mem_of_getElem? (i := 88) (by decide +kernel)) rfl
theorem q_44 : Cond.lays "CountingNetwork$Plan" "CountingNetwork$Plan" "width" "I" ∈ TT := TT_mem (List.mem_of_getElem? (i := 89) (by decide +kernel)) rfl
theorem q_46 : Cond.lays "CountingNetwork$Plan" "CountingNetwork$Plan" "balancers" "I" ∈ TT := TT_mem (List.mem_of_getElem? (i := 91) (by decide +kernel)) rfl
theorem q_48 : Cond.lays "CountingNetwork$Plan" "CountingNetwork$Plan" "columns" "I" ∈ TT := TT_mem (List.mem_of_getElem? (i := 93) (by decide +kernel)) rfl
theorem q_50 : Cond.laysFinal "CountingNetwork$Plan" "CountingNetwork$Plan" "upper" "[I" ∈ TT := TT_mem (List.mem_of_getElem? (i := 95) (by decide +kernel)) rfl
theorem q_52 : Cond.laysFinal "CountingNetwork$Plan" "CountingNetwork$Plan" "lower" "[I" ∈ TT := TT_mem (List.mem_of_getElem? (i := 97) (by decide +kernel)) rfl
theorem q_54 : Cond.laysFinal "CountingNetwork$Plan" "CountingNetwork$Plan" "column" "[I" ∈ TT := TT_mem (List.mem_of_getElem? (i := 99) (by decide +kernel)) rfl
theorem q_56 : Cond.laysFinal "CountingNetwork$Plan" "CountingNetwork$Plan" "row" "[I" ∈ TT := TT_mem (List.mem_of_getElem? (i := 101) (by decide +kernel)) rfl
theorem q_58 : Cond.laysFinal "CountingNetwork$Plan" "CountingNetwork$Plan" "columnsOnWire" "[I" ∈ TT := TT_mem (List.mem_of_getElem? (i := 103) (by decide +kernel)) rfl
theorem q_60 : Cond.laysFinal "CountingNetwork$Plan" "CountingNetwork$Plan" "spare" "[I" ∈ TT := TT_mem (List.mem_of_getElem? (i := 105) (by decide +kernel)) rfl
theorem q_70 : Cond.fieldLink "CountingNetwork$Tokens" (37 : Nat) "CountingNetwork$Tokens" "entered" "I" ∈ TT := TT_mem (List.mem_of_getElem? (i := 115) (by decide +kernel)) rfl
theorem q_71 : Cond.fieldLink "CountingNetwork" (90 : Nat) "CountingNetwork$Tokens" "entered" "I" ∈ TT := TT_mem (List.mem_of_getElem? (i := 116) (by decide +kernel)) rfl
theorem q_72 : Cond.fieldLink "CountingNetwork$Tokens" (41 : Nat) "CountingNetwork$Tokens" "notDone" "I" ∈ TT := TT_mem (List.mem_of_getElem? (i := 117) (by decide +kernel)) rfl
theorem q_73 : Cond.fieldLink "CountingNetwork" (93 : Nat) "CountingNetwork$Tokens" "notDone" "I" ∈ TT := TT_mem (List.mem_of_getElem? (i := 118) (by decide +kernel)) rfl
theorem q_74 : Cond.fieldLink "CountingNetwork$Tokens" (9 : Nat) "CountingNetwork$Tokens" "wire" "[I" ∈ TT := TT_mem (List.mem_of_getElem? (i := 119) (by decide +kernel)) rfl
theorem q_75 : Cond.fieldLink "CountingNetwork" (166 : Nat) "CountingNetwork$Tokens" "wire" "[I" ∈ TT := TT_mem (List.mem_of_getElem? (i := 120) (by decide +kernel)) rfl
theorem q_76 : Cond.fieldLink "CountingNetwork$Tokens" (15 : Nat) "CountingNetwork$Tokens" "place" "[I" ∈ TT := TT_mem (List.mem_of_getElem? (i := 121) (by decide +kernel)) rfl
theorem q_77 : Cond.fieldLink "CountingNetwork" (168 : Nat) "CountingNetwork$Tokens" "place" "[I" ∈ TT := TT_mem (List.mem_of_getElem? (i := 122) (by decide +kernel)) rfl
theorem q_78 : Cond.fieldLink "CountingNetwork$Tokens" (18 : Nat) "CountingNetwork$Tokens" "state" "[I" ∈ TT := TT_mem (List.mem_of_getElem? (i := 123) (by decide +kernel)) rfl
theorem q_79 : Cond.fieldLink "CountingNetwork" (151 : Nat) "CountingNetwork$Tokens" "state" "[I" ∈ TT := TT_mem (List.mem_of_getElem? (i := 124) (by decide +kernel)) rfl
theorem q_80 : Cond.fieldLink "CountingNetwork$Tokens" (21 : Nat) "CountingNetwork$Tokens" "passed" "[I" ∈ TT := TT_mem (List.mem_of_getElem? (i := 125) (by decide +kernel)) rfl
theorem q_81 : Cond.fieldLink "CountingNetwork" (171 : Nat) "CountingNetwork$Tokens" "passed" "[I" ∈ TT := TT_mem (List.mem_of_getElem? (i := 126) (by decide +kernel)) rfl
theorem q_82 : Cond.fieldLink "CountingNetwork$Tokens" (24 : Nat) "CountingNetwork$Tokens" "last" "[I" ∈ TT := TT_mem (List.mem_of_getElem? (i := 127) (by decide +kernel)) rfl
theorem q_83 : Cond.fieldLink "CountingNetwork" (202 : Nat) "CountingNetwork$Tokens" "last" "[I" ∈ TT := TT_mem (List.mem_of_getElem? (i := 128) (by decide +kernel)) rfl
theorem q_84 : Cond.fieldLink "CountingNetwork$Tokens" (27 : Nat) "CountingNetwork$Tokens" "way" "[I" ∈ TT := TT_mem (List.mem_of_getElem? (i := 129) (by decide +kernel)) rfl
theorem q_85 : Cond.fieldLink "CountingNetwork" (154 : Nat) "CountingNetwork$Tokens" "way" "[I" ∈ TT := TT_mem (List.mem_of_getElem? (i := 130) (by decide +kernel)) rfl
theorem q_86 : Cond.fieldLink "CountingNetwork$Tokens" (30 : Nat) "CountingNetwork$Tokens" "number" "[I" ∈ TT := TT_mem (List.mem_of_getElem? (i := 131) (by decide +kernel)) rfl
theorem q_87 : Cond.fieldLink "CountingNetwork" (239 : Nat) "CountingNetwork$Tokens" "number" "[I" ∈ TT := TT_mem (List.mem_of_getElem? (i := 132) (by decide +kernel)) rfl
theorem q_88 : Cond.fieldLink "CountingNetwork$Tokens" (33 : Nat) "CountingNetwork$Tokens" "ordered" "[Z" ∈ TT := TT_mem (List.mem_of_getElem? (i := 133) (by decide +kernel)) rfl
theorem q_89 : Cond.fieldLink "CountingNetwork" (242 : Nat) "CountingNetwork$Tokens" "ordered" "[Z" ∈ TT := TT_mem (List.mem_of_getElem? (i := 134) (by decide +kernel)) rfl
theorem q_90 : Cond.lays "CountingNetwork$Tokens" "CountingNetwork$Tokens" "entered" "I" ∈ TT := TT_mem (List.mem_of_getElem? (i := 135) (by decide +kernel)) rfl
theorem q_92 : Cond.lays "CountingNetwork$Tokens" "CountingNetwork$Tokens" "notDone" "I" ∈ TT := TT_mem (List.mem_of_getElem? (i := 137) (by decide +kernel)) rfl
theorem q_94 : Cond.laysFinal "CountingNetwork$Tokens" "CountingNetwork$Tokens" "wire" "[I" ∈ TT := TT_mem (List.mem_of_getElem? (i := 139) (by decide +kernel)) rfl
theorem q_96 : Cond.laysFinal "CountingNetwork$Tokens" "CountingNetwork$Tokens" "place" "[I" ∈ TT := TT_mem (List.mem_of_getElem? (i := 141) (by decide +kernel)) rfl
theorem q_98 : Cond.laysFinal "CountingNetwork$Tokens" "CountingNetwork$Tokens" "state" "[I" ∈ TT := TT_mem (List.mem_of_getElem? (i := 143) (by decide +kernel)) rfl
theorem q_100 : Cond.laysFinal "CountingNetwork$Tokens" "CountingNetwork$Tokens" "passed" "[I" ∈ TT := TT_mem (List.mem_of_getElem? (i := 145) (by decide +kernel)) rfl
theorem q_102 : Cond.laysFinal "CountingNetwork$Tokens" "CountingNetwork$Tokens" "last" "[I" ∈ TT := TT_mem (List.mem_of_getElem? (i := 147) (by decide +kernel)) rfl
theorem q_104 : Cond.laysFinal "CountingNetwork$Tokens" "CountingNetwork$Tokens" "way" "[I" ∈ TT := TT_mem (List.mem_of_getElem? (i := 149) (by decide +kernel)) rfl
theorem q_106 : Cond.laysFinal "CountingNetwork$Tokens" "CountingNetwork$Tokens" "number" "[I" ∈ TT := TT_mem (List.mem_of_getElem? (i := 151) (by decide +kernel)) rfl
theorem q_108 : Cond.laysFinal "CountingNetwork$Tokens" "CountingNetwork$Tokens" "ordered" "[Z" ∈ TT := TT_mem (List.mem_of_getElem? (i := 153) (by decide +kernel)) rfl
theorem q_118 : Cond.fieldLink "CountingNetwork$Bag" (21 : Nat) "CountingNetwork$Bag" "size" "I" ∈ TT := TT_mem (List.mem_of_getElem? (i := 163) (by decide +kernel)) rfl
theorem q_119 : Cond.fieldLink "CountingNetwork" (148 : Nat) "CountingNetwork$Bag" "size" "I" ∈ TT := TT_mem (List.mem_of_getElem? (i := 164) (by decide +kernel)) rfl
theorem q_120 : Cond.fieldLink "CountingNetwork$Bag" (9 : Nat) "CountingNetwork$Bag" "addressee" "[I" ∈ TT := TT_mem (List.mem_of_getElem? (i := 165) (by decide +kernel)) rfl
theorem q_121 : Cond.fieldLink "CountingNetwork" (135 : Nat) "CountingNetwork$Bag" "addressee" "[I" ∈ TT := TT_mem (List.mem_of_getElem? (i := 166) (by decide +kernel)) rfl
theorem q_122 : Cond.fieldLink "CountingNetwork$Bag" (15 : Nat) "CountingNetwork$Bag" "way" "[I" ∈ TT := TT_mem (List.mem_of_getElem? (i := 167) (by decide +kernel)) rfl
theorem q_123 : Cond.fieldLink "CountingNetwork" (138 : Nat) "CountingNetwork$Bag" "way" "[I" ∈ TT := TT_mem (List.mem_of_getElem? (i := 168) (by decide +kernel)) rfl
theorem q_124 : Cond.fieldLink "CountingNetwork$Bag" (18 : Nat) "CountingNetwork$Bag" "target" "[I" ∈ TT := TT_mem (List.mem_of_getElem? (i := 169) (by decide +kernel)) rfl
theorem q_125 : Cond.fieldLink "CountingNetwork" (141 : Nat) "CountingNetwork$Bag" "target" "[I" ∈ TT := TT_mem (List.mem_of_getElem? (i := 170) (by decide +kernel)) rfl
theorem q_126 : Cond.lays "CountingNetwork$Bag" "CountingNetwork$Bag" "size" "I" ∈ TT := TT_mem (List.mem_of_getElem? (i := 171) (by decide +kernel)) rfl
theorem q_128 : Cond.laysFinal "CountingNetwork$Bag" "CountingNetwork$Bag" "addressee" "[I" ∈ TT := TT_mem (List.mem_of_getElem? (i := 173) (by decide +kernel)) rfl
theorem q_130 : Cond.laysFinal "CountingNetwork$Bag" "CountingNetwork$Bag" "way" "[I" ∈ TT := TT_mem (List.mem_of_getElem? (i := 175) (by decide +kernel)) rfl
theorem q_132 : Cond.laysFinal "CountingNetwork$Bag" "CountingNetwork$Bag" "target" "[I" ∈ TT := TT_mem (List.mem_of_getElem? (i := 177) (by decide +kernel)) rfl
theorem q_135 : Cond.methodLink "CountingNetwork" (41 : Nat) ({ cls := "CountingNetwork", name := "startAnew", desc := "(II)V" } : MethodName) ∈ TT := TT_mem (List.mem_of_getElem? (i := 180) (by decide +kernel)) rfl
theorem q_137 : Cond.instanceMethod ({ cls := "CountingNetwork", name := "startAnew", desc := "(II)V" } : MethodName) ∈ TT := TT_mem (List.mem_of_getElem? (i := 182) (by decide +kernel)) rfl
theorem q_138 : Cond.code ({ cls := "CountingNetwork", name := "startAnew", desc := "(II)V" } : MethodName) prog_1_method_16_code (4 : Nat) (Option.none : Option Jvm.ClassFile.FieldType) ∈ TT := TT_mem (List.mem_of_getElem? (i := 183) (by decide +kernel)) rfl
theorem q_139 : Cond.methodLink "CountingNetwork" (195 : Nat) ({ cls := "CountingNetwork$Plan", name := "drawFor", desc := "(I)V" } : MethodName) ∈ TT := TT_mem (List.mem_of_getElem? (i := 184) (by decide +kernel)) rfl
theorem q_140 : Cond.instanceMethod ({ cls := "CountingNetwork$Plan", name := "drawFor", desc := "(I)V" } : MethodName) ∈ TT := TT_mem (List.mem_of_getElem? (i := 185) (by decide +kernel)) rfl
theorem q_141 : Cond.selects "CountingNetwork$Plan" ({ cls := "CountingNetwork$Plan", name := "drawFor", desc := "(I)V" } : MethodName) ({ cls := "CountingNetwork$Plan", name := "drawFor", desc := "(I)V" } : MethodName) ∈ TT := TT_mem (List.mem_of_getElem? (i := 186) (by decide +kernel)) rfl
theorem q_142 : Cond.code ({ cls := "CountingNetwork$Plan", name := "drawFor", desc := "(I)V" } : MethodName) prog_3_method_2_code (3 : Nat) (Option.none : Option Jvm.ClassFile.FieldType) ∈ TT := TT_mem (List.mem_of_getElem? (i := 187) (by decide +kernel)) rfl
theorem q_143 : Cond.methodLink "CountingNetwork$Plan" (40 : Nat) ({ cls := "CountingNetwork$Plan", name := "layOut", desc := "(II)V" } : MethodName) ∈ TT := TT_mem (List.mem_of_getElem? (i := 188) (by decide +kernel)) rfl
theorem q_145 : Cond.instanceMethod ({ cls := "CountingNetwork$Plan", name := "layOut", desc := "(II)V" } : MethodName) ∈ TT := TT_mem (List.mem_of_getElem? (i := 190) (by decide +kernel)) rfl
theorem q_146 : Cond.code ({ cls := "CountingNetwork$Plan", name := "layOut", desc := "(II)V" } : MethodName) prog_3_method_5_code (4 : Nat) (Option.none : Option Jvm.ClassFile.FieldType) ∈ TT := TT_mem (List.mem_of_getElem? (i := 191) (by decide +kernel)) rfl
theorem q_147 : Cond.methodLink "CountingNetwork$Plan" (44 : Nat) ({ cls := "CountingNetwork$Plan", name := "merge", desc := "(II)V" } : MethodName) ∈ TT := TT_mem (List.mem_of_getElem? (i := 192) (by decide +kernel)) rfl
theorem q_149 : Cond.instanceMethod ({ cls := "CountingNetwork$Plan", name := "merge", desc := "(II)V" } : MethodName) ∈ TT := TT_mem (List.mem_of_getElem? (i := 194) (by decide +kernel)) rfl
theorem q_150 : Cond.code ({ cls := "CountingNetwork$Plan", name := "merge", desc := "(II)V" } : MethodName) prog_3_method_6_code (4 : Nat) (Option.none : Option Jvm.ClassFile.FieldType) ∈ TT := TT_mem (List.mem_of_getElem? (i := 195) (by decide +kernel)) rfl
theorem q_151 : Cond.methodLink "CountingNetwork$Plan" (47 : Nat) ({ cls := "CountingNetwork$Plan", name := "lay", desc := "(II)V" } : MethodName) ∈ TT := TT_mem (List.mem_of_getElem? (i := 196) (by decide +kernel)) rfl
theorem q_153 : Cond.instanceMethod ({ cls := "CountingNetwork$Plan", name := "lay", desc := "(II)V" } : MethodName) ∈ TT := TT_mem (List.mem_of_getElem? (i := 198) (by decide +kernel)) rfl
theorem q_154 : Cond.code ({ cls := "CountingNetwork$Plan", name := "lay", desc := "(II)V" } : MethodName) prog_3_method_9_code (4 : Nat) (Option.none : Option Jvm.ClassFile.FieldType) ∈ TT := TT_mem (List.mem_of_getElem? (i := 199) (by decide +kernel)) rfl
theorem q_155 : Cond.methodLink "CountingNetwork$Plan" (62 : Nat) ({ cls := "java/lang/Math", name := "max", desc := "(II)I" } : MethodName) ∈ TT := TT_mem (List.mem_of_getElem? (i := 200) (by decide +kernel)) rfl
theorem q_156 : Cond.static ({ cls := "java/lang/Math", name := "max", desc := "(II)I" } : MethodName) ∈ TT := TT_mem (List.mem_of_getElem? (i := 201) (by decide +kernel)) rfl
theorem q_157 : Cond.code ({ cls := "java/lang/Math", name := "max", desc := "(II)I" } : MethodName) prog_11_method_65_code (2 : Nat) (Option.some FieldType.int) ∈ TT := TT_mem (List.mem_of_getElem? (i := 202) (by decide +kernel)) rfl
theorem q_158 : Cond.methodLink "CountingNetwork$Plan" (50 : Nat) ({ cls := "CountingNetwork$Plan", name := "sortIntoParts", desc := "(II)V" } : MethodName) ∈ TT := TT_mem (List.mem_of_getElem? (i := 203) (by decide +kernel)) rfl
theorem q_160 : Cond.instanceMethod ({ cls := "CountingNetwork$Plan", name := "sortIntoParts", desc := "(II)V" } : MethodName) ∈ TT := TT_mem (List.mem_of_getElem? (i := 205) (by decide +kernel)) rfl
theorem q_161 : Cond.code ({ cls := "CountingNetwork$Plan", name := "sortIntoParts", desc := "(II)V" } : MethodName) prog_3_method_7_code (6 : Nat) (Option.none : Option Jvm.ClassFile.FieldType) ∈ TT := TT_mem (List.mem_of_getElem? (i := 206) (by decide +kernel)) rfl
theorem q_162 : Cond.methodLink "CountingNetwork$Plan" (56 : Nat) ({ cls := "java/lang/System", name := "arraycopy", desc := "(Ljava/lang/Object;ILjava/lang/Object;II)V" } : MethodName) ∈ TT := TT_mem (List.mem_of_getElem? (i := 207) (by decide +kernel)) rfl
theorem q_163 : Cond.static ({ cls := "java/lang/System", name := "arraycopy", desc := "(Ljava/lang/Object;ILjava/lang/Object;II)V" } : MethodName) ∈ TT := TT_mem (List.mem_of_getElem? (i := 208) (by decide +kernel)) rfl
theorem q_164 : Cond.native ({ cls := "java/lang/System", name := "arraycopy", desc := "(Ljava/lang/Object;ILjava/lang/Object;II)V" } : MethodName) ∈ TT := TT_mem (List.mem_of_getElem? (i := 209) (by decide +kernel)) rfl
theorem q_165 : Cond.methodLink "CountingNetwork$Plan" (53 : Nat) ({ cls := "CountingNetwork$Plan", name := "joinParts", desc := "(II)V" } : MethodName) ∈ TT := TT_mem (List.mem_of_getElem? (i := 210) (by decide +kernel)) rfl
theorem q_167 : Cond.instanceMethod ({ cls := "CountingNetwork$Plan", name := "joinParts", desc := "(II)V" } : MethodName) ∈ TT := TT_mem (List.mem_of_getElem? (i := 212) (by decide +kernel)) rfl
theorem q_168 : Cond.code ({ cls := "CountingNetwork$Plan", name := "joinParts", desc := "(II)V" } : MethodName) prog_3_method_8_code (4 : Nat) (Option.none : Option Jvm.ClassFile.FieldType) ∈ TT := TT_mem (List.mem_of_getElem? (i := 213) (by decide +kernel)) rfl
theorem q_169 : Cond.methodLink "CountingNetwork" (198 : Nat) ({ cls := "CountingNetwork$Tokens", name := "clear", desc := "()V" } : MethodName) ∈ TT := TT_mem (List.mem_of_getElem? (i := 214) (by decide +kernel)) rfl
theorem q_170 : Cond.instanceMethod ({ cls := "CountingNetwork$Tokens", name := "clear", desc := "()V" } : MethodName) ∈ TT := TT_mem (List.mem_of_getElem? (i := 215) (by decide +kernel)) rfl
theorem q_171 : Cond.selects "CountingNetwork$Tokens" ({ cls := "CountingNetwork$Tokens", name := "clear", desc := "()V" } : MethodName) ({ cls := "CountingNetwork$Tokens", name := "clear", desc := "()V" } : MethodName) ∈ TT := TT_mem (List.mem_of_getElem? (i := 216) (by decide +kernel)) rfl
theorem q_172 : Cond.code ({ cls := "CountingNetwork$Tokens", name := "clear", desc := "()V" } : MethodName) prog_4_method_2_code (1 : Nat) (Option.none : Option Jvm.ClassFile.FieldType) ∈ TT := TT_mem (List.mem_of_getElem? (i := 217) (by decide +kernel)) rfl
theorem q_173 : Cond.methodLink "CountingNetwork" (201 : Nat) ({ cls := "CountingNetwork$Bag", name := "clear", desc := "()V" } : MethodName) ∈ TT := TT_mem (List.mem_of_getElem? (i := 218) (by decide +kernel)) rfl
theorem q_174 : Cond.instanceMethod ({ cls := "CountingNetwork$Bag", name := "clear", desc := "()V" } : MethodName) ∈ TT := TT_mem (List.mem_of_getElem? (i := 219) (by decide +kernel)) rfl
theorem q_175 : Cond.selects "CountingNetwork$Bag" ({ cls := "CountingNetwork$Bag", name := "clear", desc := "()V" } : MethodName) ({ cls := "CountingNetwork$Bag", name := "clear", desc := "()V" } : MethodName) ∈ TT := TT_mem (List.mem_of_getElem? (i := 220) (by decide +kernel)) rfl
theorem q_176 : Cond.code ({ cls := "CountingNetwork$Bag", name := "clear", desc := "()V" } : MethodName) prog_2_method_2_code (1 : Nat) (Option.none : Option Jvm.ClassFile.FieldType) ∈ TT := TT_mem (List.mem_of_getElem? (i := 221) (by decide +kernel)) rfl
theorem q_177 : Cond.fieldLink "CountingNetwork" (10 : Nat) "CountingNetwork" "plan" "LCountingNetwork$Plan;" ∈ TT := TT_mem (List.mem_of_getElem? (i := 222) (by decide +kernel)) rfl
theorem q_178 : Cond.fieldLink "CountingNetwork" (19 : Nat) "CountingNetwork" "tokens" "LCountingNetwork$Tokens;" ∈ TT := TT_mem (List.mem_of_getElem? (i := 223) (by decide +kernel)) rfl
theorem q_179 : Cond.fieldLink "CountingNetwork" (26 : Nat) "CountingNetwork" "bag" "LCountingNetwork$Bag;" ∈ TT := TT_mem (List.mem_of_getElem? (i := 224) (by decide +kernel)) rfl
theorem q_180 : Cond.fieldLink "CountingNetwork" (30 : Nat) "CountingNetwork" "had" "[I" ∈ TT := TT_mem (List.mem_of_getElem? (i := 225) (by decide +kernel)) rfl
theorem q_181 : Cond.fieldLink "CountingNetwork" (34 : Nat) "CountingNetwork" "handedOut" "[I" ∈ TT := TT_mem (List.mem_of_getElem? (i := 226) (by decide +kernel)) rfl
theorem q_182 : Cond.fieldLink "CountingNetwork" (37 : Nat) "CountingNetwork" "down" "[Z" ∈ TT := TT_mem (List.mem_of_getElem? (i := 227) (by decide +kernel)) rfl
theorem q_183 : Cond.fieldLink "CountingNetwork" (162 : Nat) "CountingNetwork" "stations" "I" ∈ TT := TT_mem (List.mem_of_getElem? (i := 228) (by decide +kernel)) rfl
theorem q_184 : Cond.laysFinal "CountingNetwork" "CountingNetwork" "plan" "LCountingNetwork$Plan;" ∈ TT := TT_mem (List.mem_of_getElem? (i := 229) (by decide +kernel)) rfl
theorem q_186 : Cond.laysFinal "CountingNetwork" "CountingNetwork" "tokens" "LCountingNetwork$Tokens;" ∈ TT := TT_mem (List.mem_of_getElem? (i := 231) (by decide +kernel)) rfl
theorem q_188 : Cond.laysFinal "CountingNetwork" "CountingNetwork" "bag" "LCountingNetwork$Bag;" ∈ TT := TT_mem (List.mem_of_getElem? (i := 233) (by decide +kernel)) rfl
theorem q_190 : Cond.laysFinal "CountingNetwork" "CountingNetwork" "had" "[I" ∈ TT := TT_mem (List.mem_of_getElem? (i := 235) (by decide +kernel)) rfl
theorem q_192 : Cond.laysFinal "CountingNetwork" "CountingNetwork" "handedOut" "[I" ∈ TT := TT_mem (List.mem_of_getElem? (i := 237) (by decide +kernel)) rfl
theorem q_194 : Cond.laysFinal "CountingNetwork" "CountingNetwork" "down" "[Z" ∈ TT := TT_mem (List.mem_of_getElem? (i := 239) (by decide +kernel)) rfl
theorem q_196 : Cond.lays "CountingNetwork" "CountingNetwork" "stations" "I" ∈ TT := TT_mem (List.mem_of_getElem? (i := 241) (by decide +kernel)) rfl
theorem q_203 : Cond.methodLink "CountingNetwork" (129 : Nat) ({ cls := "CountingNetwork$Bag", name := "hasRoom", desc := "()Z" } : MethodName) ∈ TT := TT_mem (List.mem_of_getElem? (i := 248) (by decide +kernel)) rfl
theorem q_204 : Cond.instanceMethod ({ cls := "CountingNetwork$Bag", name := "hasRoom", desc := "()Z" } : MethodName) ∈ TT := TT_mem (List.mem_of_getElem? (i := 249) (by decide +kernel)) rfl
theorem q_205 : Cond.selects "CountingNetwork$Bag" ({ cls := "CountingNetwork$Bag", name := "hasRoom", desc := "()Z" } : MethodName) ({ cls := "CountingNetwork$Bag", name := "hasRoom", desc := "()Z" } : MethodName) ∈ TT := TT_mem (List.mem_of_getElem? (i := 250) (by decide +kernel)) rfl
theorem q_206 : Cond.code ({ cls := "CountingNetwork$Bag", name := "hasRoom", desc := "()Z" } : MethodName) prog_2_method_4_code (1 : Nat) (Option.some FieldType.boolean) ∈ TT := TT_mem (List.mem_of_getElem? (i := 251) (by decide +kernel)) rfl
theorem q_207 : Cond.methodLink "CountingNetwork" (155 : Nat) ({ cls := "CountingNetwork$Bag", name := "holds", desc := "(II)Z" } : MethodName) ∈ TT := TT_mem (List.mem_of_getElem? (i := 252) (by decide +kernel)) rfl
theorem q_208 : Cond.instanceMethod ({ cls := "CountingNetwork$Bag", name := "holds", desc := "(II)Z" } : MethodName) ∈ TT := TT_mem (List.mem_of_getElem? (i := 253) (by decide +kernel)) rfl
theorem q_209 : Cond.selects "CountingNetwork$Bag" ({ cls := "CountingNetwork$Bag", name := "holds", desc := "(II)Z" } : MethodName) ({ cls := "CountingNetwork$Bag", name := "holds", desc := "(II)Z" } : MethodName) ∈ TT := TT_mem (List.mem_of_getElem? (i := 254) (by decide +kernel)) rfl
theorem q_210 : Cond.code ({ cls := "CountingNetwork$Bag", name := "holds", desc := "(II)Z" } : MethodName) prog_2_method_5_code (4 : Nat) (Option.some FieldType.boolean) ∈ TT := TT_mem (List.mem_of_getElem? (i := 255) (by decide +kernel)) rfl
theorem q_211 : Cond.methodLink "CountingNetwork" (159 : Nat) ({ cls := "CountingNetwork", name := "stationOfNext", desc := "(I)I" } : MethodName) ∈ TT := TT_mem (List.mem_of_getElem? (i := 256) (by decide +kernel)) rfl
theorem q_213 : Cond.instanceMethod ({ cls := "CountingNetwork", name := "stationOfNext", desc := "(I)I" } : MethodName) ∈ TT := TT_mem (List.mem_of_getElem? (i := 258) (by decide +kernel)) rfl
theorem q_214 : Cond.code ({ cls := "CountingNetwork", name := "stationOfNext", desc := "(I)I" } : MethodName) prog_1_method_20_code (3 : Nat) (Option.some FieldType.int) ∈ TT := TT_mem (List.mem_of_getElem? (i := 259) (by decide +kernel)) rfl
theorem q_215 : Cond.methodLink "CountingNetwork" (209 : Nat) ({ cls := "CountingNetwork", name := "nextBalancer", desc := "(I)I" } : MethodName) ∈ TT := TT_mem (List.mem_of_getElem? (i := 260) (by decide +kernel)) rfl
theorem q_217 : Cond.instanceMethod ({ cls := "CountingNetwork", name := "nextBalancer", desc := "(I)I" } : MethodName) ∈ TT := TT_mem (List.mem_of_getElem? (i := 262) (by decide +kernel)) rfl
theorem q_218 : Cond.code ({ cls := "CountingNetwork", name := "nextBalancer", desc := "(I)I" } : MethodName) prog_1_method_19_code (2 : Nat) (Option.some FieldType.int) ∈ TT := TT_mem (List.mem_of_getElem? (i := 263) (by decide +kernel)) rfl
theorem q_219 : Cond.methodLink "CountingNetwork" (205 : Nat) ({ cls := "CountingNetwork$Plan", name := "balancerBehind", desc := "(II)I" } : MethodName) ∈ TT := TT_mem (List.mem_of_getElem? (i := 264) (by decide +kernel)) rfl
theorem q_220 : Cond.instanceMethod ({ cls := "CountingNetwork$Plan", name := "balancerBehind", desc := "(II)I" } : MethodName) ∈ TT := TT_mem (List.mem_of_getElem? (i := 265) (by decide +kernel)) rfl
theorem q_221 : Cond.selects "CountingNetwork$Plan" ({ cls := "CountingNetwork$Plan", name := "balancerBehind", desc := "(II)I" } : MethodName) ({ cls := "CountingNetwork$Plan", name := "balancerBehind", desc := "(II)I" } : MethodName) ∈ TT := TT_mem (List.mem_of_getElem? (i := 266) (by decide +kernel)) rfl
theorem q_222 : Cond.code ({ cls := "CountingNetwork$Plan", name := "balancerBehind", desc := "(II)I" } : MethodName) prog_3_method_3_code (4 : Nat) (Option.some FieldType.int) ∈ TT := TT_mem (List.mem_of_getElem? (i := 267) (by decide +kernel)) rfl
theorem q_223 : Cond.methodLink "CountingNetwork" (212 : Nat) ({ cls := "CountingNetwork$Plan", name := "exitOf", desc := "(I)I" } : MethodName) ∈ TT := TT_mem (List.mem_of_getElem? (i := 268) (by decide +kernel)) rfl
theorem q_224 : Cond.instanceMethod ({ cls := "CountingNetwork$Plan", name := "exitOf", desc := "(I)I" } : MethodName) ∈ TT := TT_mem (List.mem_of_getElem? (i := 269) (by decide +kernel)) rfl
theorem q_225 : Cond.selects "CountingNetwork$Plan" ({ cls := "CountingNetwork$Plan", name := "exitOf", desc := "(I)I" } : MethodName) ({ cls := "CountingNetwork$Plan", name := "exitOf", desc := "(I)I" } : MethodName) ∈ TT := TT_mem (List.mem_of_getElem? (i := 270) (by decide +kernel)) rfl
theorem q_226 : Cond.code ({ cls := "CountingNetwork$Plan", name := "exitOf", desc := "(I)I" } : MethodName) prog_3_method_4_code (3 : Nat) (Option.some FieldType.int) ∈ TT := TT_mem (List.mem_of_getElem? (i := 271) (by decide +kernel)) rfl
theorem q_227 : Cond.methodLink "CountingNetwork" (85 : Nat) ({ cls := "CountingNetwork", name := "stationOfExit", desc := "(I)I" } : MethodName) ∈ TT := TT_mem (List.mem_of_getElem? (i := 272) (by decide +kernel)) rfl
theorem q_229 : Cond.instanceMethod ({ cls := "CountingNetwork", name := "stationOfExit", desc := "(I)I" } : MethodName) ∈ TT := TT_mem (List.mem_of_getElem? (i := 274) (by decide +kernel)) rfl
theorem q_230 : Cond.code ({ cls := "CountingNetwork", name := "stationOfExit", desc := "(I)I" } : MethodName) prog_1_method_18_code (2 : Nat) (Option.some FieldType.int) ∈ TT := TT_mem (List.mem_of_getElem? (i := 275) (by decide +kernel)) rfl
theorem q_231 : Cond.methodLink "CountingNetwork" (72 : Nat) ({ cls := "CountingNetwork", name := "stationOfBalancer", desc := "(I)I" } : MethodName) ∈ TT := TT_mem (List.mem_of_getElem? (i := 276) (by decide +kernel)) rfl
theorem q_233 : Cond.instanceMethod ({ cls := "CountingNetwork", name := "stationOfBalancer", desc := "(I)I" } : MethodName) ∈ TT := TT_mem (List.mem_of_getElem? (i := 278) (by decide +kernel)) rfl
theorem q_234 : Cond.code ({ cls := "CountingNetwork", name := "stationOfBalancer", desc := "(I)I" } : MethodName) prog_1_method_17_code (2 : Nat) (Option.some FieldType.int) ∈ TT := TT_mem (List.mem_of_getElem? (i := 279) (by decide +kernel)) rfl
theorem q_235 : Cond.methodLink "CountingNetwork" (144 : Nat) ({ cls := "CountingNetwork$Bag", name := "post", desc := "(III)V" } : MethodName) ∈ TT := TT_mem (List.mem_of_getElem? (i := 280) (by decide +kernel)) rfl
theorem q_236 : Cond.instanceMethod ({ cls := "CountingNetwork$Bag", name := "post", desc := "(III)V" } : MethodName) ∈ TT := TT_mem (List.mem_of_getElem? (i := 281) (by decide +kernel)) rfl
theorem q_237 : Cond.selects "CountingNetwork$Bag" ({ cls := "CountingNetwork$Bag", name := "post", desc := "(III)V" } : MethodName) ({ cls := "CountingNetwork$Bag", name := "post", desc := "(III)V" } : MethodName) ∈ TT := TT_mem (List.mem_of_getElem? (i := 282) (by decide +kernel)) rfl
theorem q_238 : Cond.code ({ cls := "CountingNetwork$Bag", name := "post", desc := "(III)V" } : MethodName) prog_2_method_6_code (4 : Nat) (Option.none : Option Jvm.ClassFile.FieldType) ∈ TT := TT_mem (List.mem_of_getElem? (i := 283) (by decide +kernel)) rfl
theorem q_374 : Cond.methodLink "CountingNetwork" (101 : Nat) ({ cls := "CountingNetwork$Tokens", name := "add", desc := "(IZ)I" } : MethodName) ∈ TT := TT_mem (List.mem_of_getElem? (i := 419) (by decide +kernel)) rfl
theorem q_375 : Cond.instanceMethod ({ cls := "CountingNetwork$Tokens", name := "add", desc := "(IZ)I" } : MethodName) ∈ TT := TT_mem (List.mem_of_getElem? (i := 420) (by decide +kernel)) rfl
theorem q_376 : Cond.selects "CountingNetwork$Tokens" ({ cls := "CountingNetwork$Tokens", name := "add", desc := "(IZ)I" } : MethodName) ({ cls := "CountingNetwork$Tokens", name := "add", desc := "(IZ)I" } : MethodName) ∈ TT := TT_mem (List.mem_of_getElem? (i := 421) (by decide +kernel)) rfl
theorem q_377 : Cond.code ({ cls := "CountingNetwork$Tokens", name := "add", desc := "(IZ)I" } : MethodName) prog_4_method_4_code (4 : Nat) (Option.some FieldType.int) ∈ TT := TT_mem (List.mem_of_getElem? (i := 422) (by decide +kernel)) rfl
theorem q_385 : Cond.methodLink "CountingNetwork" (105 : Nat) ({ cls := "CountingNetwork$Tokens", name := "has", desc := "(I)Z" } : MethodName) ∈ TT := TT_mem (List.mem_of_getElem? (i := 430) (by decide +kernel)) rfl
theorem q_386 : Cond.instanceMethod ({ cls := "CountingNetwork$Tokens", name := "has", desc := "(I)Z" } : MethodName) ∈ TT := TT_mem (List.mem_of_getElem? (i := 431) (by decide +kernel)) rfl
theorem q_387 : Cond.selects "CountingNetwork$Tokens" ({ cls := "CountingNetwork$Tokens", name := "has", desc := "(I)Z" } : MethodName) ({ cls := "CountingNetwork$Tokens", name := "has", desc := "(I)Z" } : MethodName) ∈ TT := TT_mem (List.mem_of_getElem? (i := 432) (by decide +kernel)) rfl
theorem q_388 : Cond.code ({ cls := "CountingNetwork$Tokens", name := "has", desc := "(I)Z" } : MethodName) prog_4_method_3_code (2 : Nat) (Option.some FieldType.boolean) ∈ TT := TT_mem (List.mem_of_getElem? (i := 433) (by decide +kernel)) rfl
theorem q_390 : Cond.methodLink "CountingNetwork" (111 : Nat) ({ cls := "CountingNetwork", name := "canStep", desc := "(I)Z" } : MethodName) ∈ TT := TT_mem (List.mem_of_getElem? (i := 435) (by decide +kernel)) rfl
theorem q_392 : Cond.instanceMethod ({ cls := "CountingNetwork", name := "canStep", desc := "(I)Z" } : MethodName) ∈ TT := TT_mem (List.mem_of_getElem? (i := 437) (by decide +kernel)) rfl
theorem q_393 : Cond.code ({ cls := "CountingNetwork", name := "canStep", desc := "(I)Z" } : MethodName) prog_1_method_21_code (2 : Nat) (Option.some FieldType.boolean) ∈ TT := TT_mem (List.mem_of_getElem? (i := 438) (by decide +kernel)) rfl
theorem q_394 : Cond.methodLink "CountingNetwork" (215 : Nat) ({ cls := "CountingNetwork", name := "isDown", desc := "(I)Z" } : MethodName) ∈ TT := TT_mem (List.mem_of_getElem? (i := 439) (by decide +kernel)) rfl
theorem q_396 : Cond.instanceMethod ({ cls := "CountingNetwork", name := "isDown", desc := "(I)Z" } : MethodName) ∈ TT := TT_mem (List.mem_of_getElem? (i := 441) (by decide +kernel)) rfl
theorem q_397 : Cond.code ({ cls := "CountingNetwork", name := "isDown", desc := "(I)Z" } : MethodName) prog_1_method_22_code (2 : Nat) (Option.some FieldType.boolean) ∈ TT := TT_mem (List.mem_of_getElem? (i := 442) (by decide +kernel)) rfl
theorem q_399 : Cond.methodLink "CountingNetwork" (116 : Nat) ({ cls := "CountingNetwork", name := "step", desc := "(I)I" } : MethodName) ∈ TT := TT_mem (List.mem_of_getElem? (i := 444) (by decide +kernel)) rfl
theorem q_401 : Cond.instanceMethod ({ cls := "CountingNetwork", name := "step", desc := "(I)I" } : MethodName) ∈ TT := TT_mem (List.mem_of_getElem? (i := 446) (by decide +kernel)) rfl
theorem q_402 : Cond.code ({ cls := "CountingNetwork", name := "step", desc := "(I)I" } : MethodName) prog_1_method_23_code (4 : Nat) (Option.some FieldType.int) ∈ TT := TT_mem (List.mem_of_getElem? (i := 447) (by decide +kernel)) rfl
theorem q_403 : Cond.methodLink "CountingNetwork" (218 : Nat) ({ cls := "CountingNetwork$Tokens", name := "setOut", desc := "(I)V" } : MethodName) ∈ TT := TT_mem (List.mem_of_getElem? (i := 448) (by decide +kernel)) rfl
theorem q_404 : Cond.instanceMethod ({ cls := "CountingNetwork$Tokens", name := "setOut", desc := "(I)V" } : MethodName) ∈ TT := TT_mem (List.mem_of_getElem? (i := 449) (by decide +kernel)) rfl
theorem q_405 : Cond.selects "CountingNetwork$Tokens" ({ cls := "CountingNetwork$Tokens", name := "setOut", desc := "(I)V" } : MethodName) ({ cls := "CountingNetwork$Tokens", name := "setOut", desc := "(I)V" } : MethodName) ∈ TT := TT_mem (List.mem_of_getElem? (i := 450) (by decide +kernel)) rfl
theorem q_406 : Cond.code ({ cls := "CountingNetwork$Tokens", name := "setOut", desc := "(I)V" } : MethodName) prog_4_method_5_code (2 : Nat) (Option.none : Option Jvm.ClassFile.FieldType) ∈ TT := TT_mem (List.mem_of_getElem? (i := 451) (by decide +kernel)) rfl
theorem q_407 : Cond.methodLink "CountingNetwork" (221 : Nat) ({ cls := "CountingNetwork", name := "comeOut", desc := "(II)V" } : MethodName) ∈ TT := TT_mem (List.mem_of_getElem? (i := 452) (by decide +kernel)) rfl
theorem q_409 : Cond.instanceMethod ({ cls := "CountingNetwork", name := "comeOut", desc := "(II)V" } : MethodName) ∈ TT := TT_mem (List.mem_of_getElem? (i := 454) (by decide +kernel)) rfl
theorem q_410 : Cond.code ({ cls := "CountingNetwork", name := "comeOut", desc := "(II)V" } : MethodName) prog_1_method_25_code (3 : Nat) (Option.none : Option Jvm.ClassFile.FieldType) ∈ TT := TT_mem (List.mem_of_getElem? (i := 455) (by decide +kernel)) rfl
theorem q_411 : Cond.methodLink "CountingNetwork" (230 : Nat) ({ cls := "CountingNetwork", name := "nextNumberAt", desc := "(I)I" } : MethodName) ∈ TT := TT_mem (List.mem_of_getElem? (i := 456) (by decide +kernel)) rfl
theorem q_413 : Cond.instanceMethod ({ cls := "CountingNetwork", name := "nextNumberAt", desc := "(I)I" } : MethodName) ∈ TT := TT_mem (List.mem_of_getElem? (i := 458) (by decide +kernel)) rfl
theorem q_414 : Cond.code ({ cls := "CountingNetwork", name := "nextNumberAt", desc := "(I)I" } : MethodName) prog_1_method_26_code (2 : Nat) (Option.some FieldType.int) ∈ TT := TT_mem (List.mem_of_getElem? (i := 459) (by decide +kernel)) rfl
theorem q_415 : Cond.methodLink "CountingNetwork" (233 : Nat) ({ cls := "CountingNetwork$Tokens", name := "finish", desc := "(II)V" } : MethodName) ∈ TT := TT_mem (List.mem_of_getElem? (i := 460) (by decide +kernel)) rfl
theorem q_416 : Cond.instanceMethod ({ cls := "CountingNetwork$Tokens", name := "finish", desc := "(II)V" } : MethodName) ∈ TT := TT_mem (List.mem_of_getElem? (i := 461) (by decide +kernel)) rfl
theorem q_417 : Cond.selects "CountingNetwork$Tokens" ({ cls := "CountingNetwork$Tokens", name := "finish", desc := "(II)V" } : MethodName) ({ cls := "CountingNetwork$Tokens", name := "finish", desc := "(II)V" } : MethodName) ∈ TT := TT_mem (List.mem_of_getElem? (i := 462) (by decide +kernel)) rfl
theorem q_418 : Cond.code ({ cls := "CountingNetwork$Tokens", name := "finish", desc := "(II)V" } : MethodName) prog_4_method_8_code (3 : Nat) (Option.none : Option Jvm.ClassFile.FieldType) ∈ TT := TT_mem (List.mem_of_getElem? (i := 463) (by decide +kernel)) rfl
theorem q_419 : Cond.methodLink "CountingNetwork" (224 : Nat) ({ cls := "CountingNetwork", name := "goThrough", desc := "(II)V" } : MethodName) ∈ TT := TT_mem (List.mem_of_getElem? (i := 464) (by decide +kernel)) rfl
theorem q_421 : Cond.instanceMethod ({ cls := "CountingNetwork", name := "goThrough", desc := "(II)V" } : MethodName) ∈ TT := TT_mem (List.mem_of_getElem? (i := 466) (by decide +kernel)) rfl
theorem q_422 : Cond.code ({ cls := "CountingNetwork", name := "goThrough", desc := "(II)V" } : MethodName) prog_1_method_24_code (4 : Nat) (Option.none : Option Jvm.ClassFile.FieldType) ∈ TT := TT_mem (List.mem_of_getElem? (i := 467) (by decide +kernel)) rfl
theorem q_423 : Cond.methodLink "CountingNetwork" (227 : Nat) ({ cls := "CountingNetwork$Tokens", name := "pass", desc := "(III)V" } : MethodName) ∈ TT := TT_mem (List.mem_of_getElem? (i := 468) (by decide +kernel)) rfl
theorem q_424 : Cond.instanceMethod ({ cls := "CountingNetwork$Tokens", name := "pass", desc := "(III)V" } : MethodName) ∈ TT := TT_mem (List.mem_of_getElem? (i := 469) (by decide +kernel)) rfl
theorem q_425 : Cond.selects "CountingNetwork$Tokens" ({ cls := "CountingNetwork$Tokens", name := "pass", desc := "(III)V" } : MethodName) ({ cls := "CountingNetwork$Tokens", name := "pass", desc := "(III)V" } : MethodName) ∈ TT := TT_mem (List.mem_of_getElem? (i := 470) (by decide +kernel)) rfl
theorem q_426 : Cond.code ({ cls := "CountingNetwork$Tokens", name := "pass", desc := "(III)V" } : MethodName) prog_4_method_7_code (4 : Nat) (Option.none : Option Jvm.ClassFile.FieldType) ∈ TT := TT_mem (List.mem_of_getElem? (i := 471) (by decide +kernel)) rfl
theorem q_434 : Cond.methodLink "CountingNetwork" (119 : Nat) ({ cls := "CountingNetwork$Bag", name := "has", desc := "(I)Z" } : MethodName) ∈ TT := TT_mem (List.mem_of_getElem? (i := 479) (by decide +kernel)) rfl
theorem q_435 : Cond.instanceMethod ({ cls := "CountingNetwork$Bag", name := "has", desc := "(I)Z" } : MethodName) ∈ TT := TT_mem (List.mem_of_getElem? (i := 480) (by decide +kernel)) rfl
theorem q_436 : Cond.selects "CountingNetwork$Bag" ({ cls := "CountingNetwork$Bag", name := "has", desc := "(I)Z" } : MethodName) ({ cls := "CountingNetwork$Bag", name := "has", desc := "(I)Z" } : MethodName) ∈ TT := TT_mem (List.mem_of_getElem? (i := 481) (by decide +kernel)) rfl
theorem q_437 : Cond.code ({ cls := "CountingNetwork$Bag", name := "has", desc := "(I)Z" } : MethodName) prog_2_method_3_code (2 : Nat) (Option.some FieldType.boolean) ∈ TT := TT_mem (List.mem_of_getElem? (i := 482) (by decide +kernel)) rfl
theorem q_439 : Cond.methodLink "CountingNetwork" (122 : Nat) ({ cls := "CountingNetwork", name := "handOver", desc := "(I)Z" } : MethodName) ∈ TT := TT_mem (List.mem_of_getElem? (i := 484) (by decide +kernel)) rfl
theorem q_441 : Cond.instanceMethod ({ cls := "CountingNetwork", name := "handOver", desc := "(I)Z" } : MethodName) ∈ TT := TT_mem (List.mem_of_getElem? (i := 486) (by decide +kernel)) rfl
theorem q_442 : Cond.code ({ cls := "CountingNetwork", name := "handOver", desc := "(I)Z" } : MethodName) prog_1_method_27_code (5 : Nat) (Option.some FieldType.boolean) ∈ TT := TT_mem (List.mem_of_getElem? (i := 487) (by decide +kernel)) rfl
theorem q_443 : Cond.methodLink "CountingNetwork" (125 : Nat) ({ cls := "CountingNetwork$Bag", name := "takeOut", desc := "(I)V" } : MethodName) ∈ TT := TT_mem (List.mem_of_getElem? (i := 488) (by decide +kernel)) rfl
theorem q_444 : Cond.instanceMethod ({ cls := "CountingNetwork$Bag", name := "takeOut", desc := "(I)V" } : MethodName) ∈ TT := TT_mem (List.mem_of_getElem? (i := 489) (by decide +kernel)) rfl
theorem q_445 : Cond.selects "CountingNetwork$Bag" ({ cls := "CountingNetwork$Bag", name := "takeOut", desc := "(I)V" } : MethodName) ({ cls := "CountingNetwork$Bag", name := "takeOut", desc := "(I)V" } : MethodName) ∈ TT := TT_mem (List.mem_of_getElem? (i := 490) (by decide +kernel)) rfl
theorem q_446 : Cond.code ({ cls := "CountingNetwork$Bag", name := "takeOut", desc := "(I)V" } : MethodName) prog_2_method_7_code (3 : Nat) (Option.none : Option Jvm.ClassFile.FieldType) ∈ TT := TT_mem (List.mem_of_getElem? (i := 491) (by decide +kernel)) rfl
theorem q_447 : Cond.methodLink "CountingNetwork$Bag" (25 : Nat) ({ cls := "java/lang/System", name := "arraycopy", desc := "(Ljava/lang/Object;ILjava/lang/Object;II)V" } : MethodName) ∈ TT := TT_mem (List.mem_of_getElem? (i := 492) (by decide +kernel)) rfl
theorem q_448 : Cond.methodLink "CountingNetwork" (236 : Nat) ({ cls := "CountingNetwork$Tokens", name := "arrive", desc := "(II)V" } : MethodName) ∈ TT := TT_mem (List.mem_of_getElem? (i := 493) (by decide +kernel)) rfl
theorem q_449 : Cond.instanceMethod ({ cls := "CountingNetwork$Tokens", name := "arrive", desc := "(II)V" } : MethodName) ∈ TT := TT_mem (List.mem_of_getElem? (i := 494) (by decide +kernel)) rfl
theorem q_450 : Cond.selects "CountingNetwork$Tokens" ({ cls := "CountingNetwork$Tokens", name := "arrive", desc := "(II)V" } : MethodName) ({ cls := "CountingNetwork$Tokens", name := "arrive", desc := "(II)V" } : MethodName) ∈ TT := TT_mem (List.mem_of_getElem? (i := 495) (by decide +kernel)) rfl
theorem q_451 : Cond.code ({ cls := "CountingNetwork$Tokens", name := "arrive", desc := "(II)V" } : MethodName) prog_4_method_6_code (3 : Nat) (Option.none : Option Jvm.ClassFile.FieldType) ∈ TT := TT_mem (List.mem_of_getElem? (i := 496) (by decide +kernel)) rfl
theorem q_489 : Cond.methodLink "CountingNetwork" (174 : Nat) ({ cls := "CountingNetwork", name := "shownNumber", desc := "(I)I" } : MethodName) ∈ TT := TT_mem (List.mem_of_getElem? (i := 534) (by decide +kernel)) rfl
theorem q_491 : Cond.instanceMethod ({ cls := "CountingNetwork", name := "shownNumber", desc := "(I)I" } : MethodName) ∈ TT := TT_mem (List.mem_of_getElem? (i := 536) (by decide +kernel)) rfl
theorem q_492 : Cond.code ({ cls := "CountingNetwork", name := "shownNumber", desc := "(I)I" } : MethodName) prog_1_method_30_code (3 : Nat) (Option.some FieldType.int) ∈ TT := TT_mem (List.mem_of_getElem? (i := 537) (by decide +kernel)) rfl
theorem q_493 : Cond.methodLink "CountingNetwork" (245 : Nat) ({ cls := "CountingNetwork", name := "leastMissing", desc := "()I" } : MethodName) ∈ TT := TT_mem (List.mem_of_getElem? (i := 538) (by decide +kernel)) rfl
theorem q_495 : Cond.instanceMethod ({ cls := "CountingNetwork", name := "leastMissing", desc := "()I" } : MethodName) ∈ TT := TT_mem (List.mem_of_getElem? (i := 540) (by decide +kernel)) rfl
theorem q_496 : Cond.code ({ cls := "CountingNetwork", name := "leastMissing", desc := "()I" } : MethodName) prog_1_method_31_code (3 : Nat) (Option.some FieldType.int) ∈ TT := TT_mem (List.mem_of_getElem? (i := 541) (by decide +kernel)) rfl
theorem q_497 : Cond.methodLink "CountingNetwork" (248 : Nat) ({ cls := "java/lang/Math", name := "min", desc := "(II)I" } : MethodName) ∈ TT := TT_mem (List.mem_of_getElem? (i := 542) (by decide +kernel)) rfl
theorem q_498 : Cond.static ({ cls := "java/lang/Math", name := "min", desc := "(II)I" } : MethodName) ∈ TT := TT_mem (List.mem_of_getElem? (i := 543) (by decide +kernel)) rfl
theorem q_499 : Cond.code ({ cls := "java/lang/Math", name := "min", desc := "(II)I" } : MethodName) prog_11_method_69_code (2 : Nat) (Option.some FieldType.int) ∈ TT := TT_mem (List.mem_of_getElem? (i := 544) (by decide +kernel)) rfl
theorem q_507 : Cond.methodLink "CountingNetwork" (177 : Nat) ({ cls := "CountingNetwork", name := "highestNumber", desc := "()I" } : MethodName) ∈ TT := TT_mem (List.mem_of_getElem? (i := 552) (by decide +kernel)) rfl
theorem q_509 : Cond.instanceMethod ({ cls := "CountingNetwork", name := "highestNumber", desc := "()I" } : MethodName) ∈ TT := TT_mem (List.mem_of_getElem? (i := 554) (by decide +kernel)) rfl
theorem q_510 : Cond.code ({ cls := "CountingNetwork", name := "highestNumber", desc := "()I" } : MethodName) prog_1_method_32_code (3 : Nat) (Option.some FieldType.int) ∈ TT := TT_mem (List.mem_of_getElem? (i := 555) (by decide +kernel)) rfl
theorem q_511 : Cond.methodLink "CountingNetwork" (253 : Nat) ({ cls := "java/lang/Math", name := "max", desc := "(II)I" } : MethodName) ∈ TT := TT_mem (List.mem_of_getElem? (i := 556) (by decide +kernel)) rfl
theorem q_512 : Cond.methodLink "CountingNetwork" (181 : Nat) ({ cls := "CountingNetwork", name := "missingBelowHighest", desc := "()I" } : MethodName) ∈ TT := TT_mem (List.mem_of_getElem? (i := 557) (by decide +kernel)) rfl
theorem q_514 : Cond.instanceMethod ({ cls := "CountingNetwork", name := "missingBelowHighest", desc := "()I" } : MethodName) ∈ TT := TT_mem (List.mem_of_getElem? (i := 559) (by decide +kernel)) rfl
theorem q_515 : Cond.code ({ cls := "CountingNetwork", name := "missingBelowHighest", desc := "()I" } : MethodName) prog_1_method_33_code (2 : Nat) (Option.some FieldType.int) ∈ TT := TT_mem (List.mem_of_getElem? (i := 560) (by decide +kernel)) rfl
theorem q_524 : Cond.methodLink "CountingNetwork" (189 : Nat) ({ cls := "CountingNetwork", name := "stepAll", desc := "()V" } : MethodName) ∈ TT := TT_mem (List.mem_of_getElem? (i := 569) (by decide +kernel)) rfl
theorem q_526 : Cond.instanceMethod ({ cls := "CountingNetwork", name := "stepAll", desc := "()V" } : MethodName) ∈ TT := TT_mem (List.mem_of_getElem? (i := 571) (by decide +kernel)) rfl
theorem q_527 : Cond.code ({ cls := "CountingNetwork", name := "stepAll", desc := "()V" } : MethodName) prog_1_method_28_code (2 : Nat) (Option.none : Option Jvm.ClassFile.FieldType) ∈ TT := TT_mem (List.mem_of_getElem? (i := 572) (by decide +kernel)) rfl
theorem q_528 : Cond.methodLink "CountingNetwork" (192 : Nat) ({ cls := "CountingNetwork", name := "handOverAll", desc := "()V" } : MethodName) ∈ TT := TT_mem (List.mem_of_getElem? (i := 573) (by decide +kernel)) rfl
theorem q_530 : Cond.instanceMethod ({ cls := "CountingNetwork", name := "handOverAll", desc := "()V" } : MethodName) ∈ TT := TT_mem (List.mem_of_getElem? (i := 575) (by decide +kernel)) rfl
theorem q_531 : Cond.code ({ cls := "CountingNetwork", name := "handOverAll", desc := "()V" } : MethodName) prog_1_method_29_code (3 : Nat) (Option.none : Option Jvm.ClassFile.FieldType) ∈ TT := TT_mem (List.mem_of_getElem? (i := 576) (by decide +kernel)) rfl
theorem q_538 : Cond.methodLink "CountingNetworkModel" (68 : Nat) ({ cls := "CountingNetworkModel", name := "make", desc := "(II)V" } : MethodName) ∈ TT := TT_mem (List.mem_of_getElem? (i := 583) (by decide +kernel)) rfl
theorem q_540 : Cond.instanceMethod ({ cls := "CountingNetworkModel", name := "make", desc := "(II)V" } : MethodName) ∈ TT := TT_mem (List.mem_of_getElem? (i := 585) (by decide +kernel)) rfl
theorem q_541 : Cond.code ({ cls := "CountingNetworkModel", name := "make", desc := "(II)V" } : MethodName) prog_6_method_11_code (4 : Nat) (Option.none : Option Jvm.ClassFile.FieldType) ∈ TT := TT_mem (List.mem_of_getElem? (i := 586) (by decide +kernel)) rfl
theorem q_542 : Cond.methodLink "CountingNetworkModel" (82 : Nat) ({ cls := "CountingNetworkModel", name := "mergeOnes", desc := "(III)V" } : MethodName) ∈ TT := TT_mem (List.mem_of_getElem? (i := 587) (by decide +kernel)) rfl
theorem q_544 : Cond.instanceMethod ({ cls := "CountingNetworkModel", name := "mergeOnes", desc := "(III)V" } : MethodName) ∈ TT := TT_mem (List.mem_of_getElem? (i := 589) (by decide +kernel)) rfl
theorem q_545 : Cond.code ({ cls := "CountingNetworkModel", name := "mergeOnes", desc := "(III)V" } : MethodName) prog_6_method_6_code (4 : Nat) (Option.none : Option Jvm.ClassFile.FieldType) ∈ TT := TT_mem (List.mem_of_getElem? (i := 590) (by decide +kernel)) rfl
theorem q_546 : Cond.methodLink "CountingNetworkModel" (79 : Nat) ({ cls := "CountingNetworkModel", name := "lay", desc := "(II)V" } : MethodName) ∈ TT := TT_mem (List.mem_of_getElem? (i := 591) (by decide +kernel)) rfl
theorem q_548 : Cond.instanceMethod ({ cls := "CountingNetworkModel", name := "lay", desc := "(II)V" } : MethodName) ∈ TT := TT_mem (List.mem_of_getElem? (i := 593) (by decide +kernel)) rfl
theorem q_549 : Cond.code ({ cls := "CountingNetworkModel", name := "lay", desc := "(II)V" } : MethodName) prog_6_method_5_code (6 : Nat) (Option.none : Option Jvm.ClassFile.FieldType) ∈ TT := TT_mem (List.mem_of_getElem? (i := 594) (by decide +kernel)) rfl
theorem q_550 : Cond.methodLink "CountingNetworkModel" (105 : Nat) ({ cls := "CountingNetworkModel", name := "layFour", desc := "(II)V" } : MethodName) ∈ TT := TT_mem (List.mem_of_getElem? (i := 595) (by decide +kernel)) rfl
theorem q_552 : Cond.instanceMethod ({ cls := "CountingNetworkModel", name := "layFour", desc := "(II)V" } : MethodName) ∈ TT := TT_mem (List.mem_of_getElem? (i := 597) (by decide +kernel)) rfl
theorem q_553 : Cond.code ({ cls := "CountingNetworkModel", name := "layFour", desc := "(II)V" } : MethodName) prog_6_method_10_code (3 : Nat) (Option.none : Option Jvm.ClassFile.FieldType) ∈ TT := TT_mem (List.mem_of_getElem? (i := 598) (by decide +kernel)) rfl
theorem q_554 : Cond.methodLink "CountingNetworkModel" (90 : Nat) ({ cls := "CountingNetworkModel", name := "mergeTwos", desc := "(III)V" } : MethodName) ∈ TT := TT_mem (List.mem_of_getElem? (i := 599) (by decide +kernel)) rfl
theorem q_556 : Cond.instanceMethod ({ cls := "CountingNetworkModel", name := "mergeTwos", desc := "(III)V" } : MethodName) ∈ TT := TT_mem (List.mem_of_getElem? (i := 601) (by decide +kernel)) rfl
theorem q_557 : Cond.code ({ cls := "CountingNetworkModel", name := "mergeTwos", desc := "(III)V" } : MethodName) prog_6_method_8_code (4 : Nat) (Option.none : Option Jvm.ClassFile.FieldType) ∈ TT := TT_mem (List.mem_of_getElem? (i := 602) (by decide +kernel)) rfl
theorem q_558 : Cond.methodLink "CountingNetworkModel" (86 : Nat) ({ cls := "CountingNetworkModel", name := "join", desc := "(IIII)V" } : MethodName) ∈ TT := TT_mem (List.mem_of_getElem? (i := 603) (by decide +kernel)) rfl
theorem q_560 : Cond.instanceMethod ({ cls := "CountingNetworkModel", name := "join", desc := "(IIII)V" } : MethodName) ∈ TT := TT_mem (List.mem_of_getElem? (i := 605) (by decide +kernel)) rfl
theorem q_561 : Cond.code ({ cls := "CountingNetworkModel", name := "join", desc := "(IIII)V" } : MethodName) prog_6_method_7_code (6 : Nat) (Option.none : Option Jvm.ClassFile.FieldType) ∈ TT := TT_mem (List.mem_of_getElem? (i := 606) (by decide +kernel)) rfl
theorem q_562 : Cond.methodLink "CountingNetworkModel" (108 : Nat) ({ cls := "CountingNetworkModel", name := "mergeFours", desc := "(III)V" } : MethodName) ∈ TT := TT_mem (List.mem_of_getElem? (i := 607) (by decide +kernel)) rfl
theorem q_564 : Cond.instanceMethod ({ cls := "CountingNetworkModel", name := "mergeFours", desc := "(III)V" } : MethodName) ∈ TT := TT_mem (List.mem_of_getElem? (i := 609) (by decide +kernel)) rfl
theorem q_565 : Cond.code ({ cls := "CountingNetworkModel", name := "mergeFours", desc := "(III)V" } : MethodName) prog_6_method_9_code (6 : Nat) (Option.none : Option Jvm.ClassFile.FieldType) ∈ TT := TT_mem (List.mem_of_getElem? (i := 610) (by decide +kernel)) rfl
theorem q_566 : Cond.fieldLink "CountingNetworkModel" (72 : Nat) "CountingNetworkModel" "thrown" "I" ∈ TT := TT_mem (List.mem_of_getElem? (i := 611) (by decide +kernel)) rfl
theorem q_567 : Cond.fieldLink "CountingNetworkModel" (93 : Nat) "CountingNetworkModel" "width" "I" ∈ TT := TT_mem (List.mem_of_getElem? (i := 612) (by decide +kernel)) rfl
theorem q_568 : Cond.fieldLink "CountingNetworkModel" (96 : Nat) "CountingNetworkModel" "stations" "I" ∈ TT := TT_mem (List.mem_of_getElem? (i := 613) (by decide +kernel)) rfl
theorem q_569 : Cond.fieldLink "CountingNetworkModel" (76 : Nat) "CountingNetworkModel" "balancers" "I" ∈ TT := TT_mem (List.mem_of_getElem? (i := 614) (by decide +kernel)) rfl
theorem q_570 : Cond.fieldLink "CountingNetworkModel" (7 : Nat) "CountingNetworkModel" "uppers" "[I" ∈ TT := TT_mem (List.mem_of_getElem? (i := 615) (by decide +kernel)) rfl
theorem q_571 : Cond.fieldLink "CountingNetworkModel" (13 : Nat) "CountingNetworkModel" "lowers" "[I" ∈ TT := TT_mem (List.mem_of_getElem? (i := 616) (by decide +kernel)) rfl
theorem q_572 : Cond.fieldLink "CountingNetworkModel" (16 : Nat) "CountingNetworkModel" "columns" "[I" ∈ TT := TT_mem (List.mem_of_getElem? (i := 617) (by decide +kernel)) rfl
theorem q_573 : Cond.fieldLink "CountingNetworkModel" (19 : Nat) "CountingNetworkModel" "had" "[I" ∈ TT := TT_mem (List.mem_of_getElem? (i := 618) (by decide +kernel)) rfl
theorem q_574 : Cond.fieldLink "CountingNetworkModel" (22 : Nat) "CountingNetworkModel" "exits" "[I" ∈ TT := TT_mem (List.mem_of_getElem? (i := 619) (by decide +kernel)) rfl
theorem q_575 : Cond.fieldLink "CountingNetworkModel" (25 : Nat) "CountingNetworkModel" "handed" "[I" ∈ TT := TT_mem (List.mem_of_getElem? (i := 620) (by decide +kernel)) rfl
theorem q_576 : Cond.fieldLink "CountingNetworkModel" (28 : Nat) "CountingNetworkModel" "down" "[Z" ∈ TT := TT_mem (List.mem_of_getElem? (i := 621) (by decide +kernel)) rfl
theorem q_577 : Cond.fieldLink "CountingNetworkModel" (32 : Nat) "CountingNetworkModel" "rows" "[I" ∈ TT := TT_mem (List.mem_of_getElem? (i := 622) (by decide +kernel)) rfl
theorem q_578 : Cond.fieldLink "CountingNetworkModel" (99 : Nat) "CountingNetworkModel" "tokens" "I" ∈ TT := TT_mem (List.mem_of_getElem? (i := 623) (by decide +kernel)) rfl
theorem q_579 : Cond.fieldLink "CountingNetworkModel" (35 : Nat) "CountingNetworkModel" "wires" "[I" ∈ TT := TT_mem (List.mem_of_getElem? (i := 624) (by decide +kernel)) rfl
theorem q_580 : Cond.fieldLink "CountingNetworkModel" (38 : Nat) "CountingNetworkModel" "places" "[I" ∈ TT := TT_mem (List.mem_of_getElem? (i := 625) (by decide +kernel)) rfl
theorem q_581 : Cond.fieldLink "CountingNetworkModel" (41 : Nat) "CountingNetworkModel" "states" "[I" ∈ TT := TT_mem (List.mem_of_getElem? (i := 626) (by decide +kernel)) rfl
theorem q_582 : Cond.fieldLink "CountingNetworkModel" (44 : Nat) "CountingNetworkModel" "lastOnes" "[I" ∈ TT := TT_mem (List.mem_of_getElem? (i := 627) (by decide +kernel)) rfl
theorem q_583 : Cond.fieldLink "CountingNetworkModel" (47 : Nat) "CountingNetworkModel" "passed" "[I" ∈ TT := TT_mem (List.mem_of_getElem? (i := 628) (by decide +kernel)) rfl
theorem q_584 : Cond.fieldLink "CountingNetworkModel" (50 : Nat) "CountingNetworkModel" "numbers" "[I" ∈ TT := TT_mem (List.mem_of_getElem? (i := 629) (by decide +kernel)) rfl
theorem q_585 : Cond.fieldLink "CountingNetworkModel" (53 : Nat) "CountingNetworkModel" "ways" "[I" ∈ TT := TT_mem (List.mem_of_getElem? (i := 630) (by decide +kernel)) rfl
theorem q_586 : Cond.fieldLink "CountingNetworkModel" (56 : Nat) "CountingNetworkModel" "ordered" "[Z" ∈ TT := TT_mem (List.mem_of_getElem? (i := 631) (by decide +kernel)) rfl
theorem q_587 : Cond.fieldLink "CountingNetworkModel" (102 : Nat) "CountingNetworkModel" "letters" "I" ∈ TT := TT_mem (List.mem_of_getElem? (i := 632) (by decide +kernel)) rfl
theorem q_588 : Cond.fieldLink "CountingNetworkModel" (59 : Nat) "CountingNetworkModel" "letterTokens" "[I" ∈ TT := TT_mem (List.mem_of_getElem? (i := 633) (by decide +kernel)) rfl
theorem q_589 : Cond.fieldLink "CountingNetworkModel" (62 : Nat) "CountingNetworkModel" "letterStations" "[I" ∈ TT := TT_mem (List.mem_of_getElem? (i := 634) (by decide +kernel)) rfl
theorem q_590 : Cond.fieldLink "CountingNetworkModel" (65 : Nat) "CountingNetworkModel" "letterWays" "[I" ∈ TT := TT_mem (List.mem_of_getElem? (i := 635) (by decide +kernel)) rfl
theorem q_591 : Cond.lays "CountingNetworkModel" "CountingNetworkModel" "thrown" "I" ∈ TT := TT_mem (List.mem_of_getElem? (i := 636) (by decide +kernel)) rfl
theorem q_593 : Cond.lays "CountingNetworkModel" "CountingNetworkModel" "width" "I" ∈ TT := TT_mem (List.mem_of_getElem? (i := 638) (by decide +kernel)) rfl
theorem q_595 : Cond.lays "CountingNetworkModel" "CountingNetworkModel" "stations" "I" ∈ TT := TT_mem (List.mem_of_getElem? (i := 640) (by decide +kernel)) rfl
theorem q_597 : Cond.lays "CountingNetworkModel" "CountingNetworkModel" "balancers" "I" ∈ TT := TT_mem (List.mem_of_getElem? (i := 642) (by decide +kernel)) rfl
theorem q_599 : Cond.laysFinal "CountingNetworkModel" "CountingNetworkModel" "uppers" "[I" ∈ TT := TT_mem (List.mem_of_getElem? (i := 644) (by decide +kernel)) rfl
theorem q_601 : Cond.laysFinal "CountingNetworkModel" "CountingNetworkModel" "lowers" "[I" ∈ TT := TT_mem (List.mem_of_getElem? (i := 646) (by decide +kernel)) rfl
theorem q_603 : Cond.laysFinal "CountingNetworkModel" "CountingNetworkModel" "columns" "[I" ∈ TT := TT_mem (List.mem_of_getElem? (i := 648) (by decide +kernel)) rfl
theorem q_605 : Cond.laysFinal "CountingNetworkModel" "CountingNetworkModel" "had" "[I" ∈ TT := TT_mem (List.mem_of_getElem? (i := 650) (by decide +kernel)) rfl
theorem q_607 : Cond.laysFinal "CountingNetworkModel" "CountingNetworkModel" "exits" "[I" ∈ TT := TT_mem (List.mem_of_getElem? (i := 652) (by decide +kernel)) rfl
theorem q_609 : Cond.laysFinal "CountingNetworkModel" "CountingNetworkModel" "handed" "[I" ∈ TT := TT_mem (List.mem_of_getElem? (i := 654) (by decide +kernel)) rfl
theorem q_611 : Cond.laysFinal "CountingNetworkModel" "CountingNetworkModel" "down" "[Z" ∈ TT := TT_mem (List.mem_of_getElem? (i := 656) (by decide +kernel)) rfl
theorem q_613 : Cond.laysFinal "CountingNetworkModel" "CountingNetworkModel" "rows" "[I" ∈ TT := TT_mem (List.mem_of_getElem? (i := 658) (by decide +kernel)) rfl
theorem q_615 : Cond.lays "CountingNetworkModel" "CountingNetworkModel" "tokens" "I" ∈ TT := TT_mem (List.mem_of_getElem? (i := 660) (by decide +kernel)) rfl
theorem q_617 : Cond.laysFinal "CountingNetworkModel" "CountingNetworkModel" "wires" "[I" ∈ TT := TT_mem (List.mem_of_getElem? (i := 662) (by decide +kernel)) rfl
theorem q_619 : Cond.laysFinal "CountingNetworkModel" "CountingNetworkModel" "places" "[I" ∈ TT := TT_mem (List.mem_of_getElem? (i := 664) (by decide +kernel)) rfl
theorem q_621 : Cond.laysFinal "CountingNetworkModel" "CountingNetworkModel" "states" "[I" ∈ TT := TT_mem (List.mem_of_getElem? (i := 666) (by decide +kernel)) rfl
theorem q_623 : Cond.laysFinal "CountingNetworkModel" "CountingNetworkModel" "lastOnes" "[I" ∈ TT := TT_mem (List.mem_of_getElem? (i := 668) (by decide +kernel)) rfl
theorem q_625 : Cond.laysFinal "CountingNetworkModel" "CountingNetworkModel" "passed" "[I" ∈ TT := TT_mem (List.mem_of_getElem? (i := 670) (by decide +kernel)) rfl
theorem q_627 : Cond.laysFinal "CountingNetworkModel" "CountingNetworkModel" "numbers" "[I" ∈ TT := TT_mem (List.mem_of_getElem? (i := 672) (by decide +kernel)) rfl
theorem q_629 : Cond.laysFinal "CountingNetworkModel" "CountingNetworkModel" "ways" "[I" ∈ TT := TT_mem (List.mem_of_getElem? (i := 674) (by decide +kernel)) rfl
theorem q_631 : Cond.laysFinal "CountingNetworkModel" "CountingNetworkModel" "ordered" "[Z" ∈ TT := TT_mem (List.mem_of_getElem? (i := 676) (by decide +kernel)) rfl
theorem q_633 : Cond.lays "CountingNetworkModel" "CountingNetworkModel" "letters" "I" ∈ TT := TT_mem (List.mem_of_getElem? (i := 678) (by decide +kernel)) rfl
theorem q_635 : Cond.laysFinal "CountingNetworkModel" "CountingNetworkModel" "letterTokens" "[I" ∈ TT := TT_mem (List.mem_of_getElem? (i := 680) (by decide +kernel)) rfl
theorem q_637 : Cond.laysFinal "CountingNetworkModel" "CountingNetworkModel" "letterStations" "[I" ∈ TT := TT_mem (List.mem_of_getElem? (i := 682) (by decide +kernel)) rfl
theorem q_639 : Cond.laysFinal "CountingNetworkModel" "CountingNetworkModel" "letterWays" "[I" ∈ TT := TT_mem (List.mem_of_getElem? (i := 684) (by decide +kernel)) rfl
theorem q_650 : Cond.methodLink "CountingNetworkModel" (111 : Nat) ({ cls := "CountingNetworkModel", name := "in", desc := "(III)Z" } : MethodName) ∈ TT := TT_mem (List.mem_of_getElem? (i := 695) (by decide +kernel)) rfl
theorem q_651 : Cond.static ({ cls := "CountingNetworkModel", name := "in", desc := "(III)Z" } : MethodName) ∈ TT := TT_mem (List.mem_of_getElem? (i := 696) (by decide +kernel)) rfl
theorem q_652 : Cond.code ({ cls := "CountingNetworkModel", name := "in", desc := "(III)Z" } : MethodName) prog_6_method_4_code (3 : Nat) (Option.some FieldType.boolean) ∈ TT := TT_mem (List.mem_of_getElem? (i := 697) (by decide +kernel)) rfl
theorem q_653 : Cond.methodLink "CountingNetworkModel" (115 : Nat) ({ cls := "CountingNetworkModel", name := "refuse", desc := "(ZZ)Z" } : MethodName) ∈ TT := TT_mem (List.mem_of_getElem? (i := 698) (by decide +kernel)) rfl
theorem q_655 : Cond.instanceMethod ({ cls := "CountingNetworkModel", name := "refuse", desc := "(ZZ)Z" } : MethodName) ∈ TT := TT_mem (List.mem_of_getElem? (i := 700) (by decide +kernel)) rfl
theorem q_656 : Cond.code ({ cls := "CountingNetworkModel", name := "refuse", desc := "(ZZ)Z" } : MethodName) prog_6_method_3_code (3 : Nat) (Option.some FieldType.boolean) ∈ TT := TT_mem (List.mem_of_getElem? (i := 701) (by decide +kernel)) rfl
theorem q_669 : Cond.methodLink "CountingNetworkModel" (119 : Nat) ({ cls := "CountingNetworkModel", name := "left", desc := "()I" } : MethodName) ∈ TT := TT_mem (List.mem_of_getElem? (i := 714) (by decide +kernel)) rfl
theorem q_671 : Cond.instanceMethod ({ cls := "CountingNetworkModel", name := "left", desc := "()I" } : MethodName) ∈ TT := TT_mem (List.mem_of_getElem? (i := 716) (by decide +kernel)) rfl
theorem q_672 : Cond.code ({ cls := "CountingNetworkModel", name := "left", desc := "()I" } : MethodName) prog_6_method_15_code (3 : Nat) (Option.some FieldType.int) ∈ TT := TT_mem (List.mem_of_getElem? (i := 717) (by decide +kernel)) rfl
theorem q_677 : Cond.methodLink "CountingNetworkModel" (137 : Nat) ({ cls := "CountingNetworkModel", name := "isStuck", desc := "(I)Z" } : MethodName) ∈ TT := TT_mem (List.mem_of_getElem? (i := 722) (by decide +kernel)) rfl
theorem q_679 : Cond.instanceMethod ({ cls := "CountingNetworkModel", name := "isStuck", desc := "(I)Z" } : MethodName) ∈ TT := TT_mem (List.mem_of_getElem? (i := 724) (by decide +kernel)) rfl
theorem q_680 : Cond.code ({ cls := "CountingNetworkModel", name := "isStuck", desc := "(I)Z" } : MethodName) prog_6_method_21_code (3 : Nat) (Option.some FieldType.boolean) ∈ TT := TT_mem (List.mem_of_getElem? (i := 725) (by decide +kernel)) rfl
theorem q_681 : Cond.methodLink "CountingNetworkModel" (130 : Nat) ({ cls := "CountingNetworkModel", name := "stationOf", desc := "(I)I" } : MethodName) ∈ TT := TT_mem (List.mem_of_getElem? (i := 726) (by decide +kernel)) rfl
theorem q_683 : Cond.instanceMethod ({ cls := "CountingNetworkModel", name := "stationOf", desc := "(I)I" } : MethodName) ∈ TT := TT_mem (List.mem_of_getElem? (i := 728) (by decide +kernel)) rfl
theorem q_684 : Cond.code ({ cls := "CountingNetworkModel", name := "stationOf", desc := "(I)I" } : MethodName) prog_6_method_19_code (3 : Nat) (Option.some FieldType.int) ∈ TT := TT_mem (List.mem_of_getElem? (i := 729) (by decide +kernel)) rfl
theorem q_685 : Cond.methodLink "CountingNetworkModel" (123 : Nat) ({ cls := "CountingNetworkModel", name := "nextOf", desc := "(I)I" } : MethodName) ∈ TT := TT_mem (List.mem_of_getElem? (i := 730) (by decide +kernel)) rfl
theorem q_687 : Cond.instanceMethod ({ cls := "CountingNetworkModel", name := "nextOf", desc := "(I)I" } : MethodName) ∈ TT := TT_mem (List.mem_of_getElem? (i := 732) (by decide +kernel)) rfl
theorem q_688 : Cond.code ({ cls := "CountingNetworkModel", name := "nextOf", desc := "(I)I" } : MethodName) prog_6_method_17_code (3 : Nat) (Option.some FieldType.int) ∈ TT := TT_mem (List.mem_of_getElem? (i := 733) (by decide +kernel)) rfl
theorem q_689 : Cond.methodLink "CountingNetworkModel" (127 : Nat) ({ cls := "CountingNetworkModel", name := "exitOf", desc := "(I)I" } : MethodName) ∈ TT := TT_mem (List.mem_of_getElem? (i := 734) (by decide +kernel)) rfl
theorem q_691 : Cond.instanceMethod ({ cls := "CountingNetworkModel", name := "exitOf", desc := "(I)I" } : MethodName) ∈ TT := TT_mem (List.mem_of_getElem? (i := 736) (by decide +kernel)) rfl
theorem q_692 : Cond.code ({ cls := "CountingNetworkModel", name := "exitOf", desc := "(I)I" } : MethodName) prog_6_method_18_code (4 : Nat) (Option.some FieldType.int) ∈ TT := TT_mem (List.mem_of_getElem? (i := 737) (by decide +kernel)) rfl
theorem q_693 : Cond.methodLink "CountingNetworkModel" (141 : Nat) ({ cls := "CountingNetworkModel", name := "step", desc := "(I)I" } : MethodName) ∈ TT := TT_mem (List.mem_of_getElem? (i := 738) (by decide +kernel)) rfl
theorem q_695 : Cond.instanceMethod ({ cls := "CountingNetworkModel", name := "step", desc := "(I)I" } : MethodName) ∈ TT := TT_mem (List.mem_of_getElem? (i := 740) (by decide +kernel)) rfl
theorem q_696 : Cond.code ({ cls := "CountingNetworkModel", name := "step", desc := "(I)I" } : MethodName) prog_6_method_22_code (4 : Nat) (Option.some FieldType.int) ∈ TT := TT_mem (List.mem_of_getElem? (i := 741) (by decide +kernel)) rfl
theorem q_697 : Cond.methodLink "CountingNetworkModel" (133 : Nat) ({ cls := "CountingNetworkModel", name := "post", desc := "(I)V" } : MethodName) ∈ TT := TT_mem (List.mem_of_getElem? (i := 742) (by decide +kernel)) rfl
theorem q_699 : Cond.instanceMethod ({ cls := "CountingNetworkModel", name := "post", desc := "(I)V" } : MethodName) ∈ TT := TT_mem (List.mem_of_getElem? (i := 744) (by decide +kernel)) rfl
theorem q_700 : Cond.code ({ cls := "CountingNetworkModel", name := "post", desc := "(I)V" } : MethodName) prog_6_method_20_code (2 : Nat) (Option.none : Option Jvm.ClassFile.FieldType) ∈ TT := TT_mem (List.mem_of_getElem? (i := 745) (by decide +kernel)) rfl
theorem q_702 : Cond.instanceMethod ({ cls := "CountingNetworkModel", name := "deliver", desc := "(I)I" } : MethodName) ∈ TT := TT_mem (List.mem_of_getElem? (i := 747) (by decide +kernel)) rfl
theorem q_703 : Cond.selects "CountingNetworkModel" ({ cls := "CountingNetworkModel", name := "deliver", desc := "(I)I" } : MethodName) ({ cls := "CountingNetworkModel", name := "deliver", desc := "(I)I" } : MethodName) ∈ TT := TT_mem (List.mem_of_getElem? (i := 748) (by decide +kernel)) rfl
theorem q_704 : Cond.code ({ cls := "CountingNetworkModel", name := "deliver", desc := "(I)I" } : MethodName) prog_6_method_25_code (5 : Nat) (Option.some FieldType.int) ∈ TT := TT_mem (List.mem_of_getElem? (i := 749) (by decide +kernel)) rfl
theorem q_705 : Cond.methodLink "CountingNetworkModel" (144 : Nat) ({ cls := "CountingNetworkModel", name := "take", desc := "(I)V" } : MethodName) ∈ TT := TT_mem (List.mem_of_getElem? (i := 750) (by decide +kernel)) rfl
theorem q_707 : Cond.instanceMethod ({ cls := "CountingNetworkModel", name := "take", desc := "(I)V" } : MethodName) ∈ TT := TT_mem (List.mem_of_getElem? (i := 752) (by decide +kernel)) rfl
theorem q_708 : Cond.code ({ cls := "CountingNetworkModel", name := "take", desc := "(I)V" } : MethodName) prog_6_method_24_code (3 : Nat) (Option.none : Option Jvm.ClassFile.FieldType) ∈ TT := TT_mem (List.mem_of_getElem? (i := 753) (by decide +kernel)) rfl
theorem q_725 : Cond.methodLink "CountingNetworkModel" (147 : Nat) ({ cls := "CountingNetworkModel", name := "hasLetter", desc := "(I)Z" } : MethodName) ∈ TT := TT_mem (List.mem_of_getElem? (i := 770) (by decide +kernel)) rfl
theorem q_727 : Cond.instanceMethod ({ cls := "CountingNetworkModel", name := "hasLetter", desc := "(I)Z" } : MethodName) ∈ TT := TT_mem (List.mem_of_getElem? (i := 772) (by decide +kernel)) rfl
theorem q_728 : Cond.code ({ cls := "CountingNetworkModel", name := "hasLetter", desc := "(I)Z" } : MethodName) prog_6_method_29_code (4 : Nat) (Option.some FieldType.boolean) ∈ TT := TT_mem (List.mem_of_getElem? (i := 773) (by decide +kernel)) rfl
theorem q_737 : Cond.methodLink "CountingNetworkModel" (153 : Nat) ({ cls := "CountingNetworkModel", name := "shown", desc := "(I)I" } : MethodName) ∈ TT := TT_mem (List.mem_of_getElem? (i := 782) (by decide +kernel)) rfl
theorem q_739 : Cond.instanceMethod ({ cls := "CountingNetworkModel", name := "shown", desc := "(I)I" } : MethodName) ∈ TT := TT_mem (List.mem_of_getElem? (i := 784) (by decide +kernel)) rfl
theorem q_740 : Cond.code ({ cls := "CountingNetworkModel", name := "shown", desc := "(I)I" } : MethodName) prog_6_method_33_code (4 : Nat) (Option.some FieldType.int) ∈ TT := TT_mem (List.mem_of_getElem? (i := 785) (by decide +kernel)) rfl
theorem q_741 : Cond.methodLink "CountingNetworkModel" (150 : Nat) ({ cls := "CountingNetworkModel", name := "isHanded", desc := "(I)Z" } : MethodName) ∈ TT := TT_mem (List.mem_of_getElem? (i := 786) (by decide +kernel)) rfl
theorem q_743 : Cond.instanceMethod ({ cls := "CountingNetworkModel", name := "isHanded", desc := "(I)Z" } : MethodName) ∈ TT := TT_mem (List.mem_of_getElem? (i := 788) (by decide +kernel)) rfl
theorem q_744 : Cond.code ({ cls := "CountingNetworkModel", name := "isHanded", desc := "(I)Z" } : MethodName) prog_6_method_32_code (2 : Nat) (Option.some FieldType.boolean) ∈ TT := TT_mem (List.mem_of_getElem? (i := 789) (by decide +kernel)) rfl
theorem q_749 : Cond.methodLink "CountingNetworkModel" (156 : Nat) ({ cls := "CountingNetworkModel", name := "highest", desc := "()I" } : MethodName) ∈ TT := TT_mem (List.mem_of_getElem? (i := 794) (by decide +kernel)) rfl
theorem q_751 : Cond.instanceMethod ({ cls := "CountingNetworkModel", name := "highest", desc := "()I" } : MethodName) ∈ TT := TT_mem (List.mem_of_getElem? (i := 796) (by decide +kernel)) rfl
theorem q_752 : Cond.code ({ cls := "CountingNetworkModel", name := "highest", desc := "()I" } : MethodName) prog_6_method_35_code (4 : Nat) (Option.some FieldType.int) ∈ TT := TT_mem (List.mem_of_getElem? (i := 797) (by decide +kernel)) rfl
theorem q_753 : Cond.methodLink "CountingNetworkModel" (159 : Nat) ({ cls := "CountingNetworkModel", name := "gaps", desc := "()I" } : MethodName) ∈ TT := TT_mem (List.mem_of_getElem? (i := 798) (by decide +kernel)) rfl
theorem q_755 : Cond.instanceMethod ({ cls := "CountingNetworkModel", name := "gaps", desc := "()I" } : MethodName) ∈ TT := TT_mem (List.mem_of_getElem? (i := 800) (by decide +kernel)) rfl
theorem q_756 : Cond.code ({ cls := "CountingNetworkModel", name := "gaps", desc := "()I" } : MethodName) prog_6_method_36_code (3 : Nat) (Option.some FieldType.int) ∈ TT := TT_mem (List.mem_of_getElem? (i := 801) (by decide +kernel)) rfl
theorem q_761 : Cond.methodLink "CountingNetworkModel" (162 : Nat) ({ cls := "CountingNetworkModel", name := "deliver", desc := "(I)I" } : MethodName) ∈ TT := TT_mem (List.mem_of_getElem? (i := 806) (by decide +kernel)) rfl
theorem uN_in : ∀ w ∈ u_ws RN FdN 7, w ∈ TT := by
  intro w hw
  have e : u_ws RN FdN 7 = [Cond.laysFinal "CountingNetwork" "CountingNetwork" "plan" "LCountingNetwork$Plan;", Cond.laysFinal "CountingNetwork" "CountingNetwork" "tokens" "LCountingNetwork$Tokens;", Cond.laysFinal "CountingNetwork" "CountingNetwork" "bag" "LCountingNetwork$Bag;", Cond.laysFinal "CountingNetwork" "CountingNetwork" "had" "[I", Cond.laysFinal "CountingNetwork" "CountingNetwork" "handedOut" "[I", Cond.laysFinal "CountingNetwork" "CountingNetwork" "down" "[Z", Cond.lays "CountingNetwork" "CountingNetwork" "stations" "I"] := by decide +kernel
  rw [e] at hw
  simp only [List.mem_cons, List.not_mem_nil, or_false] at hw
  rcases hw with rfl | rfl | rfl | rfl | rfl | rfl | rfl
  · exact q_184
  · exact q_186
  · exact q_188
  · exact q_190
  · exact q_192
  · exact q_194
  · exact q_196
theorem fN {w0 : Cond} : jF (w0 :: TT) RN FdN 7 tyN := ⟨fun w hw => List.mem_cons_of_mem _ (uN_in w hw), tyN_ok, nmN, clN_ok⟩
theorem uP_in : ∀ w ∈ u_ws RP FdP 9, w ∈ TT := by
  intro w hw
  have e : u_ws RP FdP 9 = [Cond.lays "CountingNetwork$Plan" "CountingNetwork$Plan" "width" "I", Cond.lays "CountingNetwork$Plan" "CountingNetwork$Plan" "balancers" "I", Cond.lays "CountingNetwork$Plan" "CountingNetwork$Plan" "columns" "I", Cond.laysFinal "CountingNetwork$Plan" "CountingNetwork$Plan" "upper" "[I", Cond.laysFinal "CountingNetwork$Plan" "CountingNetwork$Plan" "lower" "[I", Cond.laysFinal "CountingNetwork$Plan" "CountingNetwork$Plan" "column" "[I", Cond.laysFinal "CountingNetwork$Plan" "CountingNetwork$Plan" "row" "[I", Cond.laysFinal "CountingNetwork$Plan" "CountingNetwork$Plan" "columnsOnWire" "[I", Cond.laysFinal "CountingNetwork$Plan" "CountingNetwork$Plan" "spare" "[I"] := by decide +kernel
  rw [e] at hw
  simp only [List.mem_cons, List.not_mem_nil, or_false] at hw
  rcases hw with rfl | rfl | rfl | rfl | rfl | rfl | rfl | rfl | rfl
  · exact q_44
  · exact q_46
  · exact q_48
  · exact q_50
  · exact q_52
  · exact q_54
  · exact q_56
  · exact q_58
  · exact q_60
theorem fP {w0 : Cond} : jF (w0 :: TT) RP FdP 9 tyP := ⟨fun w hw => List.mem_cons_of_mem _ (uP_in w hw), tyP_ok, nmP, clP_ok⟩
theorem uT_in : ∀ w ∈ u_ws RT FdT 10, w ∈ TT := by
  intro w hw
  have e : u_ws RT FdT 10 = [Cond.lays "CountingNetwork$Tokens" "CountingNetwork$Tokens" "entered" "I", Cond.lays "CountingNetwork$Tokens" "CountingNetwork$Tokens" "notDone" "I", Cond.laysFinal "CountingNetwork$Tokens" "CountingNetwork$Tokens" "wire" "[I", Cond.laysFinal "CountingNetwork$Tokens" "CountingNetwork$Tokens" "place" "[I", Cond.laysFinal "CountingNetwork$Tokens" "CountingNetwork$Tokens" "state" "[I", Cond.laysFinal "CountingNetwork$Tokens" "CountingNetwork$Tokens" "passed" "[I", Cond.laysFinal "CountingNetwork$Tokens" "CountingNetwork$Tokens" "last" "[I", Cond.laysFinal "CountingNetwork$Tokens" "CountingNetwork$Tokens" "way" "[I", Cond.laysFinal "CountingNetwork$Tokens" "CountingNetwork$Tokens" "number" "[I", Cond.laysFinal "CountingNetwork$Tokens" "CountingNetwork$Tokens" "ordered" "[Z"] := by decide +kernel
  rw [e] at hw
  simp only [List.mem_cons, List.not_mem_nil, or_false] at hw
  rcases hw with rfl | rfl | rfl | rfl | rfl | rfl | rfl | rfl | rfl | rfl
  · exact q_90
  · exact q_92
  · exact q_94
  · exact q_96
  · exact q_98
  · exact q_100
  · exact q_102
  · exact q_104
  · exact q_106
  · exact q_108
theorem fT {w0 : Cond} : jF (w0 :: TT) RT FdT 10 tyT := ⟨fun w hw => List.mem_cons_of_mem _ (uT_in w hw), tyT_ok, nmT, clT_ok⟩
theorem uB_in : ∀ w ∈ u_ws RB FdB 4, w ∈ TT := by
  intro w hw
  have e : u_ws RB FdB 4 = [Cond.lays "CountingNetwork$Bag" "CountingNetwork$Bag" "size" "I", Cond.laysFinal "CountingNetwork$Bag" "CountingNetwork$Bag" "addressee" "[I", Cond.laysFinal "CountingNetwork$Bag" "CountingNetwork$Bag" "way" "[I", Cond.laysFinal "CountingNetwork$Bag" "CountingNetwork$Bag" "target" "[I"] := by decide +kernel
  rw [e] at hw
  simp only [List.mem_cons, List.not_mem_nil, or_false] at hw
  rcases hw with rfl | rfl | rfl | rfl
  · exact q_126
  · exact q_128
  · exact q_130
  · exact q_132
theorem fB {w0 : Cond} : jF (w0 :: TT) RB FdB 4 tyB := ⟨fun w hw => List.mem_cons_of_mem _ (uB_in w hw), tyB_ok, nmB, clB_ok⟩
theorem uM_in : ∀ w ∈ u_ws RM FdM 25, w ∈ TT := by
  intro w hw
  have e : u_ws RM FdM 25 = [Cond.lays "CountingNetworkModel" "CountingNetworkModel" "thrown" "I", Cond.lays "CountingNetworkModel" "CountingNetworkModel" "width" "I", Cond.lays "CountingNetworkModel" "CountingNetworkModel" "stations" "I", Cond.lays "CountingNetworkModel" "CountingNetworkModel" "balancers" "I", Cond.laysFinal "CountingNetworkModel" "CountingNetworkModel" "uppers" "[I", Cond.laysFinal "CountingNetworkModel" "CountingNetworkModel" "lowers" "[I", Cond.laysFinal "CountingNetworkModel" "CountingNetworkModel" "columns" "[I", Cond.laysFinal "CountingNetworkModel" "CountingNetworkModel" "had" "[I", Cond.laysFinal "CountingNetworkModel" "CountingNetworkModel" "exits" "[I", Cond.laysFinal "CountingNetworkModel" "CountingNetworkModel" "handed" "[I", Cond.laysFinal "CountingNetworkModel" "CountingNetworkModel" "down" "[Z", Cond.laysFinal "CountingNetworkModel" "CountingNetworkModel" "rows" "[I", Cond.lays "CountingNetworkModel" "CountingNetworkModel" "tokens" "I", Cond.laysFinal "CountingNetworkModel" "CountingNetworkModel" "wires" "[I", Cond.laysFinal "CountingNetworkModel" "CountingNetworkModel" "places" "[I", Cond.laysFinal "CountingNetworkModel" "CountingNetworkModel" "states" "[I", Cond.laysFinal "CountingNetworkModel" "CountingNetworkModel" "lastOnes" "[I", Cond.laysFinal "CountingNetworkModel" "CountingNetworkModel" "passed" "[I", Cond.laysFinal "CountingNetworkModel" "CountingNetworkModel" "numbers" "[I", Cond.laysFinal "CountingNetworkModel" "CountingNetworkModel" "ways" "[I", Cond.laysFinal "CountingNetworkModel" "CountingNetworkModel" "ordered" "[Z", Cond.lays "CountingNetworkModel" "CountingNetworkModel" "letters" "I", Cond.laysFinal "CountingNetworkModel" "CountingNetworkModel" "letterTokens" "[I", Cond.laysFinal "CountingNetworkModel" "CountingNetworkModel" "letterStations" "[I", Cond.laysFinal "CountingNetworkModel" "CountingNetworkModel" "letterWays" "[I"] := by decide +kernel
  rw [e] at hw
  simp only [List.mem_cons, List.not_mem_nil, or_false] at hw
  rcases hw with rfl | rfl | rfl | rfl | rfl | rfl | rfl | rfl | rfl | rfl | rfl | rfl | rfl | rfl | rfl | rfl | rfl | rfl | rfl | rfl | rfl | rfl | rfl | rfl | rfl
  · exact q_591
  · exact q_593
  · exact q_595
  · exact q_597
  · exact q_599
  · exact q_601
  · exact q_603
  · exact q_605
  · exact q_607
  · exact q_609
  · exact q_611
  · exact q_613
  · exact q_615
  · exact q_617
  · exact q_619
  · exact q_621
  · exact q_623
  · exact q_625
  · exact q_627
  · exact q_629
  · exact q_631
  · exact q_633
  · exact q_635
  · exact q_637
  · exact q_639
theorem fM {w0 : Cond} : jF (w0 :: TT) RM FdM 25 tyM := ⟨fun w hw => List.mem_cons_of_mem _ (uM_in w hw), tyM_ok, nmM, clM_ok⟩
section FC
variable {l : Launch} {X : Cx} {D : va_G} {ad : Nat → Nat} {ac : Nat → ClassId} {A : Nat → Prop} {cc : ByteArray} {nL : Nat} {w0 : Cond} {R : Room} {ret : Option FieldType} {cells slots : Nat} {K : Heap → List Loc → Prop} {Q : State → Prop} {σ : St} {pc : Nat} {L : Lv} {rest st As : List Value} {rm : Room}
theorem c_N_41 : jcV TT RN 41 mt_N_startAnew 2 := ⟨TT_good, q_138, q_135, q_137, qs_0, q_1, by decide, by decide, by decide +kernel⟩
theorem k_N_41 (h : jX X (yC D ad ac) A cc nL RN (w0 :: TT) R ret) {post : St → Prop} (hM : jMv l (yC D ad ac) mt_N_startAnew TT rm (.ref (ad 20) :: As) σ post) (hR : jRm rm mt_N_startAnew.n R) (hn : As.length = 2) (hst : st = As.reverse ++ .ref (ad 20) :: rest) (hcat : (rest.map fun v => v.category).sum ≤ 8) (hcs : cells ≤ R.cells ∧ slots ≤ R.slots) (hd : decode cc pc = .ok (.invokevirtual 41, 3)) (kk : ∀ (σ' : St), post σ' → jW l X (yC D ad ac) A nL cells slots kT Q σ' (pc + 3) L rest) : jW l X (yC D ad ac) A nL cells slots K Q σ pc L st := jx_callVv h c_N_41 hM eC20 rfl hR hn hst hcat hcs hd kk
theorem g_N_10 (h : jX X (yC D ad ac) A cc nL RN (w0 :: TT) R ret) (hd : decode cc pc = .ok (.getfield 10, 3)) (kk : jW l X (yC D ad ac) A nL cells slots K Q σ (pc + 3) L (.ref (ad 21) :: rest)) : jW l X (yC D ad ac) A nL cells slots K Q σ pc L (.ref (ad 20) :: rest) := jx_get h fN eC20 rfl 0 (by decide) (List.mem_cons_of_mem _ q_177) rfl hd kk
theorem g_N_54 (h : jX X (yC D ad ac) A cc nL RN (w0 :: TT) R ret) (hd : decode cc pc = .ok (.getfield 54, 3)) (kk : jW l X (yC D ad ac) A nL cells slots K Q σ (pc + 3) L (.int (σ.1 2) :: rest)) : jW l X (yC D ad ac) A nL cells slots K Q σ pc L (.ref (ad 21) :: rest) := jx_get h fP eC21 rfl 1 (by decide) (List.mem_cons_of_mem _ q_31) rfl hd kk
theorem g_N_63 (h : jX X (yC D ad ac) A cc nL RN (w0 :: TT) R ret) (hd : decode cc pc = .ok (.getfield 63, 3)) (kk : jW l X (yC D ad ac) A nL cells slots K Q σ (pc + 3) L (.ref (ad 3) :: rest)) : jW l X (yC D ad ac) A nL cells slots K Q σ pc L (.ref (ad 21) :: rest) := jx_get h fP eC21 rfl 3 (by decide) (List.mem_cons_of_mem _ q_35) rfl hd kk
theorem g_N_66 (h : jX X (yC D ad ac) A cc nL RN (w0 :: TT) R ret) (hd : decode cc pc = .ok (.getfield 66, 3)) (kk : jW l X (yC D ad ac) A nL cells slots K Q σ (pc + 3) L (.ref (ad 4) :: rest)) : jW l X (yC D ad ac) A nL cells slots K Q σ pc L (.ref (ad 21) :: rest) := jx_get h fP eC21 rfl 4 (by decide) (List.mem_cons_of_mem _ q_37) rfl hd kk
theorem g_N_69 (h : jX X (yC D ad ac) A cc nL RN (w0 :: TT) R ret) (hd : decode cc pc = .ok (.getfield 69, 3)) (kk : jW l X (yC D ad ac) A nL cells slots K Q σ (pc + 3) L (.ref (ad 5) :: rest)) : jW l X (yC D ad ac) A nL cells slots K Q σ pc L (.ref (ad 21) :: rest) := jx_get h fP eC21 rfl 5 (by decide) (List.mem_cons_of_mem _ q_39) rfl hd kk
theorem c_N_72 : jcV TT RN 72 mt_N_stationOfBalancer 1 := ⟨TT_good, q_234, q_231, q_233, qs_9, q_1, by decide, by decide, by decide +kernel⟩
theorem k_N_72 (h : jX X (yC D ad ac) A cc nL RN (w0 :: TT) R ret) {post : Int32 → Prop} (hM : jMp l (yC D ad ac) mt_N_stationOfBalancer TT rm (.ref (ad 20) :: As) σ post) (hR : jRm rm mt_N_stationOfBalancer.n R) (hn : As.length = 1) (hst : st = As.reverse ++ .ref (ad 20) :: rest) (hcat : (rest.map fun v => v.category).sum ≤ 8) (hcs : cells ≤ R.cells ∧ slots ≤ R.slots) (hd : decode cc pc = .ok (.invokevirtual 72, 3)) (kk : ∀ (r : Int32), post r → jW l X (yC D ad ac) A nL cells slots K Q σ (pc + 3) L (.int r :: rest)) : jW l X (yC D ad ac) A nL cells slots K Q σ pc L st := jx_callVp h c_N_72 hM eC20 rfl hR hn hst hcat hcs hd kk
theorem g_N_30 (h : jX X (yC D ad ac) A cc nL RN (w0 :: TT) R ret) (hd : decode cc pc = .ok (.getfield 30, 3)) (kk : jW l X (yC D ad ac) A nL cells slots K Q σ (pc + 3) L (.ref (ad 0) :: rest)) : jW l X (yC D ad ac) A nL cells slots K Q σ pc L (.ref (ad 20) :: rest) := jx_get h fN eC20 rfl 3 (by decide) (List.mem_cons_of_mem _ q_180) rfl hd kk
theorem g_N_78 (h : jX X (yC D ad ac) A cc nL RN (w0 :: TT) R ret) (hd : decode cc pc = .ok (.getfield 78, 3)) (kk : jW l X (yC D ad ac) A nL cells slots K Q σ (pc + 3) L (.int (σ.1 1) :: rest)) : jW l X (yC D ad ac) A nL cells slots K Q σ pc L (.ref (ad 21) :: rest) := jx_get h fP eC21 rfl 0 (by decide) (List.mem_cons_of_mem _ q_29) rfl hd kk
theorem g_N_82 (h : jX X (yC D ad ac) A cc nL RN (w0 :: TT) R ret) (hd : decode cc pc = .ok (.getfield 82, 3)) (kk : jW l X (yC D ad ac) A nL cells slots K Q σ (pc + 3) L (.ref (ad 6) :: rest)) : jW l X (yC D ad ac) A nL cells slots K Q σ pc L (.ref (ad 21) :: rest) := jx_get h fP eC21 rfl 6 (by decide) (List.mem_cons_of_mem _ q_41) rfl hd kk
theorem c_N_85 : jcV TT RN 85 mt_N_stationOfExit 1 := ⟨TT_good, q_230, q_227, q_229, qs_8, q_1, by decide, by decide, by decide +kernel⟩
theorem k_N_85 (h : jX X (yC D ad ac) A cc nL RN (w0 :: TT) R ret) {post : Int32 → Prop} (hM : jMp l (yC D ad ac) mt_N_stationOfExit TT rm (.ref (ad 20) :: As) σ post) (hR : jRm rm mt_N_stationOfExit.n R) (hn : As.length = 1) (hst : st = As.reverse ++ .ref (ad 20) :: rest) (hcat : (rest.map fun v => v.category).sum ≤ 8) (hcs : cells ≤ R.cells ∧ slots ≤ R.slots) (hd : decode cc pc = .ok (.invokevirtual 85, 3)) (kk : ∀ (r : Int32), post r → jW l X (yC D ad ac) A nL cells slots K Q σ (pc + 3) L (.int r :: rest)) : jW l X (yC D ad ac) A nL cells slots K Q σ pc L st := jx_callVp h c_N_85 hM eC20 rfl hR hn hst hcat hcs hd kk
theorem g_N_34 (h : jX X (yC D ad ac) A cc nL RN (w0 :: TT) R ret) (hd : decode cc pc = .ok (.getfield 34, 3)) (kk : jW l X (yC D ad ac) A nL cells slots K Q σ (pc + 3) L (.ref (ad 1) :: rest)) : jW l X (yC D ad ac) A nL cells slots K Q σ pc L (.ref (ad 20) :: rest) := jx_get h fN eC20 rfl 4 (by decide) (List.mem_cons_of_mem _ q_181) rfl hd kk
theorem g_N_19 (h : jX X (yC D ad ac) A cc nL RN (w0 :: TT) R ret) (hd : decode cc pc = .ok (.getfield 19, 3)) (kk : jW l X (yC D ad ac) A nL cells slots K Q σ (pc + 3) L (.ref (ad 22) :: rest)) : jW l X (yC D ad ac) A nL cells slots K Q σ pc L (.ref (ad 20) :: rest) := jx_get h fN eC20 rfl 1 (by decide) (List.mem_cons_of_mem _ q_178) rfl hd kk
theorem g_N_90 (h : jX X (yC D ad ac) A cc nL RN (w0 :: TT) R ret) (hd : decode cc pc = .ok (.getfield 90, 3)) (kk : jW l X (yC D ad ac) A nL cells slots K Q σ (pc + 3) L (.int (σ.1 4) :: rest)) : jW l X (yC D ad ac) A nL cells slots K Q σ pc L (.ref (ad 22) :: rest) := jx_get h fT eC22 rfl 0 (by decide) (List.mem_cons_of_mem _ q_71) rfl hd kk
theorem g_N_93 (h : jX X (yC D ad ac) A cc nL RN (w0 :: TT) R ret) (hd : decode cc pc = .ok (.getfield 93, 3)) (kk : jW l X (yC D ad ac) A nL cells slots K Q σ (pc + 3) L (.int (σ.1 5) :: rest)) : jW l X (yC D ad ac) A nL cells slots K Q σ pc L (.ref (ad 22) :: rest) := jx_get h fT eC22 rfl 1 (by decide) (List.mem_cons_of_mem _ q_73) rfl hd kk
theorem c_N_101 : jcV TT RN 101 mt_T_add 2 := ⟨TT_good, q_377, q_374, q_375, q_376, q_3, by decide, by decide, by decide +kernel⟩
theorem k_N_101 (h : jX X (yC D ad ac) A cc nL RN (w0 :: TT) R ret) {post : Int32 → St → Prop} (hM : jMi l (yC D ad ac) mt_T_add TT rm (.ref (ad 22) :: As) σ post) (hR : jRm rm mt_T_add.n R) (hn : As.length = 2) (hst : st = As.reverse ++ .ref (ad 22) :: rest) (hcat : (rest.map fun v => v.category).sum ≤ 8) (hcs : cells ≤ R.cells ∧ slots ≤ R.slots) (hd : decode cc pc = .ok (.invokevirtual 101, 3)) (kk : ∀ (r : Int32) (σ' : St), post r σ' → jW l X (yC D ad ac) A nL cells slots kT Q σ' (pc + 3) L (.int r :: rest)) : jW l X (yC D ad ac) A nL cells slots K Q σ pc L st := jx_callVi h c_N_101 hM eC22 rfl hR hn hst hcat hcs hd kk
theorem c_N_105 : jcV TT RN 105 mt_T_has 1 := ⟨TT_good, q_388, q_385, q_386, q_387, q_3, by decide, by decide, by decide +kernel⟩
theorem k_N_105 (h : jX X (yC D ad ac) A cc nL RN (w0 :: TT) R ret) {post : Int32 → Prop} (hM : jMp l (yC D ad ac) mt_T_has TT rm (.ref (ad 22) :: As) σ post) (hR : jRm rm mt_T_has.n R) (hn : As.length = 1) (hst : st = As.reverse ++ .ref (ad 22) :: rest) (hcat : (rest.map fun v => v.category).sum ≤ 8) (hcs : cells ≤ R.cells ∧ slots ≤ R.slots) (hd : decode cc pc = .ok (.invokevirtual 105, 3)) (kk : ∀ (r : Int32), post r → jW l X (yC D ad ac) A nL cells slots K Q σ (pc + 3) L (.int r :: rest)) : jW l X (yC D ad ac) A nL cells slots K Q σ pc L st := jx_callVp h c_N_105 hM eC22 rfl hR hn hst hcat hcs hd kk
theorem c_N_111 : jcV TT RN 111 mt_N_canStep 1 := ⟨TT_good, q_393, q_390, q_392, qs_11, q_1, by decide, by decide, by decide +kernel⟩
theorem k_N_111 (h : jX X (yC D ad ac) A cc nL RN (w0 :: TT) R ret) {post : Int32 → Prop} (hM : jMp l (yC D ad ac) mt_N_canStep TT rm (.ref (ad 20) :: As) σ post) (hR : jRm rm mt_N_canStep.n R) (hn : As.length = 1) (hst : st = As.reverse ++ .ref (ad 20) :: rest) (hcat : (rest.map fun v => v.category).sum ≤ 8) (hcs : cells ≤ R.cells ∧ slots ≤ R.slots) (hd : decode cc pc = .ok (.invokevirtual 111, 3)) (kk : ∀ (r : Int32), post r → jW l X (yC D ad ac) A nL cells slots K Q σ (pc + 3) L (.int r :: rest)) : jW l X (yC D ad ac) A nL cells slots K Q σ pc L st := jx_callVp h c_N_111 hM eC20 rfl hR hn hst hcat hcs hd kk
theorem c_N_116 : jcV TT RN 116 mt_N_step 1 := ⟨TT_good, q_402, q_399, q_401, qs_13, q_1, by decide, by decide, by decide +kernel⟩
theorem k_N_116 (h : jX X (yC D ad ac) A cc nL RN (w0 :: TT) R ret) {post : Int32 → St → Prop} (hM : jMi l (yC D ad ac) mt_N_step TT rm (.ref (ad 20) :: As) σ post) (hR : jRm rm mt_N_step.n R) (hn : As.length = 1) (hst : st = As.reverse ++ .ref (ad 20) :: rest) (hcat : (rest.map fun v => v.category).sum ≤ 8) (hcs : cells ≤ R.cells ∧ slots ≤ R.slots) (hd : decode cc pc = .ok (.invokevirtual 116, 3)) (kk : ∀ (r : Int32) (σ' : St), post r σ' → jW l X (yC D ad ac) A nL cells slots kT Q σ' (pc + 3) L (.int r :: rest)) : jW l X (yC D ad ac) A nL cells slots K Q σ pc L st := jx_callVi h c_N_116 hM eC20 rfl hR hn hst hcat hcs hd kk
theorem g_N_26 (h : jX X (yC D ad ac) A cc nL RN (w0 :: TT) R ret) (hd : decode cc pc = .ok (.getfield 26, 3)) (kk : jW l X (yC D ad ac) A nL cells slots K Q σ (pc + 3) L (.ref (ad 23) :: rest)) : jW l X (yC D ad ac) A nL cells slots K Q σ pc L (.ref (ad 20) :: rest) := jx_get h fN eC20 rfl 2 (by decide) (List.mem_cons_of_mem _ q_179) rfl hd kk
theorem c_N_119 : jcV TT RN 119 mt_B_has 1 := ⟨TT_good, q_437, q_434, q_435, q_436, q_4, by decide, by decide, by decide +kernel⟩
theorem k_N_119 (h : jX X (yC D ad ac) A cc nL RN (w0 :: TT) R ret) {post : Int32 → Prop} (hM : jMp l (yC D ad ac) mt_B_has TT rm (.ref (ad 23) :: As) σ post) (hR : jRm rm mt_B_has.n R) (hn : As.length = 1) (hst : st = As.reverse ++ .ref (ad 23) :: rest) (hcat : (rest.map fun v => v.category).sum ≤ 8) (hcs : cells ≤ R.cells ∧ slots ≤ R.slots) (hd : decode cc pc = .ok (.invokevirtual 119, 3)) (kk : ∀ (r : Int32), post r → jW l X (yC D ad ac) A nL cells slots K Q σ (pc + 3) L (.int r :: rest)) : jW l X (yC D ad ac) A nL cells slots K Q σ pc L st := jx_callVp h c_N_119 hM eC23 rfl hR hn hst hcat hcs hd kk
theorem c_N_122 : jcV TT RN 122 mt_N_handOver 1 := ⟨TT_good, q_442, q_439, q_441, qs_17, q_1, by decide, by decide, by decide +kernel⟩
theorem k_N_122 (h : jX X (yC D ad ac) A cc nL RN (w0 :: TT) R ret) {post : Int32 → St → Prop} (hM : jMi l (yC D ad ac) mt_N_handOver TT rm (.ref (ad 20) :: As) σ post) (hR : jRm rm mt_N_handOver.n R) (hn : As.length = 1) (hst : st = As.reverse ++ .ref (ad 20) :: rest) (hcat : (rest.map fun v => v.category).sum ≤ 8) (hcs : cells ≤ R.cells ∧ slots ≤ R.slots) (hd : decode cc pc = .ok (.invokevirtual 122, 3)) (kk : ∀ (r : Int32) (σ' : St), post r σ' → jW l X (yC D ad ac) A nL cells slots kT Q σ' (pc + 3) L (.int r :: rest)) : jW l X (yC D ad ac) A nL cells slots K Q σ pc L st := jx_callVi h c_N_122 hM eC20 rfl hR hn hst hcat hcs hd kk
theorem c_N_125 : jcV TT RN 125 mt_B_takeOut 1 := ⟨TT_good, q_446, q_443, q_444, q_445, q_4, by decide, by decide, by decide +kernel⟩
theorem k_N_125 (h : jX X (yC D ad ac) A cc nL RN (w0 :: TT) R ret) {post : St → Prop} (hM : jMv l (yC D ad ac) mt_B_takeOut TT rm (.ref (ad 23) :: As) σ post) (hR : jRm rm mt_B_takeOut.n R) (hn : As.length = 1) (hst : st = As.reverse ++ .ref (ad 23) :: rest) (hcat : (rest.map fun v => v.category).sum ≤ 8) (hcs : cells ≤ R.cells ∧ slots ≤ R.slots) (hd : decode cc pc = .ok (.invokevirtual 125, 3)) (kk : ∀ (σ' : St), post σ' → jW l X (yC D ad ac) A nL cells slots kT Q σ' (pc + 3) L rest) : jW l X (yC D ad ac) A nL cells slots K Q σ pc L st := jx_callVv h c_N_125 hM eC23 rfl hR hn hst hcat hcs hd kk
theorem c_N_129 : jcV TT RN 129 mt_B_hasRoom 0 := ⟨TT_good, q_206, q_203, q_204, q_205, q_4, by decide, by decide, by decide +kernel⟩
theorem k_N_129 (h : jX X (yC D ad ac) A cc nL RN (w0 :: TT) R ret) {post : Int32 → Prop} (hM : jMp l (yC D ad ac) mt_B_hasRoom TT rm (.ref (ad 23) :: As) σ post) (hR : jRm rm mt_B_hasRoom.n R) (hn : As.length = 0) (hst : st = As.reverse ++ .ref (ad 23) :: rest) (hcat : (rest.map fun v => v.category).sum ≤ 8) (hcs : cells ≤ R.cells ∧ slots ≤ R.slots) (hd : decode cc pc = .ok (.invokevirtual 129, 3)) (kk : ∀ (r : Int32), post r → jW l X (yC D ad ac) A nL cells slots K Q σ (pc + 3) L (.int r :: rest)) : jW l X (yC D ad ac) A nL cells slots K Q σ pc L st := jx_callVp h c_N_129 hM eC23 rfl hR hn hst hcat hcs hd kk
theorem g_N_135 (h : jX X (yC D ad ac) A cc nL RN (w0 :: TT) R ret) (hd : decode cc pc = .ok (.getfield 135, 3)) (kk : jW l X (yC D ad ac) A nL cells slots K Q σ (pc + 3) L (.ref (ad 17) :: rest)) : jW l X (yC D ad ac) A nL cells slots K Q σ pc L (.ref (ad 23) :: rest) := jx_get h fB eC23 rfl 1 (by decide) (List.mem_cons_of_mem _ q_121) rfl hd kk
theorem g_N_138 (h : jX X (yC D ad ac) A cc nL RN (w0 :: TT) R ret) (hd : decode cc pc = .ok (.getfield 138, 3)) (kk : jW l X (yC D ad ac) A nL cells slots K Q σ (pc + 3) L (.ref (ad 18) :: rest)) : jW l X (yC D ad ac) A nL cells slots K Q σ pc L (.ref (ad 23) :: rest) := jx_get h fB eC23 rfl 2 (by decide) (List.mem_cons_of_mem _ q_123) rfl hd kk
theorem g_N_141 (h : jX X (yC D ad ac) A cc nL RN (w0 :: TT) R ret) (hd : decode cc pc = .ok (.getfield 141, 3)) (kk : jW l X (yC D ad ac) A nL cells slots K Q σ (pc + 3) L (.ref (ad 19) :: rest)) : jW l X (yC D ad ac) A nL cells slots K Q σ pc L (.ref (ad 23) :: rest) := jx_get h fB eC23 rfl 3 (by decide) (List.mem_cons_of_mem _ q_125) rfl hd kk
theorem c_N_144 : jcV TT RN 144 mt_B_post 3 := ⟨TT_good, q_238, q_235, q_236, q_237, q_4, by decide, by decide, by decide +kernel⟩
theorem k_N_144 (h : jX X (yC D ad ac) A cc nL RN (w0 :: TT) R ret) {post : St → Prop} (hM : jMv l (yC D ad ac) mt_B_post TT rm (.ref (ad 23) :: As) σ post) (hR : jRm rm mt_B_post.n R) (hn : As.length = 3) (hst : st = As.reverse ++ .ref (ad 23) :: rest) (hcat : (rest.map fun v => v.category).sum ≤ 8) (hcs : cells ≤ R.cells ∧ slots ≤ R.slots) (hd : decode cc pc = .ok (.invokevirtual 144, 3)) (kk : ∀ (σ' : St), post σ' → jW l X (yC D ad ac) A nL cells slots kT Q σ' (pc + 3) L rest) : jW l X (yC D ad ac) A nL cells slots K Q σ pc L st := jx_callVv h c_N_144 hM eC23 rfl hR hn hst hcat hcs hd kk
theorem g_N_148 (h : jX X (yC D ad ac) A cc nL RN (w0 :: TT) R ret) (hd : decode cc pc = .ok (.getfield 148, 3)) (kk : jW l X (yC D ad ac) A nL cells slots K Q σ (pc + 3) L (.int (σ.1 6) :: rest)) : jW l X (yC D ad ac) A nL cells slots K Q σ pc L (.ref (ad 23) :: rest) := jx_get h fB eC23 rfl 0 (by decide) (List.mem_cons_of_mem _ q_119) rfl hd kk
theorem g_N_151 (h : jX X (yC D ad ac) A cc nL RN (w0 :: TT) R ret) (hd : decode cc pc = .ok (.getfield 151, 3)) (kk : jW l X (yC D ad ac) A nL cells slots K Q σ (pc + 3) L (.ref (ad 11) :: rest)) : jW l X (yC D ad ac) A nL cells slots K Q σ pc L (.ref (ad 22) :: rest) := jx_get h fT eC22 rfl 4 (by decide) (List.mem_cons_of_mem _ q_79) rfl hd kk
theorem g_N_154 (h : jX X (yC D ad ac) A cc nL RN (w0 :: TT) R ret) (hd : decode cc pc = .ok (.getfield 154, 3)) (kk : jW l X (yC D ad ac) A nL cells slots K Q σ (pc + 3) L (.ref (ad 14) :: rest)) : jW l X (yC D ad ac) A nL cells slots K Q σ pc L (.ref (ad 22) :: rest) := jx_get h fT eC22 rfl 7 (by decide) (List.mem_cons_of_mem _ q_85) rfl hd kk
theorem c_N_155 : jcV TT RN 155 mt_B_holds 2 := ⟨TT_good, q_210, q_207, q_208, q_209, q_4, by decide, by decide, by decide +kernel⟩
theorem k_N_155 (h : jX X (yC D ad ac) A cc nL RN (w0 :: TT) R ret) {post : Int32 → Prop} (hM : jMp l (yC D ad ac) mt_B_holds TT rm (.ref (ad 23) :: As) σ post) (hR : jRm rm mt_B_holds.n R) (hn : As.length = 2) (hst : st = As.reverse ++ .ref (ad 23) :: rest) (hcat : (rest.map fun v => v.category).sum ≤ 8) (hcs : cells ≤ R.cells ∧ slots ≤ R.slots) (hd : decode cc pc = .ok (.invokevirtual 155, 3)) (kk : ∀ (r : Int32), post r → jW l X (yC D ad ac) A nL cells slots K Q σ (pc + 3) L (.int r :: rest)) : jW l X (yC D ad ac) A nL cells slots K Q σ pc L st := jx_callVp h c_N_155 hM eC23 rfl hR hn hst hcat hcs hd kk
theorem c_N_159 : jcV TT RN 159 mt_N_stationOfNext 1 := ⟨TT_good, q_214, q_211, q_213, qs_6, q_1, by decide, by decide, by decide +kernel⟩
theorem k_N_159 (h : jX X (yC D ad ac) A cc nL RN (w0 :: TT) R ret) {post : Int32 → Prop} (hM : jMp l (yC D ad ac) mt_N_stationOfNext TT rm (.ref (ad 20) :: As) σ post) (hR : jRm rm mt_N_stationOfNext.n R) (hn : As.length = 1) (hst : st = As.reverse ++ .ref (ad 20) :: rest) (hcat : (rest.map fun v => v.category).sum ≤ 8) (hcs : cells ≤ R.cells ∧ slots ≤ R.slots) (hd : decode cc pc = .ok (.invokevirtual 159, 3)) (kk : ∀ (r : Int32), post r → jW l X (yC D ad ac) A nL cells slots K Q σ (pc + 3) L (.int r :: rest)) : jW l X (yC D ad ac) A nL cells slots K Q σ pc L st := jx_callVp h c_N_159 hM eC20 rfl hR hn hst hcat hcs hd kk
theorem g_N_162 (h : jX X (yC D ad ac) A cc nL RN (w0 :: TT) R ret) (hd : decode cc pc = .ok (.getfield 162, 3)) (kk : jW l X (yC D ad ac) A nL cells slots K Q σ (pc + 3) L (.int (σ.1 0) :: rest)) : jW l X (yC D ad ac) A nL cells slots K Q σ pc L (.ref (ad 20) :: rest) := jx_get h fN eC20 rfl 6 (by decide) (List.mem_cons_of_mem _ q_183) rfl hd kk
theorem g_N_37 (h : jX X (yC D ad ac) A cc nL RN (w0 :: TT) R ret) (hd : decode cc pc = .ok (.getfield 37, 3)) (kk : jW l X (yC D ad ac) A nL cells slots K Q σ (pc + 3) L (.ref (ad 2) :: rest)) : jW l X (yC D ad ac) A nL cells slots K Q σ pc L (.ref (ad 20) :: rest) := jx_get h fN eC20 rfl 5 (by decide) (List.mem_cons_of_mem _ q_182) rfl hd kk
theorem g_N_166 (h : jX X (yC D ad ac) A cc nL RN (w0 :: TT) R ret) (hd : decode cc pc = .ok (.getfield 166, 3)) (kk : jW l X (yC D ad ac) A nL cells slots K Q σ (pc + 3) L (.ref (ad 9) :: rest)) : jW l X (yC D ad ac) A nL cells slots K Q σ pc L (.ref (ad 22) :: rest) := jx_get h fT eC22 rfl 2 (by decide) (List.mem_cons_of_mem _ q_75) rfl hd kk
theorem g_N_168 (h : jX X (yC D ad ac) A cc nL RN (w0 :: TT) R ret) (hd : decode cc pc = .ok (.getfield 168, 3)) (kk : jW l X (yC D ad ac) A nL cells slots K Q σ (pc + 3) L (.ref (ad 10) :: rest)) : jW l X (yC D ad ac) A nL cells slots K Q σ pc L (.ref (ad 22) :: rest) := jx_get h fT eC22 rfl 3 (by decide) (List.mem_cons_of_mem _ q_77) rfl hd kk
theorem g_N_171 (h : jX X (yC D ad ac) A cc nL RN (w0 :: TT) R ret) (hd : decode cc pc = .ok (.getfield 171, 3)) (kk : jW l X (yC D ad ac) A nL cells slots K Q σ (pc + 3) L (.ref (ad 12) :: rest)) : jW l X (yC D ad ac) A nL cells slots K Q σ pc L (.ref (ad 22) :: rest) := jx_get h fT eC22 rfl 5 (by decide) (List.mem_cons_of_mem _ q_81) rfl hd kk
theorem c_N_174 : jcV TT RN 174 mt_N_shownNumber 1 := ⟨TT_good, q_492, q_489, q_491, qs_18, q_1, by decide, by decide, by decide +kernel⟩
theorem k_N_174 (h : jX X (yC D ad ac) A cc nL RN (w0 :: TT) R ret) {post : Int32 → Prop} (hM : jMp l (yC D ad ac) mt_N_shownNumber TT rm (.ref (ad 20) :: As) σ post) (hR : jRm rm mt_N_shownNumber.n R) (hn : As.length = 1) (hst : st = As.reverse ++ .ref (ad 20) :: rest) (hcat : (rest.map fun v => v.category).sum ≤ 8) (hcs : cells ≤ R.cells ∧ slots ≤ R.slots) (hd : decode cc pc = .ok (.invokevirtual 174, 3)) (kk : ∀ (r : Int32), post r → jW l X (yC D ad ac) A nL cells slots K Q σ (pc + 3) L (.int r :: rest)) : jW l X (yC D ad ac) A nL cells slots K Q σ pc L st := jx_callVp h c_N_174 hM eC20 rfl hR hn hst hcat hcs hd kk
theorem c_N_177 : jcV TT RN 177 mt_N_highestNumber 0 := ⟨TT_good, q_510, q_507, q_509, qs_20, q_1, by decide, by decide, by decide +kernel⟩
theorem k_N_177 (h : jX X (yC D ad ac) A cc nL RN (w0 :: TT) R ret) {post : Int32 → Prop} (hM : jMp l (yC D ad ac) mt_N_highestNumber TT rm (.ref (ad 20) :: As) σ post) (hR : jRm rm mt_N_highestNumber.n R) (hn : As.length = 0) (hst : st = As.reverse ++ .ref (ad 20) :: rest) (hcat : (rest.map fun v => v.category).sum ≤ 8) (hcs : cells ≤ R.cells ∧ slots ≤ R.slots) (hd : decode cc pc = .ok (.invokevirtual 177, 3)) (kk : ∀ (r : Int32), post r → jW l X (yC D ad ac) A nL cells slots K Q σ (pc + 3) L (.int r :: rest)) : jW l X (yC D ad ac) A nL cells slots K Q σ pc L st := jx_callVp h c_N_177 hM eC20 rfl hR hn hst hcat hcs hd kk
theorem c_N_181 : jcV TT RN 181 mt_N_missingBelowHighest 0 := ⟨TT_good, q_515, q_512, q_514, qs_21, q_1, by decide, by decide, by decide +kernel⟩
theorem k_N_181 (h : jX X (yC D ad ac) A cc nL RN (w0 :: TT) R ret) {post : Int32 → Prop} (hM : jMp l (yC D ad ac) mt_N_missingBelowHighest TT rm (.ref (ad 20) :: As) σ post) (hR : jRm rm mt_N_missingBelowHighest.n R) (hn : As.length = 0) (hst : st = As.reverse ++ .ref (ad 20) :: rest) (hcat : (rest.map fun v => v.category).sum ≤ 8) (hcs : cells ≤ R.cells ∧ slots ≤ R.slots) (hd : decode cc pc = .ok (.invokevirtual 181, 3)) (kk : ∀ (r : Int32), post r → jW l X (yC D ad ac) A nL cells slots K Q σ (pc + 3) L (.int r :: rest)) : jW l X (yC D ad ac) A nL cells slots K Q σ pc L st := jx_callVp h c_N_181 hM eC20 rfl hR hn hst hcat hcs hd kk
theorem g_N_184 (h : jX X (yC D ad ac) A cc nL RN (w0 :: TT) R ret) (hd : decode cc pc = .ok (.getfield 184, 3)) (kk : jW l X (yC D ad ac) A nL cells slots K Q σ (pc + 3) L (.int (σ.1 3) :: rest)) : jW l X (yC D ad ac) A nL cells slots K Q σ pc L (.ref (ad 21) :: rest) := jx_get h fP eC21 rfl 2 (by decide) (List.mem_cons_of_mem _ q_33) rfl hd kk
theorem c_N_189 : jcV TT RN 189 mt_N_stepAll 0 := ⟨TT_good, q_527, q_524, q_526, qs_22, q_1, by decide, by decide, by decide +kernel⟩
theorem k_N_189 (h : jX X (yC D ad ac) A cc nL RN (w0 :: TT) R ret) {post : St → Prop} (hM : jMv l (yC D ad ac) mt_N_stepAll TT rm (.ref (ad 20) :: As) σ post) (hR : jRm rm mt_N_stepAll.n R) (hn : As.length = 0) (hst : st = As.reverse ++ .ref (ad 20) :: rest) (hcat : (rest.map fun v => v.category).sum ≤ 8) (hcs : cells ≤ R.cells ∧ slots ≤ R.slots) (hd : decode cc pc = .ok (.invokevirtual 189, 3)) (kk : ∀ (σ' : St), post σ' → jW l X (yC D ad ac) A nL cells slots kT Q σ' (pc + 3) L rest) : jW l X (yC D ad ac) A nL cells slots K Q σ pc L st := jx_callVv h c_N_189 hM eC20 rfl hR hn hst hcat hcs hd kk
theorem c_N_192 : jcV TT RN 192 mt_N_handOverAll 0 := ⟨TT_good, q_531, q_528, q_530, qs_23, q_1, by decide, by decide, by decide +kernel⟩
theorem k_N_192 (h : jX X (yC D ad ac) A cc nL RN (w0 :: TT) R ret) {post : St → Prop} (hM : jMv l (yC D ad ac) mt_N_handOverAll TT rm (.ref (ad 20) :: As) σ post) (hR : jRm rm mt_N_handOverAll.n R) (hn : As.length = 0) (hst : st = As.reverse ++ .ref (ad 20) :: rest) (hcat : (rest.map fun v => v.category).sum ≤ 8) (hcs : cells ≤ R.cells ∧ slots ≤ R.slots) (hd : decode cc pc = .ok (.invokevirtual 192, 3)) (kk : ∀ (σ' : St), post σ' → jW l X (yC D ad ac) A nL cells slots kT Q σ' (pc + 3) L rest) : jW l X (yC D ad ac) A nL cells slots K Q σ pc L st := jx_callVv h c_N_192 hM eC20 rfl hR hn hst hcat hcs hd kk
theorem c_N_195 : jcV TT RN 195 mt_P_drawFor 1 := ⟨TT_good, q_142, q_139, q_140, q_141, q_2, by decide, by decide, by decide +kernel⟩
theorem k_N_195 (h : jX X (yC D ad ac) A cc nL RN (w0 :: TT) R ret) {post : St → Prop} (hM : jMv l (yC D ad ac) mt_P_drawFor TT rm (.ref (ad 21) :: As) σ post) (hR : jRm rm mt_P_drawFor.n R) (hn : As.length = 1) (hst : st = As.reverse ++ .ref (ad 21) :: rest) (hcat : (rest.map fun v => v.category).sum ≤ 8) (hcs : cells ≤ R.cells ∧ slots ≤ R.slots) (hd : decode cc pc = .ok (.invokevirtual 195, 3)) (kk : ∀ (σ' : St), post σ' → jW l X (yC D ad ac) A nL cells slots kT Q σ' (pc + 3) L rest) : jW l X (yC D ad ac) A nL cells slots K Q σ pc L st := jx_callVv h c_N_195 hM eC21 rfl hR hn hst hcat hcs hd kk
theorem c_N_198 : jcV TT RN 198 mt_T_clear 0 := ⟨TT_good, q_172, q_169, q_170, q_171, q_3, by decide, by decide, by decide +kernel⟩
theorem k_N_198 (h : jX X (yC D ad ac) A cc nL RN (w0 :: TT) R ret) {post : St → Prop} (hM : jMv l (yC D ad ac) mt_T_clear TT rm (.ref (ad 22) :: As) σ post) (hR : jRm rm mt_T_clear.n R) (hn : As.length = 0) (hst : st = As.reverse ++ .ref (ad 22) :: rest) (hcat : (rest.map fun v => v.category).sum ≤ 8) (hcs : cells ≤ R.cells ∧ slots ≤ R.slots) (hd : decode cc pc = .ok (.invokevirtual 198, 3)) (kk : ∀ (σ' : St), post σ' → jW l X (yC D ad ac) A nL cells slots kT Q σ' (pc + 3) L rest) : jW l X (yC D ad ac) A nL cells slots K Q σ pc L st := jx_callVv h c_N_198 hM eC22 rfl hR hn hst hcat hcs hd kk
theorem c_N_201 : jcV TT RN 201 mt_B_clear 0 := ⟨TT_good, q_176, q_173, q_174, q_175, q_4, by decide, by decide, by decide +kernel⟩
theorem k_N_201 (h : jX X (yC D ad ac) A cc nL RN (w0 :: TT) R ret) {post : St → Prop} (hM : jMv l (yC D ad ac) mt_B_clear TT rm (.ref (ad 23) :: As) σ post) (hR : jRm rm mt_B_clear.n R) (hn : As.length = 0) (hst : st = As.reverse ++ .ref (ad 23) :: rest) (hcat : (rest.map fun v => v.category).sum ≤ 8) (hcs : cells ≤ R.cells ∧ slots ≤ R.slots) (hd : decode cc pc = .ok (.invokevirtual 201, 3)) (kk : ∀ (σ' : St), post σ' → jW l X (yC D ad ac) A nL cells slots kT Q σ' (pc + 3) L rest) : jW l X (yC D ad ac) A nL cells slots K Q σ pc L st := jx_callVv h c_N_201 hM eC23 rfl hR hn hst hcat hcs hd kk
theorem p_N_162 (h : jX X (yC D ad ac) A cc nL RN (w0 :: TT) R ret) {v : Int32} (hd : decode cc pc = .ok (.putfield 162, 3)) (kk : jW l X (yC D ad ac) A nL cells slots kT Q (sF σ 0 v) (pc + 3) L rest) : jW l X (yC D ad ac) A nL cells slots K Q σ pc L (.int v :: .ref (ad 20) :: rest) := jx_put h fN eC20 rfl 6 (by decide) (List.mem_cons_of_mem _ q_183) rfl (by decide +kernel) (Nat.le_of_ble_eq_true rfl) rfl hd kk
theorem g_N_202 (h : jX X (yC D ad ac) A cc nL RN (w0 :: TT) R ret) (hd : decode cc pc = .ok (.getfield 202, 3)) (kk : jW l X (yC D ad ac) A nL cells slots K Q σ (pc + 3) L (.ref (ad 13) :: rest)) : jW l X (yC D ad ac) A nL cells slots K Q σ pc L (.ref (ad 22) :: rest) := jx_get h fT eC22 rfl 6 (by decide) (List.mem_cons_of_mem _ q_83) rfl hd kk
theorem c_N_205 : jcV TT RN 205 mt_P_balancerBehind 2 := ⟨TT_good, q_222, q_219, q_220, q_221, q_2, by decide, by decide, by decide +kernel⟩
theorem k_N_205 (h : jX X (yC D ad ac) A cc nL RN (w0 :: TT) R ret) {post : Int32 → Prop} (hM : jMp l (yC D ad ac) mt_P_balancerBehind TT rm (.ref (ad 21) :: As) σ post) (hR : jRm rm mt_P_balancerBehind.n R) (hn : As.length = 2) (hst : st = As.reverse ++ .ref (ad 21) :: rest) (hcat : (rest.map fun v => v.category).sum ≤ 8) (hcs : cells ≤ R.cells ∧ slots ≤ R.slots) (hd : decode cc pc = .ok (.invokevirtual 205, 3)) (kk : ∀ (r : Int32), post r → jW l X (yC D ad ac) A nL cells slots K Q σ (pc + 3) L (.int r :: rest)) : jW l X (yC D ad ac) A nL cells slots K Q σ pc L st := jx_callVp h c_N_205 hM eC21 rfl hR hn hst hcat hcs hd kk
theorem c_N_209 : jcV TT RN 209 mt_N_nextBalancer 1 := ⟨TT_good, q_218, q_215, q_217, qs_7, q_1, by decide, by decide, by decide +kernel⟩
theorem k_N_209 (h : jX X (yC D ad ac) A cc nL RN (w0 :: TT) R ret) {post : Int32 → Prop} (hM : jMp l (yC D ad ac) mt_N_nextBalancer TT rm (.ref (ad 20) :: As) σ post) (hR : jRm rm mt_N_nextBalancer.n R) (hn : As.length = 1) (hst : st = As.reverse ++ .ref (ad 20) :: rest) (hcat : (rest.map fun v => v.category).sum ≤ 8) (hcs : cells ≤ R.cells ∧ slots ≤ R.slots) (hd : decode cc pc = .ok (.invokevirtual 209, 3)) (kk : ∀ (r : Int32), post r → jW l X (yC D ad ac) A nL cells slots K Q σ (pc + 3) L (.int r :: rest)) : jW l X (yC D ad ac) A nL cells slots K Q σ pc L st := jx_callVp h c_N_209 hM eC20 rfl hR hn hst hcat hcs hd kk
theorem c_N_212 : jcV TT RN 212 mt_P_exitOf 1 := ⟨TT_good, q_226, q_223, q_224, q_225, q_2, by decide, by decide, by decide +kernel⟩
theorem k_N_212 (h : jX X (yC D ad ac) A cc nL RN (w0 :: TT) R ret) {post : Int32 → Prop} (hM : jMp l (yC D ad ac) mt_P_exitOf TT rm (.ref (ad 21) :: As) σ post) (hR : jRm rm mt_P_exitOf.n R) (hn : As.length = 1) (hst : st = As.reverse ++ .ref (ad 21) :: rest) (hcat : (rest.map fun v => v.category).sum ≤ 8) (hcs : cells ≤ R.cells ∧ slots ≤ R.slots) (hd : decode cc pc = .ok (.invokevirtual 212, 3)) (kk : ∀ (r : Int32), post r → jW l X (yC D ad ac) A nL cells slots K Q σ (pc + 3) L (.int r :: rest)) : jW l X (yC D ad ac) A nL cells slots K Q σ pc L st := jx_callVp h c_N_212 hM eC21 rfl hR hn hst hcat hcs hd kk
theorem c_N_215 : jcV TT RN 215 mt_N_isDown 1 := ⟨TT_good, q_397, q_394, q_396, qs_12, q_1, by decide, by decide, by decide +kernel⟩
theorem k_N_215 (h : jX X (yC D ad ac) A cc nL RN (w0 :: TT) R ret) {post : Int32 → Prop} (hM : jMp l (yC D ad ac) mt_N_isDown TT rm (.ref (ad 20) :: As) σ post) (hR : jRm rm mt_N_isDown.n R) (hn : As.length = 1) (hst : st = As.reverse ++ .ref (ad 20) :: rest) (hcat : (rest.map fun v => v.category).sum ≤ 8) (hcs : cells ≤ R.cells ∧ slots ≤ R.slots) (hd : decode cc pc = .ok (.invokevirtual 215, 3)) (kk : ∀ (r : Int32), post r → jW l X (yC D ad ac) A nL cells slots K Q σ (pc + 3) L (.int r :: rest)) : jW l X (yC D ad ac) A nL cells slots K Q σ pc L st := jx_callVp h c_N_215 hM eC20 rfl hR hn hst hcat hcs hd kk
theorem c_N_218 : jcV TT RN 218 mt_T_setOut 1 := ⟨TT_good, q_406, q_403, q_404, q_405, q_3, by decide, by decide, by decide +kernel⟩
theorem k_N_218 (h : jX X (yC D ad ac) A cc nL RN (w0 :: TT) R ret) {post : St → Prop} (hM : jMv l (yC D ad ac) mt_T_setOut TT rm (.ref (ad 22) :: As) σ post) (hR : jRm rm mt_T_setOut.n R) (hn : As.length = 1) (hst : st = As.reverse ++ .ref (ad 22) :: rest) (hcat : (rest.map fun v => v.category).sum ≤ 8) (hcs : cells ≤ R.cells ∧ slots ≤ R.slots) (hd : decode cc pc = .ok (.invokevirtual 218, 3)) (kk : ∀ (σ' : St), post σ' → jW l X (yC D ad ac) A nL cells slots kT Q σ' (pc + 3) L rest) : jW l X (yC D ad ac) A nL cells slots K Q σ pc L st := jx_callVv h c_N_218 hM eC22 rfl hR hn hst hcat hcs hd kk
theorem c_N_221 : jcV TT RN 221 mt_N_comeOut 2 := ⟨TT_good, q_410, q_407, q_409, qs_14, q_1, by decide, by decide, by decide +kernel⟩
theorem k_N_221 (h : jX X (yC D ad ac) A cc nL RN (w0 :: TT) R ret) {post : St → Prop} (hM : jMv l (yC D ad ac) mt_N_comeOut TT rm (.ref (ad 20) :: As) σ post) (hR : jRm rm mt_N_comeOut.n R) (hn : As.length = 2) (hst : st = As.reverse ++ .ref (ad 20) :: rest) (hcat : (rest.map fun v => v.category).sum ≤ 8) (hcs : cells ≤ R.cells ∧ slots ≤ R.slots) (hd : decode cc pc = .ok (.invokevirtual 221, 3)) (kk : ∀ (σ' : St), post σ' → jW l X (yC D ad ac) A nL cells slots kT Q σ' (pc + 3) L rest) : jW l X (yC D ad ac) A nL cells slots K Q σ pc L st := jx_callVv h c_N_221 hM eC20 rfl hR hn hst hcat hcs hd kk
theorem c_N_224 : jcV TT RN 224 mt_N_goThrough 2 := ⟨TT_good, q_422, q_419, q_421, qs_16, q_1, by decide, by decide, by decide +kernel⟩
theorem k_N_224 (h : jX X (yC D ad ac) A cc nL RN (w0 :: TT) R ret) {post : St → Prop} (hM : jMv l (yC D ad ac) mt_N_goThrough TT rm (.ref (ad 20) :: As) σ post) (hR : jRm rm mt_N_goThrough.n R) (hn : As.length = 2) (hst : st = As.reverse ++ .ref (ad 20) :: rest) (hcat : (rest.map fun v => v.category).sum ≤ 8) (hcs : cells ≤ R.cells ∧ slots ≤ R.slots) (hd : decode cc pc = .ok (.invokevirtual 224, 3)) (kk : ∀ (σ' : St), post σ' → jW l X (yC D ad ac) A nL cells slots kT Q σ' (pc + 3) L rest) : jW l X (yC D ad ac) A nL cells slots K Q σ pc L st := jx_callVv h c_N_224 hM eC20 rfl hR hn hst hcat hcs hd kk
theorem c_N_227 : jcV TT RN 227 mt_T_pass 3 := ⟨TT_good, q_426, q_423, q_424, q_425, q_3, by decide, by decide, by decide +kernel⟩
theorem k_N_227 (h : jX X (yC D ad ac) A cc nL RN (w0 :: TT) R ret) {post : St → Prop} (hM : jMv l (yC D ad ac) mt_T_pass TT rm (.ref (ad 22) :: As) σ post) (hR : jRm rm mt_T_pass.n R) (hn : As.length = 3) (hst : st = As.reverse ++ .ref (ad 22) :: rest) (hcat : (rest.map fun v => v.category).sum ≤ 8) (hcs : cells ≤ R.cells ∧ slots ≤ R.slots) (hd : decode cc pc = .ok (.invokevirtual 227, 3)) (kk : ∀ (σ' : St), post σ' → jW l X (yC D ad ac) A nL cells slots kT Q σ' (pc + 3) L rest) : jW l X (yC D ad ac) A nL cells slots K Q σ pc L st := jx_callVv h c_N_227 hM eC22 rfl hR hn hst hcat hcs hd kk
theorem c_N_230 : jcV TT RN 230 mt_N_nextNumberAt 1 := ⟨TT_good, q_414, q_411, q_413, qs_15, q_1, by decide, by decide, by decide +kernel⟩
theorem k_N_230 (h : jX X (yC D ad ac) A cc nL RN (w0 :: TT) R ret) {post : Int32 → Prop} (hM : jMp l (yC D ad ac) mt_N_nextNumberAt TT rm (.ref (ad 20) :: As) σ post) (hR : jRm rm mt_N_nextNumberAt.n R) (hn : As.length = 1) (hst : st = As.reverse ++ .ref (ad 20) :: rest) (hcat : (rest.map fun v => v.category).sum ≤ 8) (hcs : cells ≤ R.cells ∧ slots ≤ R.slots) (hd : decode cc pc = .ok (.invokevirtual 230, 3)) (kk : ∀ (r : Int32), post r → jW l X (yC D ad ac) A nL cells slots K Q σ (pc + 3) L (.int r :: rest)) : jW l X (yC D ad ac) A nL cells slots K Q σ pc L st := jx_callVp h c_N_230 hM eC20 rfl hR hn hst hcat hcs hd kk
theorem c_N_233 : jcV TT RN 233 mt_T_finish 2 := ⟨TT_good, q_418, q_415, q_416, q_417, q_3, by decide, by decide, by decide +kernel⟩
theorem k_N_233 (h : jX X (yC D ad ac) A cc nL RN (w0 :: TT) R ret) {post : St → Prop} (hM : jMv l (yC D ad ac) mt_T_finish TT rm (.ref (ad 22) :: As) σ post) (hR : jRm rm mt_T_finish.n R) (hn : As.length = 2) (hst : st = As.reverse ++ .ref (ad 22) :: rest) (hcat : (rest.map fun v => v.category).sum ≤ 8) (hcs : cells ≤ R.cells ∧ slots ≤ R.slots) (hd : decode cc pc = .ok (.invokevirtual 233, 3)) (kk : ∀ (σ' : St), post σ' → jW l X (yC D ad ac) A nL cells slots kT Q σ' (pc + 3) L rest) : jW l X (yC D ad ac) A nL cells slots K Q σ pc L st := jx_callVv h c_N_233 hM eC22 rfl hR hn hst hcat hcs hd kk
theorem c_N_236 : jcV TT RN 236 mt_T_arrive 2 := ⟨TT_good, q_451, q_448, q_449, q_450, q_3, by decide, by decide, by decide +kernel⟩
theorem k_N_236 (h : jX X (yC D ad ac) A cc nL RN (w0 :: TT) R ret) {post : St → Prop} (hM : jMv l (yC D ad ac) mt_T_arrive TT rm (.ref (ad 22) :: As) σ post) (hR : jRm rm mt_T_arrive.n R) (hn : As.length = 2) (hst : st = As.reverse ++ .ref (ad 22) :: rest) (hcat : (rest.map fun v => v.category).sum ≤ 8) (hcs : cells ≤ R.cells ∧ slots ≤ R.slots) (hd : decode cc pc = .ok (.invokevirtual 236, 3)) (kk : ∀ (σ' : St), post σ' → jW l X (yC D ad ac) A nL cells slots kT Q σ' (pc + 3) L rest) : jW l X (yC D ad ac) A nL cells slots K Q σ pc L st := jx_callVv h c_N_236 hM eC22 rfl hR hn hst hcat hcs hd kk
theorem g_N_239 (h : jX X (yC D ad ac) A cc nL RN (w0 :: TT) R ret) (hd : decode cc pc = .ok (.getfield 239, 3)) (kk : jW l X (yC D ad ac) A nL cells slots K Q σ (pc + 3) L (.ref (ad 15) :: rest)) : jW l X (yC D ad ac) A nL cells slots K Q σ pc L (.ref (ad 22) :: rest) := jx_get h fT eC22 rfl 8 (by decide) (List.mem_cons_of_mem _ q_87) rfl hd kk
theorem g_N_242 (h : jX X (yC D ad ac) A cc nL RN (w0 :: TT) R ret) (hd : decode cc pc = .ok (.getfield 242, 3)) (kk : jW l X (yC D ad ac) A nL cells slots K Q σ (pc + 3) L (.ref (ad 16) :: rest)) : jW l X (yC D ad ac) A nL cells slots K Q σ pc L (.ref (ad 22) :: rest) := jx_get h fT eC22 rfl 9 (by decide) (List.mem_cons_of_mem _ q_89) rfl hd kk
theorem c_N_245 : jcV TT RN 245 mt_N_leastMissing 0 := ⟨TT_good, q_496, q_493, q_495, qs_19, q_1, by decide, by decide, by decide +kernel⟩
theorem k_N_245 (h : jX X (yC D ad ac) A cc nL RN (w0 :: TT) R ret) {post : Int32 → Prop} (hM : jMp l (yC D ad ac) mt_N_leastMissing TT rm (.ref (ad 20) :: As) σ post) (hR : jRm rm mt_N_leastMissing.n R) (hn : As.length = 0) (hst : st = As.reverse ++ .ref (ad 20) :: rest) (hcat : (rest.map fun v => v.category).sum ≤ 8) (hcs : cells ≤ R.cells ∧ slots ≤ R.slots) (hd : decode cc pc = .ok (.invokevirtual 245, 3)) (kk : ∀ (r : Int32), post r → jW l X (yC D ad ac) A nL cells slots K Q σ (pc + 3) L (.int r :: rest)) : jW l X (yC D ad ac) A nL cells slots K Q σ pc L st := jx_callVp h c_N_245 hM eC20 rfl hR hn hst hcat hcs hd kk
theorem w_N_248 {w0 : Cond} : Cond.methodLink RN 248 Lib.Math.min.name ∈ w0 :: TT ∧ Cond.static Lib.Math.min.name ∈ w0 :: TT ∧ Cond.initialized "java/lang/Math" ∈ w0 :: TT ∧ Cond.code Lib.Math.min.name Lib.Math.min.code 2 (some .int) ∈ w0 :: TT := ⟨List.mem_cons_of_mem _ q_497, List.mem_cons_of_mem _ q_498, List.mem_cons_of_mem _ q_5, List.mem_cons_of_mem _ q_499⟩
theorem w_N_253 {w0 : Cond} : Cond.methodLink RN 253 Lib.Math.max.name ∈ w0 :: TT ∧ Cond.static Lib.Math.max.name ∈ w0 :: TT ∧ Cond.initialized "java/lang/Math" ∈ w0 :: TT ∧ Cond.code Lib.Math.max.name Lib.Math.max.code 2 (some .int) ∈ w0 :: TT := ⟨List.mem_cons_of_mem _ q_511, List.mem_cons_of_mem _ q_156, List.mem_cons_of_mem _ q_5, List.mem_cons_of_mem _ q_157⟩
theorem g_M_72 (h : jX X (yM D ad ac) A cc nL RM (w0 :: TT) R ret) (hd : decode cc pc = .ok (.getfield 72, 3)) (kk : jW l X (yM D ad ac) A nL cells slots K Q σ (pc + 3) L (.int (σ.1 0) :: rest)) : jW l X (yM D ad ac) A nL cells slots K Q σ pc L (.ref (ad 19) :: rest) := jx_get h fM eM19 rfl 0 (by decide) (List.mem_cons_of_mem _ q_566) rfl hd kk
theorem p_M_72 (h : jX X (yM D ad ac) A cc nL RM (w0 :: TT) R ret) {v : Int32} (hd : decode cc pc = .ok (.putfield 72, 3)) (kk : jW l X (yM D ad ac) A nL cells slots kT Q (sF σ 0 v) (pc + 3) L rest) : jW l X (yM D ad ac) A nL cells slots K Q σ pc L (.int v :: .ref (ad 19) :: rest) := jx_put h fM eM19 rfl 0 (by decide) (List.mem_cons_of_mem _ q_566) rfl (by decide +kernel) (Nat.le_of_ble_eq_true rfl) rfl hd kk
theorem g_M_76 (h : jX X (yM D ad ac) A cc nL RM (w0 :: TT) R ret) (hd : decode cc pc = .ok (.getfield 76, 3)) (kk : jW l X (yM D ad ac) A nL cells slots K Q σ (pc + 3) L (.int (σ.1 3) :: rest)) : jW l X (yM D ad ac) A nL cells slots K Q σ pc L (.ref (ad 19) :: rest) := jx_get h fM eM19 rfl 3 (by decide) (List.mem_cons_of_mem _ q_569) rfl hd kk
theorem g_M_7 (h : jX X (yM D ad ac) A cc nL RM (w0 :: TT) R ret) (hd : decode cc pc = .ok (.getfield 7, 3)) (kk : jW l X (yM D ad ac) A nL cells slots K Q σ (pc + 3) L (.ref (ad 0) :: rest)) : jW l X (yM D ad ac) A nL cells slots K Q σ pc L (.ref (ad 19) :: rest) := jx_get h fM eM19 rfl 4 (by decide) (List.mem_cons_of_mem _ q_570) rfl hd kk
theorem g_M_13 (h : jX X (yM D ad ac) A cc nL RM (w0 :: TT) R ret) (hd : decode cc pc = .ok (.getfield 13, 3)) (kk : jW l X (yM D ad ac) A nL cells slots K Q σ (pc + 3) L (.ref (ad 1) :: rest)) : jW l X (yM D ad ac) A nL cells slots K Q σ pc L (.ref (ad 19) :: rest) := jx_get h fM eM19 rfl 5 (by decide) (List.mem_cons_of_mem _ q_571) rfl hd kk
theorem g_M_16 (h : jX X (yM D ad ac) A cc nL RM (w0 :: TT) R ret) (hd : decode cc pc = .ok (.getfield 16, 3)) (kk : jW l X (yM D ad ac) A nL cells slots K Q σ (pc + 3) L (.ref (ad 2) :: rest)) : jW l X (yM D ad ac) A nL cells slots K Q σ pc L (.ref (ad 19) :: rest) := jx_get h fM eM19 rfl 6 (by decide) (List.mem_cons_of_mem _ q_572) rfl hd kk
theorem g_M_19 (h : jX X (yM D ad ac) A cc nL RM (w0 :: TT) R ret) (hd : decode cc pc = .ok (.getfield 19, 3)) (kk : jW l X (yM D ad ac) A nL cells slots K Q σ (pc + 3) L (.ref (ad 3) :: rest)) : jW l X (yM D ad ac) A nL cells slots K Q σ pc L (.ref (ad 19) :: rest) := jx_get h fM eM19 rfl 7 (by decide) (List.mem_cons_of_mem _ q_573) rfl hd kk
theorem p_M_76 (h : jX X (yM D ad ac) A cc nL RM (w0 :: TT) R ret) {v : Int32} (hd : decode cc pc = .ok (.putfield 76, 3)) (kk : jW l X (yM D ad ac) A nL cells slots kT Q (sF σ 3 v) (pc + 3) L rest) : jW l X (yM D ad ac) A nL cells slots K Q σ pc L (.int v :: .ref (ad 19) :: rest) := jx_put h fM eM19 rfl 3 (by decide) (List.mem_cons_of_mem _ q_569) rfl (by decide +kernel) (Nat.le_of_ble_eq_true rfl) rfl hd kk
theorem c_M_79 : jcV TT RM 79 mt_M_lay 2 := ⟨TT_good, q_549, q_546, q_548, qs_26, q_7, by decide, by decide, by decide +kernel⟩
theorem k_M_79 (h : jX X (yM D ad ac) A cc nL RM (w0 :: TT) R ret) {post : St → Prop} (hM : jMv l (yM D ad ac) mt_M_lay TT rm (.ref (ad 19) :: As) σ post) (hR : jRm rm mt_M_lay.n R) (hn : As.length = 2) (hst : st = As.reverse ++ .ref (ad 19) :: rest) (hcat : (rest.map fun v => v.category).sum ≤ 8) (hcs : cells ≤ R.cells ∧ slots ≤ R.slots) (hd : decode cc pc = .ok (.invokevirtual 79, 3)) (kk : ∀ (σ' : St), post σ' → jW l X (yM D ad ac) A nL cells slots kT Q σ' (pc + 3) L rest) : jW l X (yM D ad ac) A nL cells slots K Q σ pc L st := jx_callVv h c_M_79 hM eM19 rfl hR hn hst hcat hcs hd kk
theorem g_M_32 (h : jX X (yM D ad ac) A cc nL RM (w0 :: TT) R ret) (hd : decode cc pc = .ok (.getfield 32, 3)) (kk : jW l X (yM D ad ac) A nL cells slots K Q σ (pc + 3) L (.ref (ad 7) :: rest)) : jW l X (yM D ad ac) A nL cells slots K Q σ pc L (.ref (ad 19) :: rest) := jx_get h fM eM19 rfl 11 (by decide) (List.mem_cons_of_mem _ q_577) rfl hd kk
theorem c_M_82 : jcV TT RM 82 mt_M_mergeOnes 3 := ⟨TT_good, q_545, q_542, q_544, qs_25, q_7, by decide, by decide, by decide +kernel⟩
theorem k_M_82 (h : jX X (yM D ad ac) A cc nL RM (w0 :: TT) R ret) {post : St → Prop} (hM : jMv l (yM D ad ac) mt_M_mergeOnes TT rm (.ref (ad 19) :: As) σ post) (hR : jRm rm mt_M_mergeOnes.n R) (hn : As.length = 3) (hst : st = As.reverse ++ .ref (ad 19) :: rest) (hcat : (rest.map fun v => v.category).sum ≤ 8) (hcs : cells ≤ R.cells ∧ slots ≤ R.slots) (hd : decode cc pc = .ok (.invokevirtual 82, 3)) (kk : ∀ (σ' : St), post σ' → jW l X (yM D ad ac) A nL cells slots kT Q σ' (pc + 3) L rest) : jW l X (yM D ad ac) A nL cells slots K Q σ pc L st := jx_callVv h c_M_82 hM eM19 rfl hR hn hst hcat hcs hd kk
theorem c_M_86 : jcV TT RM 86 mt_M_join 4 := ⟨TT_good, q_561, q_558, q_560, qs_29, q_7, by decide, by decide, by decide +kernel⟩
theorem k_M_86 (h : jX X (yM D ad ac) A cc nL RM (w0 :: TT) R ret) {post : St → Prop} (hM : jMv l (yM D ad ac) mt_M_join TT rm (.ref (ad 19) :: As) σ post) (hR : jRm rm mt_M_join.n R) (hn : As.length = 4) (hst : st = As.reverse ++ .ref (ad 19) :: rest) (hcat : (rest.map fun v => v.category).sum ≤ 8) (hcs : cells ≤ R.cells ∧ slots ≤ R.slots) (hd : decode cc pc = .ok (.invokevirtual 86, 3)) (kk : ∀ (σ' : St), post σ' → jW l X (yM D ad ac) A nL cells slots kT Q σ' (pc + 3) L rest) : jW l X (yM D ad ac) A nL cells slots K Q σ pc L st := jx_callVv h c_M_86 hM eM19 rfl hR hn hst hcat hcs hd kk
theorem c_M_90 : jcV TT RM 90 mt_M_mergeTwos 3 := ⟨TT_good, q_557, q_554, q_556, qs_28, q_7, by decide, by decide, by decide +kernel⟩
theorem k_M_90 (h : jX X (yM D ad ac) A cc nL RM (w0 :: TT) R ret) {post : St → Prop} (hM : jMv l (yM D ad ac) mt_M_mergeTwos TT rm (.ref (ad 19) :: As) σ post) (hR : jRm rm mt_M_mergeTwos.n R) (hn : As.length = 3) (hst : st = As.reverse ++ .ref (ad 19) :: rest) (hcat : (rest.map fun v => v.category).sum ≤ 8) (hcs : cells ≤ R.cells ∧ slots ≤ R.slots) (hd : decode cc pc = .ok (.invokevirtual 90, 3)) (kk : ∀ (σ' : St), post σ' → jW l X (yM D ad ac) A nL cells slots kT Q σ' (pc + 3) L rest) : jW l X (yM D ad ac) A nL cells slots K Q σ pc L st := jx_callVv h c_M_90 hM eM19 rfl hR hn hst hcat hcs hd kk
theorem p_M_93 (h : jX X (yM D ad ac) A cc nL RM (w0 :: TT) R ret) {v : Int32} (hd : decode cc pc = .ok (.putfield 93, 3)) (kk : jW l X (yM D ad ac) A nL cells slots kT Q (sF σ 1 v) (pc + 3) L rest) : jW l X (yM D ad ac) A nL cells slots K Q σ pc L (.int v :: .ref (ad 19) :: rest) := jx_put h fM eM19 rfl 1 (by decide) (List.mem_cons_of_mem _ q_567) rfl (by decide +kernel) (Nat.le_of_ble_eq_true rfl) rfl hd kk
theorem p_M_96 (h : jX X (yM D ad ac) A cc nL RM (w0 :: TT) R ret) {v : Int32} (hd : decode cc pc = .ok (.putfield 96, 3)) (kk : jW l X (yM D ad ac) A nL cells slots kT Q (sF σ 2 v) (pc + 3) L rest) : jW l X (yM D ad ac) A nL cells slots K Q σ pc L (.int v :: .ref (ad 19) :: rest) := jx_put h fM eM19 rfl 2 (by decide) (List.mem_cons_of_mem _ q_568) rfl (by decide +kernel) (Nat.le_of_ble_eq_true rfl) rfl hd kk
theorem p_M_99 (h : jX X (yM D ad ac) A cc nL RM (w0 :: TT) R ret) {v : Int32} (hd : decode cc pc = .ok (.putfield 99, 3)) (kk : jW l X (yM D ad ac) A nL cells slots kT Q (sF σ 4 v) (pc + 3) L rest) : jW l X (yM D ad ac) A nL cells slots K Q σ pc L (.int v :: .ref (ad 19) :: rest) := jx_put h fM eM19 rfl 12 (by decide) (List.mem_cons_of_mem _ q_578) rfl (by decide +kernel) (Nat.le_of_ble_eq_true rfl) rfl hd kk
theorem p_M_102 (h : jX X (yM D ad ac) A cc nL RM (w0 :: TT) R ret) {v : Int32} (hd : decode cc pc = .ok (.putfield 102, 3)) (kk : jW l X (yM D ad ac) A nL cells slots kT Q (sF σ 5 v) (pc + 3) L rest) : jW l X (yM D ad ac) A nL cells slots K Q σ pc L (.int v :: .ref (ad 19) :: rest) := jx_put h fM eM19 rfl 21 (by decide) (List.mem_cons_of_mem _ q_587) rfl (by decide +kernel) (Nat.le_of_ble_eq_true rfl) rfl hd kk
theorem c_M_105 : jcV TT RM 105 mt_M_layFour 2 := ⟨TT_good, q_553, q_550, q_552, qs_27, q_7, by decide, by decide, by decide +kernel⟩
theorem k_M_105 (h : jX X (yM D ad ac) A cc nL RM (w0 :: TT) R ret) {post : St → Prop} (hM : jMv l (yM D ad ac) mt_M_layFour TT rm (.ref (ad 19) :: As) σ post) (hR : jRm rm mt_M_layFour.n R) (hn : As.length = 2) (hst : st = As.reverse ++ .ref (ad 19) :: rest) (hcat : (rest.map fun v => v.category).sum ≤ 8) (hcs : cells ≤ R.cells ∧ slots ≤ R.slots) (hd : decode cc pc = .ok (.invokevirtual 105, 3)) (kk : ∀ (σ' : St), post σ' → jW l X (yM D ad ac) A nL cells slots kT Q σ' (pc + 3) L rest) : jW l X (yM D ad ac) A nL cells slots K Q σ pc L st := jx_callVv h c_M_105 hM eM19 rfl hR hn hst hcat hcs hd kk
theorem c_M_108 : jcV TT RM 108 mt_M_mergeFours 3 := ⟨TT_good, q_565, q_562, q_564, qs_30, q_7, by decide, by decide, by decide +kernel⟩
theorem k_M_108 (h : jX X (yM D ad ac) A cc nL RM (w0 :: TT) R ret) {post : St → Prop} (hM : jMv l (yM D ad ac) mt_M_mergeFours TT rm (.ref (ad 19) :: As) σ post) (hR : jRm rm mt_M_mergeFours.n R) (hn : As.length = 3) (hst : st = As.reverse ++ .ref (ad 19) :: rest) (hcat : (rest.map fun v => v.category).sum ≤ 8) (hcs : cells ≤ R.cells ∧ slots ≤ R.slots) (hd : decode cc pc = .ok (.invokevirtual 108, 3)) (kk : ∀ (σ' : St), post σ' → jW l X (yM D ad ac) A nL cells slots kT Q σ' (pc + 3) L rest) : jW l X (yM D ad ac) A nL cells slots K Q σ pc L st := jx_callVv h c_M_108 hM eM19 rfl hR hn hst hcat hcs hd kk
theorem g_M_22 (h : jX X (yM D ad ac) A cc nL RM (w0 :: TT) R ret) (hd : decode cc pc = .ok (.getfield 22, 3)) (kk : jW l X (yM D ad ac) A nL cells slots K Q σ (pc + 3) L (.ref (ad 4) :: rest)) : jW l X (yM D ad ac) A nL cells slots K Q σ pc L (.ref (ad 19) :: rest) := jx_get h fM eM19 rfl 8 (by decide) (List.mem_cons_of_mem _ q_574) rfl hd kk
theorem g_M_25 (h : jX X (yM D ad ac) A cc nL RM (w0 :: TT) R ret) (hd : decode cc pc = .ok (.getfield 25, 3)) (kk : jW l X (yM D ad ac) A nL cells slots K Q σ (pc + 3) L (.ref (ad 5) :: rest)) : jW l X (yM D ad ac) A nL cells slots K Q σ pc L (.ref (ad 19) :: rest) := jx_get h fM eM19 rfl 9 (by decide) (List.mem_cons_of_mem _ q_575) rfl hd kk
theorem g_M_28 (h : jX X (yM D ad ac) A cc nL RM (w0 :: TT) R ret) (hd : decode cc pc = .ok (.getfield 28, 3)) (kk : jW l X (yM D ad ac) A nL cells slots K Q σ (pc + 3) L (.ref (ad 6) :: rest)) : jW l X (yM D ad ac) A nL cells slots K Q σ pc L (.ref (ad 19) :: rest) := jx_get h fM eM19 rfl 10 (by decide) (List.mem_cons_of_mem _ q_576) rfl hd kk
theorem c_M_111 : jcS TT RM 111 mt_M_in 3 := ⟨TT_good, q_652, q_650, q_651, q_7, rfl, by decide, by decide, by decide +kernel⟩
theorem k_M_111 (h : jX X (yM D ad ac) A cc nL RM (w0 :: TT) R ret) {post : Int32 → Prop} (hM : jMp l (yM D ad ac) mt_M_in TT rm As σ post) (hR : jRm rm mt_M_in.n R) (hn : As.length = 3) (hst : st = As.reverse ++ rest) (hcat : (rest.map fun v => v.category).sum ≤ 8) (hcs : cells ≤ R.cells ∧ slots ≤ R.slots) (hd : decode cc pc = .ok (.invokestatic 111, 3)) (kk : ∀ (r : Int32), post r → jW l X (yM D ad ac) A nL cells slots K Q σ (pc + 3) L (.int r :: rest)) : jW l X (yM D ad ac) A nL cells slots K Q σ pc L st := jx_callSp h c_M_111 hM hR hn hst hcat hcs hd kk
theorem c_M_115 : jcV TT RM 115 mt_M_refuse 2 := ⟨TT_good, q_656, q_653, q_655, qs_31, q_7, by decide, by decide, by decide +kernel⟩
theorem k_M_115 (h : jX X (yM D ad ac) A cc nL RM (w0 :: TT) R ret) {post : Int32 → St → Prop} (hM : jMi l (yM D ad ac) mt_M_refuse TT rm (.ref (ad 19) :: As) σ post) (hR : jRm rm mt_M_refuse.n R) (hn : As.length = 2) (hst : st = As.reverse ++ .ref (ad 19) :: rest) (hcat : (rest.map fun v => v.category).sum ≤ 8) (hcs : cells ≤ R.cells ∧ slots ≤ R.slots) (hd : decode cc pc = .ok (.invokevirtual 115, 3)) (kk : ∀ (r : Int32) (σ' : St), post r σ' → jW l X (yM D ad ac) A nL cells slots kT Q σ' (pc + 3) L (.int r :: rest)) : jW l X (yM D ad ac) A nL cells slots K Q σ pc L st := jx_callVi h c_M_115 hM eM19 rfl hR hn hst hcat hcs hd kk
theorem c_M_68 : jcV TT RM 68 mt_M_make 2 := ⟨TT_good, q_541, q_538, q_540, qs_24, q_7, by decide, by decide, by decide +kernel⟩
theorem k_M_68 (h : jX X (yM D ad ac) A cc nL RM (w0 :: TT) R ret) {post : St → Prop} (hM : jMv l (yM D ad ac) mt_M_make TT rm (.ref (ad 19) :: As) σ post) (hR : jRm rm mt_M_make.n R) (hn : As.length = 2) (hst : st = As.reverse ++ .ref (ad 19) :: rest) (hcat : (rest.map fun v => v.category).sum ≤ 8) (hcs : cells ≤ R.cells ∧ slots ≤ R.slots) (hd : decode cc pc = .ok (.invokevirtual 68, 3)) (kk : ∀ (σ' : St), post σ' → jW l X (yM D ad ac) A nL cells slots kT Q σ' (pc + 3) L rest) : jW l X (yM D ad ac) A nL cells slots K Q σ pc L st := jx_callVv h c_M_68 hM eM19 rfl hR hn hst hcat hcs hd kk
theorem g_M_96 (h : jX X (yM D ad ac) A cc nL RM (w0 :: TT) R ret) (hd : decode cc pc = .ok (.getfield 96, 3)) (kk : jW l X (yM D ad ac) A nL cells slots K Q σ (pc + 3) L (.int (σ.1 2) :: rest)) : jW l X (yM D ad ac) A nL cells slots K Q σ pc L (.ref (ad 19) :: rest) := jx_get h fM eM19 rfl 2 (by decide) (List.mem_cons_of_mem _ q_568) rfl hd kk
theorem g_M_93 (h : jX X (yM D ad ac) A cc nL RM (w0 :: TT) R ret) (hd : decode cc pc = .ok (.getfield 93, 3)) (kk : jW l X (yM D ad ac) A nL cells slots K Q σ (pc + 3) L (.int (σ.1 1) :: rest)) : jW l X (yM D ad ac) A nL cells slots K Q σ pc L (.ref (ad 19) :: rest) := jx_get h fM eM19 rfl 1 (by decide) (List.mem_cons_of_mem _ q_567) rfl hd kk
theorem g_M_99 (h : jX X (yM D ad ac) A cc nL RM (w0 :: TT) R ret) (hd : decode cc pc = .ok (.getfield 99, 3)) (kk : jW l X (yM D ad ac) A nL cells slots K Q σ (pc + 3) L (.int (σ.1 4) :: rest)) : jW l X (yM D ad ac) A nL cells slots K Q σ pc L (.ref (ad 19) :: rest) := jx_get h fM eM19 rfl 12 (by decide) (List.mem_cons_of_mem _ q_578) rfl hd kk
theorem g_M_41 (h : jX X (yM D ad ac) A cc nL RM (w0 :: TT) R ret) (hd : decode cc pc = .ok (.getfield 41, 3)) (kk : jW l X (yM D ad ac) A nL cells slots K Q σ (pc + 3) L (.ref (ad 10) :: rest)) : jW l X (yM D ad ac) A nL cells slots K Q σ pc L (.ref (ad 19) :: rest) := jx_get h fM eM19 rfl 15 (by decide) (List.mem_cons_of_mem _ q_581) rfl hd kk
theorem c_M_119 : jcV TT RM 119 mt_M_left 0 := ⟨TT_good, q_672, q_669, q_671, qs_32, q_7, by decide, by decide, by decide +kernel⟩
theorem k_M_119 (h : jX X (yM D ad ac) A cc nL RM (w0 :: TT) R ret) {post : Int32 → Prop} (hM : jMp l (yM D ad ac) mt_M_left TT rm (.ref (ad 19) :: As) σ post) (hR : jRm rm mt_M_left.n R) (hn : As.length = 0) (hst : st = As.reverse ++ .ref (ad 19) :: rest) (hcat : (rest.map fun v => v.category).sum ≤ 8) (hcs : cells ≤ R.cells ∧ slots ≤ R.slots) (hd : decode cc pc = .ok (.invokevirtual 119, 3)) (kk : ∀ (r : Int32), post r → jW l X (yM D ad ac) A nL cells slots K Q σ (pc + 3) L (.int r :: rest)) : jW l X (yM D ad ac) A nL cells slots K Q σ pc L st := jx_callVp h c_M_119 hM eM19 rfl hR hn hst hcat hcs hd kk
theorem g_M_35 (h : jX X (yM D ad ac) A cc nL RM (w0 :: TT) R ret) (hd : decode cc pc = .ok (.getfield 35, 3)) (kk : jW l X (yM D ad ac) A nL cells slots K Q σ (pc + 3) L (.ref (ad 8) :: rest)) : jW l X (yM D ad ac) A nL cells slots K Q σ pc L (.ref (ad 19) :: rest) := jx_get h fM eM19 rfl 13 (by decide) (List.mem_cons_of_mem _ q_579) rfl hd kk
theorem g_M_38 (h : jX X (yM D ad ac) A cc nL RM (w0 :: TT) R ret) (hd : decode cc pc = .ok (.getfield 38, 3)) (kk : jW l X (yM D ad ac) A nL cells slots K Q σ (pc + 3) L (.ref (ad 9) :: rest)) : jW l X (yM D ad ac) A nL cells slots K Q σ pc L (.ref (ad 19) :: rest) := jx_get h fM eM19 rfl 14 (by decide) (List.mem_cons_of_mem _ q_580) rfl hd kk
theorem g_M_44 (h : jX X (yM D ad ac) A cc nL RM (w0 :: TT) R ret) (hd : decode cc pc = .ok (.getfield 44, 3)) (kk : jW l X (yM D ad ac) A nL cells slots K Q σ (pc + 3) L (.ref (ad 11) :: rest)) : jW l X (yM D ad ac) A nL cells slots K Q σ pc L (.ref (ad 19) :: rest) := jx_get h fM eM19 rfl 16 (by decide) (List.mem_cons_of_mem _ q_582) rfl hd kk
theorem g_M_47 (h : jX X (yM D ad ac) A cc nL RM (w0 :: TT) R ret) (hd : decode cc pc = .ok (.getfield 47, 3)) (kk : jW l X (yM D ad ac) A nL cells slots K Q σ (pc + 3) L (.ref (ad 12) :: rest)) : jW l X (yM D ad ac) A nL cells slots K Q σ pc L (.ref (ad 19) :: rest) := jx_get h fM eM19 rfl 17 (by decide) (List.mem_cons_of_mem _ q_583) rfl hd kk
theorem g_M_50 (h : jX X (yM D ad ac) A cc nL RM (w0 :: TT) R ret) (hd : decode cc pc = .ok (.getfield 50, 3)) (kk : jW l X (yM D ad ac) A nL cells slots K Q σ (pc + 3) L (.ref (ad 13) :: rest)) : jW l X (yM D ad ac) A nL cells slots K Q σ pc L (.ref (ad 19) :: rest) := jx_get h fM eM19 rfl 18 (by decide) (List.mem_cons_of_mem _ q_584) rfl hd kk
theorem g_M_53 (h : jX X (yM D ad ac) A cc nL RM (w0 :: TT) R ret) (hd : decode cc pc = .ok (.getfield 53, 3)) (kk : jW l X (yM D ad ac) A nL cells slots K Q σ (pc + 3) L (.ref (ad 14) :: rest)) : jW l X (yM D ad ac) A nL cells slots K Q σ pc L (.ref (ad 19) :: rest) := jx_get h fM eM19 rfl 19 (by decide) (List.mem_cons_of_mem _ q_585) rfl hd kk
theorem g_M_56 (h : jX X (yM D ad ac) A cc nL RM (w0 :: TT) R ret) (hd : decode cc pc = .ok (.getfield 56, 3)) (kk : jW l X (yM D ad ac) A nL cells slots K Q σ (pc + 3) L (.ref (ad 15) :: rest)) : jW l X (yM D ad ac) A nL cells slots K Q σ pc L (.ref (ad 19) :: rest) := jx_get h fM eM19 rfl 20 (by decide) (List.mem_cons_of_mem _ q_586) rfl hd kk
theorem c_M_123 : jcV TT RM 123 mt_M_nextOf 1 := ⟨TT_good, q_688, q_685, q_687, qs_35, q_7, by decide, by decide, by decide +kernel⟩
theorem k_M_123 (h : jX X (yM D ad ac) A cc nL RM (w0 :: TT) R ret) {post : Int32 → Prop} (hM : jMp l (yM D ad ac) mt_M_nextOf TT rm (.ref (ad 19) :: As) σ post) (hR : jRm rm mt_M_nextOf.n R) (hn : As.length = 1) (hst : st = As.reverse ++ .ref (ad 19) :: rest) (hcat : (rest.map fun v => v.category).sum ≤ 8) (hcs : cells ≤ R.cells ∧ slots ≤ R.slots) (hd : decode cc pc = .ok (.invokevirtual 123, 3)) (kk : ∀ (r : Int32), post r → jW l X (yM D ad ac) A nL cells slots K Q σ (pc + 3) L (.int r :: rest)) : jW l X (yM D ad ac) A nL cells slots K Q σ pc L st := jx_callVp h c_M_123 hM eM19 rfl hR hn hst hcat hcs hd kk
theorem c_M_127 : jcV TT RM 127 mt_M_exitOf 1 := ⟨TT_good, q_692, q_689, q_691, qs_36, q_7, by decide, by decide, by decide +kernel⟩
theorem k_M_127 (h : jX X (yM D ad ac) A cc nL RM (w0 :: TT) R ret) {post : Int32 → Prop} (hM : jMp l (yM D ad ac) mt_M_exitOf TT rm (.ref (ad 19) :: As) σ post) (hR : jRm rm mt_M_exitOf.n R) (hn : As.length = 1) (hst : st = As.reverse ++ .ref (ad 19) :: rest) (hcat : (rest.map fun v => v.category).sum ≤ 8) (hcs : cells ≤ R.cells ∧ slots ≤ R.slots) (hd : decode cc pc = .ok (.invokevirtual 127, 3)) (kk : ∀ (r : Int32), post r → jW l X (yM D ad ac) A nL cells slots K Q σ (pc + 3) L (.int r :: rest)) : jW l X (yM D ad ac) A nL cells slots K Q σ pc L st := jx_callVp h c_M_127 hM eM19 rfl hR hn hst hcat hcs hd kk
theorem g_M_59 (h : jX X (yM D ad ac) A cc nL RM (w0 :: TT) R ret) (hd : decode cc pc = .ok (.getfield 59, 3)) (kk : jW l X (yM D ad ac) A nL cells slots K Q σ (pc + 3) L (.ref (ad 16) :: rest)) : jW l X (yM D ad ac) A nL cells slots K Q σ pc L (.ref (ad 19) :: rest) := jx_get h fM eM19 rfl 22 (by decide) (List.mem_cons_of_mem _ q_588) rfl hd kk
theorem g_M_102 (h : jX X (yM D ad ac) A cc nL RM (w0 :: TT) R ret) (hd : decode cc pc = .ok (.getfield 102, 3)) (kk : jW l X (yM D ad ac) A nL cells slots K Q σ (pc + 3) L (.int (σ.1 5) :: rest)) : jW l X (yM D ad ac) A nL cells slots K Q σ pc L (.ref (ad 19) :: rest) := jx_get h fM eM19 rfl 21 (by decide) (List.mem_cons_of_mem _ q_587) rfl hd kk
theorem g_M_62 (h : jX X (yM D ad ac) A cc nL RM (w0 :: TT) R ret) (hd : decode cc pc = .ok (.getfield 62, 3)) (kk : jW l X (yM D ad ac) A nL cells slots K Q σ (pc + 3) L (.ref (ad 17) :: rest)) : jW l X (yM D ad ac) A nL cells slots K Q σ pc L (.ref (ad 19) :: rest) := jx_get h fM eM19 rfl 23 (by decide) (List.mem_cons_of_mem _ q_589) rfl hd kk
theorem c_M_130 : jcV TT RM 130 mt_M_stationOf 1 := ⟨TT_good, q_684, q_681, q_683, qs_34, q_7, by decide, by decide, by decide +kernel⟩
theorem k_M_130 (h : jX X (yM D ad ac) A cc nL RM (w0 :: TT) R ret) {post : Int32 → Prop} (hM : jMp l (yM D ad ac) mt_M_stationOf TT rm (.ref (ad 19) :: As) σ post) (hR : jRm rm mt_M_stationOf.n R) (hn : As.length = 1) (hst : st = As.reverse ++ .ref (ad 19) :: rest) (hcat : (rest.map fun v => v.category).sum ≤ 8) (hcs : cells ≤ R.cells ∧ slots ≤ R.slots) (hd : decode cc pc = .ok (.invokevirtual 130, 3)) (kk : ∀ (r : Int32), post r → jW l X (yM D ad ac) A nL cells slots K Q σ (pc + 3) L (.int r :: rest)) : jW l X (yM D ad ac) A nL cells slots K Q σ pc L st := jx_callVp h c_M_130 hM eM19 rfl hR hn hst hcat hcs hd kk
theorem g_M_65 (h : jX X (yM D ad ac) A cc nL RM (w0 :: TT) R ret) (hd : decode cc pc = .ok (.getfield 65, 3)) (kk : jW l X (yM D ad ac) A nL cells slots K Q σ (pc + 3) L (.ref (ad 18) :: rest)) : jW l X (yM D ad ac) A nL cells slots K Q σ pc L (.ref (ad 19) :: rest) := jx_get h fM eM19 rfl 24 (by decide) (List.mem_cons_of_mem _ q_590) rfl hd kk
theorem c_M_133 : jcV TT RM 133 mt_M_post 1 := ⟨TT_good, q_700, q_697, q_699, qs_38, q_7, by decide, by decide, by decide +kernel⟩
theorem k_M_133 (h : jX X (yM D ad ac) A cc nL RM (w0 :: TT) R ret) {post : St → Prop} (hM : jMv l (yM D ad ac) mt_M_post TT rm (.ref (ad 19) :: As) σ post) (hR : jRm rm mt_M_post.n R) (hn : As.length = 1) (hst : st = As.reverse ++ .ref (ad 19) :: rest) (hcat : (rest.map fun v => v.category).sum ≤ 8) (hcs : cells ≤ R.cells ∧ slots ≤ R.slots) (hd : decode cc pc = .ok (.invokevirtual 133, 3)) (kk : ∀ (σ' : St), post σ' → jW l X (yM D ad ac) A nL cells slots kT Q σ' (pc + 3) L rest) : jW l X (yM D ad ac) A nL cells slots K Q σ pc L st := jx_callVv h c_M_133 hM eM19 rfl hR hn hst hcat hcs hd kk
theorem c_M_137 : jcV TT RM 137 mt_M_isStuck 1 := ⟨TT_good, q_680, q_677, q_679, qs_33, q_7, by decide, by decide, by decide +kernel⟩
theorem k_M_137 (h : jX X (yM D ad ac) A cc nL RM (w0 :: TT) R ret) {post : Int32 → Prop} (hM : jMp l (yM D ad ac) mt_M_isStuck TT rm (.ref (ad 19) :: As) σ post) (hR : jRm rm mt_M_isStuck.n R) (hn : As.length = 1) (hst : st = As.reverse ++ .ref (ad 19) :: rest) (hcat : (rest.map fun v => v.category).sum ≤ 8) (hcs : cells ≤ R.cells ∧ slots ≤ R.slots) (hd : decode cc pc = .ok (.invokevirtual 137, 3)) (kk : ∀ (r : Int32), post r → jW l X (yM D ad ac) A nL cells slots K Q σ (pc + 3) L (.int r :: rest)) : jW l X (yM D ad ac) A nL cells slots K Q σ pc L st := jx_callVp h c_M_137 hM eM19 rfl hR hn hst hcat hcs hd kk
theorem c_M_141 : jcV TT RM 141 mt_M_step 1 := ⟨TT_good, q_696, q_693, q_695, qs_37, q_7, by decide, by decide, by decide +kernel⟩
theorem k_M_141 (h : jX X (yM D ad ac) A cc nL RM (w0 :: TT) R ret) {post : Int32 → St → Prop} (hM : jMi l (yM D ad ac) mt_M_step TT rm (.ref (ad 19) :: As) σ post) (hR : jRm rm mt_M_step.n R) (hn : As.length = 1) (hst : st = As.reverse ++ .ref (ad 19) :: rest) (hcat : (rest.map fun v => v.category).sum ≤ 8) (hcs : cells ≤ R.cells ∧ slots ≤ R.slots) (hd : decode cc pc = .ok (.invokevirtual 141, 3)) (kk : ∀ (r : Int32) (σ' : St), post r σ' → jW l X (yM D ad ac) A nL cells slots kT Q σ' (pc + 3) L (.int r :: rest)) : jW l X (yM D ad ac) A nL cells slots K Q σ pc L st := jx_callVi h c_M_141 hM eM19 rfl hR hn hst hcat hcs hd kk
theorem c_M_144 : jcV TT RM 144 mt_M_take 1 := ⟨TT_good, q_708, q_705, q_707, qs_39, q_7, by decide, by decide, by decide +kernel⟩
theorem k_M_144 (h : jX X (yM D ad ac) A cc nL RM (w0 :: TT) R ret) {post : St → Prop} (hM : jMv l (yM D ad ac) mt_M_take TT rm (.ref (ad 19) :: As) σ post) (hR : jRm rm mt_M_take.n R) (hn : As.length = 1) (hst : st = As.reverse ++ .ref (ad 19) :: rest) (hcat : (rest.map fun v => v.category).sum ≤ 8) (hcs : cells ≤ R.cells ∧ slots ≤ R.slots) (hd : decode cc pc = .ok (.invokevirtual 144, 3)) (kk : ∀ (σ' : St), post σ' → jW l X (yM D ad ac) A nL cells slots kT Q σ' (pc + 3) L rest) : jW l X (yM D ad ac) A nL cells slots K Q σ pc L st := jx_callVv h c_M_144 hM eM19 rfl hR hn hst hcat hcs hd kk
theorem c_M_147 : jcV TT RM 147 mt_M_hasLetter 1 := ⟨TT_good, q_728, q_725, q_727, qs_40, q_7, by decide, by decide, by decide +kernel⟩
theorem k_M_147 (h : jX X (yM D ad ac) A cc nL RM (w0 :: TT) R ret) {post : Int32 → Prop} (hM : jMp l (yM D ad ac) mt_M_hasLetter TT rm (.ref (ad 19) :: As) σ post) (hR : jRm rm mt_M_hasLetter.n R) (hn : As.length = 1) (hst : st = As.reverse ++ .ref (ad 19) :: rest) (hcat : (rest.map fun v => v.category).sum ≤ 8) (hcs : cells ≤ R.cells ∧ slots ≤ R.slots) (hd : decode cc pc = .ok (.invokevirtual 147, 3)) (kk : ∀ (r : Int32), post r → jW l X (yM D ad ac) A nL cells slots K Q σ (pc + 3) L (.int r :: rest)) : jW l X (yM D ad ac) A nL cells slots K Q σ pc L st := jx_callVp h c_M_147 hM eM19 rfl hR hn hst hcat hcs hd kk
theorem c_M_150 : jcV TT RM 150 mt_M_isHanded 1 := ⟨TT_good, q_744, q_741, q_743, qs_42, q_7, by decide, by decide, by decide +kernel⟩
theorem k_M_150 (h : jX X (yM D ad ac) A cc nL RM (w0 :: TT) R ret) {post : Int32 → Prop} (hM : jMp l (yM D ad ac) mt_M_isHanded TT rm (.ref (ad 19) :: As) σ post) (hR : jRm rm mt_M_isHanded.n R) (hn : As.length = 1) (hst : st = As.reverse ++ .ref (ad 19) :: rest) (hcat : (rest.map fun v => v.category).sum ≤ 8) (hcs : cells ≤ R.cells ∧ slots ≤ R.slots) (hd : decode cc pc = .ok (.invokevirtual 150, 3)) (kk : ∀ (r : Int32), post r → jW l X (yM D ad ac) A nL cells slots K Q σ (pc + 3) L (.int r :: rest)) : jW l X (yM D ad ac) A nL cells slots K Q σ pc L st := jx_callVp h c_M_150 hM eM19 rfl hR hn hst hcat hcs hd kk
theorem c_M_153 : jcV TT RM 153 mt_M_shown 1 := ⟨TT_good, q_740, q_737, q_739, qs_41, q_7, by decide, by decide, by decide +kernel⟩
theorem k_M_153 (h : jX X (yM D ad ac) A cc nL RM (w0 :: TT) R ret) {post : Int32 → Prop} (hM : jMp l (yM D ad ac) mt_M_shown TT rm (.ref (ad 19) :: As) σ post) (hR : jRm rm mt_M_shown.n R) (hn : As.length = 1) (hst : st = As.reverse ++ .ref (ad 19) :: rest) (hcat : (rest.map fun v => v.category).sum ≤ 8) (hcs : cells ≤ R.cells ∧ slots ≤ R.slots) (hd : decode cc pc = .ok (.invokevirtual 153, 3)) (kk : ∀ (r : Int32), post r → jW l X (yM D ad ac) A nL cells slots K Q σ (pc + 3) L (.int r :: rest)) : jW l X (yM D ad ac) A nL cells slots K Q σ pc L st := jx_callVp h c_M_153 hM eM19 rfl hR hn hst hcat hcs hd kk
theorem c_M_156 : jcV TT RM 156 mt_M_highest 0 := ⟨TT_good, q_752, q_749, q_751, qs_43, q_7, by decide, by decide, by decide +kernel⟩
theorem k_M_156 (h : jX X (yM D ad ac) A cc nL RM (w0 :: TT) R ret) {post : Int32 → Prop} (hM : jMp l (yM D ad ac) mt_M_highest TT rm (.ref (ad 19) :: As) σ post) (hR : jRm rm mt_M_highest.n R) (hn : As.length = 0) (hst : st = As.reverse ++ .ref (ad 19) :: rest) (hcat : (rest.map fun v => v.category).sum ≤ 8) (hcs : cells ≤ R.cells ∧ slots ≤ R.slots) (hd : decode cc pc = .ok (.invokevirtual 156, 3)) (kk : ∀ (r : Int32), post r → jW l X (yM D ad ac) A nL cells slots K Q σ (pc + 3) L (.int r :: rest)) : jW l X (yM D ad ac) A nL cells slots K Q σ pc L st := jx_callVp h c_M_156 hM eM19 rfl hR hn hst hcat hcs hd kk
theorem c_M_159 : jcV TT RM 159 mt_M_gaps 0 := ⟨TT_good, q_756, q_753, q_755, qs_44, q_7, by decide, by decide, by decide +kernel⟩
theorem k_M_159 (h : jX X (yM D ad ac) A cc nL RM (w0 :: TT) R ret) {post : Int32 → Prop} (hM : jMp l (yM D ad ac) mt_M_gaps TT rm (.ref (ad 19) :: As) σ post) (hR : jRm rm mt_M_gaps.n R) (hn : As.length = 0) (hst : st = As.reverse ++ .ref (ad 19) :: rest) (hcat : (rest.map fun v => v.category).sum ≤ 8) (hcs : cells ≤ R.cells ∧ slots ≤ R.slots) (hd : decode cc pc = .ok (.invokevirtual 159, 3)) (kk : ∀ (r : Int32), post r → jW l X (yM D ad ac) A nL cells slots K Q σ (pc + 3) L (.int r :: rest)) : jW l X (yM D ad ac) A nL cells slots K Q σ pc L st := jx_callVp h c_M_159 hM eM19 rfl hR hn hst hcat hcs hd kk
theorem c_M_162 : jcV TT RM 162 mt_M_deliver 1 := ⟨TT_good, q_704, q_761, q_702, q_703, q_7, by decide, by decide, by decide +kernel⟩
theorem k_M_162 (h : jX X (yM D ad ac) A cc nL RM (w0 :: TT) R ret) {post : Int32 → St → Prop} (hM : jMi l (yM D ad ac) mt_M_deliver TT rm (.ref (ad 19) :: As) σ post) (hR : jRm rm mt_M_deliver.n R) (hn : As.length = 1) (hst : st = As.reverse ++ .ref (ad 19) :: rest) (hcat : (rest.map fun v => v.category).sum ≤ 8) (hcs : cells ≤ R.cells ∧ slots ≤ R.slots) (hd : decode cc pc = .ok (.invokevirtual 162, 3)) (kk : ∀ (r : Int32) (σ' : St), post r σ' → jW l X (yM D ad ac) A nL cells slots kT Q σ' (pc + 3) L (.int r :: rest)) : jW l X (yM D ad ac) A nL cells slots K Q σ pc L st := jx_callVi h c_M_162 hM eM19 rfl hR hn hst hcat hcs hd kk
theorem p_B_21 (h : jX X (yC D ad ac) A cc nL RB (w0 :: TT) R ret) {v : Int32} (hd : decode cc pc = .ok (.putfield 21, 3)) (kk : jW l X (yC D ad ac) A nL cells slots kT Q (sF σ 6 v) (pc + 3) L rest) : jW l X (yC D ad ac) A nL cells slots K Q σ pc L (.int v :: .ref (ad 23) :: rest) := jx_put h fB eC23 rfl 0 (by decide) (List.mem_cons_of_mem _ q_118) rfl (by decide +kernel) (Nat.le_of_ble_eq_true rfl) rfl hd kk
theorem g_B_21 (h : jX X (yC D ad ac) A cc nL RB (w0 :: TT) R ret) (hd : decode cc pc = .ok (.getfield 21, 3)) (kk : jW l X (yC D ad ac) A nL cells slots K Q σ (pc + 3) L (.int (σ.1 6) :: rest)) : jW l X (yC D ad ac) A nL cells slots K Q σ pc L (.ref (ad 23) :: rest) := jx_get h fB eC23 rfl 0 (by decide) (List.mem_cons_of_mem _ q_118) rfl hd kk
theorem g_B_9 (h : jX X (yC D ad ac) A cc nL RB (w0 :: TT) R ret) (hd : decode cc pc = .ok (.getfield 9, 3)) (kk : jW l X (yC D ad ac) A nL cells slots K Q σ (pc + 3) L (.ref (ad 17) :: rest)) : jW l X (yC D ad ac) A nL cells slots K Q σ pc L (.ref (ad 23) :: rest) := jx_get h fB eC23 rfl 1 (by decide) (List.mem_cons_of_mem _ q_120) rfl hd kk
theorem g_B_15 (h : jX X (yC D ad ac) A cc nL RB (w0 :: TT) R ret) (hd : decode cc pc = .ok (.getfield 15, 3)) (kk : jW l X (yC D ad ac) A nL cells slots K Q σ (pc + 3) L (.ref (ad 18) :: rest)) : jW l X (yC D ad ac) A nL cells slots K Q σ pc L (.ref (ad 23) :: rest) := jx_get h fB eC23 rfl 2 (by decide) (List.mem_cons_of_mem _ q_122) rfl hd kk
theorem g_B_18 (h : jX X (yC D ad ac) A cc nL RB (w0 :: TT) R ret) (hd : decode cc pc = .ok (.getfield 18, 3)) (kk : jW l X (yC D ad ac) A nL cells slots K Q σ (pc + 3) L (.ref (ad 19) :: rest)) : jW l X (yC D ad ac) A nL cells slots K Q σ pc L (.ref (ad 23) :: rest) := jx_get h fB eC23 rfl 3 (by decide) (List.mem_cons_of_mem _ q_124) rfl hd kk
theorem w_B_25 {w0 : Cond} : Cond.methodLink RB 25 arraycopyName ∈ w0 :: TT ∧ Cond.native arraycopyName ∈ w0 :: TT ∧ Cond.static arraycopyName ∈ w0 :: TT ∧ Cond.initialized "java/lang/System" ∈ w0 :: TT := ⟨List.mem_cons_of_mem _ q_447, List.mem_cons_of_mem _ q_164, List.mem_cons_of_mem _ q_163, List.mem_cons_of_mem _ q_6⟩
theorem p_P_30 (h : jX X (yC D ad ac) A cc nL RP (w0 :: TT) R ret) {v : Int32} (hd : decode cc pc = .ok (.putfield 30, 3)) (kk : jW l X (yC D ad ac) A nL cells slots kT Q (sF σ 1 v) (pc + 3) L rest) : jW l X (yC D ad ac) A nL cells slots K Q σ pc L (.int v :: .ref (ad 21) :: rest) := jx_put h fP eC21 rfl 0 (by decide) (List.mem_cons_of_mem _ q_28) rfl (by decide +kernel) (Nat.le_of_ble_eq_true rfl) rfl hd kk
theorem p_P_34 (h : jX X (yC D ad ac) A cc nL RP (w0 :: TT) R ret) {v : Int32} (hd : decode cc pc = .ok (.putfield 34, 3)) (kk : jW l X (yC D ad ac) A nL cells slots kT Q (sF σ 2 v) (pc + 3) L rest) : jW l X (yC D ad ac) A nL cells slots K Q σ pc L (.int v :: .ref (ad 21) :: rest) := jx_put h fP eC21 rfl 1 (by decide) (List.mem_cons_of_mem _ q_30) rfl (by decide +kernel) (Nat.le_of_ble_eq_true rfl) rfl hd kk
theorem p_P_37 (h : jX X (yC D ad ac) A cc nL RP (w0 :: TT) R ret) {v : Int32} (hd : decode cc pc = .ok (.putfield 37, 3)) (kk : jW l X (yC D ad ac) A nL cells slots kT Q (sF σ 3 v) (pc + 3) L rest) : jW l X (yC D ad ac) A nL cells slots K Q σ pc L (.int v :: .ref (ad 21) :: rest) := jx_put h fP eC21 rfl 2 (by decide) (List.mem_cons_of_mem _ q_32) rfl (by decide +kernel) (Nat.le_of_ble_eq_true rfl) rfl hd kk
theorem g_P_21 (h : jX X (yC D ad ac) A cc nL RP (w0 :: TT) R ret) (hd : decode cc pc = .ok (.getfield 21, 3)) (kk : jW l X (yC D ad ac) A nL cells slots K Q σ (pc + 3) L (.ref (ad 6) :: rest)) : jW l X (yC D ad ac) A nL cells slots K Q σ pc L (.ref (ad 21) :: rest) := jx_get h fP eC21 rfl 6 (by decide) (List.mem_cons_of_mem _ q_40) rfl hd kk
theorem g_P_24 (h : jX X (yC D ad ac) A cc nL RP (w0 :: TT) R ret) (hd : decode cc pc = .ok (.getfield 24, 3)) (kk : jW l X (yC D ad ac) A nL cells slots K Q σ (pc + 3) L (.ref (ad 7) :: rest)) : jW l X (yC D ad ac) A nL cells slots K Q σ pc L (.ref (ad 21) :: rest) := jx_get h fP eC21 rfl 7 (by decide) (List.mem_cons_of_mem _ q_42) rfl hd kk
theorem c_P_40 : jcV TT RP 40 mt_P_layOut 2 := ⟨TT_good, q_146, q_143, q_145, qs_1, q_2, by decide, by decide, by decide +kernel⟩
theorem k_P_40 (h : jX X (yC D ad ac) A cc nL RP (w0 :: TT) R ret) {post : St → Prop} (hM : jMv l (yC D ad ac) mt_P_layOut TT rm (.ref (ad 21) :: As) σ post) (hR : jRm rm mt_P_layOut.n R) (hn : As.length = 2) (hst : st = As.reverse ++ .ref (ad 21) :: rest) (hcat : (rest.map fun v => v.category).sum ≤ 8) (hcs : cells ≤ R.cells ∧ slots ≤ R.slots) (hd : decode cc pc = .ok (.invokevirtual 40, 3)) (kk : ∀ (σ' : St), post σ' → jW l X (yC D ad ac) A nL cells slots kT Q σ' (pc + 3) L rest) : jW l X (yC D ad ac) A nL cells slots K Q σ pc L st := jx_callVv h c_P_40 hM eC21 rfl hR hn hst hcat hcs hd kk
theorem g_P_34 (h : jX X (yC D ad ac) A cc nL RP (w0 :: TT) R ret) (hd : decode cc pc = .ok (.getfield 34, 3)) (kk : jW l X (yC D ad ac) A nL cells slots K Q σ (pc + 3) L (.int (σ.1 2) :: rest)) : jW l X (yC D ad ac) A nL cells slots K Q σ pc L (.ref (ad 21) :: rest) := jx_get h fP eC21 rfl 1 (by decide) (List.mem_cons_of_mem _ q_30) rfl hd kk
theorem g_P_9 (h : jX X (yC D ad ac) A cc nL RP (w0 :: TT) R ret) (hd : decode cc pc = .ok (.getfield 9, 3)) (kk : jW l X (yC D ad ac) A nL cells slots K Q σ (pc + 3) L (.ref (ad 3) :: rest)) : jW l X (yC D ad ac) A nL cells slots K Q σ pc L (.ref (ad 21) :: rest) := jx_get h fP eC21 rfl 3 (by decide) (List.mem_cons_of_mem _ q_34) rfl hd kk
theorem g_P_15 (h : jX X (yC D ad ac) A cc nL RP (w0 :: TT) R ret) (hd : decode cc pc = .ok (.getfield 15, 3)) (kk : jW l X (yC D ad ac) A nL cells slots K Q σ (pc + 3) L (.ref (ad 4) :: rest)) : jW l X (yC D ad ac) A nL cells slots K Q σ pc L (.ref (ad 21) :: rest) := jx_get h fP eC21 rfl 4 (by decide) (List.mem_cons_of_mem _ q_36) rfl hd kk
theorem g_P_30 (h : jX X (yC D ad ac) A cc nL RP (w0 :: TT) R ret) (hd : decode cc pc = .ok (.getfield 30, 3)) (kk : jW l X (yC D ad ac) A nL cells slots K Q σ (pc + 3) L (.int (σ.1 1) :: rest)) : jW l X (yC D ad ac) A nL cells slots K Q σ pc L (.ref (ad 21) :: rest) := jx_get h fP eC21 rfl 0 (by decide) (List.mem_cons_of_mem _ q_28) rfl hd kk
theorem c_P_44 : jcV TT RP 44 mt_P_merge 2 := ⟨TT_good, q_150, q_147, q_149, qs_2, q_2, by decide, by decide, by decide +kernel⟩
theorem k_P_44 (h : jX X (yC D ad ac) A cc nL RP (w0 :: TT) R ret) {post : St → Prop} (hM : jMv l (yC D ad ac) mt_P_merge TT rm (.ref (ad 21) :: As) σ post) (hR : jRm rm mt_P_merge.n R) (hn : As.length = 2) (hst : st = As.reverse ++ .ref (ad 21) :: rest) (hcat : (rest.map fun v => v.category).sum ≤ 8) (hcs : cells ≤ R.cells ∧ slots ≤ R.slots) (hd : decode cc pc = .ok (.invokevirtual 44, 3)) (kk : ∀ (σ' : St), post σ' → jW l X (yC D ad ac) A nL cells slots kT Q σ' (pc + 3) L rest) : jW l X (yC D ad ac) A nL cells slots K Q σ pc L st := jx_callVv h c_P_44 hM eC21 rfl hR hn hst hcat hcs hd kk
theorem c_P_47 : jcV TT RP 47 mt_P_lay 2 := ⟨TT_good, q_154, q_151, q_153, qs_3, q_2, by decide, by decide, by decide +kernel⟩
theorem k_P_47 (h : jX X (yC D ad ac) A cc nL RP (w0 :: TT) R ret) {post : St → Prop} (hM : jMv l (yC D ad ac) mt_P_lay TT rm (.ref (ad 21) :: As) σ post) (hR : jRm rm mt_P_lay.n R) (hn : As.length = 2) (hst : st = As.reverse ++ .ref (ad 21) :: rest) (hcat : (rest.map fun v => v.category).sum ≤ 8) (hcs : cells ≤ R.cells ∧ slots ≤ R.slots) (hd : decode cc pc = .ok (.invokevirtual 47, 3)) (kk : ∀ (σ' : St), post σ' → jW l X (yC D ad ac) A nL cells slots kT Q σ' (pc + 3) L rest) : jW l X (yC D ad ac) A nL cells slots K Q σ pc L st := jx_callVv h c_P_47 hM eC21 rfl hR hn hst hcat hcs hd kk
theorem c_P_50 : jcV TT RP 50 mt_P_sortIntoParts 2 := ⟨TT_good, q_161, q_158, q_160, qs_4, q_2, by decide, by decide, by decide +kernel⟩
theorem k_P_50 (h : jX X (yC D ad ac) A cc nL RP (w0 :: TT) R ret) {post : St → Prop} (hM : jMv l (yC D ad ac) mt_P_sortIntoParts TT rm (.ref (ad 21) :: As) σ post) (hR : jRm rm mt_P_sortIntoParts.n R) (hn : As.length = 2) (hst : st = As.reverse ++ .ref (ad 21) :: rest) (hcat : (rest.map fun v => v.category).sum ≤ 8) (hcs : cells ≤ R.cells ∧ slots ≤ R.slots) (hd : decode cc pc = .ok (.invokevirtual 50, 3)) (kk : ∀ (σ' : St), post σ' → jW l X (yC D ad ac) A nL cells slots kT Q σ' (pc + 3) L rest) : jW l X (yC D ad ac) A nL cells slots K Q σ pc L st := jx_callVv h c_P_50 hM eC21 rfl hR hn hst hcat hcs hd kk
theorem c_P_53 : jcV TT RP 53 mt_P_joinParts 2 := ⟨TT_good, q_168, q_165, q_167, qs_5, q_2, by decide, by decide, by decide +kernel⟩
theorem k_P_53 (h : jX X (yC D ad ac) A cc nL RP (w0 :: TT) R ret) {post : St → Prop} (hM : jMv l (yC D ad ac) mt_P_joinParts TT rm (.ref (ad 21) :: As) σ post) (hR : jRm rm mt_P_joinParts.n R) (hn : As.length = 2) (hst : st = As.reverse ++ .ref (ad 21) :: rest) (hcat : (rest.map fun v => v.category).sum ≤ 8) (hcs : cells ≤ R.cells ∧ slots ≤ R.slots) (hd : decode cc pc = .ok (.invokevirtual 53, 3)) (kk : ∀ (σ' : St), post σ' → jW l X (yC D ad ac) A nL cells slots kT Q σ' (pc + 3) L rest) : jW l X (yC D ad ac) A nL cells slots K Q σ pc L st := jx_callVv h c_P_53 hM eC21 rfl hR hn hst hcat hcs hd kk
theorem g_P_27 (h : jX X (yC D ad ac) A cc nL RP (w0 :: TT) R ret) (hd : decode cc pc = .ok (.getfield 27, 3)) (kk : jW l X (yC D ad ac) A nL cells slots K Q σ (pc + 3) L (.ref (ad 8) :: rest)) : jW l X (yC D ad ac) A nL cells slots K Q σ pc L (.ref (ad 21) :: rest) := jx_get h fP eC21 rfl 8 (by decide) (List.mem_cons_of_mem _ q_43) rfl hd kk
theorem w_P_56 {w0 : Cond} : Cond.methodLink RP 56 arraycopyName ∈ w0 :: TT ∧ Cond.native arraycopyName ∈ w0 :: TT ∧ Cond.static arraycopyName ∈ w0 :: TT ∧ Cond.initialized "java/lang/System" ∈ w0 :: TT := ⟨List.mem_cons_of_mem _ q_162, List.mem_cons_of_mem _ q_164, List.mem_cons_of_mem _ q_163, List.mem_cons_of_mem _ q_6⟩
theorem w_P_62 {w0 : Cond} : Cond.methodLink RP 62 Lib.Math.max.name ∈ w0 :: TT ∧ Cond.static Lib.Math.max.name ∈ w0 :: TT ∧ Cond.initialized "java/lang/Math" ∈ w0 :: TT ∧ Cond.code Lib.Math.max.name Lib.Math.max.code 2 (some .int) ∈ w0 :: TT := ⟨List.mem_cons_of_mem _ q_155, List.mem_cons_of_mem _ q_156, List.mem_cons_of_mem _ q_5, List.mem_cons_of_mem _ q_157⟩
theorem g_P_18 (h : jX X (yC D ad ac) A cc nL RP (w0 :: TT) R ret) (hd : decode cc pc = .ok (.getfield 18, 3)) (kk : jW l X (yC D ad ac) A nL cells slots K Q σ (pc + 3) L (.ref (ad 5) :: rest)) : jW l X (yC D ad ac) A nL cells slots K Q σ pc L (.ref (ad 21) :: rest) := jx_get h fP eC21 rfl 5 (by decide) (List.mem_cons_of_mem _ q_38) rfl hd kk
theorem g_P_37 (h : jX X (yC D ad ac) A cc nL RP (w0 :: TT) R ret) (hd : decode cc pc = .ok (.getfield 37, 3)) (kk : jW l X (yC D ad ac) A nL cells slots K Q σ (pc + 3) L (.int (σ.1 3) :: rest)) : jW l X (yC D ad ac) A nL cells slots K Q σ pc L (.ref (ad 21) :: rest) := jx_get h fP eC21 rfl 2 (by decide) (List.mem_cons_of_mem _ q_32) rfl hd kk
theorem p_T_37 (h : jX X (yC D ad ac) A cc nL RT (w0 :: TT) R ret) {v : Int32} (hd : decode cc pc = .ok (.putfield 37, 3)) (kk : jW l X (yC D ad ac) A nL cells slots kT Q (sF σ 4 v) (pc + 3) L rest) : jW l X (yC D ad ac) A nL cells slots K Q σ pc L (.int v :: .ref (ad 22) :: rest) := jx_put h fT eC22 rfl 0 (by decide) (List.mem_cons_of_mem _ q_70) rfl (by decide +kernel) (Nat.le_of_ble_eq_true rfl) rfl hd kk
theorem p_T_41 (h : jX X (yC D ad ac) A cc nL RT (w0 :: TT) R ret) {v : Int32} (hd : decode cc pc = .ok (.putfield 41, 3)) (kk : jW l X (yC D ad ac) A nL cells slots kT Q (sF σ 5 v) (pc + 3) L rest) : jW l X (yC D ad ac) A nL cells slots K Q σ pc L (.int v :: .ref (ad 22) :: rest) := jx_put h fT eC22 rfl 1 (by decide) (List.mem_cons_of_mem _ q_72) rfl (by decide +kernel) (Nat.le_of_ble_eq_true rfl) rfl hd kk
theorem g_T_37 (h : jX X (yC D ad ac) A cc nL RT (w0 :: TT) R ret) (hd : decode cc pc = .ok (.getfield 37, 3)) (kk : jW l X (yC D ad ac) A nL cells slots K Q σ (pc + 3) L (.int (σ.1 4) :: rest)) : jW l X (yC D ad ac) A nL cells slots K Q σ pc L (.ref (ad 22) :: rest) := jx_get h fT eC22 rfl 0 (by decide) (List.mem_cons_of_mem _ q_70) rfl hd kk
theorem g_T_41 (h : jX X (yC D ad ac) A cc nL RT (w0 :: TT) R ret) (hd : decode cc pc = .ok (.getfield 41, 3)) (kk : jW l X (yC D ad ac) A nL cells slots K Q σ (pc + 3) L (.int (σ.1 5) :: rest)) : jW l X (yC D ad ac) A nL cells slots K Q σ pc L (.ref (ad 22) :: rest) := jx_get h fT eC22 rfl 1 (by decide) (List.mem_cons_of_mem _ q_72) rfl hd kk
theorem g_T_9 (h : jX X (yC D ad ac) A cc nL RT (w0 :: TT) R ret) (hd : decode cc pc = .ok (.getfield 9, 3)) (kk : jW l X (yC D ad ac) A nL cells slots K Q σ (pc + 3) L (.ref (ad 9) :: rest)) : jW l X (yC D ad ac) A nL cells slots K Q σ pc L (.ref (ad 22) :: rest) := jx_get h fT eC22 rfl 2 (by decide) (List.mem_cons_of_mem _ q_74) rfl hd kk
theorem g_T_15 (h : jX X (yC D ad ac) A cc nL RT (w0 :: TT) R ret) (hd : decode cc pc = .ok (.getfield 15, 3)) (kk : jW l X (yC D ad ac) A nL cells slots K Q σ (pc + 3) L (.ref (ad 10) :: rest)) : jW l X (yC D ad ac) A nL cells slots K Q σ pc L (.ref (ad 22) :: rest) := jx_get h fT eC22 rfl 3 (by decide) (List.mem_cons_of_mem _ q_76) rfl hd kk
theorem g_T_18 (h : jX X (yC D ad ac) A cc nL RT (w0 :: TT) R ret) (hd : decode cc pc = .ok (.getfield 18, 3)) (kk : jW l X (yC D ad ac) A nL cells slots K Q σ (pc + 3) L (.ref (ad 11) :: rest)) : jW l X (yC D ad ac) A nL cells slots K Q σ pc L (.ref (ad 22) :: rest) := jx_get h fT eC22 rfl 4 (by decide) (List.mem_cons_of_mem _ q_78) rfl hd kk
theorem g_T_21 (h : jX X (yC D ad ac) A cc nL RT (w0 :: TT) R ret) (hd : decode cc pc = .ok (.getfield 21, 3)) (kk : jW l X (yC D ad ac) A nL cells slots K Q σ (pc + 3) L (.ref (ad 12) :: rest)) : jW l X (yC D ad ac) A nL cells slots K Q σ pc L (.ref (ad 22) :: rest) := jx_get h fT eC22 rfl 5 (by decide) (List.mem_cons_of_mem _ q_80) rfl hd kk
theorem g_T_24 (h : jX X (yC D ad ac) A cc nL RT (w0 :: TT) R ret) (hd : decode cc pc = .ok (.getfield 24, 3)) (kk : jW l X (yC D ad ac) A nL cells slots K Q σ (pc + 3) L (.ref (ad 13) :: rest)) : jW l X (yC D ad ac) A nL cells slots K Q σ pc L (.ref (ad 22) :: rest) := jx_get h fT eC22 rfl 6 (by decide) (List.mem_cons_of_mem _ q_82) rfl hd kk
theorem g_T_27 (h : jX X (yC D ad ac) A cc nL RT (w0 :: TT) R ret) (hd : decode cc pc = .ok (.getfield 27, 3)) (kk : jW l X (yC D ad ac) A nL cells slots K Q σ (pc + 3) L (.ref (ad 14) :: rest)) : jW l X (yC D ad ac) A nL cells slots K Q σ pc L (.ref (ad 22) :: rest) := jx_get h fT eC22 rfl 7 (by decide) (List.mem_cons_of_mem _ q_84) rfl hd kk
theorem g_T_30 (h : jX X (yC D ad ac) A cc nL RT (w0 :: TT) R ret) (hd : decode cc pc = .ok (.getfield 30, 3)) (kk : jW l X (yC D ad ac) A nL cells slots K Q σ (pc + 3) L (.ref (ad 15) :: rest)) : jW l X (yC D ad ac) A nL cells slots K Q σ pc L (.ref (ad 22) :: rest) := jx_get h fT eC22 rfl 8 (by decide) (List.mem_cons_of_mem _ q_86) rfl hd kk
theorem g_T_33 (h : jX X (yC D ad ac) A cc nL RT (w0 :: TT) R ret) (hd : decode cc pc = .ok (.getfield 33, 3)) (kk : jW l X (yC D ad ac) A nL cells slots K Q σ (pc + 3) L (.ref (ad 16) :: rest)) : jW l X (yC D ad ac) A nL cells slots K Q σ pc L (.ref (ad 22) :: rest) := jx_get h fT eC22 rfl 9 (by decide) (List.mem_cons_of_mem _ q_88) rfl hd kk
end FC
def rmk (k : Nat) : Room := { frames := k, cells := 0, slots := 0, locals := 64 * k }
end
section
/-! both sides as writings of one value -/
def planC (σ : St) (w : Nat) : Prop := σ.1 2 = nI (nb w) ∧ σ.1 3 = nI (nc w) ∧ AR (nb w) nI (σ.2 3) (uU w) ∧ AR (nb w) nI (σ.2 4) (uL w) ∧ AR (nb w) nI (σ.2 5) (uC w) ∧ AR w nI (σ.2 6) (uE w)
def repC (σ : St) (M : Ms) : Prop := rep (σ.1 1) (σ.1 0) (σ.1 4) (σ.1 6) (σ.2 9) (σ.2 10) (σ.2 11) (σ.2 12) (σ.2 13) (σ.2 14) (σ.2 15) (σ.2 16) (σ.2 17) (σ.2 18) (σ.2 19) (σ.2 2) (σ.2 0) (σ.2 1) M ∧ σ.1 5 = nI M.left ∧ planC σ M.w
def planM (σ : St) (w : Nat) : Prop := σ.1 3 = nI (nb w) ∧ AR (nb w) nI (σ.2 0) (uU w) ∧ AR (nb w) nI (σ.2 1) (uL w) ∧ AR (nb w) nI (σ.2 2) (uC w) ∧ AR w nI (σ.2 4) (uE w)
def repM (σ : St) (M : Ms) : Prop := rep (σ.1 1) (σ.1 2) (σ.1 4) (σ.1 5) (σ.2 8) (σ.2 9) (σ.2 10) (σ.2 12) (σ.2 11) (σ.2 14) (σ.2 13) (σ.2 15) (σ.2 16) (σ.2 18) (σ.2 17) (σ.2 6) (σ.2 3) (σ.2 5) M ∧ planM σ M.w
theorem i32_sa (x : Int32) : x - 1 + 1 = x := by
  have h : (1 : Int32) + (-1) = 0 := by decide
  rw [Int32.sub_eq_add_neg, Int32.add_assoc, show (-1 : Int32) + 1 = 0 by decide, Int32.add_zero]
theorem eP_1 (n : Nat) : eP n + 1 = nI n := i32_sa _
theorem nI_m1 {p : Nat} (h : p < 2 ^ 31) : ¬ nI p = -1 := by
  intro q
  have a := nI_toInt h
  rw [q] at a
  have : (-1 : Int32).toInt = -1 := by decide
  omega
theorem eO_m1 {o : Option Nat} (h : ∀ p, o = some p → p < 2 ^ 31) : eO o = -1 ↔ o = none := by
  cases o with
  | none => exact ⟨fun _ => rfl, fun _ => rfl⟩
  | some p => exact ⟨fun q => absurd q (nI_m1 (h p rfl)), fun q => by cases q⟩
theorem eO_some {o : Option Nat} {s : Nat} (h : ∀ p, o = some p → p < 2 ^ 31) (hs : s < 2 ^ 31) : eO o = nI s ↔ o = some s := by
  cases o with
  | none => exact ⟨fun q => absurd q.symm (nI_m1 hs), fun q => by cases q⟩
  | some p =>
    constructor
    · intro q
      have := (nI_eq (h p rfl) hs).mp q
      rw [this]
    · intro q
      cases q
      rfl
theorem nI_c0 : (0 : Int32) = nI 0 := rfl
theorem nI_c1 : (1 : Int32) = nI 1 := rfl
theorem nI_c2 : (2 : Int32) = nI 2 := rfl
theorem nI_c60 : (60 : Int32) = nI 60 := rfl
theorem eB_0 {b : Bool} : eB b = 0 ↔ b = false := by cases b <;> decide
theorem eB_n0 {b : Bool} : ¬ eB b = 0 ↔ b = true := by cases b <;> decide
theorem eB_1 {b : Bool} : eB b = 1 ↔ b = true := by cases b <;> decide
theorem eB_nar (b : Bool) : vp_nar .boolean (eB b) = eB b := by cases b <;> decide
theorem eB_zr (b : Bool) : narrow .boolean (.int (eB b)) = .int (eB b) := by cases b <;> rfl
theorem nxB_none {w wi n b : Nat} (hb : nb w ≤ b) (h : nxF w wi (nb w - b) b = nxB w wi n) : nxB w wi n = none := by
  rw [← h, Nat.sub_eq_zero_of_le hb]; rfl
theorem nxB_step {w wi n b : Nat} (hb : b < nb w) (h : nxF w wi (nb w - b) b = nxB w wi n) (h1 : ¬ (uU w b = wi ∨ uL w b = wi)) : nxF w wi (nb w - (b + 1)) (b + 1) = nxB w wi n := by
  rw [← h, show nb w - b = (nb w - (b + 1)) + 1 by omega]
  show _ = (if uU w b = wi ∨ uL w b = wi then some b else nxF w wi (nb w - (b + 1)) (b + 1))
  rw [if_neg h1]
theorem nxB_hit {w wi n b : Nat} (hb : b < nb w) (h : nxF w wi (nb w - b) b = nxB w wi n) (h1 : uU w b = wi ∨ uL w b = wi) : nxB w wi n = some b := by
  rw [← h, show nb w - b = (nb w - (b + 1)) + 1 by omega]
  show (if uU w b = wi ∨ uL w b = wi then some b else nxF w wi (nb w - (b + 1)) (b + 1)) = _
  rw [if_pos h1]
theorem Ms.step_3 {M : Ms} {t : Nat} (h : M.state t = 1) : M.step t = (3, M) := by unfold Ms.step; rw [if_pos h]
theorem Ms.step_2 {M : Ms} {t : Nat} (h : ¬ M.state t = 1) (h2 : ¬ M.place t = some (M.stN t)) : M.step t = (2, (M.setOut t).post t (M.way t + 1) (M.stN t)) := by unfold Ms.step; rw [if_neg h, if_pos h2]
theorem Ms.step_0 {M : Ms} {t b : Nat} (h : ¬ M.state t = 1) (h2 : M.place t = some (M.stN t)) (h3 : M.next t = some b) : M.step t = (0, M.go t b) := by unfold Ms.step; rw [if_neg h, if_neg (fun q => q h2), h3]
theorem Ms.step_1 {M : Ms} {t : Nat} (h : ¬ M.state t = 1) (h2 : M.place t = some (M.stN t)) (h3 : M.next t = none) : M.step t = (1, M.out t (M.ex t)) := by unfold Ms.step; rw [if_neg h, if_neg (fun q => q h2), h3]
theorem Ms.left_setOut {M : Ms} {t : Nat} (ht : t < M.nt) (hs : ¬ M.state t = 2) : (M.setOut t).left = M.left := by
  have := lefF_up (st := M.state) (t := t) (v := 1) M.nt ht
  rw [if_neg hs, if_neg (by decide)] at this
  show lefF (va_up M.state t 1) M.nt = lefF M.state M.nt
  omega
theorem Ms.left_out {M : Ms} {t i : Nat} (ht : t < M.nt) (hs : ¬ M.state t = 2) : (M.out t i).left + 1 = M.left := by
  have := lefF_up (st := M.state) (t := t) (v := 2) M.nt ht
  rw [if_neg hs, if_pos rfl] at this
  show lefF (va_up M.state t 2) M.nt + 1 = lefF M.state M.nt
  omega
theorem Ms.left_arrive {M : Ms} {t s : Nat} (ht : t < M.nt) (hs : M.state t = 1) : (M.arrive t s).left = M.left := by
  have := lefF_up (st := M.state) (t := t) (v := 0) M.nt ht
  rw [if_neg (by rw [hs]; decide), if_neg (by decide)] at this
  show lefF (va_up M.state t 0) M.nt = lefF M.state M.nt
  omega
theorem Ms.left_enter (M : Ms) (wi : Nat) (o : Bool) : (M.enter wi o).left = M.left + 1 := by
  show lefF (va_up M.state M.nt 0) M.nt + (if va_up M.state M.nt 0 M.nt = 2 then 0 else 1) = lefF M.state M.nt + 1
  rw [lefF_ne M.nt (Nat.le_refl _), va_up_self, if_neg (by decide)]
theorem hasF_false {la : Nat → Nat} {lw : Nat → Int32} {t : Nat} {wy : Int32} : ∀ n, (∀ k, k < n → ¬ (la k = t ∧ lw k = wy)) → hasF la lw t wy n = false
  | 0, _ => rfl
  | n + 1, h => by
    unfold hasF
    rw [hasF_false n (fun k hk => h k (by omega))]
    have := h n (by omega)
    cases h1 : (la n == t) with
    | false => rfl
    | true =>
      cases h2 : (lw n == wy) with
      | false => rfl
      | true => exact absurd ⟨by simpa using h1, by simpa using h2⟩ this
theorem hasF_true {la : Nat → Nat} {lw : Nat → Int32} {t : Nat} {wy : Int32} : ∀ n k, k < n → la k = t → lw k = wy → hasF la lw t wy n = true
  | 0, _, h, _, _ => by omega
  | n + 1, k, h, h1, h2 => by
    unfold hasF
    by_cases e : k = n
    · subst e; simp [h1, h2]
    · rw [hasF_true n k (by omega) h1 h2]; rfl
end
section
set_option maxRecDepth 100000 in
set_option maxHeartbeats 4000000 in
theorem t_B_has {l : Launch} {D : va_G} {ad : Nat → Nat} {ac : Nat → ClassId} (σ : St) (i : Int32) : jMp l (yC D ad ac) mt_B_has TT (rmk 0) [.ref (ad 23), .int i] σ (fun r => r = if 0 ≤ i ∧ i < σ.1 6 then 1 else 0) := by
  refine jMp_of (by decide) (Nat.le_of_ble_eq_true rfl) (List.forall_mem_cons.mpr ⟨rfl, List.forall_mem_cons.mpr ⟨rfl, fun _ h => absurd h List.not_mem_nil⟩⟩) ?_
  intro X A hX
  have hX : jX X (yC D ad ac) A b_B_has 2 RB (mt_B_has.w :: TT) (rmk 0) (some .boolean) := hX
  show jW l X (yC D ad ac) A 2 0 0 (k0 X) (jQp X (fun r => r = if 0 ≤ i ∧ i < σ.1 6 then 1 else 0)) σ 0 [(0, .ref (ad 23)), (1, .int i)] []
  refine jx_iload_n (pc := 0) hX d_B_has_0 rfl rfl ?_
  refine jx_if_lt (pc := 1) hX 16 d_B_has_1 rfl (fun h1 => ?_) (fun h1 => ?_)
  · refine jx_iconst (pc := 16) hX (v := 0) d_B_has_16 rfl ?_
    exact jx_zretp (pc := 17) hX d_B_has_17 rfl ((if_neg (fun q => absurd q.1 (Int32.not_le.mpr h1))).symm)
  · refine jx_iload_n (pc := 4) hX d_B_has_4 rfl rfl ?_
    refine jx_aload_n (pc := 5) hX d_B_has_5 rfl rfl ?_
    refine g_B_21 (pc := 6) hX d_B_has_6 ?_
    refine jx_icmp_ge (pc := 9) hX 16 d_B_has_9 rfl (fun h9 => ?_) (fun h9 => ?_)
    · refine jx_iconst (pc := 16) hX (v := 0) d_B_has_16 rfl ?_
      exact jx_zretp (pc := 17) hX d_B_has_17 rfl ((if_neg (fun q => absurd q.2 (Int32.not_lt.mpr h9))).symm)
    · refine jx_iconst (pc := 12) hX (v := 1) d_B_has_12 rfl ?_
      refine jx_goto (pc := 13) hX 17 d_B_has_13 rfl ?_
      exact jx_zretp (pc := 17) hX d_B_has_17 rfl ((if_pos ⟨Int32.not_lt.mp h1, Int32.not_le.mp h9⟩).symm)
set_option maxRecDepth 100000 in
set_option maxHeartbeats 4000000 in
theorem t_B_hasRoom {l : Launch} {D : va_G} {ad : Nat → Nat} {ac : Nat → ClassId} (σ : St) (n : Nat) (hn : n < 2 ^ 31) (hs : σ.1 6 = nI n) : jMp l (yC D ad ac) mt_B_hasRoom TT (rmk 0) [.ref (ad 23)] σ (fun r => r = eB (decide (n < 60))) := by
  refine jMp_of (by decide) (Nat.le_of_ble_eq_true rfl) (List.forall_mem_cons.mpr ⟨rfl, fun _ h => absurd h List.not_mem_nil⟩) ?_
  intro X A hX
  have hX : jX X (yC D ad ac) A b_B_hasRoom 1 RB (mt_B_hasRoom.w :: TT) (rmk 0) (some .boolean) := hX
  show jW l X (yC D ad ac) A 1 0 0 (k0 X) (jQp X (fun r => r = eB (decide (n < 60)))) σ 0 [(0, .ref (ad 23))] []
  refine jx_aload_n (pc := 0) hX d_B_hasRoom_0 rfl rfl ?_
  refine g_B_21 (pc := 1) hX d_B_hasRoom_1 ?_
  refine jx_top (y := nI n) (hs) ?_
  refine jx_bipush (pc := 4) hX (v := 60) d_B_hasRoom_4 rfl ?_
  refine jx_icmp_ge (pc := 6) hX 13 d_B_hasRoom_6 rfl (fun h6 => ?_) (fun h6 => ?_)
  · refine jx_iconst (pc := 13) hX (v := 0) d_B_hasRoom_13 rfl ?_
    exact jx_zretp (pc := 14) hX d_B_hasRoom_14 rfl (by rw [decide_eq_false (Nat.not_lt.mpr ((nI_leI (by decide) hn).mp h6))]; rfl)
  · refine jx_iconst (pc := 9) hX (v := 1) d_B_hasRoom_9 rfl ?_
    refine jx_goto (pc := 10) hX 14 d_B_hasRoom_10 rfl ?_
    exact jx_zretp (pc := 14) hX d_B_hasRoom_14 rfl (by rw [decide_eq_true (Nat.lt_of_not_le (fun q => h6 (nI_le q hn)))]; rfl)
set_option maxRecDepth 100000 in
set_option maxHeartbeats 4000000 in
theorem t_T_has {l : Launch} {D : va_G} {ad : Nat → Nat} {ac : Nat → ClassId} (σ : St) (i : Int32) : jMp l (yC D ad ac) mt_T_has TT (rmk 0) [.ref (ad 22), .int i] σ (fun r => r = if 0 ≤ i ∧ i < σ.1 4 then 1 else 0) := by
  refine jMp_of (by decide) (Nat.le_of_ble_eq_true rfl) (List.forall_mem_cons.mpr ⟨rfl, List.forall_mem_cons.mpr ⟨rfl, fun _ h => absurd h List.not_mem_nil⟩⟩) ?_
  intro X A hX
  have hX : jX X (yC D ad ac) A b_T_has 2 RT (mt_T_has.w :: TT) (rmk 0) (some .boolean) := hX
  show jW l X (yC D ad ac) A 2 0 0 (k0 X) (jQp X (fun r => r = if 0 ≤ i ∧ i < σ.1 4 then 1 else 0)) σ 0 [(0, .ref (ad 22)), (1, .int i)] []
  refine jx_iload_n (pc := 0) hX d_T_has_0 rfl rfl ?_
  refine jx_if_lt (pc := 1) hX 16 d_T_has_1 rfl (fun h1 => ?_) (fun h1 => ?_)
  · refine jx_iconst (pc := 16) hX (v := 0) d_T_has_16 rfl ?_
    exact jx_zretp (pc := 17) hX d_T_has_17 rfl ((if_neg (fun q => absurd q.1 (Int32.not_le.mpr h1))).symm)
  · refine jx_iload_n (pc := 4) hX d_T_has_4 rfl rfl ?_
    refine jx_aload_n (pc := 5) hX d_T_has_5 rfl rfl ?_
    refine g_T_37 (pc := 6) hX d_T_has_6 ?_
    refine jx_icmp_ge (pc := 9) hX 16 d_T_has_9 rfl (fun h9 => ?_) (fun h9 => ?_)
    · refine jx_iconst (pc := 16) hX (v := 0) d_T_has_16 rfl ?_
      exact jx_zretp (pc := 17) hX d_T_has_17 rfl ((if_neg (fun q => absurd q.2 (Int32.not_lt.mpr h9))).symm)
    · refine jx_iconst (pc := 12) hX (v := 1) d_T_has_12 rfl ?_
      refine jx_goto (pc := 13) hX 17 d_T_has_13 rfl ?_
      exact jx_zretp (pc := 17) hX d_T_has_17 rfl ((if_pos ⟨Int32.not_lt.mp h1, Int32.not_le.mp h9⟩).symm)
set_option maxRecDepth 100000 in
set_option maxHeartbeats 4000000 in
theorem t_B_clear {l : Launch} {D : va_G} {ad : Nat → Nat} {ac : Nat → ClassId} (σ : St) : jMv l (yC D ad ac) mt_B_clear TT (rmk 0) [.ref (ad 23)] σ (fun u => u = sF σ 6 0) := by
  refine jMv_of (by decide) (Nat.le_of_ble_eq_true rfl) (List.forall_mem_cons.mpr ⟨rfl, fun _ h => absurd h List.not_mem_nil⟩) ?_
  intro X A hX
  have hX : jX X (yC D ad ac) A b_B_clear 1 RB (mt_B_clear.w :: TT) (rmk 0) none := hX
  show jW l X (yC D ad ac) A 1 0 0 kT (jQv X (yC D ad ac) A (fun u => u = sF σ 6 0)) σ 0 [(0, .ref (ad 23))] []
  refine jx_aload_n (pc := 0) hX d_B_clear_0 rfl rfl ?_
  refine jx_iconst (pc := 1) hX (v := 0) d_B_clear_1 rfl ?_
  refine p_B_21 (pc := 2) hX d_B_clear_2 ?_
  exact jx_vret (pc := 5) hX d_B_clear_5 (rfl)
set_option maxRecDepth 100000 in
set_option maxHeartbeats 4000000 in
theorem t_T_clear {l : Launch} {D : va_G} {ad : Nat → Nat} {ac : Nat → ClassId} (σ : St) : jMv l (yC D ad ac) mt_T_clear TT (rmk 0) [.ref (ad 22)] σ (fun u => u = sF (sF σ 4 0) 5 0) := by
  refine jMv_of (by decide) (Nat.le_of_ble_eq_true rfl) (List.forall_mem_cons.mpr ⟨rfl, fun _ h => absurd h List.not_mem_nil⟩) ?_
  intro X A hX
  have hX : jX X (yC D ad ac) A b_T_clear 1 RT (mt_T_clear.w :: TT) (rmk 0) none := hX
  show jW l X (yC D ad ac) A 1 0 0 kT (jQv X (yC D ad ac) A (fun u => u = sF (sF σ 4 0) 5 0)) σ 0 [(0, .ref (ad 22))] []
  refine jx_aload_n (pc := 0) hX d_T_clear_0 rfl rfl ?_
  refine jx_iconst (pc := 1) hX (v := 0) d_T_clear_1 rfl ?_
  refine p_T_37 (pc := 2) hX d_T_clear_2 ?_
  refine jx_aload_n (pc := 5) hX d_T_clear_5 rfl rfl ?_
  refine jx_iconst (pc := 6) hX (v := 0) d_T_clear_6 rfl ?_
  refine p_T_41 (pc := 7) hX d_T_clear_7 ?_
  exact jx_vret (pc := 10) hX d_T_clear_10 (rfl)
set_option maxRecDepth 100000 in
set_option maxHeartbeats 4000000 in
theorem t_T_setOut {l : Launch} {D : va_G} {ad : Nat → Nat} {ac : Nat → ClassId} (σ : St) (t : Nat) (ht : t < 200) : jMv l (yC D ad ac) mt_T_setOut TT (rmk 0) [.ref (ad 22), .int (nI t)] σ (fun u => u = sA (sA σ 14 t (σ.2 14 t + 1)) 11 t 1) := by
  refine jMv_of (by decide) (Nat.le_of_ble_eq_true rfl) (List.forall_mem_cons.mpr ⟨rfl, List.forall_mem_cons.mpr ⟨rfl, fun _ h => absurd h List.not_mem_nil⟩⟩) ?_
  intro X A hX
  have hX : jX X (yC D ad ac) A b_T_setOut 2 RT (mt_T_setOut.w :: TT) (rmk 0) none := hX
  show jW l X (yC D ad ac) A 2 0 0 kT (jQv X (yC D ad ac) A (fun u => u = sA (sA σ 14 t (σ.2 14 t + 1)) 11 t 1)) σ 0 [(0, .ref (ad 22)), (1, .int (nI t))] []
  refine jx_aload_n (pc := 0) hX d_T_setOut_0 rfl rfl ?_
  refine g_T_27 (pc := 1) hX d_T_setOut_1 ?_
  refine jx_iload_n (pc := 4) hX d_T_setOut_4 rfl rfl ?_
  refine jx_dup2 (pc := 5) hX d_T_setOut_5 rfl rfl ?_
  refine jx_iald (pc := 6) hX oC_14 _ rfl ht d_T_setOut_6 ?_
  refine jx_iconst (pc := 7) hX (v := 1) d_T_setOut_7 rfl ?_
  refine jx_iadd (pc := 8) hX d_T_setOut_8 ?_
  refine jx_iast (pc := 9) hX oC_14 _ rfl ht d_T_setOut_9 ?_
  refine jx_aload_n (pc := 10) hX d_T_setOut_10 rfl rfl ?_
  refine g_T_18 (pc := 11) hX d_T_setOut_11 ?_
  refine jx_iload_n (pc := 14) hX d_T_setOut_14 rfl rfl ?_
  refine jx_iconst (pc := 15) hX (v := 1) d_T_setOut_15 rfl ?_
  refine jx_iast (pc := 16) hX oC_11 _ rfl ht d_T_setOut_16 ?_
  exact jx_vret (pc := 17) hX d_T_setOut_17 (rfl)
set_option maxRecDepth 100000 in
set_option maxHeartbeats 4000000 in
theorem t_T_arrive {l : Launch} {D : va_G} {ad : Nat → Nat} {ac : Nat → ClassId} (σ : St) (t : Nat) (ht : t < 200) (x : Int32) : jMv l (yC D ad ac) mt_T_arrive TT (rmk 0) [.ref (ad 22), .int (nI t), .int x] σ (fun u => u = sA (sA σ 10 t x) 11 t 0) := by
  refine jMv_of (by decide) (Nat.le_of_ble_eq_true rfl) (List.forall_mem_cons.mpr ⟨rfl, List.forall_mem_cons.mpr ⟨rfl, List.forall_mem_cons.mpr ⟨rfl, fun _ h => absurd h List.not_mem_nil⟩⟩⟩) ?_
  intro X A hX
  have hX : jX X (yC D ad ac) A b_T_arrive 3 RT (mt_T_arrive.w :: TT) (rmk 0) none := hX
  show jW l X (yC D ad ac) A 3 0 0 kT (jQv X (yC D ad ac) A (fun u => u = sA (sA σ 10 t x) 11 t 0)) σ 0 [(0, .ref (ad 22)), (1, .int (nI t)), (2, .int x)] []
  refine jx_aload_n (pc := 0) hX d_T_arrive_0 rfl rfl ?_
  refine g_T_15 (pc := 1) hX d_T_arrive_1 ?_
  refine jx_iload_n (pc := 4) hX d_T_arrive_4 rfl rfl ?_
  refine jx_iload_n (pc := 5) hX d_T_arrive_5 rfl rfl ?_
  refine jx_iast (pc := 6) hX oC_10 _ rfl ht d_T_arrive_6 ?_
  refine jx_aload_n (pc := 7) hX d_T_arrive_7 rfl rfl ?_
  refine g_T_18 (pc := 8) hX d_T_arrive_8 ?_
  refine jx_iload_n (pc := 11) hX d_T_arrive_11 rfl rfl ?_
  refine jx_iconst (pc := 12) hX (v := 0) d_T_arrive_12 rfl ?_
  refine jx_iast (pc := 13) hX oC_11 _ rfl ht d_T_arrive_13 ?_
  exact jx_vret (pc := 14) hX d_T_arrive_14 (rfl)
set_option maxRecDepth 100000 in
set_option maxHeartbeats 4000000 in
theorem t_T_pass {l : Launch} {D : va_G} {ad : Nat → Nat} {ac : Nat → ClassId} (σ : St) (t : Nat) (ht : t < 200) (x y : Int32) : jMv l (yC D ad ac) mt_T_pass TT (rmk 0) [.ref (ad 22), .int (nI t), .int x, .int y] σ (fun u => u = sA (sA (sA σ 12 t (σ.2 12 t + 1)) 13 t x) 9 t y) := by
  refine jMv_of (by decide) (Nat.le_of_ble_eq_true rfl) (List.forall_mem_cons.mpr ⟨rfl, List.forall_mem_cons.mpr ⟨rfl, List.forall_mem_cons.mpr ⟨rfl, List.forall_mem_cons.mpr ⟨rfl, fun _ h => absurd h List.not_mem_nil⟩⟩⟩⟩) ?_
  intro X A hX
  have hX : jX X (yC D ad ac) A b_T_pass 4 RT (mt_T_pass.w :: TT) (rmk 0) none := hX
  show jW l X (yC D ad ac) A 4 0 0 kT (jQv X (yC D ad ac) A (fun u => u = sA (sA (sA σ 12 t (σ.2 12 t + 1)) 13 t x) 9 t y)) σ 0 [(0, .ref (ad 22)), (1, .int (nI t)), (2, .int x), (3, .int y)] []
  refine jx_aload_n (pc := 0) hX d_T_pass_0 rfl rfl ?_
  refine g_T_21 (pc := 1) hX d_T_pass_1 ?_
  refine jx_iload_n (pc := 4) hX d_T_pass_4 rfl rfl ?_
  refine jx_dup2 (pc := 5) hX d_T_pass_5 rfl rfl ?_
  refine jx_iald (pc := 6) hX oC_12 _ rfl ht d_T_pass_6 ?_
  refine jx_iconst (pc := 7) hX (v := 1) d_T_pass_7 rfl ?_
  refine jx_iadd (pc := 8) hX d_T_pass_8 ?_
  refine jx_iast (pc := 9) hX oC_12 _ rfl ht d_T_pass_9 ?_
  refine jx_aload_n (pc := 10) hX d_T_pass_10 rfl rfl ?_
  refine g_T_24 (pc := 11) hX d_T_pass_11 ?_
  refine jx_iload_n (pc := 14) hX d_T_pass_14 rfl rfl ?_
  refine jx_iload_n (pc := 15) hX d_T_pass_15 rfl rfl ?_
  refine jx_iast (pc := 16) hX oC_13 _ rfl ht d_T_pass_16 ?_
  refine jx_aload_n (pc := 17) hX d_T_pass_17 rfl rfl ?_
  refine g_T_9 (pc := 18) hX d_T_pass_18 ?_
  refine jx_iload_n (pc := 21) hX d_T_pass_21 rfl rfl ?_
  refine jx_iload_n (pc := 22) hX d_T_pass_22 rfl rfl ?_
  refine jx_iast (pc := 23) hX oC_9 _ rfl ht d_T_pass_23 ?_
  exact jx_vret (pc := 24) hX d_T_pass_24 (rfl)
set_option maxRecDepth 100000 in
set_option maxHeartbeats 4000000 in
theorem t_T_finish {l : Launch} {D : va_G} {ad : Nat → Nat} {ac : Nat → ClassId} (σ : St) (t : Nat) (ht : t < 200) (x : Int32) : jMv l (yC D ad ac) mt_T_finish TT (rmk 0) [.ref (ad 22), .int (nI t), .int x] σ (fun u => u = sF (sA (sA σ 15 t x) 11 t 2) 5 (σ.1 5 - 1)) := by
  refine jMv_of (by decide) (Nat.le_of_ble_eq_true rfl) (List.forall_mem_cons.mpr ⟨rfl, List.forall_mem_cons.mpr ⟨rfl, List.forall_mem_cons.mpr ⟨rfl, fun _ h => absurd h List.not_mem_nil⟩⟩⟩) ?_
  intro X A hX
  have hX : jX X (yC D ad ac) A b_T_finish 3 RT (mt_T_finish.w :: TT) (rmk 0) none := hX
  show jW l X (yC D ad ac) A 3 0 0 kT (jQv X (yC D ad ac) A (fun u => u = sF (sA (sA σ 15 t x) 11 t 2) 5 (σ.1 5 - 1))) σ 0 [(0, .ref (ad 22)), (1, .int (nI t)), (2, .int x)] []
  refine jx_aload_n (pc := 0) hX d_T_finish_0 rfl rfl ?_
  refine g_T_30 (pc := 1) hX d_T_finish_1 ?_
  refine jx_iload_n (pc := 4) hX d_T_finish_4 rfl rfl ?_
  refine jx_iload_n (pc := 5) hX d_T_finish_5 rfl rfl ?_
  refine jx_iast (pc := 6) hX oC_15 _ rfl ht d_T_finish_6 ?_
  refine jx_aload_n (pc := 7) hX d_T_finish_7 rfl rfl ?_
  refine g_T_18 (pc := 8) hX d_T_finish_8 ?_
  refine jx_iload_n (pc := 11) hX d_T_finish_11 rfl rfl ?_
  refine jx_iconst (pc := 12) hX (v := 2) d_T_finish_12 rfl ?_
  refine jx_iast (pc := 13) hX oC_11 _ rfl ht d_T_finish_13 ?_
  refine jx_aload_n (pc := 14) hX d_T_finish_14 rfl rfl ?_
  refine jx_dup (pc := 15) hX d_T_finish_15 rfl ?_
  refine g_T_41 (pc := 16) hX d_T_finish_16 ?_
  refine jx_iconst (pc := 19) hX (v := 1) d_T_finish_19 rfl ?_
  refine jx_isub (pc := 20) hX d_T_finish_20 ?_
  refine p_T_41 (pc := 21) hX d_T_finish_21 ?_
  exact jx_vret (pc := 24) hX d_T_finish_24 (rfl)
set_option maxRecDepth 100000 in
set_option maxHeartbeats 4000000 in
theorem t_B_post {l : Launch} {D : va_G} {ad : Nat → Nat} {ac : Nat → ClassId} (σ : St) (n : Nat) (hn : n < 60) (hs : σ.1 6 = nI n) (x y z : Int32) : jMv l (yC D ad ac) mt_B_post TT (rmk 0) [.ref (ad 23), .int x, .int y, .int z] σ (fun u => u = sF (sA (sA (sA σ 17 n x) 18 n y) 19 n z) 6 (σ.1 6 + 1)) := by
  refine jMv_of (by decide) (Nat.le_of_ble_eq_true rfl) (List.forall_mem_cons.mpr ⟨rfl, List.forall_mem_cons.mpr ⟨rfl, List.forall_mem_cons.mpr ⟨rfl, List.forall_mem_cons.mpr ⟨rfl, fun _ h => absurd h List.not_mem_nil⟩⟩⟩⟩) ?_
  intro X A hX
  have hX : jX X (yC D ad ac) A b_B_post 4 RB (mt_B_post.w :: TT) (rmk 0) none := hX
  show jW l X (yC D ad ac) A 4 0 0 kT (jQv X (yC D ad ac) A (fun u => u = sF (sA (sA (sA σ 17 n x) 18 n y) 19 n z) 6 (σ.1 6 + 1))) σ 0 [(0, .ref (ad 23)), (1, .int x), (2, .int y), (3, .int z)] []
  refine jx_aload_n (pc := 0) hX d_B_post_0 rfl rfl ?_
  refine g_B_9 (pc := 1) hX d_B_post_1 ?_
  refine jx_aload_n (pc := 4) hX d_B_post_4 rfl rfl ?_
  refine g_B_21 (pc := 5) hX d_B_post_5 ?_
  refine jx_iload_n (pc := 8) hX d_B_post_8 rfl rfl ?_
  refine jx_iast (pc := 9) hX oC_17 _ hs hn d_B_post_9 ?_
  refine jx_aload_n (pc := 10) hX d_B_post_10 rfl rfl ?_
  refine g_B_15 (pc := 11) hX d_B_post_11 ?_
  refine jx_aload_n (pc := 14) hX d_B_post_14 rfl rfl ?_
  refine g_B_21 (pc := 15) hX d_B_post_15 ?_
  refine jx_iload_n (pc := 18) hX d_B_post_18 rfl rfl ?_
  refine jx_iast (pc := 19) hX oC_18 _ hs hn d_B_post_19 ?_
  refine jx_aload_n (pc := 20) hX d_B_post_20 rfl rfl ?_
  refine g_B_18 (pc := 21) hX d_B_post_21 ?_
  refine jx_aload_n (pc := 24) hX d_B_post_24 rfl rfl ?_
  refine g_B_21 (pc := 25) hX d_B_post_25 ?_
  refine jx_iload_n (pc := 28) hX d_B_post_28 rfl rfl ?_
  refine jx_iast (pc := 29) hX oC_19 _ hs hn d_B_post_29 ?_
  refine jx_aload_n (pc := 30) hX d_B_post_30 rfl rfl ?_
  refine jx_dup (pc := 31) hX d_B_post_31 rfl ?_
  refine g_B_21 (pc := 32) hX d_B_post_32 ?_
  refine jx_iconst (pc := 35) hX (v := 1) d_B_post_35 rfl ?_
  refine jx_iadd (pc := 36) hX d_B_post_36 ?_
  refine p_B_21 (pc := 37) hX d_B_post_37 ?_
  exact jx_vret (pc := 40) hX d_B_post_40 (rfl)
set_option maxRecDepth 100000 in
set_option maxHeartbeats 4000000 in
theorem t_T_add {l : Launch} {D : va_G} {ad : Nat → Nat} {ac : Nat → ClassId} (σ : St) (n : Nat) (hn : n < 200) (hs : σ.1 4 = nI n) (x z : Int32) (hz : vp_nar .boolean z = z) : jMi l (yC D ad ac) mt_T_add TT (rmk 0) [.ref (ad 22), .int x, .int z] σ (fun r u => r = nI n ∧ u = sA (sA (sA (sA (sA (sA (sA (sA (sF (sF σ 4 (nI n + 1)) 5 (σ.1 5 + 1)) 9 n x) 10 n (-1)) 11 n 0) 12 n 0) 13 n (-1)) 14 n 0) 15 n (-1)) 16 n z) := by
  refine jMi_of (by decide) (Nat.le_of_ble_eq_true rfl) (List.forall_mem_cons.mpr ⟨rfl, List.forall_mem_cons.mpr ⟨rfl, List.forall_mem_cons.mpr ⟨rfl, fun _ h => absurd h List.not_mem_nil⟩⟩⟩) ?_
  intro X A hX
  have hX : jX X (yC D ad ac) A b_T_add 4 RT (mt_T_add.w :: TT) (rmk 0) (some .int) := hX
  show jW l X (yC D ad ac) A 4 0 0 kT (jQi X (yC D ad ac) A (fun r u => r = nI n ∧ u = sA (sA (sA (sA (sA (sA (sA (sA (sF (sF σ 4 (nI n + 1)) 5 (σ.1 5 + 1)) 9 n x) 10 n (-1)) 11 n 0) 12 n 0) 13 n (-1)) 14 n 0) 15 n (-1)) 16 n z)) σ 0 [(0, .ref (ad 22)), (1, .int x), (2, .int z)] []
  refine jx_aload_n (pc := 0) hX d_T_add_0 rfl rfl ?_
  refine g_T_37 (pc := 1) hX d_T_add_1 ?_
  refine jx_top (y := nI n) (hs) ?_
  refine jx_istore_n (pc := 4) hX d_T_add_4 rfl (by decide) (L' := [(0, _), (1, _), (2, _), (3, _)]) rfl ?_
  refine jx_aload_n (pc := 5) hX d_T_add_5 rfl rfl ?_
  refine jx_dup (pc := 6) hX d_T_add_6 rfl ?_
  refine g_T_37 (pc := 7) hX d_T_add_7 ?_
  refine jx_top (y := nI n) (hs) ?_
  refine jx_iconst (pc := 10) hX (v := 1) d_T_add_10 rfl ?_
  refine jx_iadd (pc := 11) hX d_T_add_11 ?_
  refine p_T_37 (pc := 12) hX d_T_add_12 ?_
  refine jx_aload_n (pc := 15) hX d_T_add_15 rfl rfl ?_
  refine jx_dup (pc := 16) hX d_T_add_16 rfl ?_
  refine g_T_41 (pc := 17) hX d_T_add_17 ?_
  refine jx_iconst (pc := 20) hX (v := 1) d_T_add_20 rfl ?_
  refine jx_iadd (pc := 21) hX d_T_add_21 ?_
  refine p_T_41 (pc := 22) hX d_T_add_22 ?_
  refine jx_aload_n (pc := 25) hX d_T_add_25 rfl rfl ?_
  refine g_T_9 (pc := 26) hX d_T_add_26 ?_
  refine jx_iload_n (pc := 29) hX d_T_add_29 rfl rfl ?_
  refine jx_iload_n (pc := 30) hX d_T_add_30 rfl rfl ?_
  refine jx_iast (pc := 31) hX oC_9 _ rfl hn d_T_add_31 ?_
  refine jx_aload_n (pc := 32) hX d_T_add_32 rfl rfl ?_
  refine g_T_15 (pc := 33) hX d_T_add_33 ?_
  refine jx_iload_n (pc := 36) hX d_T_add_36 rfl rfl ?_
  refine jx_iconst (pc := 37) hX (v := -1) d_T_add_37 rfl ?_
  refine jx_iast (pc := 38) hX oC_10 _ rfl hn d_T_add_38 ?_
  refine jx_aload_n (pc := 39) hX d_T_add_39 rfl rfl ?_
  refine g_T_18 (pc := 40) hX d_T_add_40 ?_
  refine jx_iload_n (pc := 43) hX d_T_add_43 rfl rfl ?_
  refine jx_iconst (pc := 44) hX (v := 0) d_T_add_44 rfl ?_
  refine jx_iast (pc := 45) hX oC_11 _ rfl hn d_T_add_45 ?_
  refine jx_aload_n (pc := 46) hX d_T_add_46 rfl rfl ?_
  refine g_T_21 (pc := 47) hX d_T_add_47 ?_
  refine jx_iload_n (pc := 50) hX d_T_add_50 rfl rfl ?_
  refine jx_iconst (pc := 51) hX (v := 0) d_T_add_51 rfl ?_
  refine jx_iast (pc := 52) hX oC_12 _ rfl hn d_T_add_52 ?_
  refine jx_aload_n (pc := 53) hX d_T_add_53 rfl rfl ?_
  refine g_T_24 (pc := 54) hX d_T_add_54 ?_
  refine jx_iload_n (pc := 57) hX d_T_add_57 rfl rfl ?_
  refine jx_iconst (pc := 58) hX (v := -1) d_T_add_58 rfl ?_
  refine jx_iast (pc := 59) hX oC_13 _ rfl hn d_T_add_59 ?_
  refine jx_aload_n (pc := 60) hX d_T_add_60 rfl rfl ?_
  refine g_T_27 (pc := 61) hX d_T_add_61 ?_
  refine jx_iload_n (pc := 64) hX d_T_add_64 rfl rfl ?_
  refine jx_iconst (pc := 65) hX (v := 0) d_T_add_65 rfl ?_
  refine jx_iast (pc := 66) hX oC_14 _ rfl hn d_T_add_66 ?_
  refine jx_aload_n (pc := 67) hX d_T_add_67 rfl rfl ?_
  refine g_T_30 (pc := 68) hX d_T_add_68 ?_
  refine jx_iload_n (pc := 71) hX d_T_add_71 rfl rfl ?_
  refine jx_iconst (pc := 72) hX (v := -1) d_T_add_72 rfl ?_
  refine jx_iast (pc := 73) hX oC_15 _ rfl hn d_T_add_73 ?_
  refine jx_aload_n (pc := 74) hX d_T_add_74 rfl rfl ?_
  refine g_T_33 (pc := 75) hX d_T_add_75 ?_
  refine jx_iload_n (pc := 78) hX d_T_add_78 rfl rfl ?_
  refine jx_iload_n (pc := 79) hX d_T_add_79 rfl rfl ?_
  refine jx_zast (pc := 80) hX oC_16 _ rfl hn hz d_T_add_80 ?_
  refine jx_iload_n (pc := 81) hX d_T_add_81 rfl rfl ?_
  exact jx_iret (pc := 82) hX d_T_add_82 (⟨rfl, rfl⟩)
set_option maxRecDepth 100000 in
set_option maxHeartbeats 4000000 in
theorem t_B_takeOut {l : Launch} {D : va_G} {ad : Nat → Nat} {ac : Nat → ClassId} (σ : St) (n i : Nat) (hi : i < n) (hn : n ≤ 60) (hs : σ.1 6 = nI n) : jMv l (yC D ad ac) mt_B_takeOut TT (rmk 1) [.ref (ad 23), .int (nI i)] σ (fun u => u = sF (sR (sR (sR σ 17 (va_cpy (σ.2 17) (σ.2 17) (i + 1) i (n - i - 1))) 18 (va_cpy (σ.2 18) (σ.2 18) (i + 1) i (n - i - 1))) 19 (va_cpy (σ.2 19) (σ.2 19) (i + 1) i (n - i - 1))) 6 (σ.1 6 - 1)) := by
  have hb : nI n - nI i - 1 = nI (n - i - 1) := by rw [pk_sub (by omega), nI_c1, pk_sub (by omega)]
  refine jMv_of (by decide) (Nat.le_of_ble_eq_true rfl) (List.forall_mem_cons.mpr ⟨rfl, List.forall_mem_cons.mpr ⟨rfl, fun _ h => absurd h List.not_mem_nil⟩⟩) ?_
  intro X A hX
  have hX : jX X (yC D ad ac) A b_B_takeOut 3 RB (mt_B_takeOut.w :: TT) (rmk 1) none := hX
  show jW l X (yC D ad ac) A 3 0 0 kT (jQv X (yC D ad ac) A (fun u => u = sF (sR (sR (sR σ 17 (va_cpy (σ.2 17) (σ.2 17) (i + 1) i (n - i - 1))) 18 (va_cpy (σ.2 18) (σ.2 18) (i + 1) i (n - i - 1))) 19 (va_cpy (σ.2 19) (σ.2 19) (i + 1) i (n - i - 1))) 6 (σ.1 6 - 1))) σ 0 [(0, .ref (ad 23)), (1, .int (nI i))] []
  refine jx_aload_n (pc := 0) hX d_B_takeOut_0 rfl rfl ?_
  refine g_B_21 (pc := 1) hX d_B_takeOut_1 ?_
  refine jx_top (y := nI n) (hs) ?_
  refine jx_iload_n (pc := 4) hX d_B_takeOut_4 rfl rfl ?_
  refine jx_isub (pc := 5) hX d_B_takeOut_5 ?_
  refine jx_iconst (pc := 6) hX (v := 1) d_B_takeOut_6 rfl ?_
  refine jx_isub (pc := 7) hX d_B_takeOut_7 ?_
  refine jx_istore_n (pc := 8) hX d_B_takeOut_8 rfl (by decide) (L' := [(0, _), (1, _), (2, _)]) rfl ?_
  refine jx_aload_n (pc := 9) hX d_B_takeOut_9 rfl rfl ?_
  refine g_B_9 (pc := 10) hX d_B_takeOut_10 ?_
  refine jx_iload_n (pc := 13) hX d_B_takeOut_13 rfl rfl ?_
  refine jx_iconst (pc := 14) hX (v := 1) d_B_takeOut_14 rfl ?_
  refine jx_iadd (pc := 15) hX d_B_takeOut_15 ?_
  refine jx_aload_n (pc := 16) hX d_B_takeOut_16 rfl rfl ?_
  refine g_B_9 (pc := 17) hX d_B_takeOut_17 ?_
  refine jx_iload_n (pc := 20) hX d_B_takeOut_20 rfl rfl ?_
  refine jx_iload_n (pc := 21) hX d_B_takeOut_21 rfl rfl ?_
  refine jx_copy (pc := 22) hX w_B_25 oC_17 oC_17 (i + 1) i (n - i - 1) (nI_1 i) rfl hb (show i + 1 + (n - i - 1) ≤ 60 by omega) (show i + (n - i - 1) ≤ 60 by omega) (Nat.le_of_ble_eq_true rfl) (Nat.le_of_ble_eq_true rfl) d_B_takeOut_22 ?_
  refine jx_aload_n (pc := 25) hX d_B_takeOut_25 rfl rfl ?_
  refine g_B_15 (pc := 26) hX d_B_takeOut_26 ?_
  refine jx_iload_n (pc := 29) hX d_B_takeOut_29 rfl rfl ?_
  refine jx_iconst (pc := 30) hX (v := 1) d_B_takeOut_30 rfl ?_
  refine jx_iadd (pc := 31) hX d_B_takeOut_31 ?_
  refine jx_aload_n (pc := 32) hX d_B_takeOut_32 rfl rfl ?_
  refine g_B_15 (pc := 33) hX d_B_takeOut_33 ?_
  refine jx_iload_n (pc := 36) hX d_B_takeOut_36 rfl rfl ?_
  refine jx_iload_n (pc := 37) hX d_B_takeOut_37 rfl rfl ?_
  refine jx_copy (pc := 38) hX w_B_25 oC_18 oC_18 (i + 1) i (n - i - 1) (nI_1 i) rfl hb (show i + 1 + (n - i - 1) ≤ 60 by omega) (show i + (n - i - 1) ≤ 60 by omega) (Nat.le_of_ble_eq_true rfl) (Nat.le_of_ble_eq_true rfl) d_B_takeOut_38 ?_
  refine jx_aload_n (pc := 41) hX d_B_takeOut_41 rfl rfl ?_
  refine g_B_18 (pc := 42) hX d_B_takeOut_42 ?_
  refine jx_iload_n (pc := 45) hX d_B_takeOut_45 rfl rfl ?_
  refine jx_iconst (pc := 46) hX (v := 1) d_B_takeOut_46 rfl ?_
  refine jx_iadd (pc := 47) hX d_B_takeOut_47 ?_
  refine jx_aload_n (pc := 48) hX d_B_takeOut_48 rfl rfl ?_
  refine g_B_18 (pc := 49) hX d_B_takeOut_49 ?_
  refine jx_iload_n (pc := 52) hX d_B_takeOut_52 rfl rfl ?_
  refine jx_iload_n (pc := 53) hX d_B_takeOut_53 rfl rfl ?_
  refine jx_copy (pc := 54) hX w_B_25 oC_19 oC_19 (i + 1) i (n - i - 1) (nI_1 i) rfl hb (show i + 1 + (n - i - 1) ≤ 60 by omega) (show i + (n - i - 1) ≤ 60 by omega) (Nat.le_of_ble_eq_true rfl) (Nat.le_of_ble_eq_true rfl) d_B_takeOut_54 ?_
  refine jx_aload_n (pc := 57) hX d_B_takeOut_57 rfl rfl ?_
  refine jx_dup (pc := 58) hX d_B_takeOut_58 rfl ?_
  refine g_B_21 (pc := 59) hX d_B_takeOut_59 ?_
  refine jx_iconst (pc := 62) hX (v := 1) d_B_takeOut_62 rfl ?_
  refine jx_isub (pc := 63) hX d_B_takeOut_63 ?_
  refine p_B_21 (pc := 64) hX d_B_takeOut_64 ?_
  exact jx_vret (pc := 67) hX d_B_takeOut_67 (rfl)
set_option maxRecDepth 100000 in
set_option maxHeartbeats 4000000 in
theorem t_B_holds {l : Launch} {D : va_G} {ad : Nat → Nat} {ac : Nat → ClassId} (σ : St) (M : Ms) (hI : Inv M) (hM : repC σ M) (t : Nat) (ht : t < 2 ^ 31) (wy : Int32) : jMp l (yC D ad ac) mt_B_holds TT (rmk 0) [.ref (ad 23), .int (nI t), .int wy] σ (fun r => r = eB (hasF M.la M.lw t wy M.nl)) := by
  obtain ⟨⟨⟨s0, s1, s2, s3⟩, h0, h1, h2, h3, h4, h5, h6, h7, h8, h9, h10, h11, h12, h13⟩, hlf, hpl⟩ := hM
  obtain ⟨i1, i2, i3, i4, i5, i6, i7, i8⟩ := hI
  refine jMp_of (by decide) (Nat.le_of_ble_eq_true rfl) (List.forall_mem_cons.mpr ⟨rfl, List.forall_mem_cons.mpr ⟨rfl, List.forall_mem_cons.mpr ⟨rfl, fun _ h => absurd h List.not_mem_nil⟩⟩⟩) ?_
  intro X A hX
  have hX : jX X (yC D ad ac) A b_B_holds 4 RB (mt_B_holds.w :: TT) (rmk 0) (some .boolean) := hX
  show jW l X (yC D ad ac) A 4 0 0 (k0 X) (jQp X (fun r => r = eB (hasF M.la M.lw t wy M.nl))) σ 0 [(0, .ref (ad 23)), (1, .int (nI t)), (2, .int wy)] []
  have loop : ∀ (fu : Nat) (k : Nat), M.nl - k = fu → k ≤ M.nl → (∀ j, j < k → ¬ (M.la j = t ∧ M.lw j = wy)) → jW l X (yC D ad ac) A 4 0 0 (k0 X) (jQp X (fun r => r = eB (hasF M.la M.lw t wy M.nl))) σ 2 [(0, .ref (ad 23)), (1, .int (nI t)), (2, .int wy), (3, .int (nI k))] [] := by
    intro fu
    induction fu using Nat.strongRecOn with
    | ind fu ih =>
      intro k hn hk hv
      refine jx_iload_n (pc := 2) hX d_B_holds_2 rfl rfl ?_
      refine jx_aload_n (pc := 3) hX d_B_holds_3 rfl rfl ?_
      refine g_B_21 (pc := 4) hX d_B_holds_4 ?_
      refine jx_top (y := nI M.nl) (s3) ?_
      refine jx_icmp_ge (pc := 7) hX 38 d_B_holds_7 rfl (fun h7a => ?_) (fun h7a => ?_)
      · have hkl : ¬ k < M.nl := Nat.not_lt.mpr ((nI_leI (by omega) (by omega)).mp h7a)
        refine jx_iconst (pc := 38) hX (v := 0) d_B_holds_38 rfl ?_
        exact jx_zretp (pc := 39) hX d_B_holds_39 rfl (by rw [hasF_false M.nl (fun j hj => hv j (by omega))]; rfl)
      · have hkl : k < M.nl := Nat.lt_of_not_le (fun q => h7a ((nI_leI (by omega) (by omega)).mpr q))
        have i9 := i7 k hkl
        refine jx_aload_n (pc := 10) hX d_B_holds_10 rfl rfl ?_
        refine g_B_9 (pc := 11) hX d_B_holds_11 ?_
        refine jx_iload_n (pc := 14) hX d_B_holds_14 rfl rfl ?_
        refine jx_iald (pc := 15) hX oC_17 _ rfl (show k < 60 by omega) d_B_holds_15 ?_
        refine jx_top (y := nI (M.la k)) (h8 k hkl) ?_
        refine jx_iload_n (pc := 16) hX d_B_holds_16 rfl rfl ?_
        refine jx_icmp_ne (pc := 17) hX 32 d_B_holds_17 rfl (fun e17 => ?_) (fun e17 => ?_)
        · have hno : ¬ (M.la k = t ∧ M.lw k = wy) := fun q => e17 (by rw [q.1])
          refine jx_iinc (pc := 32) hX (v := nI (k + 1)) d_B_holds_32 rfl (nI_1 k) (by decide) (L' := [(0, _), (1, _), (2, _), (3, _)]) rfl ?_
          refine jx_goto (pc := 35) hX 2 d_B_holds_35 rfl ?_
          exact ih _ (by omega) (k + 1) rfl (by omega) (fun j hj => (Nat.lt_or_ge j k).elim (hv j) (fun q => (show j = k by omega) ▸ hno))
        · refine jx_aload_n (pc := 20) hX d_B_holds_20 rfl rfl ?_
          refine g_B_15 (pc := 21) hX d_B_holds_21 ?_
          refine jx_iload_n (pc := 24) hX d_B_holds_24 rfl rfl ?_
          refine jx_iald (pc := 25) hX oC_18 _ rfl (show k < 60 by omega) d_B_holds_25 ?_
          refine jx_top (y := M.lw k) (h9 k hkl) ?_
          refine jx_iload_n (pc := 26) hX d_B_holds_26 rfl rfl ?_
          refine jx_icmp_ne (pc := 27) hX 32 d_B_holds_27 rfl (fun e27 => ?_) (fun e27 => ?_)
          · have hno : ¬ (M.la k = t ∧ M.lw k = wy) := fun q => e27 q.2
            refine jx_iinc (pc := 32) hX (v := nI (k + 1)) d_B_holds_32 rfl (nI_1 k) (by decide) (L' := [(0, _), (1, _), (2, _), (3, _)]) rfl ?_
            refine jx_goto (pc := 35) hX 2 d_B_holds_35 rfl ?_
            exact ih _ (by omega) (k + 1) rfl (by omega) (fun j hj => (Nat.lt_or_ge j k).elim (hv j) (fun q => (show j = k by omega) ▸ hno))
          · refine jx_iconst (pc := 30) hX (v := 1) d_B_holds_30 rfl ?_
            exact jx_zretp (pc := 31) hX d_B_holds_31 rfl (by rw [hasF_true M.nl k hkl ((nI_eq (by omega) ht).mp e17) e27]; rfl)
  refine jx_iconst (pc := 0) hX (v := 0) d_B_holds_0 rfl ?_
  refine jx_istore_n (pc := 1) hX d_B_holds_1 rfl (by decide) (L' := [(0, _), (1, _), (2, _), (3, _)]) rfl ?_
  exact loop _ 0 rfl (Nat.zero_le _) (fun k hk => absurd hk (Nat.not_lt_zero k))
set_option maxRecDepth 100000 in
set_option maxHeartbeats 4000000 in
theorem t_P_balancerBehind {l : Launch} {D : va_G} {ad : Nat → Nat} {ac : Nat → ClassId} (σ : St) (w wi n : Nat) (hw : Wok w) (hwi : wi < w) (hn9 : n ≤ nb w) (hpl : planC σ w) : jMp l (yC D ad ac) mt_P_balancerBehind TT (rmk 0) [.ref (ad 21), .int (nI wi), .int (eP n)] σ (fun r => r = eO (nxB w wi n)) := by
  obtain ⟨p1, p2, p3, p4, p5, p6⟩ := hpl
  have hnb := nb_le w
  have hw8 := hw.le
  refine jMp_of (by decide) (Nat.le_of_ble_eq_true rfl) (List.forall_mem_cons.mpr ⟨rfl, List.forall_mem_cons.mpr ⟨rfl, List.forall_mem_cons.mpr ⟨rfl, fun _ h => absurd h List.not_mem_nil⟩⟩⟩) ?_
  intro X A hX
  have hX : jX X (yC D ad ac) A b_P_balancerBehind 4 RP (mt_P_balancerBehind.w :: TT) (rmk 0) (some .int) := hX
  show jW l X (yC D ad ac) A 4 0 0 (k0 X) (jQp X (fun r => r = eO (nxB w wi n))) σ 0 [(0, .ref (ad 21)), (1, .int (nI wi)), (2, .int (eP n))] []
  have loop : ∀ (fu : Nat) (b : Nat), nb w - b = fu → b ≤ nb w → nxF w wi (nb w - b) b = nxB w wi n → jW l X (yC D ad ac) A 4 0 0 (k0 X) (jQp X (fun r => r = eO (nxB w wi n))) σ 4 [(0, .ref (ad 21)), (1, .int (nI wi)), (2, .int (eP n)), (3, .int (nI b))] [] := by
    intro fu
    induction fu using Nat.strongRecOn with
    | ind fu ih =>
      intro b hn hbl hq
      refine jx_iload_n (pc := 4) hX d_P_balancerBehind_4 rfl rfl ?_
      refine jx_aload_n (pc := 5) hX d_P_balancerBehind_5 rfl rfl ?_
      refine g_P_34 (pc := 6) hX d_P_balancerBehind_6 ?_
      refine jx_top (y := nI (nb w)) (p1) ?_
      refine jx_icmp_ge (pc := 9) hX 40 d_P_balancerBehind_9 rfl (fun h9 => ?_) (fun h9 => ?_)
      · have hb : nb w ≤ b := by
          rcases Nat.lt_or_ge b (nb w) with q | q
          · exact absurd h9 (nI_ge q (by omega))
          · exact q
        refine jx_iconst (pc := 40) hX (v := -1) d_P_balancerBehind_40 rfl ?_
        exact jx_iretp (pc := 41) hX d_P_balancerBehind_41 (by rw [nxB_none hb hq]; rfl)
      · have hb : b < nb w := Nat.lt_of_not_le (fun q => h9 (nI_le q (by omega)))
        have hu := uU_lt hw hb
        have hv := uL_lt hw hb
        refine jx_aload_n (pc := 12) hX d_P_balancerBehind_12 rfl rfl ?_
        refine g_P_9 (pc := 13) hX d_P_balancerBehind_13 ?_
        refine jx_iload_n (pc := 16) hX d_P_balancerBehind_16 rfl rfl ?_
        refine jx_iald (pc := 17) hX oC_3 _ rfl (show b < 24 by omega) d_P_balancerBehind_17 ?_
        refine jx_top (y := nI (uU w b)) (p3 b hb) ?_
        refine jx_iload_n (pc := 18) hX d_P_balancerBehind_18 rfl rfl ?_
        refine jx_icmp_eq (pc := 19) hX 32 d_P_balancerBehind_19 rfl (fun e19 => ?_) (fun e19 => ?_)
        · refine jx_iload_n (pc := 32) hX d_P_balancerBehind_32 rfl rfl ?_
          exact jx_iretp (pc := 33) hX d_P_balancerBehind_33 (by rw [nxB_hit hb hq (Or.inl ((nI_eq (by omega) (by omega)).mp e19))]; rfl)
        · refine jx_aload_n (pc := 22) hX d_P_balancerBehind_22 rfl rfl ?_
          refine g_P_15 (pc := 23) hX d_P_balancerBehind_23 ?_
          refine jx_iload_n (pc := 26) hX d_P_balancerBehind_26 rfl rfl ?_
          refine jx_iald (pc := 27) hX oC_4 _ rfl (show b < 24 by omega) d_P_balancerBehind_27 ?_
          refine jx_top (y := nI (uL w b)) (p4 b hb) ?_
          refine jx_iload_n (pc := 28) hX d_P_balancerBehind_28 rfl rfl ?_
          refine jx_icmp_ne (pc := 29) hX 34 d_P_balancerBehind_29 rfl (fun e29 => ?_) (fun e29 => ?_)
          · have hno : ¬ (uU w b = wi ∨ uL w b = wi) := fun q => q.elim (fun a => e19 (by rw [a])) (fun a => e29 (by rw [a]))
            refine jx_iinc (pc := 34) hX (v := nI (b + 1)) d_P_balancerBehind_34 rfl (nI_1 b) (by decide) (L' := [(0, _), (1, _), (2, _), (3, _)]) rfl ?_
            refine jx_goto (pc := 37) hX 4 d_P_balancerBehind_37 rfl ?_
            exact ih _ (by omega) (b + 1) rfl (by omega) (nxB_step hb hq hno)
          · refine jx_iload_n (pc := 32) hX d_P_balancerBehind_32 rfl rfl ?_
            exact jx_iretp (pc := 33) hX d_P_balancerBehind_33 (by rw [nxB_hit hb hq (Or.inr ((nI_eq (by omega) (by omega)).mp e29))]; rfl)
  refine jx_iload_n (pc := 0) hX d_P_balancerBehind_0 rfl rfl ?_
  refine jx_iconst (pc := 1) hX (v := 1) d_P_balancerBehind_1 rfl ?_
  refine jx_iadd (pc := 2) hX d_P_balancerBehind_2 ?_
  refine jx_top (y := nI n) (eP_1 n) ?_
  refine jx_istore_n (pc := 3) hX d_P_balancerBehind_3 rfl (by decide) (L' := [(0, _), (1, _), (2, _), (3, _)]) rfl ?_
  exact loop _ n rfl hn9 rfl
end
section
/-! small rows on the value -/
def Ms.dn (M : Ms) (p : Option Nat) : Bool := match p with
  | none => false
  | some q => M.down q
theorem Ms.asleep_dn (M : Ms) (t : Nat) : M.asleep t = M.dn (M.place t) := rfl
theorem eB_t {b : Bool} (h : b = true) : (1 : Int32) = eB b := by rw [h]; rfl
theorem eB_f {b : Bool} (h : b = false) : (0 : Int32) = eB b := by rw [h]; rfl
theorem Ms.can_t {M : Ms} {t : Nat} (h1 : ¬ M.state t = 2) (h2 : M.asleep t = false) (h3 : M.nl < 60 ∨ M.state t = 1 ∨ M.place t = some (M.stN t)) : M.can t = true := by
  unfold Ms.can
  simp only [Bool.and_eq_true, Bool.or_eq_true, Bool.not_eq_true', beq_iff_eq, beq_eq_false_iff_ne, decide_eq_true_eq, ne_eq]
  refine ⟨⟨h1, h2⟩, ?_⟩
  rcases h3 with h3 | h3 | h3
  · exact Or.inl (Or.inl h3)
  · exact Or.inl (Or.inr h3)
  · exact Or.inr h3
theorem Ms.can_f {M : Ms} {t : Nat} (h : M.state t = 2 ∨ M.asleep t = true ∨ (¬ M.nl < 60 ∧ ¬ M.state t = 1 ∧ ¬ M.place t = some (M.stN t))) : M.can t = false := by
  cases hc : M.can t with
  | false => rfl
  | true =>
    obtain ⟨c1, c2, c3⟩ := Ms.can_spec hc
    rcases h with h | h | ⟨a, b, c⟩
    · exact absurd h c1
    · rw [h] at c2; cases c2
    · rcases c3 with q | q | q
      · exact absurd q a
      · exact absurd q b
      · exact absurd q c
theorem Ms.stN_none {M : Ms} {t : Nat} (h : M.next t = none) : M.stN t = M.ex t % M.ns := by unfold Ms.stN; rw [h]
theorem Ms.stN_some {M : Ms} {t b : Nat} (h : M.next t = some b) : M.stN t = uC M.w b % M.ns := by unfold Ms.stN; rw [h]
theorem Ms.comes_t {M : Ms} {i : Nat} (h1 : M.down (M.lt i) = false) (h2 : M.state (M.la i) = 1) (h3 : M.way (M.la i) = M.lw i) : M.comes i = true := by
  unfold Ms.comes
  simp only [Bool.and_eq_true, Bool.not_eq_true', beq_iff_eq]
  exact ⟨⟨h1, h2⟩, h3⟩
theorem Ms.comes_f {M : Ms} {i : Nat} (h : M.down (M.lt i) = true ∨ ¬ M.state (M.la i) = 1 ∨ ¬ M.way (M.la i) = M.lw i) : M.comes i = false := by
  cases hc : M.comes i with
  | false => rfl
  | true =>
    obtain ⟨c1, c2, c3⟩ := Ms.comes_spec hc
    rcases h with h | h | h
    · rw [h] at c1; cases c1
    · exact absurd c2 h
    · exact absurd c3 h
theorem Ms.deliver_t {M : Ms} {i : Nat} (h : M.comes i = true) : M.deliver i = (M.take i).arrive (M.la i) (M.lt i) := by unfold Ms.deliver; rw [if_pos h]
theorem Ms.deliver_f {M : Ms} {i : Nat} (h : M.comes i = false) : M.deliver i = M.take i := by unfold Ms.deliver; rw [if_neg (by rw [h]; decide)]
theorem uX_last {w wi i : Nat} (hw : Wok w) (hwi : wi < w) (hi : i + 1 = w) (h : ∀ j, j < i → ¬ uE w j = wi) : i = uX w wi := by
  have h1 := uX_lt hw hwi
  have h2 := uE_uX hw hwi
  rcases Nat.lt_or_ge (uX w wi) i with q | q
  · exact absurd h2 (h _ q)
  · omega
theorem uX_hit {w wi i : Nat} (hw : Wok w) (hi : i < w) (h : uE w i = wi) : i = uX w wi := by rw [← h, uX_uE hw hi]
theorem nI_n2 {n : Nat} (h : n < 2 ^ 31) : nI n = 2 ↔ n = 2 := nI_eq h (by decide)
theorem nI_n1 {n : Nat} (h : n < 2 ^ 31) : nI n = 1 ↔ n = 1 := nI_eq h (by decide)
theorem nI_n0 {n : Nat} (h : n < 2 ^ 31) : nI n = 0 ↔ n = 0 := nI_eq h (by decide)
end
section
set_option maxRecDepth 100000 in
set_option maxHeartbeats 4000000 in
theorem t_P_exitOf {l : Launch} {D : va_G} {ad : Nat → Nat} {ac : Nat → ClassId} (σ : St) (w wi : Nat) (hw : Wok w) (hwi : wi < w) (hs : σ.1 1 = nI w) (hpl : planC σ w) : jMp l (yC D ad ac) mt_P_exitOf TT (rmk 0) [.ref (ad 21), .int (nI wi)] σ (fun r => r = nI (uX w wi)) := by
  obtain ⟨p1, p2, p3, p4, p5, p6⟩ := hpl
  have hw8 := hw.le
  have hw2 := hw.pos
  refine jMp_of (by decide) (Nat.le_of_ble_eq_true rfl) (List.forall_mem_cons.mpr ⟨rfl, List.forall_mem_cons.mpr ⟨rfl, fun _ h => absurd h List.not_mem_nil⟩⟩) ?_
  intro X A hX
  have hX : jX X (yC D ad ac) A b_P_exitOf 3 RP (mt_P_exitOf.w :: TT) (rmk 0) (some .int) := hX
  show jW l X (yC D ad ac) A 3 0 0 (k0 X) (jQp X (fun r => r = nI (uX w wi))) σ 0 [(0, .ref (ad 21)), (1, .int (nI wi))] []
  have loop : ∀ (fu : Nat) (i : Nat), w - i = fu → i + 1 ≤ w → (∀ j, j < i → ¬ uE w j = wi) → jW l X (yC D ad ac) A 3 0 0 (k0 X) (jQp X (fun r => r = nI (uX w wi))) σ 2 [(0, .ref (ad 21)), (1, .int (nI wi)), (2, .int (nI i))] [] := by
    intro fu
    induction fu using Nat.strongRecOn with
    | ind fu ih =>
      intro i hn hi hv
      refine jx_iload_n (pc := 2) hX d_P_exitOf_2 rfl rfl ?_
      refine jx_aload_n (pc := 3) hX d_P_exitOf_3 rfl rfl ?_
      refine g_P_30 (pc := 4) hX d_P_exitOf_4 ?_
      refine jx_top (y := nI w) (hs) ?_
      refine jx_iconst (pc := 7) hX (v := 1) d_P_exitOf_7 rfl ?_
      refine jx_isub (pc := 8) hX d_P_exitOf_8 ?_
      refine jx_top (y := nI (w - 1)) (by rw [nI_c1, pk_sub (by omega)]) ?_
      refine jx_icmp_ge (pc := 9) hX 28 d_P_exitOf_9 rfl (fun h9 => ?_) (fun h9 => ?_)
      · have hb : w - 1 ≤ i := (nI_leI (by omega) (by omega)).mp h9
        refine jx_iload_n (pc := 28) hX d_P_exitOf_28 rfl rfl ?_
        exact jx_iretp (pc := 29) hX d_P_exitOf_29 (by rw [← uX_last hw hwi (show i + 1 = w by omega) hv])
      · have hb : i < w - 1 := Nat.lt_of_not_le (fun q => h9 (nI_le q (by omega)))
        have hu := uE_lt hw (show i < w by omega)
        refine jx_aload_n (pc := 12) hX d_P_exitOf_12 rfl rfl ?_
        refine g_P_21 (pc := 13) hX d_P_exitOf_13 ?_
        refine jx_iload_n (pc := 16) hX d_P_exitOf_16 rfl rfl ?_
        refine jx_iald (pc := 17) hX oC_6 _ rfl (show i < 8 by omega) d_P_exitOf_17 ?_
        refine jx_top (y := nI (uE w i)) (p6 i (by omega)) ?_
        refine jx_iload_n (pc := 18) hX d_P_exitOf_18 rfl rfl ?_
        refine jx_icmp_eq (pc := 19) hX 28 d_P_exitOf_19 rfl (fun e19 => ?_) (fun e19 => ?_)
        · refine jx_iload_n (pc := 28) hX d_P_exitOf_28 rfl rfl ?_
          exact jx_iretp (pc := 29) hX d_P_exitOf_29 (by rw [← uX_hit hw (show i < w by omega) ((nI_eq (by omega) (by omega)).mp e19)])
        · refine jx_iinc (pc := 22) hX (v := nI (i + 1)) d_P_exitOf_22 rfl (nI_1 i) (by decide) (L' := [(0, _), (1, _), (2, _)]) rfl ?_
          refine jx_goto (pc := 25) hX 2 d_P_exitOf_25 rfl ?_
          exact ih _ (by omega) (i + 1) rfl (by omega) (fun j hj => (Nat.lt_or_ge j i).elim (hv j) (fun q => (show j = i by omega) ▸ (fun a => e19 (by rw [a]))))
  refine jx_iconst (pc := 0) hX (v := 0) d_P_exitOf_0 rfl ?_
  refine jx_istore_n (pc := 1) hX d_P_exitOf_1 rfl (by decide) (L' := [(0, _), (1, _), (2, _)]) rfl ?_
  exact loop _ 0 rfl (by omega) (fun j hj => absurd hj (Nat.not_lt_zero j))
set_option maxRecDepth 100000 in
set_option maxHeartbeats 4000000 in
theorem t_N_stationOfExit {l : Launch} {D : va_G} {ad : Nat → Nat} {ac : Nat → ClassId} (σ : St) (ns i : Nat) (h0 : 0 < ns) (h1 : ns < 2 ^ 31) (hi : i < 2 ^ 31) (hs : σ.1 0 = nI ns) : jMp l (yC D ad ac) mt_N_stationOfExit TT (rmk 0) [.ref (ad 20), .int (nI i)] σ (fun r => r = nI (i % ns)) := by
  refine jMp_of (by decide) (Nat.le_of_ble_eq_true rfl) (List.forall_mem_cons.mpr ⟨rfl, List.forall_mem_cons.mpr ⟨rfl, fun _ h => absurd h List.not_mem_nil⟩⟩) ?_
  intro X A hX
  have hX : jX X (yC D ad ac) A b_N_stationOfExit 2 RN (mt_N_stationOfExit.w :: TT) (rmk 0) (some .int) := hX
  show jW l X (yC D ad ac) A 2 0 0 (k0 X) (jQp X (fun r => r = nI (i % ns))) σ 0 [(0, .ref (ad 20)), (1, .int (nI i))] []
  refine jx_iload_n (pc := 0) hX d_N_stationOfExit_0 rfl rfl ?_
  refine jx_aload_n (pc := 1) hX d_N_stationOfExit_1 rfl rfl ?_
  refine g_N_162 (pc := 2) hX d_N_stationOfExit_2 ?_
  refine jx_top (y := nI ns) (hs) ?_
  refine jx_irem (pc := 5) hX d_N_stationOfExit_5 (nI_ne0 h0 h1) ?_
  refine jx_top (y := nI (i % ns)) (pk_rem hi h0 h1) ?_
  exact jx_iretp (pc := 6) hX d_N_stationOfExit_6 (rfl)
set_option maxRecDepth 100000 in
set_option maxHeartbeats 4000000 in
theorem t_N_stationOfBalancer {l : Launch} {D : va_G} {ad : Nat → Nat} {ac : Nat → ClassId} (σ : St) (ns w b : Nat) (h0 : 0 < ns) (h1 : ns < 2 ^ 31) (hw : Wok w) (hb : b < nb w) (hs : σ.1 0 = nI ns) (hpl : planC σ w) : jMp l (yC D ad ac) mt_N_stationOfBalancer TT (rmk 0) [.ref (ad 20), .int (nI b)] σ (fun r => r = nI (uC w b % ns)) := by
  obtain ⟨p1, p2, p3, p4, p5, p6⟩ := hpl
  have hnb := nb_le w
  have hc := uC_lt hw hb
  refine jMp_of (by decide) (Nat.le_of_ble_eq_true rfl) (List.forall_mem_cons.mpr ⟨rfl, List.forall_mem_cons.mpr ⟨rfl, fun _ h => absurd h List.not_mem_nil⟩⟩) ?_
  intro X A hX
  have hX : jX X (yC D ad ac) A b_N_stationOfBalancer 2 RN (mt_N_stationOfBalancer.w :: TT) (rmk 0) (some .int) := hX
  show jW l X (yC D ad ac) A 2 0 0 (k0 X) (jQp X (fun r => r = nI (uC w b % ns))) σ 0 [(0, .ref (ad 20)), (1, .int (nI b))] []
  refine jx_aload_n (pc := 0) hX d_N_stationOfBalancer_0 rfl rfl ?_
  refine g_N_10 (pc := 1) hX d_N_stationOfBalancer_1 ?_
  refine g_N_69 (pc := 4) hX d_N_stationOfBalancer_4 ?_
  refine jx_iload_n (pc := 7) hX d_N_stationOfBalancer_7 rfl rfl ?_
  refine jx_iald (pc := 8) hX oC_5 _ rfl (show b < 24 by omega) d_N_stationOfBalancer_8 ?_
  refine jx_top (y := nI (uC w b)) (p5 b hb) ?_
  refine jx_aload_n (pc := 9) hX d_N_stationOfBalancer_9 rfl rfl ?_
  refine g_N_162 (pc := 10) hX d_N_stationOfBalancer_10 ?_
  refine jx_top (y := nI ns) (hs) ?_
  refine jx_irem (pc := 13) hX d_N_stationOfBalancer_13 (nI_ne0 h0 h1) ?_
  refine jx_top (y := nI (uC w b % ns)) (pk_rem (by omega) h0 h1) ?_
  exact jx_iretp (pc := 14) hX d_N_stationOfBalancer_14 (rfl)
set_option maxRecDepth 100000 in
set_option maxHeartbeats 4000000 in
theorem t_N_nextBalancer {l : Launch} {D : va_G} {ad : Nat → Nat} {ac : Nat → ClassId} (σ : St) (M : Ms) (hI : Inv M) (hM : repC σ M) (t : Nat) (ht : t < M.nt) : jMp l (yC D ad ac) mt_N_nextBalancer TT (rmk 1) [.ref (ad 20), .int (nI t)] σ (fun r => r = eO (M.next t)) := by
  obtain ⟨⟨⟨s0, s1, s2, s3⟩, h0, h1, h2, h3, h4, h5, h6, h7, h8, h9, h10, h11, h12, h13⟩, hlf, hpl⟩ := id hM
  obtain ⟨i1, i2, i3, i4, i5, i6, i7, i8⟩ := id hI
  obtain ⟨p1, p2, p3, p4, p5, p6⟩ := id hpl
  have hw8 := i1.le
  have hw2 := i1.pos
  have hnb := nb_le M.w
  obtain ⟨j1, j2, j3, j4, j5, j6⟩ := i6 t ht
  have ht9 : t < 200 := by omega
  refine jMp_of (by decide) (Nat.le_of_ble_eq_true rfl) (List.forall_mem_cons.mpr ⟨rfl, List.forall_mem_cons.mpr ⟨rfl, fun _ h => absurd h List.not_mem_nil⟩⟩) ?_
  intro X A hX
  have hX : jX X (yC D ad ac) A b_N_nextBalancer 2 RN (mt_N_nextBalancer.w :: TT) (rmk 1) (some .int) := hX
  show jW l X (yC D ad ac) A 2 0 0 (k0 X) (jQp X (fun r => r = eO (M.next t))) σ 0 [(0, .ref (ad 20)), (1, .int (nI t))] []
  refine jx_aload_n (pc := 0) hX d_N_nextBalancer_0 rfl rfl ?_
  refine g_N_10 (pc := 1) hX d_N_nextBalancer_1 ?_
  refine jx_aload_n (pc := 4) hX d_N_nextBalancer_4 rfl rfl ?_
  refine g_N_19 (pc := 5) hX d_N_nextBalancer_5 ?_
  refine g_N_166 (pc := 8) hX d_N_nextBalancer_8 ?_
  refine jx_iload_n (pc := 11) hX d_N_nextBalancer_11 rfl rfl ?_
  refine jx_iald (pc := 12) hX oC_9 _ rfl ht9 d_N_nextBalancer_12 ?_
  refine jx_top (y := nI (M.wire t)) (h0 t ht) ?_
  refine jx_aload_n (pc := 13) hX d_N_nextBalancer_13 rfl rfl ?_
  refine g_N_19 (pc := 14) hX d_N_nextBalancer_14 ?_
  refine g_N_202 (pc := 17) hX d_N_nextBalancer_17 ?_
  refine jx_iload_n (pc := 20) hX d_N_nextBalancer_20 rfl rfl ?_
  refine jx_iald (pc := 21) hX oC_13 _ rfl ht9 d_N_nextBalancer_21 ?_
  refine jx_top (y := eP (M.nxt t)) (h4 t ht) ?_
  refine k_N_205 (pc := 22) hX (t_P_balancerBehind σ M.w (M.wire t) (M.nxt t) i1 j1 j4 hpl) ⟨rfl, rfl, (Nat.le_of_ble_eq_true rfl), (Nat.le_of_ble_eq_true rfl)⟩ rfl rfl (Nat.le_of_ble_eq_true rfl) ⟨Nat.zero_le _, Nat.zero_le _⟩ d_N_nextBalancer_22 (fun r hr => ?_)
  exact jx_iretp (pc := 25) hX d_N_nextBalancer_25 (hr)
set_option maxRecDepth 100000 in
set_option maxHeartbeats 4000000 in
theorem t_N_stationOfNext {l : Launch} {D : va_G} {ad : Nat → Nat} {ac : Nat → ClassId} (σ : St) (M : Ms) (hI : Inv M) (hM : repC σ M) (t : Nat) (ht : t < M.nt) : jMp l (yC D ad ac) mt_N_stationOfNext TT (rmk 2) [.ref (ad 20), .int (nI t)] σ (fun r => r = nI (M.stN t)) := by
  obtain ⟨⟨⟨s0, s1, s2, s3⟩, h0, h1, h2, h3, h4, h5, h6, h7, h8, h9, h10, h11, h12, h13⟩, hlf, hpl⟩ := id hM
  obtain ⟨i1, i2, i3, i4, i5, i6, i7, i8⟩ := id hI
  obtain ⟨p1, p2, p3, p4, p5, p6⟩ := id hpl
  have hw8 := i1.le
  have hw2 := i1.pos
  have hnb := nb_le M.w
  obtain ⟨j1, j2, j3, j4, j5, j6⟩ := i6 t ht
  have ht9 : t < 200 := by omega
  refine jMp_of (by decide) (Nat.le_of_ble_eq_true rfl) (List.forall_mem_cons.mpr ⟨rfl, List.forall_mem_cons.mpr ⟨rfl, fun _ h => absurd h List.not_mem_nil⟩⟩) ?_
  intro X A hX
  have hX : jX X (yC D ad ac) A b_N_stationOfNext 3 RN (mt_N_stationOfNext.w :: TT) (rmk 2) (some .int) := hX
  show jW l X (yC D ad ac) A 3 0 0 (k0 X) (jQp X (fun r => r = nI (M.stN t))) σ 0 [(0, .ref (ad 20)), (1, .int (nI t))] []
  refine jx_aload_n (pc := 0) hX d_N_stationOfNext_0 rfl rfl ?_
  refine jx_iload_n (pc := 1) hX d_N_stationOfNext_1 rfl rfl ?_
  refine k_N_209 (pc := 2) hX (t_N_nextBalancer σ M hI hM t ht) ⟨rfl, rfl, (Nat.le_of_ble_eq_true rfl), (Nat.le_of_ble_eq_true rfl)⟩ rfl rfl (Nat.le_of_ble_eq_true rfl) ⟨Nat.zero_le _, Nat.zero_le _⟩ d_N_stationOfNext_2 (fun r hr => ?_)
  subst hr
  refine jx_istore_n (pc := 5) hX d_N_stationOfNext_5 rfl (by decide) (L' := [(0, _), (1, _), (2, _)]) rfl ?_
  refine jx_iload_n (pc := 6) hX d_N_stationOfNext_6 rfl rfl ?_
  refine jx_iconst (pc := 7) hX (v := -1) d_N_stationOfNext_7 rfl ?_
  refine jx_icmp_ne (pc := 8) hX 34 d_N_stationOfNext_8 rfl (fun q8 => ?_) (fun q8 => ?_)
  · obtain ⟨b, hb⟩ : ∃ b, M.next t = some b := by
      cases hq : M.next t with
      | none => exact absurd (by rw [hq]; rfl) q8
      | some b => exact ⟨b, rfl⟩
    rw [hb]
    refine jx_aload_n (pc := 34) hX d_N_stationOfNext_34 rfl rfl ?_
    refine jx_iload_n (pc := 35) hX d_N_stationOfNext_35 rfl rfl ?_
    refine k_N_72 (pc := 36) hX (t_N_stationOfBalancer σ M.ns M.w b (by omega) (by omega) i1 (nxB_lt hb) s1 hpl) ⟨rfl, rfl, (Nat.le_of_ble_eq_true rfl), (Nat.le_of_ble_eq_true rfl)⟩ rfl rfl (Nat.le_of_ble_eq_true rfl) ⟨Nat.zero_le _, Nat.zero_le _⟩ d_N_stationOfNext_36 (fun r hr => ?_)
    subst hr
    exact jx_iretp (pc := 39) hX d_N_stationOfNext_39 (by rw [Ms.stN_some hb])
  · have hb : M.next t = none := (eO_m1 (fun p hp => by have := nxB_lt hp; omega)).mp q8
    refine jx_aload_n (pc := 11) hX d_N_stationOfNext_11 rfl rfl ?_
    refine jx_aload_n (pc := 12) hX d_N_stationOfNext_12 rfl rfl ?_
    refine g_N_10 (pc := 13) hX d_N_stationOfNext_13 ?_
    refine jx_aload_n (pc := 16) hX d_N_stationOfNext_16 rfl rfl ?_
    refine g_N_19 (pc := 17) hX d_N_stationOfNext_17 ?_
    refine g_N_166 (pc := 20) hX d_N_stationOfNext_20 ?_
    refine jx_iload_n (pc := 23) hX d_N_stationOfNext_23 rfl rfl ?_
    refine jx_iald (pc := 24) hX oC_9 _ rfl ht9 d_N_stationOfNext_24 ?_
    refine jx_top (y := nI (M.wire t)) (h0 t ht) ?_
    refine k_N_212 (pc := 25) hX (t_P_exitOf σ M.w (M.wire t) i1 j1 s0 hpl) ⟨rfl, rfl, (Nat.le_of_ble_eq_true rfl), (Nat.le_of_ble_eq_true rfl)⟩ rfl rfl (Nat.le_of_ble_eq_true rfl) ⟨Nat.zero_le _, Nat.zero_le _⟩ d_N_stationOfNext_25 (fun r hr => ?_)
    subst hr
    refine k_N_85 (pc := 28) hX (t_N_stationOfExit σ M.ns (uX M.w (M.wire t)) (by omega) (by omega) (by have := uX_lt i1 j1; omega) s1) ⟨rfl, rfl, (Nat.le_of_ble_eq_true rfl), (Nat.le_of_ble_eq_true rfl)⟩ rfl rfl (Nat.le_of_ble_eq_true rfl) ⟨Nat.zero_le _, Nat.zero_le _⟩ d_N_stationOfNext_28 (fun r hr => ?_)
    subst hr
    refine jx_goto (pc := 31) hX 39 d_N_stationOfNext_31 rfl ?_
    exact jx_iretp (pc := 39) hX d_N_stationOfNext_39 (by rw [Ms.stN_none hb]; rfl)
set_option maxRecDepth 100000 in
set_option maxHeartbeats 4000000 in
theorem t_N_isDown0 {l : Launch} {D : va_G} {ad : Nat → Nat} {ac : Nat → ClassId} (σ : St) : jMp l (yC D ad ac) mt_N_isDown TT (rmk 0) [.ref (ad 20), .int (-1)] σ (fun r => r = 0) := by
  refine jMp_of (by decide) (Nat.le_of_ble_eq_true rfl) (List.forall_mem_cons.mpr ⟨rfl, List.forall_mem_cons.mpr ⟨rfl, fun _ h => absurd h List.not_mem_nil⟩⟩) ?_
  intro X A hX
  have hX : jX X (yC D ad ac) A b_N_isDown 2 RN (mt_N_isDown.w :: TT) (rmk 0) (some .boolean) := hX
  show jW l X (yC D ad ac) A 2 0 0 (k0 X) (jQp X (fun r => r = 0)) σ 0 [(0, .ref (ad 20)), (1, .int (-1))] []
  refine jx_iload_n (pc := 0) hX d_N_isDown_0 rfl rfl ?_
  refine jx_iconst (pc := 1) hX (v := -1) d_N_isDown_1 rfl ?_
  refine jx_icmp_eq (pc := 2) hX 18 d_N_isDown_2 rfl (fun _ => ?_) (fun hh => absurd (rfl) hh)
  refine jx_iconst (pc := 18) hX (v := 0) d_N_isDown_18 rfl ?_
  exact jx_zretp (pc := 19) hX d_N_isDown_19 rfl (rfl)
set_option maxRecDepth 100000 in
set_option maxHeartbeats 4000000 in
theorem t_N_isDown1 {l : Launch} {D : va_G} {ad : Nat → Nat} {ac : Nat → ClassId} (σ : St) (M : Ms) (hI : Inv M) (hM : repC σ M) (q : Nat) (hq : q < 6) : jMp l (yC D ad ac) mt_N_isDown TT (rmk 0) [.ref (ad 20), .int (nI q)] σ (fun r => r = eB (M.down q)) := by
  obtain ⟨⟨⟨s0, s1, s2, s3⟩, h0, h1, h2, h3, h4, h5, h6, h7, h8, h9, h10, h11, h12, h13⟩, hlf, hpl⟩ := id hM
  obtain ⟨i1, i2, i3, i4, i5, i6, i7, i8⟩ := id hI
  obtain ⟨p1, p2, p3, p4, p5, p6⟩ := id hpl
  have hw8 := i1.le
  have hw2 := i1.pos
  have hnb := nb_le M.w
  refine jMp_of (by decide) (Nat.le_of_ble_eq_true rfl) (List.forall_mem_cons.mpr ⟨rfl, List.forall_mem_cons.mpr ⟨rfl, fun _ h => absurd h List.not_mem_nil⟩⟩) ?_
  intro X A hX
  have hX : jX X (yC D ad ac) A b_N_isDown 2 RN (mt_N_isDown.w :: TT) (rmk 0) (some .boolean) := hX
  show jW l X (yC D ad ac) A 2 0 0 (k0 X) (jQp X (fun r => r = eB (M.down q))) σ 0 [(0, .ref (ad 20)), (1, .int (nI q))] []
  refine jx_iload_n (pc := 0) hX d_N_isDown_0 rfl rfl ?_
  refine jx_iconst (pc := 1) hX (v := -1) d_N_isDown_1 rfl ?_
  refine jx_icmp_eq (pc := 2) hX 18 d_N_isDown_2 rfl (fun hh => absurd hh (nI_m1 (by omega))) (fun _ => ?_)
  refine jx_aload_n (pc := 5) hX d_N_isDown_5 rfl rfl ?_
  refine g_N_37 (pc := 6) hX d_N_isDown_6 ?_
  refine jx_iload_n (pc := 9) hX d_N_isDown_9 rfl rfl ?_
  refine jx_zald (pc := 10) hX oC_2 _ rfl hq d_N_isDown_10 ?_
  refine jx_top (y := eB (M.down q)) (h11 q hq) ?_
  refine jx_if_eq (pc := 11) hX 18 d_N_isDown_11 rfl (fun e11 => ?_) (fun e11 => ?_)
  · refine jx_iconst (pc := 18) hX (v := 0) d_N_isDown_18 rfl ?_
    exact jx_zretp (pc := 19) hX d_N_isDown_19 rfl (eB_f (eB_0.mp e11))
  · refine jx_iconst (pc := 14) hX (v := 1) d_N_isDown_14 rfl ?_
    refine jx_goto (pc := 15) hX 19 d_N_isDown_15 rfl ?_
    exact jx_zretp (pc := 19) hX d_N_isDown_19 rfl (eB_t (eB_n0.mp e11))
theorem t_N_isDown {l : Launch} {D : va_G} {ad : Nat → Nat} {ac : Nat → ClassId} (σ : St) (M : Ms) (hI : Inv M) (hM : repC σ M) (p : Option Nat) (hp : ∀ q, p = some q → q < 6) : jMp l (yC D ad ac) mt_N_isDown TT (rmk 0) [.ref (ad 20), .int (eO p)] σ (fun r => r = eB (M.dn p)) := by
  cases p with
  | none => exact t_N_isDown0 σ
  | some q => exact t_N_isDown1 σ M hI hM q (hp q rfl)
set_option maxRecDepth 100000 in
set_option maxHeartbeats 4000000 in
theorem t_N_canStep {l : Launch} {D : va_G} {ad : Nat → Nat} {ac : Nat → ClassId} (σ : St) (M : Ms) (hI : Inv M) (hM : repC σ M) (t : Nat) (ht : t < M.nt) : jMp l (yC D ad ac) mt_N_canStep TT (rmk 3) [.ref (ad 20), .int (nI t)] σ (fun r => r = eB (M.can t)) := by
  obtain ⟨⟨⟨s0, s1, s2, s3⟩, h0, h1, h2, h3, h4, h5, h6, h7, h8, h9, h10, h11, h12, h13⟩, hlf, hpl⟩ := id hM
  obtain ⟨i1, i2, i3, i4, i5, i6, i7, i8⟩ := id hI
  obtain ⟨p1, p2, p3, p4, p5, p6⟩ := id hpl
  have hw8 := i1.le
  have hw2 := i1.pos
  have hnb := nb_le M.w
  obtain ⟨j1, j2, j3, j4, j5, j6⟩ := i6 t ht
  have ht9 : t < 200 := by omega
  refine jMp_of (by decide) (Nat.le_of_ble_eq_true rfl) (List.forall_mem_cons.mpr ⟨rfl, List.forall_mem_cons.mpr ⟨rfl, fun _ h => absurd h List.not_mem_nil⟩⟩) ?_
  intro X A hX
  have hX : jX X (yC D ad ac) A b_N_canStep 2 RN (mt_N_canStep.w :: TT) (rmk 3) (some .boolean) := hX
  show jW l X (yC D ad ac) A 2 0 0 (k0 X) (jQp X (fun r => r = eB (M.can t))) σ 0 [(0, .ref (ad 20)), (1, .int (nI t))] []
  refine jx_aload_n (pc := 0) hX d_N_canStep_0 rfl rfl ?_
  refine g_N_19 (pc := 1) hX d_N_canStep_1 ?_
  refine g_N_151 (pc := 4) hX d_N_canStep_4 ?_
  refine jx_iload_n (pc := 7) hX d_N_canStep_7 rfl rfl ?_
  refine jx_iald (pc := 8) hX oC_11 _ rfl ht9 d_N_canStep_8 ?_
  refine jx_top (y := nI (M.state t)) (h2 t ht) ?_
  refine jx_iconst (pc := 9) hX (v := 2) d_N_canStep_9 rfl ?_
  refine jx_icmp_eq (pc := 10) hX 29 d_N_canStep_10 rfl (fun q10 => ?_) (fun q10 => ?_)
  · have a10 : M.state t = 2 := (nI_n2 (by omega)).mp q10
    refine jx_iconst (pc := 29) hX (v := 0) d_N_canStep_29 rfl ?_
    exact jx_zretp (pc := 30) hX d_N_canStep_30 rfl (eB_f (Ms.can_f (Or.inl a10)))
  · have a10 : ¬ M.state t = 2 := fun q => q10 ((nI_n2 (by omega)).mpr q)
    refine jx_aload_n (pc := 13) hX d_N_canStep_13 rfl rfl ?_
    refine jx_aload_n (pc := 14) hX d_N_canStep_14 rfl rfl ?_
    refine g_N_19 (pc := 15) hX d_N_canStep_15 ?_
    refine g_N_168 (pc := 18) hX d_N_canStep_18 ?_
    refine jx_iload_n (pc := 21) hX d_N_canStep_21 rfl rfl ?_
    refine jx_iald (pc := 22) hX oC_10 _ rfl ht9 d_N_canStep_22 ?_
    refine jx_top (y := eO (M.place t)) (h1 t ht) ?_
    refine k_N_215 (pc := 23) hX (t_N_isDown σ M hI hM (M.place t) (fun q hq => by have := j2 q hq; omega)) ⟨rfl, rfl, (Nat.le_of_ble_eq_true rfl), (Nat.le_of_ble_eq_true rfl)⟩ rfl rfl (Nat.le_of_ble_eq_true rfl) ⟨Nat.zero_le _, Nat.zero_le _⟩ d_N_canStep_23 (fun r hr => ?_)
    subst hr
    refine jx_if_eq (pc := 26) hX 31 d_N_canStep_26 rfl (fun q26 => ?_) (fun q26 => ?_)
    · have a26 : M.asleep t = false := eB_0.mp q26
      refine jx_aload_n (pc := 31) hX d_N_canStep_31 rfl rfl ?_
      refine g_N_26 (pc := 32) hX d_N_canStep_32 ?_
      refine k_N_129 (pc := 35) hX (t_B_hasRoom σ M.nl (by omega) s3) ⟨rfl, rfl, (Nat.le_of_ble_eq_true rfl), (Nat.le_of_ble_eq_true rfl)⟩ rfl rfl (Nat.le_of_ble_eq_true rfl) ⟨Nat.zero_le _, Nat.zero_le _⟩ d_N_canStep_35 (fun r hr => ?_)
      subst hr
      refine jx_if_ne (pc := 38) hX 71 d_N_canStep_38 rfl (fun q38 => ?_) (fun q38 => ?_)
      · have a38 : M.nl < 60 := of_decide_eq_true (eB_n0.mp q38)
        refine jx_iconst (pc := 71) hX (v := 1) d_N_canStep_71 rfl ?_
        refine jx_goto (pc := 72) hX 76 d_N_canStep_72 rfl ?_
        exact jx_zretp (pc := 76) hX d_N_canStep_76 rfl (eB_t (Ms.can_t a10 a26 (Or.inl a38)))
      · have a38 : ¬ M.nl < 60 := of_decide_eq_false (eB_0.mp q38)
        refine jx_aload_n (pc := 41) hX d_N_canStep_41 rfl rfl ?_
        refine g_N_19 (pc := 42) hX d_N_canStep_42 ?_
        refine g_N_151 (pc := 45) hX d_N_canStep_45 ?_
        refine jx_iload_n (pc := 48) hX d_N_canStep_48 rfl rfl ?_
        refine jx_iald (pc := 49) hX oC_11 _ rfl ht9 d_N_canStep_49 ?_
        refine jx_top (y := nI (M.state t)) (h2 t ht) ?_
        refine jx_iconst (pc := 50) hX (v := 1) d_N_canStep_50 rfl ?_
        refine jx_icmp_eq (pc := 51) hX 71 d_N_canStep_51 rfl (fun q51 => ?_) (fun q51 => ?_)
        · have a51 : M.state t = 1 := (nI_n1 (by omega)).mp q51
          refine jx_iconst (pc := 71) hX (v := 1) d_N_canStep_71 rfl ?_
          refine jx_goto (pc := 72) hX 76 d_N_canStep_72 rfl ?_
          exact jx_zretp (pc := 76) hX d_N_canStep_76 rfl (eB_t (Ms.can_t a10 a26 (Or.inr (Or.inl a51))))
        · have a51 : ¬ M.state t = 1 := fun q => q51 ((nI_n1 (by omega)).mpr q)
          refine jx_aload_n (pc := 54) hX d_N_canStep_54 rfl rfl ?_
          refine g_N_19 (pc := 55) hX d_N_canStep_55 ?_
          refine g_N_168 (pc := 58) hX d_N_canStep_58 ?_
          refine jx_iload_n (pc := 61) hX d_N_canStep_61 rfl rfl ?_
          refine jx_iald (pc := 62) hX oC_10 _ rfl ht9 d_N_canStep_62 ?_
          refine jx_top (y := eO (M.place t)) (h1 t ht) ?_
          refine jx_aload_n (pc := 63) hX d_N_canStep_63 rfl rfl ?_
          refine jx_iload_n (pc := 64) hX d_N_canStep_64 rfl rfl ?_
          refine k_N_159 (pc := 65) hX (t_N_stationOfNext σ M hI hM t ht) ⟨rfl, rfl, (Nat.le_of_ble_eq_true rfl), (Nat.le_of_ble_eq_true rfl)⟩ rfl rfl (Nat.le_of_ble_eq_true rfl) ⟨Nat.zero_le _, Nat.zero_le _⟩ d_N_canStep_65 (fun r hr => ?_)
          subst hr
          refine jx_icmp_ne (pc := 68) hX 75 d_N_canStep_68 rfl (fun q68 => ?_) (fun q68 => ?_)
          · have a68 : ¬ M.place t = some (M.stN t) := fun q => q68 (by rw [q]; rfl)
            refine jx_iconst (pc := 75) hX (v := 0) d_N_canStep_75 rfl ?_
            exact jx_zretp (pc := 76) hX d_N_canStep_76 rfl (eB_f (Ms.can_f (Or.inr (Or.inr ⟨a38, a51, a68⟩))))
          · have a68 : M.place t = some (M.stN t) := (eO_some (fun p hp => by have := j2 p hp; omega) (by have := Ms.stN_lt i2.1 t; omega)).mp q68
            refine jx_iconst (pc := 71) hX (v := 1) d_N_canStep_71 rfl ?_
            refine jx_goto (pc := 72) hX 76 d_N_canStep_72 rfl ?_
            exact jx_zretp (pc := 76) hX d_N_canStep_76 rfl (eB_t (Ms.can_t a10 a26 (Or.inr (Or.inr a68))))
    · have a26 : M.asleep t = true := eB_n0.mp q26
      refine jx_iconst (pc := 29) hX (v := 0) d_N_canStep_29 rfl ?_
      exact jx_zretp (pc := 30) hX d_N_canStep_30 rfl (eB_f (Ms.can_f (Or.inr (Or.inl a26))))
set_option maxRecDepth 100000 in
set_option maxHeartbeats 4000000 in
theorem t_N_nextNumberAt {l : Launch} {D : va_G} {ad : Nat → Nat} {ac : Nat → ClassId} (σ : St) (M : Ms) (hI : Inv M) (hM : repC σ M) (i : Nat) (hi : i < M.w) : jMp l (yC D ad ac) mt_N_nextNumberAt TT (rmk 0) [.ref (ad 20), .int (nI i)] σ (fun r => r = nI (i + M.w * M.handed i)) := by
  obtain ⟨⟨⟨s0, s1, s2, s3⟩, h0, h1, h2, h3, h4, h5, h6, h7, h8, h9, h10, h11, h12, h13⟩, hlf, hpl⟩ := id hM
  obtain ⟨i1, i2, i3, i4, i5, i6, i7, i8⟩ := id hI
  obtain ⟨p1, p2, p3, p4, p5, p6⟩ := id hpl
  have hw8 := i1.le
  have hw2 := i1.pos
  have hnb := nb_le M.w
  refine jMp_of (by decide) (Nat.le_of_ble_eq_true rfl) (List.forall_mem_cons.mpr ⟨rfl, List.forall_mem_cons.mpr ⟨rfl, fun _ h => absurd h List.not_mem_nil⟩⟩) ?_
  intro X A hX
  have hX : jX X (yC D ad ac) A b_N_nextNumberAt 2 RN (mt_N_nextNumberAt.w :: TT) (rmk 0) (some .int) := hX
  show jW l X (yC D ad ac) A 2 0 0 (k0 X) (jQp X (fun r => r = nI (i + M.w * M.handed i))) σ 0 [(0, .ref (ad 20)), (1, .int (nI i))] []
  refine jx_iload_n (pc := 0) hX d_N_nextNumberAt_0 rfl rfl ?_
  refine jx_aload_n (pc := 1) hX d_N_nextNumberAt_1 rfl rfl ?_
  refine g_N_10 (pc := 2) hX d_N_nextNumberAt_2 ?_
  refine g_N_78 (pc := 5) hX d_N_nextNumberAt_5 ?_
  refine jx_top (y := nI M.w) (s0) ?_
  refine jx_aload_n (pc := 8) hX d_N_nextNumberAt_8 rfl rfl ?_
  refine g_N_34 (pc := 9) hX d_N_nextNumberAt_9 ?_
  refine jx_iload_n (pc := 12) hX d_N_nextNumberAt_12 rfl rfl ?_
  refine jx_iald (pc := 13) hX oC_1 _ rfl (show i < 8 by omega) d_N_nextNumberAt_13 ?_
  refine jx_top (y := nI (M.handed i)) (h13 i hi) ?_
  refine jx_imul (pc := 14) hX d_N_nextNumberAt_14 ?_
  refine jx_top (y := nI (M.w * M.handed i)) (pk_mul _ _) ?_
  refine jx_iadd (pc := 15) hX d_N_nextNumberAt_15 ?_
  refine jx_top (y := nI (i + M.w * M.handed i)) (nI_add _ _) ?_
  exact jx_iretp (pc := 16) hX d_N_nextNumberAt_16 (rfl)
set_option maxRecDepth 100000 in
set_option maxHeartbeats 4000000 in
theorem t_N_goThrough {l : Launch} {D : va_G} {ad : Nat → Nat} {ac : Nat → ClassId} (σ : St) (M : Ms) (hI : Inv M) (hM : repC σ M) (t b : Nat) (ht : t < M.nt) (hb : b < nb M.w) : jMv l (yC D ad ac) mt_N_goThrough TT (rmk 1) [.ref (ad 20), .int (nI t), .int (nI b)] σ (fun u => repC u (M.go t b)) := by
  obtain ⟨⟨⟨s0, s1, s2, s3⟩, h0, h1, h2, h3, h4, h5, h6, h7, h8, h9, h10, h11, h12, h13⟩, hlf, hpl⟩ := id hM
  obtain ⟨i1, i2, i3, i4, i5, i6, i7, i8⟩ := id hI
  obtain ⟨p1, p2, p3, p4, p5, p6⟩ := id hpl
  have hw8 := i1.le
  have hw2 := i1.pos
  have hnb := nb_le M.w
  obtain ⟨j1, j2, j3, j4, j5, j6⟩ := i6 t ht
  have ht9 : t < 200 := by omega
  have hb9 : b < 24 := by omega
  refine jMv_of (by decide) (Nat.le_of_ble_eq_true rfl) (List.forall_mem_cons.mpr ⟨rfl, List.forall_mem_cons.mpr ⟨rfl, List.forall_mem_cons.mpr ⟨rfl, fun _ h => absurd h List.not_mem_nil⟩⟩⟩) ?_
  intro X A hX
  have hX : jX X (yC D ad ac) A b_N_goThrough 4 RN (mt_N_goThrough.w :: TT) (rmk 1) none := hX
  show jW l X (yC D ad ac) A 4 0 0 kT (jQv X (yC D ad ac) A (fun u => repC u (M.go t b))) σ 0 [(0, .ref (ad 20)), (1, .int (nI t)), (2, .int (nI b))] []
  refine jx_aload_n (pc := 0) hX d_N_goThrough_0 rfl rfl ?_
  refine g_N_30 (pc := 1) hX d_N_goThrough_1 ?_
  refine jx_iload_n (pc := 4) hX d_N_goThrough_4 rfl rfl ?_
  refine jx_iald (pc := 5) hX oC_0 _ rfl hb9 d_N_goThrough_5 ?_
  refine jx_top (y := M.had b) (h12 b hb) ?_
  refine jx_iconst (pc := 6) hX (v := 2) d_N_goThrough_6 rfl ?_
  refine jx_irem (pc := 7) hX d_N_goThrough_7 (by decide) ?_
  refine jx_if_ne (pc := 8) hX 23 d_N_goThrough_8 rfl (fun q8 => ?_) (fun q8 => ?_)
  · refine jx_aload_n (pc := 23) hX d_N_goThrough_23 rfl rfl ?_
    refine g_N_10 (pc := 24) hX d_N_goThrough_24 ?_
    refine g_N_66 (pc := 27) hX d_N_goThrough_27 ?_
    refine jx_iload_n (pc := 30) hX d_N_goThrough_30 rfl rfl ?_
    refine jx_iald (pc := 31) hX oC_4 _ rfl hb9 d_N_goThrough_31 ?_
    refine jx_top (y := nI (uL M.w b)) (p4 b hb) ?_
    refine jx_istore_n (pc := 32) hX d_N_goThrough_32 rfl (by decide) (L' := [(0, _), (1, _), (2, _), (3, _)]) rfl ?_
    refine jx_aload_n (pc := 33) hX d_N_goThrough_33 rfl rfl ?_
    refine g_N_30 (pc := 34) hX d_N_goThrough_34 ?_
    refine jx_iload_n (pc := 37) hX d_N_goThrough_37 rfl rfl ?_
    refine jx_dup2 (pc := 38) hX d_N_goThrough_38 rfl rfl ?_
    refine jx_iald (pc := 39) hX oC_0 _ rfl hb9 d_N_goThrough_39 ?_
    refine jx_iconst (pc := 40) hX (v := 1) d_N_goThrough_40 rfl ?_
    refine jx_iadd (pc := 41) hX d_N_goThrough_41 ?_
    refine jx_iast (pc := 42) hX oC_0 _ rfl hb9 d_N_goThrough_42 ?_
    refine jx_aload_n (pc := 43) hX d_N_goThrough_43 rfl rfl ?_
    refine g_N_19 (pc := 44) hX d_N_goThrough_44 ?_
    refine jx_iload_n (pc := 47) hX d_N_goThrough_47 rfl rfl ?_
    refine jx_iload_n (pc := 48) hX d_N_goThrough_48 rfl rfl ?_
    refine jx_iload_n (pc := 49) hX d_N_goThrough_49 rfl rfl ?_
    refine k_N_227 (pc := 50) hX (t_T_pass _ t ht9 _ _) ⟨rfl, rfl, (Nat.le_of_ble_eq_true rfl), (Nat.le_of_ble_eq_true rfl)⟩ rfl rfl (Nat.le_of_ble_eq_true rfl) ⟨Nat.zero_le _, Nat.zero_le _⟩ d_N_goThrough_50 (fun u hu => ?_)
    subst hu
    exact jx_vret (pc := 53) hX d_N_goThrough_53 (⟨hM.1.go ht hb (by rw [if_neg q8]) rfl, hlf, hpl⟩)
  · refine jx_aload_n (pc := 11) hX d_N_goThrough_11 rfl rfl ?_
    refine g_N_10 (pc := 12) hX d_N_goThrough_12 ?_
    refine g_N_63 (pc := 15) hX d_N_goThrough_15 ?_
    refine jx_iload_n (pc := 18) hX d_N_goThrough_18 rfl rfl ?_
    refine jx_iald (pc := 19) hX oC_3 _ rfl hb9 d_N_goThrough_19 ?_
    refine jx_top (y := nI (uU M.w b)) (p3 b hb) ?_
    refine jx_goto (pc := 20) hX 32 d_N_goThrough_20 rfl ?_
    refine jx_istore_n (pc := 32) hX d_N_goThrough_32 rfl (by decide) (L' := [(0, _), (1, _), (2, _), (3, _)]) rfl ?_
    refine jx_aload_n (pc := 33) hX d_N_goThrough_33 rfl rfl ?_
    refine g_N_30 (pc := 34) hX d_N_goThrough_34 ?_
    refine jx_iload_n (pc := 37) hX d_N_goThrough_37 rfl rfl ?_
    refine jx_dup2 (pc := 38) hX d_N_goThrough_38 rfl rfl ?_
    refine jx_iald (pc := 39) hX oC_0 _ rfl hb9 d_N_goThrough_39 ?_
    refine jx_iconst (pc := 40) hX (v := 1) d_N_goThrough_40 rfl ?_
    refine jx_iadd (pc := 41) hX d_N_goThrough_41 ?_
    refine jx_iast (pc := 42) hX oC_0 _ rfl hb9 d_N_goThrough_42 ?_
    refine jx_aload_n (pc := 43) hX d_N_goThrough_43 rfl rfl ?_
    refine g_N_19 (pc := 44) hX d_N_goThrough_44 ?_
    refine jx_iload_n (pc := 47) hX d_N_goThrough_47 rfl rfl ?_
    refine jx_iload_n (pc := 48) hX d_N_goThrough_48 rfl rfl ?_
    refine jx_iload_n (pc := 49) hX d_N_goThrough_49 rfl rfl ?_
    refine k_N_227 (pc := 50) hX (t_T_pass _ t ht9 _ _) ⟨rfl, rfl, (Nat.le_of_ble_eq_true rfl), (Nat.le_of_ble_eq_true rfl)⟩ rfl rfl (Nat.le_of_ble_eq_true rfl) ⟨Nat.zero_le _, Nat.zero_le _⟩ d_N_goThrough_50 (fun u hu => ?_)
    subst hu
    exact jx_vret (pc := 53) hX d_N_goThrough_53 (⟨hM.1.go ht hb (by rw [if_pos q8]) rfl, hlf, hpl⟩)
set_option maxRecDepth 100000 in
set_option maxHeartbeats 4000000 in
theorem t_N_comeOut {l : Launch} {D : va_G} {ad : Nat → Nat} {ac : Nat → ClassId} (σ : St) (M : Ms) (hI : Inv M) (hM : repC σ M) (t i : Nat) (ht : t < M.nt) (hst : ¬ M.state t = 2) (hi : i < M.w) : jMv l (yC D ad ac) mt_N_comeOut TT (rmk 1) [.ref (ad 20), .int (nI t), .int (nI i)] σ (fun u => repC u (M.out t i)) := by
  obtain ⟨⟨⟨s0, s1, s2, s3⟩, h0, h1, h2, h3, h4, h5, h6, h7, h8, h9, h10, h11, h12, h13⟩, hlf, hpl⟩ := id hM
  obtain ⟨i1, i2, i3, i4, i5, i6, i7, i8⟩ := id hI
  obtain ⟨p1, p2, p3, p4, p5, p6⟩ := id hpl
  have hw8 := i1.le
  have hw2 := i1.pos
  have hnb := nb_le M.w
  obtain ⟨j1, j2, j3, j4, j5, j6⟩ := i6 t ht
  have ht9 : t < 200 := by omega
  refine jMv_of (by decide) (Nat.le_of_ble_eq_true rfl) (List.forall_mem_cons.mpr ⟨rfl, List.forall_mem_cons.mpr ⟨rfl, List.forall_mem_cons.mpr ⟨rfl, fun _ h => absurd h List.not_mem_nil⟩⟩⟩) ?_
  intro X A hX
  have hX : jX X (yC D ad ac) A b_N_comeOut 3 RN (mt_N_comeOut.w :: TT) (rmk 1) none := hX
  show jW l X (yC D ad ac) A 3 0 0 kT (jQv X (yC D ad ac) A (fun u => repC u (M.out t i))) σ 0 [(0, .ref (ad 20)), (1, .int (nI t)), (2, .int (nI i))] []
  refine jx_aload_n (pc := 0) hX d_N_comeOut_0 rfl rfl ?_
  refine g_N_19 (pc := 1) hX d_N_comeOut_1 ?_
  refine jx_iload_n (pc := 4) hX d_N_comeOut_4 rfl rfl ?_
  refine jx_aload_n (pc := 5) hX d_N_comeOut_5 rfl rfl ?_
  refine jx_iload_n (pc := 6) hX d_N_comeOut_6 rfl rfl ?_
  refine k_N_230 (pc := 7) hX (t_N_nextNumberAt σ M hI hM i hi) ⟨rfl, rfl, (Nat.le_of_ble_eq_true rfl), (Nat.le_of_ble_eq_true rfl)⟩ rfl rfl (Nat.le_of_ble_eq_true rfl) ⟨Nat.zero_le _, Nat.zero_le _⟩ d_N_comeOut_7 (fun r hr => ?_)
  subst hr
  refine k_N_233 (pc := 10) hX (t_T_finish σ t ht9 _) ⟨rfl, rfl, (Nat.le_of_ble_eq_true rfl), (Nat.le_of_ble_eq_true rfl)⟩ rfl rfl (Nat.le_of_ble_eq_true rfl) ⟨Nat.zero_le _, Nat.zero_le _⟩ d_N_comeOut_10 (fun u hu => ?_)
  subst hu
  refine jx_aload_n (pc := 13) hX d_N_comeOut_13 rfl rfl ?_
  refine g_N_34 (pc := 14) hX d_N_comeOut_14 ?_
  refine jx_iload_n (pc := 17) hX d_N_comeOut_17 rfl rfl ?_
  refine jx_dup2 (pc := 18) hX d_N_comeOut_18 rfl rfl ?_
  refine jx_iald (pc := 19) hX oC_1 _ rfl (show i < 8 by omega) d_N_comeOut_19 ?_
  refine jx_iconst (pc := 20) hX (v := 1) d_N_comeOut_20 rfl ?_
  refine jx_iadd (pc := 21) hX d_N_comeOut_21 ?_
  refine jx_iast (pc := 22) hX oC_1 _ rfl (show i < 8 by omega) d_N_comeOut_22 ?_
  exact jx_vret (pc := 23) hX d_N_comeOut_23 (⟨hM.1.out hi rfl, by have e := Ms.left_out (i := i) ht hst; show σ.1 5 - 1 = _; rw [hlf, ← e, nI_pred], hpl⟩)
set_option maxRecDepth 100000 in
set_option maxHeartbeats 4000000 in
theorem t_N_step {l : Launch} {D : va_G} {ad : Nat → Nat} {ac : Nat → ClassId} (σ : St) (M : Ms) (hI : Inv M) (hM : repC σ M) (t : Nat) (ht : t < M.nt) (hc : M.can t = true) : jMi l (yC D ad ac) mt_N_step TT (rmk 4) [.ref (ad 20), .int (nI t)] σ (fun r u => r = nI (M.step t).1 ∧ repC u (M.step t).2) := by
  obtain ⟨⟨⟨s0, s1, s2, s3⟩, h0, h1, h2, h3, h4, h5, h6, h7, h8, h9, h10, h11, h12, h13⟩, hlf, hpl⟩ := id hM
  obtain ⟨i1, i2, i3, i4, i5, i6, i7, i8⟩ := id hI
  obtain ⟨p1, p2, p3, p4, p5, p6⟩ := id hpl
  have hw8 := i1.le
  have hw2 := i1.pos
  have hnb := nb_le M.w
  obtain ⟨j1, j2, j3, j4, j5, j6⟩ := i6 t ht
  have ht9 : t < 200 := by omega
  obtain ⟨c1, c2, c3⟩ := Ms.can_spec hc
  refine jMi_of (by decide) (Nat.le_of_ble_eq_true rfl) (List.forall_mem_cons.mpr ⟨rfl, List.forall_mem_cons.mpr ⟨rfl, fun _ h => absurd h List.not_mem_nil⟩⟩) ?_
  intro X A hX
  have hX : jX X (yC D ad ac) A b_N_step 4 RN (mt_N_step.w :: TT) (rmk 4) (some .int) := hX
  show jW l X (yC D ad ac) A 4 0 0 kT (jQi X (yC D ad ac) A (fun r u => r = nI (M.step t).1 ∧ repC u (M.step t).2)) σ 0 [(0, .ref (ad 20)), (1, .int (nI t))] []
  refine jx_aload_n (pc := 0) hX d_N_step_0 rfl rfl ?_
  refine g_N_19 (pc := 1) hX d_N_step_1 ?_
  refine g_N_151 (pc := 4) hX d_N_step_4 ?_
  refine jx_iload_n (pc := 7) hX d_N_step_7 rfl rfl ?_
  refine jx_iald (pc := 8) hX oC_11 _ rfl ht9 d_N_step_8 ?_
  refine jx_top (y := nI (M.state t)) (h2 t ht) ?_
  refine jx_iconst (pc := 9) hX (v := 1) d_N_step_9 rfl ?_
  refine jx_icmp_ne (pc := 10) hX 15 d_N_step_10 rfl (fun q10 => ?_) (fun q10 => ?_)
  · have a10 : ¬ M.state t = 1 := fun q => q10 ((nI_n1 (by omega)).mpr q)
    refine jx_aload_n (pc := 15) hX d_N_step_15 rfl rfl ?_
    refine jx_iload_n (pc := 16) hX d_N_step_16 rfl rfl ?_
    refine k_N_159 (pc := 17) hX (t_N_stationOfNext σ M hI hM t ht) ⟨rfl, rfl, (Nat.le_of_ble_eq_true rfl), (Nat.le_of_ble_eq_true rfl)⟩ rfl rfl (Nat.le_of_ble_eq_true rfl) ⟨Nat.zero_le _, Nat.zero_le _⟩ d_N_step_17 (fun r hr => ?_)
    subst hr
    refine jx_istore_n (pc := 20) hX d_N_step_20 rfl (by decide) (L' := [(0, _), (1, _), (2, _)]) rfl ?_
    refine jx_aload_n (pc := 21) hX d_N_step_21 rfl rfl ?_
    refine g_N_19 (pc := 22) hX d_N_step_22 ?_
    refine g_N_168 (pc := 25) hX d_N_step_25 ?_
    refine jx_iload_n (pc := 28) hX d_N_step_28 rfl rfl ?_
    refine jx_iald (pc := 29) hX oC_10 _ rfl ht9 d_N_step_29 ?_
    refine jx_top (y := eO (M.place t)) (h1 t ht) ?_
    refine jx_iload_n (pc := 30) hX d_N_step_30 rfl rfl ?_
    refine jx_icmp_eq (pc := 31) hX 62 d_N_step_31 rfl (fun q31 => ?_) (fun q31 => ?_)
    · have a31 : M.place t = some (M.stN t) := (eO_some (fun p hp => by have := j2 p hp; omega) (by have := Ms.stN_lt i2.1 t; omega)).mp q31
      refine jx_aload_n (pc := 62) hX d_N_step_62 rfl rfl ?_
      refine jx_iload_n (pc := 63) hX d_N_step_63 rfl rfl ?_
      refine k_N_209 (pc := 64) hX (t_N_nextBalancer σ M hI hM t ht) ⟨rfl, rfl, (Nat.le_of_ble_eq_true rfl), (Nat.le_of_ble_eq_true rfl)⟩ rfl rfl (Nat.le_of_ble_eq_true rfl) ⟨Nat.zero_le _, Nat.zero_le _⟩ d_N_step_64 (fun r hr => ?_)
      subst hr
      refine jx_istore_n (pc := 67) hX d_N_step_67 rfl (by decide) (L' := [(0, _), (1, _), (2, _), (3, _)]) rfl ?_
      refine jx_iload_n (pc := 68) hX d_N_step_68 rfl rfl ?_
      refine jx_iconst (pc := 69) hX (v := -1) d_N_step_69 rfl ?_
      refine jx_icmp_ne (pc := 70) hX 96 d_N_step_70 rfl (fun q70 => ?_) (fun q70 => ?_)
      · obtain ⟨b, hb⟩ : ∃ b, M.next t = some b := by
          cases hq : M.next t with
          | none => exact absurd (by rw [hq]; rfl) q70
          | some b => exact ⟨b, rfl⟩
        rw [hb]
        refine jx_aload_n (pc := 96) hX d_N_step_96 rfl rfl ?_
        refine jx_iload_n (pc := 97) hX d_N_step_97 rfl rfl ?_
        refine jx_iload_n (pc := 98) hX d_N_step_98 rfl rfl ?_
        refine k_N_224 (pc := 99) hX (t_N_goThrough σ M hI hM t b ht (nxB_lt hb)) ⟨rfl, rfl, (Nat.le_of_ble_eq_true rfl), (Nat.le_of_ble_eq_true rfl)⟩ rfl rfl (Nat.le_of_ble_eq_true rfl) ⟨Nat.zero_le _, Nat.zero_le _⟩ d_N_step_99 (fun u hu => ?_)
        refine jx_iconst (pc := 102) hX (v := 0) d_N_step_102 rfl ?_
        exact jx_iret (pc := 103) hX d_N_step_103 (by rw [Ms.step_0 a10 a31 hb]; exact ⟨rfl, hu⟩)
      · have hb : M.next t = none := (eO_m1 (fun p hp => by have := nxB_lt hp; omega)).mp q70
        refine jx_aload_n (pc := 73) hX d_N_step_73 rfl rfl ?_
        refine jx_iload_n (pc := 74) hX d_N_step_74 rfl rfl ?_
        refine jx_aload_n (pc := 75) hX d_N_step_75 rfl rfl ?_
        refine g_N_10 (pc := 76) hX d_N_step_76 ?_
        refine jx_aload_n (pc := 79) hX d_N_step_79 rfl rfl ?_
        refine g_N_19 (pc := 80) hX d_N_step_80 ?_
        refine g_N_166 (pc := 83) hX d_N_step_83 ?_
        refine jx_iload_n (pc := 86) hX d_N_step_86 rfl rfl ?_
        refine jx_iald (pc := 87) hX oC_9 _ rfl ht9 d_N_step_87 ?_
        refine jx_top (y := nI (M.wire t)) (h0 t ht) ?_
        refine k_N_212 (pc := 88) hX (t_P_exitOf σ M.w (M.wire t) i1 j1 s0 hpl) ⟨rfl, rfl, (Nat.le_of_ble_eq_true rfl), (Nat.le_of_ble_eq_true rfl)⟩ rfl rfl (Nat.le_of_ble_eq_true rfl) ⟨Nat.zero_le _, Nat.zero_le _⟩ d_N_step_88 (fun r hr => ?_)
        subst hr
        refine k_N_221 (pc := 91) hX (t_N_comeOut σ M hI hM t (M.ex t) ht c1 (uX_lt i1 j1)) ⟨rfl, rfl, (Nat.le_of_ble_eq_true rfl), (Nat.le_of_ble_eq_true rfl)⟩ rfl rfl (Nat.le_of_ble_eq_true rfl) ⟨Nat.zero_le _, Nat.zero_le _⟩ d_N_step_91 (fun u hu => ?_)
        refine jx_iconst (pc := 94) hX (v := 1) d_N_step_94 rfl ?_
        exact jx_iret (pc := 95) hX d_N_step_95 (by rw [Ms.step_1 a10 a31 hb]; exact ⟨rfl, hu⟩)
    · have a31 : ¬ M.place t = some (M.stN t) := fun q => q31 (by rw [q]; rfl)
      have hnl : M.nl < 60 := by
        rcases c3 with q | q | q
        · exact q
        · exact absurd q a10
        · exact absurd q a31
      refine jx_aload_n (pc := 34) hX d_N_step_34 rfl rfl ?_
      refine g_N_19 (pc := 35) hX d_N_step_35 ?_
      refine jx_iload_n (pc := 38) hX d_N_step_38 rfl rfl ?_
      refine k_N_218 (pc := 39) hX (t_T_setOut σ t ht9) ⟨rfl, rfl, (Nat.le_of_ble_eq_true rfl), (Nat.le_of_ble_eq_true rfl)⟩ rfl rfl (Nat.le_of_ble_eq_true rfl) ⟨Nat.zero_le _, Nat.zero_le _⟩ d_N_step_39 (fun u hu => ?_)
      subst hu
      refine jx_aload_n (pc := 42) hX d_N_step_42 rfl rfl ?_
      refine g_N_26 (pc := 43) hX d_N_step_43 ?_
      refine jx_iload_n (pc := 46) hX d_N_step_46 rfl rfl ?_
      refine jx_aload_n (pc := 47) hX d_N_step_47 rfl rfl ?_
      refine g_N_19 (pc := 48) hX d_N_step_48 ?_
      refine g_N_154 (pc := 51) hX d_N_step_51 ?_
      refine jx_iload_n (pc := 54) hX d_N_step_54 rfl rfl ?_
      refine jx_iald (pc := 55) hX oC_14 _ rfl ht9 d_N_step_55 ?_
      refine jx_top (y := M.way t + 1) (by show upd (σ.2 14) t (σ.2 14 t + 1) t = _; rw [pk_us, h5 t ht]; rfl) ?_
      refine jx_iload_n (pc := 56) hX d_N_step_56 rfl rfl ?_
      refine k_N_144 (pc := 57) hX (t_B_post (sA (sA σ 14 t (σ.2 14 t + 1)) 11 t 1) M.nl hnl s3 (nI t) (M.way t + 1) (nI (M.stN t))) ⟨rfl, rfl, (Nat.le_of_ble_eq_true rfl), (Nat.le_of_ble_eq_true rfl)⟩ rfl rfl (Nat.le_of_ble_eq_true rfl) ⟨Nat.zero_le _, Nat.zero_le _⟩ d_N_step_57 (fun u hu => ?_)
      subst hu
      refine jx_iconst (pc := 60) hX (v := 2) d_N_step_60 rfl ?_
      exact jx_iret (pc := 61) hX d_N_step_61 (by rw [Ms.step_2 a10 a31]; exact ⟨rfl, (hM.1.setOut ht).post rfl rfl, by rw [← Ms.left_setOut ht c1] at hlf; exact hlf, hpl⟩)
  · have a10 : M.state t = 1 := (nI_n1 (by omega)).mp q10
    refine jx_iconst (pc := 13) hX (v := 3) d_N_step_13 rfl ?_
    exact jx_iret (pc := 14) hX d_N_step_14 (by rw [Ms.step_3 a10]; exact ⟨rfl, hM⟩)
end
section
/-! more rows on the value -/
def Ms.least (M : Ms) : Nat := minF M.handed M.w (M.w - 1)
def Ms.shown (M : Ms) (t : Nat) : Option Nat := match M.number t with
  | none => none
  | some q => if M.ordered t = true ∧ ¬ q ≤ M.least then none else some q
theorem Ms.shown_none {M : Ms} {t : Nat} (h : M.number t = none) : M.shown t = none := by unfold Ms.shown; rw [h]
theorem Ms.shown_some {M : Ms} {t q : Nat} (h : M.number t = some q) : M.shown t = if M.ordered t = true ∧ ¬ q ≤ M.least then none else some q := by unfold Ms.shown; rw [h]
theorem nI_min {a b : Nat} (ha : a < 2 ^ 31) (hb : b < 2 ^ 31) : (if nI b < nI a then nI b else nI a) = nI (min a b) := by
  by_cases h : b < a
  · rw [if_pos ((nI_ltI hb ha).mpr h), Nat.min_eq_right (by omega)]
  · rw [if_neg (fun q => h ((nI_ltI hb ha).mp q)), Nat.min_eq_left (by omega)]
theorem nI_max {a b : Nat} (ha : a < 2 ^ 31) (hb : b < 2 ^ 31) : (if nI a < nI b then nI b else nI a) = nI (max a b) := by
  by_cases h : a < b
  · rw [if_pos ((nI_ltI ha hb).mpr h), Nat.max_eq_right (by omega)]
  · rw [if_neg (fun q => h ((nI_ltI ha hb).mp q)), Nat.max_eq_left (by omega)]
theorem eP_toInt {n : Nat} (h : n < 2 ^ 30) : (eP n).toInt = (n : Int) - 1 := by
  unfold eP
  rw [nI_c1, pk_sub_toInt h (by decide)]
  rfl
theorem eP_lt {a b : Nat} (ha : a < 2 ^ 30) (hb : b < 2 ^ 30) : eP a < eP b ↔ a < b := by
  rw [Int32.lt_iff_toInt_lt, eP_toInt ha, eP_toInt hb]
  omega
theorem eP_max {a b : Nat} (ha : a < 2 ^ 30) (hb : b < 2 ^ 30) : (if eP a < eP b then eP b else eP a) = eP (max a b) := by
  by_cases h : a < b
  · rw [if_pos ((eP_lt ha hb).mpr h), Nat.max_eq_right (by omega)]
  · rw [if_neg (fun q => h ((eP_lt ha hb).mp q)), Nat.max_eq_left (by omega)]
theorem eP_s (n : Nat) : eP (n + 1) = nI n := nI_pred n
theorem hi1_s (h : Nat → Nat) (w n : Nat) : hi1 h w (n + 1) = max (hi1 h w n) (if h n = 0 then 0 else n + w * (h n - 1) + 1) := rfl
theorem hi1_s0 {h : Nat → Nat} {w n : Nat} (q : h n = 0) : hi1 h w (n + 1) = hi1 h w n := by rw [hi1_s, if_pos q, Nat.max_zero]
theorem hi1_s1 {h : Nat → Nat} {w n : Nat} (q : ¬ h n = 0) : hi1 h w (n + 1) = max (hi1 h w n) (n + w * (h n - 1) + 1) := by rw [hi1_s, if_neg q]
theorem Inv.hand {M : Ms} (h : Inv M) {i : Nat} (hi : i < M.w) : M.handed i ≤ 200 := by
  obtain ⟨-, -, h3, -, -, -, -, h8⟩ := h
  have := le_sumF (h := M.handed) M.w i hi
  omega
theorem Inv.prod {M : Ms} (h : Inv M) {i : Nat} (hi : i < M.w) : M.w * M.handed i ≤ 1600 := Nat.mul_le_mul h.1.le (h.hand hi)
theorem Inv.hi_le {M : Ms} (h : Inv M) : ∀ n, n ≤ M.w → hi1 M.handed M.w n ≤ 1700
  | 0, _ => Nat.zero_le _
  | n + 1, hn => by
    have h1 := Inv.hi_le h n (by omega)
    have h2 := h.prod (i := n) (by omega)
    have h3 := h.1.le
    by_cases q : M.handed n = 0
    · rw [hi1_s0 q]; exact h1
    · rw [hi1_s1 q]
      have h4 : M.w * (M.handed n - 1) ≤ M.w * M.handed n := Nat.mul_le_mul_left _ (by omega)
      generalize M.w * (M.handed n - 1) = x at *
      generalize M.w * M.handed n = y at *
      omega
theorem Inv.num {M : Ms} (h : Inv M) {t q : Nat} (ht : t < M.nt) (hq : M.number t = some q) : q ≤ 1608 := by
  have hw8 := h.1.le
  have hw2 := h.1.pos
  have h1 := (h.2.2.2.2.2.1 t ht).2.2.2.2.2 q hq
  have hm : q % M.w < M.w := Nat.mod_lt _ (by omega)
  have h2 := h.hand hm
  have h3 := Nat.lt_mul_div_succ q (show 0 < M.w by omega)
  have h4 : M.w * (q / M.w + 1) ≤ 8 * 201 := Nat.mul_le_mul hw8 (by generalize q / M.w = d at *; omega)
  omega
theorem Ms.stepAll_s {M : Ms} {n t : Nat} (ht : t < n) : Ms.stepAll (n - t) t M = Ms.stepAll (n - (t + 1)) (t + 1) (if M.can t = true then (M.step t).2 else M) := by
  rw [show n - t = (n - (t + 1)) + 1 by omega]
  rfl
theorem Ms.delAll_s {M : Ms} {n k : Nat} (hk : k < n) : Ms.delAll (n - k) M = Ms.delAll (n - (k + 1)) (M.deliver 0) := by
  rw [show n - k = (n - (k + 1)) + 1 by omega]
  rfl
theorem Ms.resF_s {M : Ms} {n t : Nat} (ht : t < n) (hl : M.nl < 60) : Ms.resF (n - t) t M = Ms.resF (n - (t + 1)) (t + 1) (M.res1 t) := by
  rw [show n - t = (n - (t + 1)) + 1 by omega]
  show (if M.nl < 60 then _ else _) = _
  rw [if_pos hl]
theorem Ms.resF_f {M : Ms} {f t : Nat} (hl : ¬ M.nl < 60) : Ms.resF f t M = M := by
  cases f with
  | zero => rfl
  | succ f =>
    show (if M.nl < 60 then _ else _) = _
    rw [if_neg hl]
theorem Ms.res1_t {M : Ms} {t : Nat} (h1 : M.state t = 1) (h2 : M.holds t = false) : M.res1 t = M.post t (M.way t) (M.stN t) := by unfold Ms.res1; rw [if_pos ⟨h1, h2⟩]
theorem Ms.res1_f {M : Ms} {t : Nat} (h : ¬ M.state t = 1 ∨ M.holds t = true) : M.res1 t = M := by
  unfold Ms.res1
  rw [if_neg (fun q => h.elim (fun a => a q.1) (fun a => by rw [q.2] at a; cases a))]
end
section
set_option maxRecDepth 100000 in
set_option maxHeartbeats 4000000 in
theorem t_N_handOver {l : Launch} {D : va_G} {ad : Nat → Nat} {ac : Nat → ClassId} (σ : St) (M : Ms) (hI : Inv M) (hM : repC σ M) (i : Nat) (hi : i < M.nl) : jMi l (yC D ad ac) mt_N_handOver TT (rmk 2) [.ref (ad 20), .int (nI i)] σ (fun r u => r = eB (M.comes i) ∧ repC u (M.deliver i)) := by
  obtain ⟨⟨⟨s0, s1, s2, s3⟩, h0, h1, h2, h3, h4, h5, h6, h7, h8, h9, h10, h11, h12, h13⟩, hlf, hpl⟩ := id hM
  obtain ⟨i1, i2, i3, i4, i5, i6, i7, i8⟩ := id hI
  obtain ⟨p1, p2, p3, p4, p5, p6⟩ := id hpl
  have hw8 := i1.le
  have hw2 := i1.pos
  have hnb := nb_le M.w
  obtain ⟨k1, k2⟩ := i7 i hi
  refine jMi_of (by decide) (Nat.le_of_ble_eq_true rfl) (List.forall_mem_cons.mpr ⟨rfl, List.forall_mem_cons.mpr ⟨rfl, fun _ h => absurd h List.not_mem_nil⟩⟩) ?_
  intro X A hX
  have hX : jX X (yC D ad ac) A b_N_handOver 5 RN (mt_N_handOver.w :: TT) (rmk 2) (some .boolean) := hX
  show jW l X (yC D ad ac) A 5 0 0 kT (jQi X (yC D ad ac) A (fun r u => r = eB (M.comes i) ∧ repC u (M.deliver i))) σ 0 [(0, .ref (ad 20)), (1, .int (nI i))] []
  refine jx_aload_n (pc := 0) hX d_N_handOver_0 rfl rfl ?_
  refine g_N_26 (pc := 1) hX d_N_handOver_1 ?_
  refine g_N_135 (pc := 4) hX d_N_handOver_4 ?_
  refine jx_iload_n (pc := 7) hX d_N_handOver_7 rfl rfl ?_
  refine jx_iald (pc := 8) hX oC_17 _ rfl (show i < 60 by omega) d_N_handOver_8 ?_
  refine jx_top (y := nI (M.la i)) (h8 i hi) ?_
  refine jx_istore_n (pc := 9) hX d_N_handOver_9 rfl (by decide) (L' := [(0, _), (1, _), (2, _)]) rfl ?_
  refine jx_aload_n (pc := 10) hX d_N_handOver_10 rfl rfl ?_
  refine g_N_26 (pc := 11) hX d_N_handOver_11 ?_
  refine g_N_138 (pc := 14) hX d_N_handOver_14 ?_
  refine jx_iload_n (pc := 17) hX d_N_handOver_17 rfl rfl ?_
  refine jx_iald (pc := 18) hX oC_18 _ rfl (show i < 60 by omega) d_N_handOver_18 ?_
  refine jx_top (y := M.lw i) (h9 i hi) ?_
  refine jx_istore_n (pc := 19) hX d_N_handOver_19 rfl (by decide) (L' := [(0, _), (1, _), (2, _), (3, _)]) rfl ?_
  refine jx_aload_n (pc := 20) hX d_N_handOver_20 rfl rfl ?_
  refine g_N_26 (pc := 21) hX d_N_handOver_21 ?_
  refine g_N_141 (pc := 24) hX d_N_handOver_24 ?_
  refine jx_iload_n (pc := 27) hX d_N_handOver_27 rfl rfl ?_
  refine jx_iald (pc := 28) hX oC_19 _ rfl (show i < 60 by omega) d_N_handOver_28 ?_
  refine jx_top (y := nI (M.lt i)) (h10 i hi) ?_
  refine jx_istore (pc := 29) hX d_N_handOver_29 (by decide) (L' := [(0, _), (1, _), (2, _), (3, _), (4, _)]) rfl ?_
  refine jx_aload_n (pc := 31) hX d_N_handOver_31 rfl rfl ?_
  refine g_N_26 (pc := 32) hX d_N_handOver_32 ?_
  refine jx_iload_n (pc := 35) hX d_N_handOver_35 rfl rfl ?_
  refine k_N_125 (pc := 36) hX (t_B_takeOut σ M.nl i hi (by omega) s3) ⟨rfl, rfl, (Nat.le_of_ble_eq_true rfl), (Nat.le_of_ble_eq_true rfl)⟩ rfl rfl (Nat.le_of_ble_eq_true rfl) ⟨Nat.zero_le _, Nat.zero_le _⟩ d_N_handOver_36 (fun u hu => ?_)
  have hT : repC u (M.take i) := by
    subst hu
    exact ⟨hM.1.take hi (h8.cut hi) (h9.cut hi) (h10.cut hi), hlf, hpl⟩
  subst hu
  refine jx_aload_n (pc := 39) hX d_N_handOver_39 rfl rfl ?_
  refine g_N_37 (pc := 40) hX d_N_handOver_40 ?_
  refine jx_iload (pc := 43) hX d_N_handOver_43 rfl ?_
  refine jx_zald (pc := 45) hX oC_2 _ rfl (show M.lt i < 6 by omega) d_N_handOver_45 ?_
  refine jx_top (y := eB (M.down (M.lt i))) (h11 (M.lt i) (by omega)) ?_
  refine jx_if_ne (pc := 46) hX 75 d_N_handOver_46 rfl (fun q46 => ?_) (fun q46 => ?_)
  · have hc : M.comes i = false := Ms.comes_f (Or.inl (eB_n0.mp q46))
    refine jx_iconst (pc := 75) hX (v := 0) d_N_handOver_75 rfl ?_
    exact jx_zret (pc := 76) hX d_N_handOver_76 rfl (⟨eB_f hc, by rw [Ms.deliver_f hc]; exact hT⟩)
  · refine jx_aload_n (pc := 49) hX d_N_handOver_49 rfl rfl ?_
    refine g_N_19 (pc := 50) hX d_N_handOver_50 ?_
    refine g_N_151 (pc := 53) hX d_N_handOver_53 ?_
    refine jx_iload_n (pc := 56) hX d_N_handOver_56 rfl rfl ?_
    refine jx_iald (pc := 57) hX oC_11 _ rfl (show M.la i < 200 by omega) d_N_handOver_57 ?_
    refine jx_top (y := nI (M.state (M.la i))) (h2 _ k1) ?_
    refine jx_iconst (pc := 58) hX (v := 1) d_N_handOver_58 rfl ?_
    refine jx_icmp_ne (pc := 59) hX 75 d_N_handOver_59 rfl (fun q59 => ?_) (fun q59 => ?_)
    · have hc : M.comes i = false := Ms.comes_f (Or.inr (Or.inl (fun q => q59 ((nI_n1 (by have := (i6 _ k1).2.2.1; omega)).mpr q))))
      refine jx_iconst (pc := 75) hX (v := 0) d_N_handOver_75 rfl ?_
      exact jx_zret (pc := 76) hX d_N_handOver_76 rfl (⟨eB_f hc, by rw [Ms.deliver_f hc]; exact hT⟩)
    · have a59 : M.state (M.la i) = 1 := (nI_n1 (by have := (i6 _ k1).2.2.1; omega)).mp q59
      refine jx_aload_n (pc := 62) hX d_N_handOver_62 rfl rfl ?_
      refine g_N_19 (pc := 63) hX d_N_handOver_63 ?_
      refine g_N_154 (pc := 66) hX d_N_handOver_66 ?_
      refine jx_iload_n (pc := 69) hX d_N_handOver_69 rfl rfl ?_
      refine jx_iald (pc := 70) hX oC_14 _ rfl (show M.la i < 200 by omega) d_N_handOver_70 ?_
      refine jx_top (y := M.way (M.la i)) (h5 _ k1) ?_
      refine jx_iload_n (pc := 71) hX d_N_handOver_71 rfl rfl ?_
      refine jx_icmp_eq (pc := 72) hX 77 d_N_handOver_72 rfl (fun q72 => ?_) (fun q72 => ?_)
      · have hc : M.comes i = true := Ms.comes_t (eB_0.mp q46) a59 q72
        refine jx_aload_n (pc := 77) hX d_N_handOver_77 rfl rfl ?_
        refine g_N_19 (pc := 78) hX d_N_handOver_78 ?_
        refine jx_iload_n (pc := 81) hX d_N_handOver_81 rfl rfl ?_
        refine jx_iload (pc := 82) hX d_N_handOver_82 rfl ?_
        refine k_N_236 (pc := 84) hX (t_T_arrive _ (M.la i) (show M.la i < 200 by omega) (nI (M.lt i))) ⟨rfl, rfl, (Nat.le_of_ble_eq_true rfl), (Nat.le_of_ble_eq_true rfl)⟩ rfl rfl (Nat.le_of_ble_eq_true rfl) ⟨Nat.zero_le _, Nat.zero_le _⟩ d_N_handOver_84 (fun u hu => ?_)
        subst hu
        refine jx_iconst (pc := 87) hX (v := 1) d_N_handOver_87 rfl ?_
        exact jx_zret (pc := 88) hX d_N_handOver_88 rfl (⟨eB_t hc, by rw [Ms.deliver_t hc]; exact ⟨hT.1.arrive rfl, by have e := Ms.left_arrive (M := M.take i) (s := M.lt i) k1 a59; rw [e]; exact hT.2.1, hT.2.2⟩⟩)
      · have hc : M.comes i = false := Ms.comes_f (Or.inr (Or.inr q72))
        refine jx_iconst (pc := 75) hX (v := 0) d_N_handOver_75 rfl ?_
        exact jx_zret (pc := 76) hX d_N_handOver_76 rfl (⟨eB_f hc, by rw [Ms.deliver_f hc]; exact hT⟩)
set_option maxRecDepth 100000 in
set_option maxHeartbeats 4000000 in
theorem t_N_stepAll {l : Launch} {D : va_G} {ad : Nat → Nat} {ac : Nat → ClassId} (σ : St) (M : Ms) (hI : Inv M) (hM : repC σ M) : jMv l (yC D ad ac) mt_N_stepAll TT (rmk 5) [.ref (ad 20)] σ (fun u => repC u (Ms.stepAll M.nt 0 M)) := by
  have i3 : M.nt ≤ 200 := hI.2.2.1
  refine jMv_of (by decide) (Nat.le_of_ble_eq_true rfl) (List.forall_mem_cons.mpr ⟨rfl, fun _ h => absurd h List.not_mem_nil⟩) ?_
  intro X A hX
  have hX : jX X (yC D ad ac) A b_N_stepAll 2 RN (mt_N_stepAll.w :: TT) (rmk 5) none := hX
  show jW l X (yC D ad ac) A 2 0 0 kT (jQv X (yC D ad ac) A (fun u => repC u (Ms.stepAll M.nt 0 M))) σ 0 [(0, .ref (ad 20))] []
  have loop : ∀ (fu : Nat) (t : Nat) (σ1 : St) (M1 : Ms), M.nt - t = fu → t ≤ M.nt → Inv M1 → repC σ1 M1 → M1.nt = M.nt → Ms.stepAll (M.nt - t) t M1 = Ms.stepAll M.nt 0 M → jW l X (yC D ad ac) A 2 0 0 kT (jQv X (yC D ad ac) A (fun u => repC u (Ms.stepAll M.nt 0 M))) σ1 2 [(0, .ref (ad 20)), (1, .int (nI t))] [] := by
    intro fu
    induction fu using Nat.strongRecOn with
    | ind fu ih =>
      intro t σ1 M1 hfu htl hI1 hM1 e1 e2
      refine jx_iload_n (pc := 2) hX d_N_stepAll_2 rfl rfl ?_
      refine jx_aload_n (pc := 3) hX d_N_stepAll_3 rfl rfl ?_
      refine g_N_19 (pc := 4) hX d_N_stepAll_4 ?_
      refine g_N_90 (pc := 7) hX d_N_stepAll_7 ?_
      refine jx_top (y := nI M.nt) (by rw [← e1]; exact hM1.1.1.2.2.1) ?_
      refine jx_icmp_ge (pc := 10) hX 33 d_N_stepAll_10 rfl (fun q10 => ?_) (fun q10 => ?_)
      · have hge : M.nt ≤ t := (nI_leI (by omega) (by omega)).mp q10
        exact jx_vret (pc := 33) hX d_N_stepAll_33 (by rw [← e2, Nat.sub_eq_zero_of_le hge]; exact hM1)
      · have hlt : t < M.nt := Nat.lt_of_not_le (fun q => q10 (nI_le q (by omega)))
        refine jx_aload_n (pc := 13) hX d_N_stepAll_13 rfl rfl ?_
        refine jx_iload_n (pc := 14) hX d_N_stepAll_14 rfl rfl ?_
        refine k_N_111 (pc := 15) hX (t_N_canStep σ1 M1 hI1 hM1 t (by omega)) ⟨rfl, rfl, (Nat.le_of_ble_eq_true rfl), (Nat.le_of_ble_eq_true rfl)⟩ rfl rfl (Nat.le_of_ble_eq_true rfl) ⟨Nat.zero_le _, Nat.zero_le _⟩ d_N_stepAll_15 (fun r hr => ?_)
        subst hr
        refine jx_if_eq (pc := 18) hX 27 d_N_stepAll_18 rfl (fun q18 => ?_) (fun q18 => ?_)
        · have hc : M1.can t = false := eB_0.mp q18
          refine jx_iinc (pc := 27) hX (v := nI (t + 1)) d_N_stepAll_27 rfl (nI_1 t) (by decide) (L' := [(0, _), (1, _)]) rfl ?_
          refine jx_goto (pc := 30) hX 2 d_N_stepAll_30 rfl ?_
          exact ih _ (by omega) (t + 1) σ1 M1 rfl (by omega) hI1 hM1 e1 (by rw [← e2, Ms.stepAll_s hlt, if_neg (by rw [hc]; decide)])
        · have hc : M1.can t = true := eB_n0.mp q18
          refine jx_aload_n (pc := 21) hX d_N_stepAll_21 rfl rfl ?_
          refine jx_iload_n (pc := 22) hX d_N_stepAll_22 rfl rfl ?_
          refine k_N_116 (pc := 23) hX (t_N_step σ1 M1 hI1 hM1 t (by omega) hc) ⟨rfl, rfl, (Nat.le_of_ble_eq_true rfl), (Nat.le_of_ble_eq_true rfl)⟩ rfl rfl (Nat.le_of_ble_eq_true rfl) ⟨Nat.zero_le _, Nat.zero_le _⟩ d_N_stepAll_23 (fun r u hru => ?_)
          obtain ⟨hr, hu⟩ := hru
          refine jx_pop (pc := 26) hX d_N_stepAll_26 rfl ?_
          refine jx_iinc (pc := 27) hX (v := nI (t + 1)) d_N_stepAll_27 rfl (nI_1 t) (by decide) (L' := [(0, _), (1, _)]) rfl ?_
          refine jx_goto (pc := 30) hX 2 d_N_stepAll_30 rfl ?_
          exact ih _ (by omega) (t + 1) u (M1.step t).2 rfl (by omega) (hI1.step (by omega) hc) hu ((Ms.step_nt M1 t).trans e1) (by rw [← e2, Ms.stepAll_s hlt, if_pos hc])
  refine jx_iconst (pc := 0) hX (v := 0) d_N_stepAll_0 rfl ?_
  refine jx_istore_n (pc := 1) hX d_N_stepAll_1 rfl (by decide) (L' := [(0, _), (1, _)]) rfl ?_
  exact loop _ 0 σ M rfl (Nat.zero_le _) hI hM rfl rfl
set_option maxRecDepth 100000 in
set_option maxHeartbeats 4000000 in
theorem t_N_handOverAll {l : Launch} {D : va_G} {ad : Nat → Nat} {ac : Nat → ClassId} (σ : St) (M : Ms) (hI : Inv M) (hM : repC σ M) : jMv l (yC D ad ac) mt_N_handOverAll TT (rmk 3) [.ref (ad 20)] σ (fun u => repC u (Ms.delAll M.nl M)) := by
  have i4 : M.nl ≤ 60 := hI.2.2.2.1
  refine jMv_of (by decide) (Nat.le_of_ble_eq_true rfl) (List.forall_mem_cons.mpr ⟨rfl, fun _ h => absurd h List.not_mem_nil⟩) ?_
  intro X A hX
  have hX : jX X (yC D ad ac) A b_N_handOverAll 3 RN (mt_N_handOverAll.w :: TT) (rmk 3) none := hX
  show jW l X (yC D ad ac) A 3 0 0 kT (jQv X (yC D ad ac) A (fun u => repC u (Ms.delAll M.nl M))) σ 0 [(0, .ref (ad 20))] []
  have loop : ∀ (fu : Nat) (k : Nat) (σ1 : St) (M1 : Ms), M.nl - k = fu → k ≤ M.nl → Inv M1 → repC σ1 M1 → M1.nl = M.nl - k → Ms.delAll (M.nl - k) M1 = Ms.delAll M.nl M → jW l X (yC D ad ac) A 3 0 0 kT (jQv X (yC D ad ac) A (fun u => repC u (Ms.delAll M.nl M))) σ1 10 [(0, .ref (ad 20)), (1, .int (nI M.nl)), (2, .int (nI k))] [] := by
    intro fu
    induction fu using Nat.strongRecOn with
    | ind fu ih =>
      intro k σ1 M1 hfu hkl hI1 hM1 e1 e2
      refine jx_iload_n (pc := 10) hX d_N_handOverAll_10 rfl rfl ?_
      refine jx_iload_n (pc := 11) hX d_N_handOverAll_11 rfl rfl ?_
      refine jx_icmp_ge (pc := 12) hX 27 d_N_handOverAll_12 rfl (fun q12 => ?_) (fun q12 => ?_)
      · have hge : M.nl ≤ k := (nI_leI (by omega) (by omega)).mp q12
        exact jx_vret (pc := 27) hX d_N_handOverAll_27 (by rw [← e2, Nat.sub_eq_zero_of_le hge]; exact hM1)
      · have hlt : k < M.nl := Nat.lt_of_not_le (fun q => q12 (nI_le q (by omega)))
        refine jx_aload_n (pc := 15) hX d_N_handOverAll_15 rfl rfl ?_
        refine jx_iconst (pc := 16) hX (v := 0) d_N_handOverAll_16 rfl ?_
        refine k_N_122 (pc := 17) hX (t_N_handOver σ1 M1 hI1 hM1 0 (by omega)) ⟨rfl, rfl, (Nat.le_of_ble_eq_true rfl), (Nat.le_of_ble_eq_true rfl)⟩ rfl rfl (Nat.le_of_ble_eq_true rfl) ⟨Nat.zero_le _, Nat.zero_le _⟩ d_N_handOverAll_17 (fun r u hru => ?_)
        obtain ⟨hr, hu⟩ := hru
        refine jx_pop (pc := 20) hX d_N_handOverAll_20 rfl ?_
        refine jx_iinc (pc := 21) hX (v := nI (k + 1)) d_N_handOverAll_21 rfl (nI_1 k) (by decide) (L' := [(0, _), (1, _), (2, _)]) rfl ?_
        refine jx_goto (pc := 24) hX 10 d_N_handOverAll_24 rfl ?_
        exact ih _ (by omega) (k + 1) u (M1.deliver 0) rfl (by omega) (hI1.deliver (by omega)) hu (by rw [Ms.deliver_nl]; omega) (by rw [← e2, Ms.delAll_s hlt])
  refine jx_aload_n (pc := 0) hX d_N_handOverAll_0 rfl rfl ?_
  refine g_N_26 (pc := 1) hX d_N_handOverAll_1 ?_
  refine g_N_148 (pc := 4) hX d_N_handOverAll_4 ?_
  refine jx_top (y := nI M.nl) (hM.1.1.2.2.2) ?_
  refine jx_istore_n (pc := 7) hX d_N_handOverAll_7 rfl (by decide) (L' := [(0, _), (1, _)]) rfl ?_
  refine jx_iconst (pc := 8) hX (v := 0) d_N_handOverAll_8 rfl ?_
  refine jx_istore_n (pc := 9) hX d_N_handOverAll_9 rfl (by decide) (L' := [(0, _), (1, _), (2, _)]) rfl ?_
  exact loop _ 0 σ M rfl (Nat.zero_le _) hI hM rfl rfl
set_option maxRecDepth 100000 in
set_option maxHeartbeats 4000000 in
theorem t_N_leastMissing {l : Launch} {D : va_G} {ad : Nat → Nat} {ac : Nat → ClassId} (σ : St) (M : Ms) (hI : Inv M) (hM : repC σ M) : jMp l (yC D ad ac) mt_N_leastMissing TT (rmk 1) [.ref (ad 20)] σ (fun r => r = nI M.least) := by
  obtain ⟨⟨⟨s0, s1, s2, s3⟩, h0, h1, h2, h3, h4, h5, h6, h7, h8, h9, h10, h11, h12, h13⟩, hlf, hpl⟩ := id hM
  obtain ⟨i1, i2, i3, i4, i5, i6, i7, i8⟩ := id hI
  obtain ⟨p1, p2, p3, p4, p5, p6⟩ := id hpl
  have hw8 := i1.le
  have hw2 := i1.pos
  have hnb := nb_le M.w
  have hb0 : ∀ n, n + 1 ≤ M.w → minF M.handed M.w n ≤ 1600 := fun n hn => Nat.le_trans (minF_le n 0 (Nat.zero_le _)) (by have := hI.prod (i := 0) (by omega); omega)
  refine jMp_of (by decide) (Nat.le_of_ble_eq_true rfl) (List.forall_mem_cons.mpr ⟨rfl, fun _ h => absurd h List.not_mem_nil⟩) ?_
  intro X A hX
  have hX : jX X (yC D ad ac) A b_N_leastMissing 3 RN (mt_N_leastMissing.w :: TT) (rmk 1) (some .int) := hX
  show jW l X (yC D ad ac) A 3 0 0 (k0 X) (jQp X (fun r => r = nI M.least)) σ 0 [(0, .ref (ad 20))] []
  have loop : ∀ (fu : Nat) (i : Nat), M.w - i = fu → i + 1 ≤ M.w → jW l X (yC D ad ac) A 3 0 0 (k0 X) (jQp X (fun r => r = nI M.least)) σ 8 [(0, .ref (ad 20)), (1, .int (nI (minF M.handed M.w i))), (2, .int (nI (i + 1)))] [] := by
    intro fu
    induction fu using Nat.strongRecOn with
    | ind fu ih =>
      intro i hfu hi
      refine jx_iload_n (pc := 8) hX d_N_leastMissing_8 rfl rfl ?_
      refine jx_aload_n (pc := 9) hX d_N_leastMissing_9 rfl rfl ?_
      refine g_N_10 (pc := 10) hX d_N_leastMissing_10 ?_
      refine g_N_78 (pc := 13) hX d_N_leastMissing_13 ?_
      refine jx_top (y := nI M.w) (s0) ?_
      refine jx_icmp_ge (pc := 16) hX 35 d_N_leastMissing_16 rfl (fun q16 => ?_) (fun q16 => ?_)
      · have hge : M.w ≤ i + 1 := (nI_leI (by omega) (by omega)).mp q16
        refine jx_iload_n (pc := 35) hX d_N_leastMissing_35 rfl rfl ?_
        exact jx_iretp (pc := 36) hX d_N_leastMissing_36 (by unfold Ms.least; rw [show M.w - 1 = i by omega])
      · have hlt : i + 1 < M.w := Nat.lt_of_not_le (fun q => q16 (nI_le q (by omega)))
        refine jx_iload_n (pc := 19) hX d_N_leastMissing_19 rfl rfl ?_
        refine jx_aload_n (pc := 20) hX d_N_leastMissing_20 rfl rfl ?_
        refine jx_iload_n (pc := 21) hX d_N_leastMissing_21 rfl rfl ?_
        refine k_N_230 (pc := 22) hX (t_N_nextNumberAt σ M hI hM (i + 1) hlt) ⟨rfl, rfl, (Nat.le_of_ble_eq_true rfl), (Nat.le_of_ble_eq_true rfl)⟩ rfl rfl (Nat.le_of_ble_eq_true rfl) ⟨Nat.zero_le _, Nat.zero_le _⟩ d_N_leastMissing_22 (fun r hr => ?_)
        subst hr
        refine jx_min (pc := 25) hX w_N_248 ⟨(Nat.le_of_ble_eq_true rfl), (Nat.le_of_ble_eq_true rfl), Nat.zero_le _, Nat.zero_le _⟩ d_N_leastMissing_25 ?_
        refine jx_top (y := nI (minF M.handed M.w (i + 1))) (by have a := hb0 i hi; have b := hI.prod (i := i + 1) hlt; rw [nI_min (by omega) (by omega)]; rfl) ?_
        refine jx_istore_n (pc := 28) hX d_N_leastMissing_28 rfl (by decide) (L' := [(0, _), (1, _), (2, _)]) rfl ?_
        refine jx_iinc (pc := 29) hX (v := nI (i + 1 + 1)) d_N_leastMissing_29 rfl (nI_1 (i + 1)) (by decide) (L' := [(0, _), (1, _), (2, _)]) rfl ?_
        refine jx_goto (pc := 32) hX 8 d_N_leastMissing_32 rfl ?_
        exact ih _ (by omega) (i + 1) rfl (by omega)
  refine jx_aload_n (pc := 0) hX d_N_leastMissing_0 rfl rfl ?_
  refine jx_iconst (pc := 1) hX (v := 0) d_N_leastMissing_1 rfl ?_
  refine k_N_230 (pc := 2) hX (t_N_nextNumberAt σ M hI hM 0 (by omega)) ⟨rfl, rfl, (Nat.le_of_ble_eq_true rfl), (Nat.le_of_ble_eq_true rfl)⟩ rfl rfl (Nat.le_of_ble_eq_true rfl) ⟨Nat.zero_le _, Nat.zero_le _⟩ d_N_leastMissing_2 (fun r hr => ?_)
  subst hr
  rw [Nat.zero_add]
  refine jx_istore_n (pc := 5) hX d_N_leastMissing_5 rfl (by decide) (L' := [(0, _), (1, _)]) rfl ?_
  refine jx_iconst (pc := 6) hX (v := 1) d_N_leastMissing_6 rfl ?_
  refine jx_istore_n (pc := 7) hX d_N_leastMissing_7 rfl (by decide) (L' := [(0, _), (1, _), (2, _)]) rfl ?_
  exact loop _ 0 rfl (by omega)
set_option maxRecDepth 100000 in
set_option maxHeartbeats 4000000 in
theorem t_N_highestNumber {l : Launch} {D : va_G} {ad : Nat → Nat} {ac : Nat → ClassId} (σ : St) (M : Ms) (hI : Inv M) (hM : repC σ M) : jMp l (yC D ad ac) mt_N_highestNumber TT (rmk 1) [.ref (ad 20)] σ (fun r => r = eP (hi1 M.handed M.w M.w)) := by
  obtain ⟨⟨⟨s0, s1, s2, s3⟩, h0, h1, h2, h3, h4, h5, h6, h7, h8, h9, h10, h11, h12, h13⟩, hlf, hpl⟩ := id hM
  obtain ⟨i1, i2, i3, i4, i5, i6, i7, i8⟩ := id hI
  obtain ⟨p1, p2, p3, p4, p5, p6⟩ := id hpl
  have hw8 := i1.le
  have hw2 := i1.pos
  have hnb := nb_le M.w
  refine jMp_of (by decide) (Nat.le_of_ble_eq_true rfl) (List.forall_mem_cons.mpr ⟨rfl, fun _ h => absurd h List.not_mem_nil⟩) ?_
  intro X A hX
  have hX : jX X (yC D ad ac) A b_N_highestNumber 3 RN (mt_N_highestNumber.w :: TT) (rmk 1) (some .int) := hX
  show jW l X (yC D ad ac) A 3 0 0 (k0 X) (jQp X (fun r => r = eP (hi1 M.handed M.w M.w))) σ 0 [(0, .ref (ad 20))] []
  have loop : ∀ (fu : Nat) (i : Nat), M.w - i = fu → i ≤ M.w → jW l X (yC D ad ac) A 3 0 0 (k0 X) (jQp X (fun r => r = eP (hi1 M.handed M.w M.w))) σ 4 [(0, .ref (ad 20)), (1, .int (eP (hi1 M.handed M.w i))), (2, .int (nI i))] [] := by
    intro fu
    induction fu using Nat.strongRecOn with
    | ind fu ih =>
      intro i hfu hi
      refine jx_iload_n (pc := 4) hX d_N_highestNumber_4 rfl rfl ?_
      refine jx_aload_n (pc := 5) hX d_N_highestNumber_5 rfl rfl ?_
      refine g_N_10 (pc := 6) hX d_N_highestNumber_6 ?_
      refine g_N_78 (pc := 9) hX d_N_highestNumber_9 ?_
      refine jx_top (y := nI M.w) (s0) ?_
      refine jx_icmp_ge (pc := 12) hX 48 d_N_highestNumber_12 rfl (fun q12 => ?_) (fun q12 => ?_)
      · have hge : i = M.w := by have : M.w ≤ i := (nI_leI (by omega) (by omega)).mp q12; omega
        refine jx_iload_n (pc := 48) hX d_N_highestNumber_48 rfl rfl ?_
        exact jx_iretp (pc := 49) hX d_N_highestNumber_49 (by rw [hge])
      · have hlt : i < M.w := Nat.lt_of_not_le (fun q => q12 (nI_le q (by omega)))
        have hh := hI.hand hlt
        refine jx_aload_n (pc := 15) hX d_N_highestNumber_15 rfl rfl ?_
        refine g_N_34 (pc := 16) hX d_N_highestNumber_16 ?_
        refine jx_iload_n (pc := 19) hX d_N_highestNumber_19 rfl rfl ?_
        refine jx_iald (pc := 20) hX oC_1 _ rfl (show i < 8 by omega) d_N_highestNumber_20 ?_
        refine jx_top (y := nI (M.handed i)) (h13 i hlt) ?_
        refine jx_if_le (pc := 21) hX 42 d_N_highestNumber_21 rfl (fun q21 => ?_) (fun q21 => ?_)
        · have hz : M.handed i = 0 := by have : M.handed i ≤ 0 := (nI_leI (by omega) (by omega)).mp q21; omega
          rw [← hi1_s0 (w := M.w) hz]
          refine jx_iinc (pc := 42) hX (v := nI (i + 1)) d_N_highestNumber_42 rfl (nI_1 i) (by decide) (L' := [(0, _), (1, _), (2, _)]) rfl ?_
          refine jx_goto (pc := 45) hX 4 d_N_highestNumber_45 rfl ?_
          exact ih _ (by omega) (i + 1) rfl (by omega)
        · have hne : ¬ M.handed i = 0 := fun q => q21 (by rw [q]; decide)
          have hsub : nI (i + M.w * M.handed i) - nI M.w = eP (i + M.w * (M.handed i - 1) + 1) := by
            have e9 : M.w * M.handed i = M.w * (M.handed i - 1) + M.w := by
              rw [← Nat.mul_succ]; congr 1; omega
            rw [eP_s, pk_sub (by omega)]
            congr 1
            omega
          refine jx_iload_n (pc := 24) hX d_N_highestNumber_24 rfl rfl ?_
          refine jx_aload_n (pc := 25) hX d_N_highestNumber_25 rfl rfl ?_
          refine jx_iload_n (pc := 26) hX d_N_highestNumber_26 rfl rfl ?_
          refine k_N_230 (pc := 27) hX (t_N_nextNumberAt σ M hI hM i hlt) ⟨rfl, rfl, (Nat.le_of_ble_eq_true rfl), (Nat.le_of_ble_eq_true rfl)⟩ rfl rfl (Nat.le_of_ble_eq_true rfl) ⟨Nat.zero_le _, Nat.zero_le _⟩ d_N_highestNumber_27 (fun r hr => ?_)
          subst hr
          refine jx_aload_n (pc := 30) hX d_N_highestNumber_30 rfl rfl ?_
          refine g_N_10 (pc := 31) hX d_N_highestNumber_31 ?_
          refine g_N_78 (pc := 34) hX d_N_highestNumber_34 ?_
          refine jx_top (y := nI M.w) (s0) ?_
          refine jx_isub (pc := 37) hX d_N_highestNumber_37 ?_
          refine jx_top (y := eP (i + M.w * (M.handed i - 1) + 1)) (hsub) ?_
          refine jx_max (pc := 38) hX w_N_253 ⟨(Nat.le_of_ble_eq_true rfl), (Nat.le_of_ble_eq_true rfl), Nat.zero_le _, Nat.zero_le _⟩ d_N_highestNumber_38 ?_
          refine jx_top (y := eP (hi1 M.handed M.w (i + 1))) (by rw [eP_max (by have := hI.hi_le i hi; omega) (by have := hI.prod hlt; have : M.w * (M.handed i - 1) ≤ M.w * M.handed i := Nat.mul_le_mul_left _ (by omega); omega), hi1_s1 hne]) ?_
          refine jx_istore_n (pc := 41) hX d_N_highestNumber_41 rfl (by decide) (L' := [(0, _), (1, _), (2, _)]) rfl ?_
          refine jx_iinc (pc := 42) hX (v := nI (i + 1)) d_N_highestNumber_42 rfl (nI_1 i) (by decide) (L' := [(0, _), (1, _), (2, _)]) rfl ?_
          refine jx_goto (pc := 45) hX 4 d_N_highestNumber_45 rfl ?_
          exact ih _ (by omega) (i + 1) rfl (by omega)
  refine jx_iconst (pc := 0) hX (v := -1) d_N_highestNumber_0 rfl ?_
  refine jx_top (y := eP 0) (by decide) ?_
  refine jx_istore_n (pc := 1) hX d_N_highestNumber_1 rfl (by decide) (L' := [(0, _), (1, _)]) rfl ?_
  refine jx_iconst (pc := 2) hX (v := 0) d_N_highestNumber_2 rfl ?_
  refine jx_istore_n (pc := 3) hX d_N_highestNumber_3 rfl (by decide) (L' := [(0, _), (1, _), (2, _)]) rfl ?_
  exact loop _ 0 rfl (Nat.zero_le _)
set_option maxRecDepth 100000 in
set_option maxHeartbeats 4000000 in
theorem t_N_missingBelowHighest {l : Launch} {D : va_G} {ad : Nat → Nat} {ac : Nat → ClassId} (σ : St) (M : Ms) (hI : Inv M) (hM : repC σ M) : jMp l (yC D ad ac) mt_N_missingBelowHighest TT (rmk 2) [.ref (ad 20)] σ (fun r => r = nI (gaF M.handed M.w (hi1 M.handed M.w M.w - 1))) := by
  obtain ⟨⟨⟨s0, s1, s2, s3⟩, h0, h1, h2, h3, h4, h5, h6, h7, h8, h9, h10, h11, h12, h13⟩, hlf, hpl⟩ := id hM
  obtain ⟨i1, i2, i3, i4, i5, i6, i7, i8⟩ := id hI
  obtain ⟨p1, p2, p3, p4, p5, p6⟩ := id hpl
  have hw8 := i1.le
  have hw2 := i1.pos
  have hnb := nb_le M.w
  have hg := ga_hi (h := M.handed) (show 0 < M.w by omega)
  refine jMp_of (by decide) (Nat.le_of_ble_eq_true rfl) (List.forall_mem_cons.mpr ⟨rfl, fun _ h => absurd h List.not_mem_nil⟩) ?_
  intro X A hX
  have hX : jX X (yC D ad ac) A b_N_missingBelowHighest 2 RN (mt_N_missingBelowHighest.w :: TT) (rmk 2) (some .int) := hX
  show jW l X (yC D ad ac) A 2 0 0 (k0 X) (jQp X (fun r => r = nI (gaF M.handed M.w (hi1 M.handed M.w M.w - 1)))) σ 0 [(0, .ref (ad 20))] []
  refine jx_aload_n (pc := 0) hX d_N_missingBelowHighest_0 rfl rfl ?_
  refine g_N_19 (pc := 1) hX d_N_missingBelowHighest_1 ?_
  refine g_N_90 (pc := 4) hX d_N_missingBelowHighest_4 ?_
  refine jx_top (y := nI M.nt) (s2) ?_
  refine jx_aload_n (pc := 7) hX d_N_missingBelowHighest_7 rfl rfl ?_
  refine g_N_19 (pc := 8) hX d_N_missingBelowHighest_8 ?_
  refine g_N_93 (pc := 11) hX d_N_missingBelowHighest_11 ?_
  refine jx_top (y := nI M.left) (hlf) ?_
  refine jx_isub (pc := 14) hX d_N_missingBelowHighest_14 ?_
  refine jx_top (y := nI (sumF M.handed M.w)) (by rw [pk_sub (by omega)]; congr 1; omega) ?_
  refine jx_istore_n (pc := 15) hX d_N_missingBelowHighest_15 rfl (by decide) (L' := [(0, _), (1, _)]) rfl ?_
  refine jx_aload_n (pc := 16) hX d_N_missingBelowHighest_16 rfl rfl ?_
  refine k_N_177 (pc := 17) hX (t_N_highestNumber σ M hI hM) ⟨rfl, rfl, (Nat.le_of_ble_eq_true rfl), (Nat.le_of_ble_eq_true rfl)⟩ rfl rfl (Nat.le_of_ble_eq_true rfl) ⟨Nat.zero_le _, Nat.zero_le _⟩ d_N_missingBelowHighest_17 (fun r hr => ?_)
  subst hr
  refine jx_iconst (pc := 20) hX (v := 1) d_N_missingBelowHighest_20 rfl ?_
  refine jx_iadd (pc := 21) hX d_N_missingBelowHighest_21 ?_
  refine jx_top (y := nI (hi1 M.handed M.w M.w)) (eP_1 _) ?_
  refine jx_iload_n (pc := 22) hX d_N_missingBelowHighest_22 rfl rfl ?_
  refine jx_isub (pc := 23) hX d_N_missingBelowHighest_23 ?_
  refine jx_top (y := nI (gaF M.handed M.w (hi1 M.handed M.w M.w - 1))) (by rw [pk_sub (by omega)]; congr 1; omega) ?_
  exact jx_iretp (pc := 24) hX d_N_missingBelowHighest_24 (rfl)
set_option maxRecDepth 100000 in
set_option maxHeartbeats 4000000 in
theorem t_N_shownNumber {l : Launch} {D : va_G} {ad : Nat → Nat} {ac : Nat → ClassId} (σ : St) (M : Ms) (hI : Inv M) (hM : repC σ M) (t : Nat) (ht : t < M.nt) : jMp l (yC D ad ac) mt_N_shownNumber TT (rmk 2) [.ref (ad 20), .int (nI t)] σ (fun r => r = eO (M.shown t)) := by
  obtain ⟨⟨⟨s0, s1, s2, s3⟩, h0, h1, h2, h3, h4, h5, h6, h7, h8, h9, h10, h11, h12, h13⟩, hlf, hpl⟩ := id hM
  obtain ⟨i1, i2, i3, i4, i5, i6, i7, i8⟩ := id hI
  obtain ⟨p1, p2, p3, p4, p5, p6⟩ := id hpl
  have hw8 := i1.le
  have hw2 := i1.pos
  have hnb := nb_le M.w
  obtain ⟨j1, j2, j3, j4, j5, j6⟩ := i6 t ht
  have ht9 : t < 200 := by omega
  refine jMp_of (by decide) (Nat.le_of_ble_eq_true rfl) (List.forall_mem_cons.mpr ⟨rfl, List.forall_mem_cons.mpr ⟨rfl, fun _ h => absurd h List.not_mem_nil⟩⟩) ?_
  intro X A hX
  have hX : jX X (yC D ad ac) A b_N_shownNumber 3 RN (mt_N_shownNumber.w :: TT) (rmk 2) (some .int) := hX
  show jW l X (yC D ad ac) A 3 0 0 (k0 X) (jQp X (fun r => r = eO (M.shown t))) σ 0 [(0, .ref (ad 20)), (1, .int (nI t))] []
  refine jx_aload_n (pc := 0) hX d_N_shownNumber_0 rfl rfl ?_
  refine g_N_19 (pc := 1) hX d_N_shownNumber_1 ?_
  refine g_N_151 (pc := 4) hX d_N_shownNumber_4 ?_
  refine jx_iload_n (pc := 7) hX d_N_shownNumber_7 rfl rfl ?_
  refine jx_iald (pc := 8) hX oC_11 _ rfl ht9 d_N_shownNumber_8 ?_
  refine jx_top (y := nI (M.state t)) (h2 t ht) ?_
  refine jx_iconst (pc := 9) hX (v := 2) d_N_shownNumber_9 rfl ?_
  refine jx_icmp_eq (pc := 10) hX 15 d_N_shownNumber_10 rfl (fun q10 => ?_) (fun q10 => ?_)
  · have a10 : M.state t = 2 := (nI_n2 (by omega)).mp q10
    obtain ⟨q, hq⟩ : ∃ q, M.number t = some q := Option.isSome_iff_exists.mp (j5.mp a10)
    have hqb := hI.num ht hq
    have hlb : M.least ≤ 1600 := Nat.le_trans (minF_le (M.w - 1) 0 (Nat.zero_le _)) (by have := hI.prod (i := 0) (by omega); omega)
    refine jx_aload_n (pc := 15) hX d_N_shownNumber_15 rfl rfl ?_
    refine g_N_19 (pc := 16) hX d_N_shownNumber_16 ?_
    refine g_N_239 (pc := 19) hX d_N_shownNumber_19 ?_
    refine jx_iload_n (pc := 22) hX d_N_shownNumber_22 rfl rfl ?_
    refine jx_iald (pc := 23) hX oC_15 _ rfl ht9 d_N_shownNumber_23 ?_
    refine jx_top (y := nI q) (by rw [h6 t ht, hq]; rfl) ?_
    refine jx_istore_n (pc := 24) hX d_N_shownNumber_24 rfl (by decide) (L' := [(0, _), (1, _), (2, _)]) rfl ?_
    refine jx_aload_n (pc := 25) hX d_N_shownNumber_25 rfl rfl ?_
    refine g_N_19 (pc := 26) hX d_N_shownNumber_26 ?_
    refine g_N_242 (pc := 29) hX d_N_shownNumber_29 ?_
    refine jx_iload_n (pc := 32) hX d_N_shownNumber_32 rfl rfl ?_
    refine jx_zald (pc := 33) hX oC_16 _ rfl ht9 d_N_shownNumber_33 ?_
    refine jx_top (y := eB (M.ordered t)) (h7 t ht) ?_
    refine jx_if_eq (pc := 34) hX 49 d_N_shownNumber_34 rfl (fun q34 => ?_) (fun q34 => ?_)
    · have a34 : M.ordered t = false := eB_0.mp q34
      refine jx_iload_n (pc := 49) hX d_N_shownNumber_49 rfl rfl ?_
      exact jx_iretp (pc := 50) hX d_N_shownNumber_50 (by rw [Ms.shown_some hq, if_neg (by rw [a34]; exact fun a => absurd a.1 (by decide))]; rfl)
    · have a34 : M.ordered t = true := eB_n0.mp q34
      refine jx_iload_n (pc := 37) hX d_N_shownNumber_37 rfl rfl ?_
      refine jx_aload_n (pc := 38) hX d_N_shownNumber_38 rfl rfl ?_
      refine k_N_245 (pc := 39) hX (t_N_leastMissing σ M hI hM) ⟨rfl, rfl, (Nat.le_of_ble_eq_true rfl), (Nat.le_of_ble_eq_true rfl)⟩ rfl rfl (Nat.le_of_ble_eq_true rfl) ⟨Nat.zero_le _, Nat.zero_le _⟩ d_N_shownNumber_39 (fun r hr => ?_)
      subst hr
      refine jx_icmp_le (pc := 42) hX 49 d_N_shownNumber_42 rfl (fun q42 => ?_) (fun q42 => ?_)
      · have a42 : q ≤ M.least := (nI_leI (by omega) (by omega)).mp q42
        refine jx_iload_n (pc := 49) hX d_N_shownNumber_49 rfl rfl ?_
        exact jx_iretp (pc := 50) hX d_N_shownNumber_50 (by rw [Ms.shown_some hq, if_neg (fun a => a.2 a42)]; rfl)
      · have a42 : ¬ q ≤ M.least := fun a => q42 (nI_le a (by omega))
        refine jx_iconst (pc := 45) hX (v := -1) d_N_shownNumber_45 rfl ?_
        refine jx_goto (pc := 46) hX 50 d_N_shownNumber_46 rfl ?_
        exact jx_iretp (pc := 50) hX d_N_shownNumber_50 (by rw [Ms.shown_some hq, if_pos ⟨a34, a42⟩]; rfl)
  · have hq : M.number t = none := by
      cases hq : M.number t with
      | none => rfl
      | some q => exact absurd ((nI_n2 (by omega)).mpr (j5.mpr (by rw [hq]; rfl))) q10
    refine jx_iconst (pc := 13) hX (v := -1) d_N_shownNumber_13 rfl ?_
    exact jx_iretp (pc := 14) hX d_N_shownNumber_14 (by rw [Ms.shown_none hq]; rfl)
set_option maxRecDepth 100000 in
set_option maxHeartbeats 4000000 in
theorem t_N_resend {l : Launch} {D : va_G} {ad : Nat → Nat} {ac : Nat → ClassId} (σ : St) (M : Ms) (hI : Inv M) (hM : repC σ M) : jMi l (yC D ad ac) mt_N_resend TT (rmk 3) [.ref (ad 20)] σ (fun r u => r = nI (M.resend.nl - M.nl) ∧ repC u M.resend) := by
  have i3 : M.nt ≤ 200 := hI.2.2.1
  have i4 : M.nl ≤ 60 := hI.2.2.2.1
  refine jMi_of (by decide) (Nat.le_of_ble_eq_true rfl) (List.forall_mem_cons.mpr ⟨rfl, fun _ h => absurd h List.not_mem_nil⟩) ?_
  intro X A hX
  have hX : jX X (yC D ad ac) A b_N_resend 3 RN (mt_N_resend.w :: TT) (rmk 3) (some .int) := hX
  show jW l X (yC D ad ac) A 3 0 0 kT (jQi X (yC D ad ac) A (fun r u => r = nI (M.resend.nl - M.nl) ∧ repC u M.resend)) σ 0 [(0, .ref (ad 20))] []
  have loop : ∀ (fu : Nat) (t : Nat) (σ1 : St) (M1 : Ms), M.nt - t = fu → t ≤ M.nt → Inv M1 → repC σ1 M1 → M1.nt = M.nt → M.nl ≤ M1.nl → Ms.resF (M.nt - t) t M1 = M.resend → jW l X (yC D ad ac) A 3 0 0 kT (jQi X (yC D ad ac) A (fun r u => r = nI (M.resend.nl - M.nl) ∧ repC u M.resend)) σ1 10 [(0, .ref (ad 20)), (1, .int (nI M.nl)), (2, .int (nI t))] [] := by
    intro fu
    induction fu using Nat.strongRecOn with
    | ind fu ih =>
      intro t σ1 M1 hfu htl hI1 hM1 e1 e3 e2
      have j4 : M1.nl ≤ 60 := hI1.2.2.2.1
      refine jx_iload_n (pc := 10) hX d_N_resend_10 rfl rfl ?_
      refine jx_aload_n (pc := 11) hX d_N_resend_11 rfl rfl ?_
      refine g_N_19 (pc := 12) hX d_N_resend_12 ?_
      refine g_N_90 (pc := 15) hX d_N_resend_15 ?_
      refine jx_top (y := nI M.nt) (by rw [← e1]; exact hM1.1.1.2.2.1) ?_
      refine jx_icmp_ge (pc := 18) hX 92 d_N_resend_18 rfl (fun q18 => ?_) (fun q18 => ?_)
      · have hge : M.nt ≤ t := (nI_leI (by omega) (by omega)).mp q18
        have hend : M1 = M.resend := by rw [← e2, Nat.sub_eq_zero_of_le hge]; rfl
        refine jx_aload_n (pc := 92) hX d_N_resend_92 rfl rfl ?_
        refine g_N_26 (pc := 93) hX d_N_resend_93 ?_
        refine g_N_148 (pc := 96) hX d_N_resend_96 ?_
        refine jx_top (y := nI M1.nl) (hM1.1.1.2.2.2) ?_
        refine jx_iload_n (pc := 99) hX d_N_resend_99 rfl rfl ?_
        refine jx_isub (pc := 100) hX d_N_resend_100 ?_
        refine jx_top (y := nI (M1.nl - M.nl)) (pk_sub e3) ?_
        exact jx_iret (pc := 101) hX d_N_resend_101 (by rw [← hend]; exact ⟨rfl, hM1⟩)
      · have hlt : t < M.nt := Nat.lt_of_not_le (fun q => q18 (nI_le q (by omega)))
        have hs9 := (hI1.2.2.2.2.2.1 t (by omega)).2.2.1
        refine jx_aload_n (pc := 21) hX d_N_resend_21 rfl rfl ?_
        refine g_N_26 (pc := 22) hX d_N_resend_22 ?_
        refine k_N_129 (pc := 25) hX (t_B_hasRoom σ1 M1.nl (by omega) hM1.1.1.2.2.2) ⟨rfl, rfl, (Nat.le_of_ble_eq_true rfl), (Nat.le_of_ble_eq_true rfl)⟩ rfl rfl (Nat.le_of_ble_eq_true rfl) ⟨Nat.zero_le _, Nat.zero_le _⟩ d_N_resend_25 (fun r hr => ?_)
        subst hr
        refine jx_if_eq (pc := 28) hX 92 d_N_resend_28 rfl (fun q28 => ?_) (fun q28 => ?_)
        · have a28 : ¬ M1.nl < 60 := of_decide_eq_false (eB_0.mp q28)
          have hend : M1 = M.resend := by rw [← e2, Ms.resF_f a28]
          refine jx_aload_n (pc := 92) hX d_N_resend_92 rfl rfl ?_
          refine g_N_26 (pc := 93) hX d_N_resend_93 ?_
          refine g_N_148 (pc := 96) hX d_N_resend_96 ?_
          refine jx_top (y := nI M1.nl) (hM1.1.1.2.2.2) ?_
          refine jx_iload_n (pc := 99) hX d_N_resend_99 rfl rfl ?_
          refine jx_isub (pc := 100) hX d_N_resend_100 ?_
          refine jx_top (y := nI (M1.nl - M.nl)) (pk_sub e3) ?_
          exact jx_iret (pc := 101) hX d_N_resend_101 (by rw [← hend]; exact ⟨rfl, hM1⟩)
        · have a28 : M1.nl < 60 := of_decide_eq_true (eB_n0.mp q28)
          refine jx_aload_n (pc := 31) hX d_N_resend_31 rfl rfl ?_
          refine g_N_19 (pc := 32) hX d_N_resend_32 ?_
          refine g_N_151 (pc := 35) hX d_N_resend_35 ?_
          refine jx_iload_n (pc := 38) hX d_N_resend_38 rfl rfl ?_
          refine jx_iald (pc := 39) hX oC_11 _ rfl (show t < 200 by omega) d_N_resend_39 ?_
          refine jx_top (y := nI (M1.state t)) (hM1.1.2.2.2.1 t (by omega)) ?_
          refine jx_iconst (pc := 40) hX (v := 1) d_N_resend_40 rfl ?_
          refine jx_icmp_ne (pc := 41) hX 86 d_N_resend_41 rfl (fun q41 => ?_) (fun q41 => ?_)
          · have a41 : ¬ M1.state t = 1 := fun q => q41 ((nI_n1 (by omega)).mpr q)
            refine jx_iinc (pc := 86) hX (v := nI (t + 1)) d_N_resend_86 rfl (nI_1 t) (by decide) (L' := [(0, _), (1, _), (2, _)]) rfl ?_
            refine jx_goto (pc := 89) hX 10 d_N_resend_89 rfl ?_
            exact ih _ (by omega) (t + 1) σ1 M1 rfl (by omega) hI1 hM1 e1 e3 (by rw [← e2, Ms.resF_s hlt a28, Ms.res1_f (Or.inl a41)])
          · have a41 : M1.state t = 1 := (nI_n1 (by omega)).mp q41
            refine jx_aload_n (pc := 44) hX d_N_resend_44 rfl rfl ?_
            refine g_N_26 (pc := 45) hX d_N_resend_45 ?_
            refine jx_iload_n (pc := 48) hX d_N_resend_48 rfl rfl ?_
            refine jx_aload_n (pc := 49) hX d_N_resend_49 rfl rfl ?_
            refine g_N_19 (pc := 50) hX d_N_resend_50 ?_
            refine g_N_154 (pc := 53) hX d_N_resend_53 ?_
            refine jx_iload_n (pc := 56) hX d_N_resend_56 rfl rfl ?_
            refine jx_iald (pc := 57) hX oC_14 _ rfl (show t < 200 by omega) d_N_resend_57 ?_
            refine jx_top (y := M1.way t) (hM1.1.2.2.2.2.2.2.1 t (by omega)) ?_
            refine k_N_155 (pc := 58) hX (t_B_holds σ1 M1 hI1 hM1 t (by omega) (M1.way t)) ⟨rfl, rfl, (Nat.le_of_ble_eq_true rfl), (Nat.le_of_ble_eq_true rfl)⟩ rfl rfl (Nat.le_of_ble_eq_true rfl) ⟨Nat.zero_le _, Nat.zero_le _⟩ d_N_resend_58 (fun r hr => ?_)
            subst hr
            refine jx_if_ne (pc := 61) hX 86 d_N_resend_61 rfl (fun q61 => ?_) (fun q61 => ?_)
            · have a61 : M1.holds t = true := eB_n0.mp q61
              refine jx_iinc (pc := 86) hX (v := nI (t + 1)) d_N_resend_86 rfl (nI_1 t) (by decide) (L' := [(0, _), (1, _), (2, _)]) rfl ?_
              refine jx_goto (pc := 89) hX 10 d_N_resend_89 rfl ?_
              exact ih _ (by omega) (t + 1) σ1 M1 rfl (by omega) hI1 hM1 e1 e3 (by rw [← e2, Ms.resF_s hlt a28, Ms.res1_f (Or.inr a61)])
            · have a61 : M1.holds t = false := eB_0.mp q61
              refine jx_aload_n (pc := 64) hX d_N_resend_64 rfl rfl ?_
              refine g_N_26 (pc := 65) hX d_N_resend_65 ?_
              refine jx_iload_n (pc := 68) hX d_N_resend_68 rfl rfl ?_
              refine jx_aload_n (pc := 69) hX d_N_resend_69 rfl rfl ?_
              refine g_N_19 (pc := 70) hX d_N_resend_70 ?_
              refine g_N_154 (pc := 73) hX d_N_resend_73 ?_
              refine jx_iload_n (pc := 76) hX d_N_resend_76 rfl rfl ?_
              refine jx_iald (pc := 77) hX oC_14 _ rfl (show t < 200 by omega) d_N_resend_77 ?_
              refine jx_top (y := M1.way t) (hM1.1.2.2.2.2.2.2.1 t (by omega)) ?_
              refine jx_aload_n (pc := 78) hX d_N_resend_78 rfl rfl ?_
              refine jx_iload_n (pc := 79) hX d_N_resend_79 rfl rfl ?_
              refine k_N_159 (pc := 80) hX (t_N_stationOfNext σ1 M1 hI1 hM1 t (by omega)) ⟨rfl, rfl, (Nat.le_of_ble_eq_true rfl), (Nat.le_of_ble_eq_true rfl)⟩ rfl rfl (Nat.le_of_ble_eq_true rfl) ⟨Nat.zero_le _, Nat.zero_le _⟩ d_N_resend_80 (fun r hr => ?_)
              subst hr
              refine k_N_144 (pc := 83) hX (t_B_post σ1 M1.nl a28 hM1.1.1.2.2.2 (nI t) (M1.way t) (nI (M1.stN t))) ⟨rfl, rfl, (Nat.le_of_ble_eq_true rfl), (Nat.le_of_ble_eq_true rfl)⟩ rfl rfl (Nat.le_of_ble_eq_true rfl) ⟨Nat.zero_le _, Nat.zero_le _⟩ d_N_resend_83 (fun u hu => ?_)
              subst hu
              refine jx_iinc (pc := 86) hX (v := nI (t + 1)) d_N_resend_86 rfl (nI_1 t) (by decide) (L' := [(0, _), (1, _), (2, _)]) rfl ?_
              refine jx_goto (pc := 89) hX 10 d_N_resend_89 rfl ?_
              exact ih _ (by omega) (t + 1) _ (M1.post t (M1.way t) (M1.stN t)) rfl (by omega) (hI1.post (by omega) (Ms.stN_lt hI1.2.1.1 t) a28) ⟨hM1.1.post rfl rfl, hM1.2.1, hM1.2.2⟩ e1 (Nat.le_trans e3 (Nat.le_succ _)) (by rw [← e2, Ms.resF_s hlt a28, Ms.res1_t a41 a61])
  refine jx_aload_n (pc := 0) hX d_N_resend_0 rfl rfl ?_
  refine g_N_26 (pc := 1) hX d_N_resend_1 ?_
  refine g_N_148 (pc := 4) hX d_N_resend_4 ?_
  refine jx_top (y := nI M.nl) (hM.1.1.2.2.2) ?_
  refine jx_istore_n (pc := 7) hX d_N_resend_7 rfl (by decide) (L' := [(0, _), (1, _)]) rfl ?_
  refine jx_iconst (pc := 8) hX (v := 0) d_N_resend_8 rfl ?_
  refine jx_istore_n (pc := 9) hX d_N_resend_9 rfl (by decide) (L' := [(0, _), (1, _), (2, _)]) rfl ?_
  exact loop _ 0 σ M rfl (Nat.zero_le _) hI hM rfl (Nat.le_refl _) rfl
end
section
/-! how the network is laid, on the class's side: the row, the columns on each wire, what is laid, how many columns -/
abbrev Pl : Type := (Nat → Nat) × (Nat → Nat) × List (Nat × Nat × Nat) × Nat
abbrev Pl.r (P : Pl) : Nat → Nat := P.1
abbrev Pl.c (P : Pl) : Nat → Nat := P.2.1
abbrev Pl.l (P : Pl) : List (Nat × Nat × Nat) := P.2.2.1
abbrev Pl.k (P : Pl) : Nat := P.2.2.2
def Pl.lay (P : Pl) (a b : Nat) : Pl := (P.r, va_up (va_up P.c a (max (P.c a) (P.c b) + 1)) b (max (P.c a) (P.c b) + 1), P.l ++ [(a, b, max (P.c a) (P.c b))], max P.k (max (P.c a) (P.c b) + 1))
def Pl.jnL (fr hf : Nat) : Nat → Pl → Pl
  | 0, P => P
  | i + 1, P => (Pl.jnL fr hf i P).lay (P.r (fr + i)) (P.r (fr + hf + i))
def jr (r : Nat → Nat) (fr hf j : Nat) : Nat := if j % 2 = 0 then r (fr + j / 2) else r (fr + hf + j / 2)
def bk (g r : Nat → Nat) (fr n : Nat) : Nat → Nat := fun j => if fr ≤ j ∧ j < fr + n then g (j - fr) else r j
def Pl.join (P : Pl) (fr hf : Nat) : Pl := (bk (jr P.r fr hf) P.r fr (2 * hf), (Pl.jnL fr hf hf P).c, (Pl.jnL fr hf hf P).l, (Pl.jnL fr hf hf P).k)
def src (hf p : Nat) : Nat := if p < hf then (if p < hf / 2 then 2 * p else 2 * (p - hf / 2) + 1) else (if p - hf < hf / 2 then 2 * (p - hf) + 1 else 2 * (p - hf - hf / 2))
def sor (r : Nat → Nat) (fr hf p : Nat) : Nat := if p < hf then (if p < hf / 2 then r (fr + 2 * p) else r (fr + hf + (2 * (p - hf / 2) + 1))) else (if p - hf < hf / 2 then r (fr + (2 * (p - hf) + 1)) else r (fr + hf + 2 * (p - hf - hf / 2)))
def Pl.sort (P : Pl) (fr hf : Nat) : Pl := (bk (sor P.r fr hf) P.r fr (2 * hf), P.c, P.l, P.k)
def Pl.m0 (P : Pl) (fr : Nat) : Pl := P.lay (P.r fr) (P.r (fr + 1))
def Pl.m1 (P : Pl) (fr : Nat) : Pl := (((P.sort fr 2).m0 fr).m0 (fr + 2)).join fr 2
def Pl.m2 (P : Pl) (fr : Nat) : Pl := (((P.sort fr 4).m1 fr).m1 (fr + 4)).join fr 4
def Pl.l2 (P : Pl) (fr : Nat) : Pl := ((P.m0 fr).m0 (fr + 2)).m1 fr
def Pl.l3 (P : Pl) : Pl := ((P.l2 0).l2 4).m2 0
def Pl0 : Pl := (fun j => j, fun _ => 0, [], 0)
def tab (w : Nat) : List (Nat × Nat × Nat) := (List.range (nb w)).map (fun b => (uU w b, uL w b, uC w b))
theorem draw_1 : (Pl0.m0 0).l = tab 2 ∧ (Pl0.m0 0).k = nc 2 ∧ ∀ i, i < 2 → (Pl0.m0 0).r i = uE 2 i := by decide +kernel
theorem draw_2 : (Pl0.l2 0).l = tab 4 ∧ (Pl0.l2 0).k = nc 4 ∧ ∀ i, i < 4 → (Pl0.l2 0).r i = uE 4 i := by decide +kernel
theorem draw_3 : Pl0.l3.l = tab 8 ∧ Pl0.l3.k = nc 8 ∧ ∀ i, i < 8 → Pl0.l3.r i = uE 8 i := by decide +kernel
def Pok (w : Nat) (P : Pl) : Prop := (∀ j, j < w → P.r j < w ∧ P.c j ≤ P.l.length) ∧ P.k ≤ P.l.length
def relP (σ : St) (w : Nat) (P : Pl) : Prop :=
  Pok w P ∧ σ.1 1 = nI w ∧ σ.1 2 = nI P.l.length ∧ σ.1 3 = nI P.k ∧ AR P.l.length nI (σ.2 3) (fun b => (P.l.getD b (0, 0, 0)).1) ∧ AR P.l.length nI (σ.2 4) (fun b => (P.l.getD b (0, 0, 0)).2.1) ∧ AR P.l.length nI (σ.2 5) (fun b => (P.l.getD b (0, 0, 0)).2.2) ∧
  AR w nI (σ.2 6) P.r ∧ AR w nI (σ.2 7) P.c
theorem Pok.lay {w : Nat} {P : Pl} (h : Pok w P) {a b : Nat} (ha : a < w) (hb : b < w) : Pok w (P.lay a b) := by
  obtain ⟨h1, h2⟩ := h
  have e : (P.lay a b).l.length = P.l.length + 1 := List.length_append
  have ca := (h1 a ha).2
  have cb := (h1 b hb).2
  refine ⟨fun j hj => ⟨(h1 j hj).1, ?_⟩, ?_⟩
  · rw [e]
    have cj := (h1 j hj).2
    show va_up (va_up P.c a (max (P.c a) (P.c b) + 1)) b (max (P.c a) (P.c b) + 1) j ≤ P.l.length + 1
    unfold va_up
    split
    · omega
    · split <;> omega
  · rw [e]
    show max P.k (max (P.c a) (P.c b) + 1) ≤ P.l.length + 1
    omega
theorem AR_app {f : Nat → Int32} {l : List (Nat × Nat × Nat)} {g : Nat × Nat × Nat → Nat} {q : Nat × Nat × Nat} {x : Int32} (h : AR l.length nI f (fun b => g (l.getD b (0, 0, 0)))) (e : x = nI (g q)) : AR (l ++ [q]).length nI (upd f l.length x) (fun b => g ((l ++ [q]).getD b (0, 0, 0))) := by
  intro t ht
  rw [List.length_append] at ht
  have ht : t < l.length + 1 := ht
  show _ = nI (g ((l ++ [q]).getD t (0, 0, 0)))
  by_cases c : t = l.length
  · subst c
    rw [pk_us, List.getD_eq_getElem?_getD, List.getElem?_append_right (Nat.le_refl _), Nat.sub_self]
    exact e
  · rw [pk_un c, List.getD_eq_getElem?_getD, List.getElem?_append_left (by omega), ← List.getD_eq_getElem?_getD]
    exact h t (by omega)
theorem Pl.jnL_r (fr hf : Nat) : ∀ (i : Nat) (P : Pl), (Pl.jnL fr hf i P).r = P.r
  | 0, _ => rfl
  | i + 1, P => Pl.jnL_r fr hf i P
theorem Pl.jnL_len (fr hf : Nat) : ∀ (i : Nat) (P : Pl), (Pl.jnL fr hf i P).l.length = P.l.length + i
  | 0, _ => rfl
  | i + 1, P => by
    show ((Pl.jnL fr hf i P).l ++ [_]).length = _
    rw [List.length_append, Pl.jnL_len fr hf i P]
    rfl
theorem Pl.m0_len (P : Pl) (fr : Nat) : (P.m0 fr).l.length = P.l.length + 1 := List.length_append
theorem Pl.join_len (P : Pl) (fr hf : Nat) : (P.join fr hf).l.length = P.l.length + hf := Pl.jnL_len fr hf hf P
theorem Pl.m1_len (P : Pl) (fr : Nat) : (P.m1 fr).l.length = P.l.length + 4 := by
  unfold Pl.m1
  rw [Pl.join_len, Pl.m0_len, Pl.m0_len]
  rfl
theorem Pl.m2_len (P : Pl) (fr : Nat) : (P.m2 fr).l.length = P.l.length + 12 := by
  unfold Pl.m2
  rw [Pl.join_len, Pl.m1_len, Pl.m1_len]
  rfl
theorem Pl.l2_len (P : Pl) (fr : Nat) : (P.l2 fr).l.length = P.l.length + 6 := by
  unfold Pl.l2
  rw [Pl.m1_len, Pl.m0_len, Pl.m0_len]
theorem AR_bk {w fr n : Nat} {f s : Nat → Int32} {g r : Nat → Nat} (h : AR w nI f r) (hs : AR n nI s g) : AR w nI (va_cpy s f 0 fr n) (bk g r fr n) := by
  intro j hj
  unfold bk
  by_cases c : fr ≤ j ∧ j < fr + n
  · rw [if_pos c, pk_cpy_in c.1 c.2, Nat.zero_add]
    exact hs _ (by omega)
  · rw [if_neg c, pk_cpy_out (by omega)]
    exact h j hj
theorem Pok.back {w fr n : Nat} {P : Pl} {g : Nat → Nat} (h : Pok w P) (hg : ∀ p, p < n → g p < w) : Pok w (bk g P.r fr n, P.c, P.l, P.k) := by
  refine ⟨fun j hj => ⟨?_, (h.1 j hj).2⟩, h.2⟩
  show bk g P.r fr n j < w
  unfold bk
  split
  · exact hg _ (by omega)
  · exact (h.1 j hj).1
theorem jr_lt {w fr hf : Nat} {P : Pl} (h : Pok w P) (hw : fr + 2 * hf ≤ w) : ∀ p, p < 2 * hf → jr P.r fr hf p < w := by
  intro p hp
  unfold jr
  split
  · exact (h.1 _ (by omega)).1
  · exact (h.1 _ (by omega)).1
theorem sor_lt {w fr hf : Nat} {P : Pl} (h : Pok w P) (hw : fr + 2 * hf ≤ w) (h2 : hf % 2 = 0) : ∀ p, p < 2 * hf → sor P.r fr hf p < w := by
  intro p hp
  unfold sor
  split
  · split
    · exact (h.1 _ (by omega)).1
    · exact (h.1 _ (by omega)).1
  · split
    · exact (h.1 _ (by omega)).1
    · exact (h.1 _ (by omega)).1
/-- the sorting's spare row: what is written by now -/
def sOk (r : Nat → Nat) (s : Nat → Int32) (fr hf i : Nat) : Prop := ∀ p, p < 2 * hf → src hf p < i → s p = nI (sor r fr hf p)
theorem sOk_0 {r : Nat → Nat} {s : Nat → Int32} {fr hf : Nat} : sOk r s fr hf 0 := fun _ _ h => absurd h (Nat.not_lt_zero _)
theorem sOk_all {r : Nat → Nat} {s : Nat → Int32} {fr hf : Nat} (h2 : hf % 2 = 0) (h : sOk r s fr hf hf) : AR (2 * hf) nI s (sor r fr hf) := by
  intro p hp
  refine h p hp ?_
  unfold src
  split
  · split <;> omega
  · split <;> omega
theorem sOk_s {r : Nat → Nat} {s : Nat → Int32} {fr hf i : Nat} (h2 : hf % 2 = 0) (hi : i < hf) (h : sOk r s fr hf i) {a b : Nat} {x y : Int32}
    (ha : a = (if i % 2 = 0 then 0 else hf) + i / 2) (hb : b = (if i % 2 = 0 then hf else 0) + hf / 2 + i / 2) (hx : x = nI (r (fr + i))) (hy : y = nI (r (fr + hf + i))) : sOk r (upd (upd s a x) b y) fr hf (i + 1) := by
  intro p hp hs
  by_cases c1 : p = b
  · subst c1
    rw [pk_us, hy]
    congr 1
    unfold sor
    by_cases e : i % 2 = 0
    · rw [if_pos e] at hb
      rw [if_neg (by omega), if_neg (by omega)]
      congr 1
      omega
    · rw [if_neg e] at hb
      rw [if_pos (by omega), if_neg (by omega)]
      congr 1
      omega
  · rw [pk_un c1]
    by_cases c2 : p = a
    · subst c2
      rw [pk_us, hx]
      congr 1
      unfold sor
      by_cases e : i % 2 = 0
      · rw [if_pos e] at ha
        rw [if_pos (by omega), if_pos (by omega)]
        congr 1
        omega
      · rw [if_neg e] at ha
        rw [if_neg (by omega), if_pos (by omega)]
        congr 1
        omega
    · rw [pk_un c2]
      refine h p hp ?_
      unfold src at hs ⊢
      by_cases e : i % 2 = 0
      · rw [if_pos e] at ha hb
        by_cases q1 : p < hf
        · rw [if_pos q1] at hs ⊢
          by_cases q2 : p < hf / 2
          · rw [if_pos q2] at hs ⊢; omega
          · rw [if_neg q2] at hs ⊢; omega
        · rw [if_neg q1] at hs ⊢
          by_cases q2 : p - hf < hf / 2
          · rw [if_pos q2] at hs ⊢; omega
          · rw [if_neg q2] at hs ⊢; omega
      · rw [if_neg e] at ha hb
        by_cases q1 : p < hf
        · rw [if_pos q1] at hs ⊢
          by_cases q2 : p < hf / 2
          · rw [if_pos q2] at hs ⊢; omega
          · rw [if_neg q2] at hs ⊢; omega
        · rw [if_neg q1] at hs ⊢
          by_cases q2 : p - hf < hf / 2
          · rw [if_pos q2] at hs ⊢; omega
          · rw [if_neg q2] at hs ⊢; omega
theorem sA_sR (σ : St) (k i : Nat) (f : Nat → Int32) (v : Int32) : sA (sR σ k f) k i v = sR σ k (upd f i v) := by
  unfold sA sR
  simp only [va_up_self]
  congr 1
  funext j
  unfold va_up
  split <;> rfl
theorem sR_self (σ : St) (k : Nat) : sR σ k (σ.2 k) = σ := by
  unfold sR
  show (σ.1, _) = σ
  congr 1
  funext j
  unfold va_up
  split
  · rename_i h; rw [h]
  · rfl
theorem jr_s {r : Nat → Nat} {s : Nat → Int32} {fr hf i : Nat} (h : AR (2 * i) nI s (jr r fr hf)) {x y : Int32} (hx : x = nI (r (fr + i))) (hy : y = nI (r (fr + hf + i))) : AR (2 * (i + 1)) nI (upd (upd s (2 * i) x) (2 * i + 1) y) (jr r fr hf) := by
  intro p hp
  by_cases c1 : p = 2 * i + 1
  · subst c1
    rw [pk_us, hy]
    unfold jr
    rw [if_neg (by omega), show (2 * i + 1) / 2 = i by omega]
  · rw [pk_un c1]
    by_cases c2 : p = 2 * i
    · subst c2
      rw [pk_us, hx]
      unfold jr
      rw [if_pos (by omega), show 2 * i / 2 = i by omega]
    · rw [pk_un c2]
      exact h p (by omega)
end
section
theorem Pl.lay_len (P : Pl) (a b : Nat) : (P.lay a b).l.length = P.l.length + 1 := List.length_append
theorem jx_take {l : Launch} {X : Cx} {Y : Wx} {A : Nat → Prop} {nL cells slots : Nat} {K : Heap → List Loc → Prop} {Q : State → Prop} {σ : St} {pc : Nat} {L : Lv} {st : List Value} (n : Nat) (k : jW l X Y A nL cells slots K Q σ pc (L.take n) st) : jW l X Y A nL cells slots K Q σ pc L st :=
  fun H locs ls hk hP hD hS hl => k H locs ls hk hP hD hS ⟨⟨hl.1.1, hl.1.2.1, fun q hq => hl.1.2.2 q (List.mem_of_mem_take hq)⟩, fun q hq => hl.2 q (List.mem_of_mem_take hq)⟩
set_option maxRecDepth 100000 in
set_option maxHeartbeats 4000000 in
theorem t_P_lay {l : Launch} {D : va_G} {ad : Nat → Nat} {ac : Nat → ClassId} (σ : St) (w : Nat) (P : Pl) (hw8 : w ≤ 8) (hR : relP σ w P) (hl : P.l.length < 24) (a b : Nat) (ha : a < w) (hb : b < w) : jMv l (yC D ad ac) mt_P_lay TT (rmk 1) [.ref (ad 21), .int (nI a), .int (nI b)] σ (fun u => relP u w (P.lay a b) ∧ u.2 8 = σ.2 8) := by
  obtain ⟨po, r1, r2, r3, r4, r5, r6, r7, r8⟩ := id hR
  have ca := (po.1 a ha).2
  have cb := (po.1 b hb).2
  have ck := po.2
  refine jMv_of (by decide) (Nat.le_of_ble_eq_true rfl) (List.forall_mem_cons.mpr ⟨rfl, List.forall_mem_cons.mpr ⟨rfl, List.forall_mem_cons.mpr ⟨rfl, fun _ h => absurd h List.not_mem_nil⟩⟩⟩) ?_
  intro X A hX
  have hX : jX X (yC D ad ac) A b_P_lay 4 RP (mt_P_lay.w :: TT) (rmk 1) none := hX
  show jW l X (yC D ad ac) A 4 0 0 kT (jQv X (yC D ad ac) A (fun u => relP u w (P.lay a b) ∧ u.2 8 = σ.2 8)) σ 0 [(0, .ref (ad 21)), (1, .int (nI a)), (2, .int (nI b))] []
  refine jx_aload_n (pc := 0) hX d_P_lay_0 rfl rfl ?_
  refine g_P_24 (pc := 1) hX d_P_lay_1 ?_
  refine jx_iload_n (pc := 4) hX d_P_lay_4 rfl rfl ?_
  refine jx_iald (pc := 5) hX oC_7 _ rfl (show a < 8 by omega) d_P_lay_5 ?_
  refine jx_top (y := nI (P.c a)) (r8 a ha) ?_
  refine jx_aload_n (pc := 6) hX d_P_lay_6 rfl rfl ?_
  refine g_P_24 (pc := 7) hX d_P_lay_7 ?_
  refine jx_iload_n (pc := 10) hX d_P_lay_10 rfl rfl ?_
  refine jx_iald (pc := 11) hX oC_7 _ rfl (show b < 8 by omega) d_P_lay_11 ?_
  refine jx_top (y := nI (P.c b)) (r8 b hb) ?_
  refine jx_max (pc := 12) hX w_P_62 ⟨(Nat.le_of_ble_eq_true rfl), (Nat.le_of_ble_eq_true rfl), Nat.zero_le _, Nat.zero_le _⟩ d_P_lay_12 ?_
  refine jx_top (y := nI (max (P.c a) (P.c b))) (nI_max (by omega) (by omega)) ?_
  refine jx_istore_n (pc := 15) hX d_P_lay_15 rfl (by decide) (L' := [(0, _), (1, _), (2, _), (3, _)]) rfl ?_
  refine jx_aload_n (pc := 16) hX d_P_lay_16 rfl rfl ?_
  refine g_P_9 (pc := 17) hX d_P_lay_17 ?_
  refine jx_aload_n (pc := 20) hX d_P_lay_20 rfl rfl ?_
  refine g_P_34 (pc := 21) hX d_P_lay_21 ?_
  refine jx_iload_n (pc := 24) hX d_P_lay_24 rfl rfl ?_
  refine jx_iast (pc := 25) hX oC_3 _ r2 hl d_P_lay_25 ?_
  refine jx_aload_n (pc := 26) hX d_P_lay_26 rfl rfl ?_
  refine g_P_15 (pc := 27) hX d_P_lay_27 ?_
  refine jx_aload_n (pc := 30) hX d_P_lay_30 rfl rfl ?_
  refine g_P_34 (pc := 31) hX d_P_lay_31 ?_
  refine jx_iload_n (pc := 34) hX d_P_lay_34 rfl rfl ?_
  refine jx_iast (pc := 35) hX oC_4 _ r2 hl d_P_lay_35 ?_
  refine jx_aload_n (pc := 36) hX d_P_lay_36 rfl rfl ?_
  refine g_P_18 (pc := 37) hX d_P_lay_37 ?_
  refine jx_aload_n (pc := 40) hX d_P_lay_40 rfl rfl ?_
  refine g_P_34 (pc := 41) hX d_P_lay_41 ?_
  refine jx_iload_n (pc := 44) hX d_P_lay_44 rfl rfl ?_
  refine jx_iast (pc := 45) hX oC_5 _ r2 hl d_P_lay_45 ?_
  refine jx_aload_n (pc := 46) hX d_P_lay_46 rfl rfl ?_
  refine jx_dup (pc := 47) hX d_P_lay_47 rfl ?_
  refine g_P_34 (pc := 48) hX d_P_lay_48 ?_
  refine jx_iconst (pc := 51) hX (v := 1) d_P_lay_51 rfl ?_
  refine jx_iadd (pc := 52) hX d_P_lay_52 ?_
  refine p_P_34 (pc := 53) hX d_P_lay_53 ?_
  refine jx_aload_n (pc := 56) hX d_P_lay_56 rfl rfl ?_
  refine g_P_24 (pc := 57) hX d_P_lay_57 ?_
  refine jx_iload_n (pc := 60) hX d_P_lay_60 rfl rfl ?_
  refine jx_iload_n (pc := 61) hX d_P_lay_61 rfl rfl ?_
  refine jx_iconst (pc := 62) hX (v := 1) d_P_lay_62 rfl ?_
  refine jx_iadd (pc := 63) hX d_P_lay_63 ?_
  refine jx_top (y := nI (max (P.c a) (P.c b) + 1)) (nI_1 _) ?_
  refine jx_iast (pc := 64) hX oC_7 _ rfl (show a < 8 by omega) d_P_lay_64 ?_
  refine jx_aload_n (pc := 65) hX d_P_lay_65 rfl rfl ?_
  refine g_P_24 (pc := 66) hX d_P_lay_66 ?_
  refine jx_iload_n (pc := 69) hX d_P_lay_69 rfl rfl ?_
  refine jx_iload_n (pc := 70) hX d_P_lay_70 rfl rfl ?_
  refine jx_iconst (pc := 71) hX (v := 1) d_P_lay_71 rfl ?_
  refine jx_iadd (pc := 72) hX d_P_lay_72 ?_
  refine jx_top (y := nI (max (P.c a) (P.c b) + 1)) (nI_1 _) ?_
  refine jx_iast (pc := 73) hX oC_7 _ rfl (show b < 8 by omega) d_P_lay_73 ?_
  refine jx_aload_n (pc := 74) hX d_P_lay_74 rfl rfl ?_
  refine jx_aload_n (pc := 75) hX d_P_lay_75 rfl rfl ?_
  refine g_P_37 (pc := 76) hX d_P_lay_76 ?_
  refine jx_top (y := nI P.k) (r3) ?_
  refine jx_iload_n (pc := 79) hX d_P_lay_79 rfl rfl ?_
  refine jx_iconst (pc := 80) hX (v := 1) d_P_lay_80 rfl ?_
  refine jx_iadd (pc := 81) hX d_P_lay_81 ?_
  refine jx_top (y := nI (max (P.c a) (P.c b) + 1)) (nI_1 _) ?_
  refine jx_max (pc := 82) hX w_P_62 ⟨(Nat.le_of_ble_eq_true rfl), (Nat.le_of_ble_eq_true rfl), Nat.zero_le _, Nat.zero_le _⟩ d_P_lay_82 ?_
  refine jx_top (y := nI (max P.k (max (P.c a) (P.c b) + 1))) (nI_max (by omega) (by omega)) ?_
  refine p_P_37 (pc := 85) hX d_P_lay_85 ?_
  exact jx_vret (pc := 88) hX d_P_lay_88 (⟨⟨po.lay ha hb, r1, by show σ.1 2 + 1 = _; rw [r2, nI_1]; congr 1; exact (Pl.lay_len P a b).symm, rfl, AR_app (q := (a, b, max (P.c a) (P.c b))) (g := fun q => q.1) r4 rfl, AR_app (q := (a, b, max (P.c a) (P.c b))) (g := fun q => q.2.1) r5 rfl, AR_app (q := (a, b, max (P.c a) (P.c b))) (g := fun q => q.2.2) r6 rfl, r7, (r8.up a rfl).up b rfl⟩, rfl⟩)
set_option maxRecDepth 100000 in
set_option maxHeartbeats 4000000 in
theorem t_P_joinParts {l : Launch} {D : va_G} {ad : Nat → Nat} {ac : Nat → ClassId} (σ : St) (w : Nat) (P : Pl) (hw8 : w ≤ 8) (hR : relP σ w P) (fr hf : Nat) (hfr : fr + 2 * hf ≤ w) (hl : P.l.length + hf ≤ 24) : jMv l (yC D ad ac) mt_P_joinParts TT (rmk 2) [.ref (ad 21), .int (nI fr), .int (nI hf)] σ (fun u => relP u w (P.join fr hf)) := by
  refine jMv_of (by decide) (Nat.le_of_ble_eq_true rfl) (List.forall_mem_cons.mpr ⟨rfl, List.forall_mem_cons.mpr ⟨rfl, List.forall_mem_cons.mpr ⟨rfl, fun _ h => absurd h List.not_mem_nil⟩⟩⟩) ?_
  intro X A hX
  have hX : jX X (yC D ad ac) A b_P_joinParts 4 RP (mt_P_joinParts.w :: TT) (rmk 2) none := hX
  show jW l X (yC D ad ac) A 4 0 0 kT (jQv X (yC D ad ac) A (fun u => relP u w (P.join fr hf))) σ 0 [(0, .ref (ad 21)), (1, .int (nI fr)), (2, .int (nI hf))] []
  have loop : ∀ (fu : Nat) (i : Nat) (σ1 : St), hf - i = fu → i ≤ hf → relP σ1 w (Pl.jnL fr hf i P) → AR (2 * i) nI (σ1.2 8) (jr P.r fr hf) → jW l X (yC D ad ac) A 4 0 0 kT (jQv X (yC D ad ac) A (fun u => relP u w (P.join fr hf))) σ1 2 [(0, .ref (ad 21)), (1, .int (nI fr)), (2, .int (nI hf)), (3, .int (nI i))] [] := by
    intro fu
    induction fu using Nat.strongRecOn with
    | ind fu ih =>
      intro i σ1 hfu hi hR1 hS
      obtain ⟨po, r1, r2, r3, r4, r5, r6, r7, r8⟩ := id hR1
      rw [Pl.jnL_r] at r7
      have hlen := Pl.jnL_len fr hf i P
      refine jx_iload_n (pc := 2) hX d_P_joinParts_2 rfl rfl ?_
      refine jx_iload_n (pc := 3) hX d_P_joinParts_3 rfl rfl ?_
      refine jx_icmp_ge (pc := 4) hX 71 d_P_joinParts_4 rfl (fun q4 => ?_) (fun q4 => ?_)
      · have hge : i = hf := by have : hf ≤ i := (nI_leI (by omega) (by omega)).mp q4; omega
        refine jx_aload_n (pc := 71) hX d_P_joinParts_71 rfl rfl ?_
        refine g_P_27 (pc := 72) hX d_P_joinParts_72 ?_
        refine jx_iconst (pc := 75) hX (v := 0) d_P_joinParts_75 rfl ?_
        refine jx_aload_n (pc := 76) hX d_P_joinParts_76 rfl rfl ?_
        refine g_P_21 (pc := 77) hX d_P_joinParts_77 ?_
        refine jx_iload_n (pc := 80) hX d_P_joinParts_80 rfl rfl ?_
        refine jx_iconst (pc := 81) hX (v := 2) d_P_joinParts_81 rfl ?_
        refine jx_iload_n (pc := 82) hX d_P_joinParts_82 rfl rfl ?_
        refine jx_imul (pc := 83) hX d_P_joinParts_83 ?_
        refine jx_top (y := nI (2 * hf)) (pk_mul 2 hf) ?_
        refine jx_copy (pc := 84) hX w_P_56 oC_8 oC_6 0 fr (2 * hf) rfl rfl rfl (show 0 + 2 * hf ≤ 8 by omega) (show fr + 2 * hf ≤ 8 by omega) (Nat.le_of_ble_eq_true rfl) (Nat.le_of_ble_eq_true rfl) d_P_joinParts_84 ?_
        exact jx_vret (pc := 87) hX d_P_joinParts_87 (by subst hge; have po2 : Pok w P := hR.1; exact ⟨⟨fun j hj => ⟨((po2.back (fr := fr) (jr_lt po2 hfr)).1 j hj).1, (po.1 j hj).2⟩, po.2⟩, r1, r2, r3, r4, r5, r6, AR_bk r7 hS, r8⟩)
      · have hlt : i < hf := Nat.lt_of_not_le (fun q => q4 (nI_le q (by omega)))
        refine jx_aload_n (pc := 7) hX d_P_joinParts_7 rfl rfl ?_
        refine g_P_27 (pc := 8) hX d_P_joinParts_8 ?_
        refine jx_iconst (pc := 11) hX (v := 2) d_P_joinParts_11 rfl ?_
        refine jx_iload_n (pc := 12) hX d_P_joinParts_12 rfl rfl ?_
        refine jx_imul (pc := 13) hX d_P_joinParts_13 ?_
        refine jx_top (y := nI (2 * i)) (pk_mul 2 i) ?_
        refine jx_aload_n (pc := 14) hX d_P_joinParts_14 rfl rfl ?_
        refine g_P_21 (pc := 15) hX d_P_joinParts_15 ?_
        refine jx_iload_n (pc := 18) hX d_P_joinParts_18 rfl rfl ?_
        refine jx_iload_n (pc := 19) hX d_P_joinParts_19 rfl rfl ?_
        refine jx_iadd (pc := 20) hX d_P_joinParts_20 ?_
        refine jx_top (y := nI (fr + i)) (nI_add _ _) ?_
        refine jx_iald (pc := 21) hX oC_6 _ rfl (show fr + i < 8 by omega) d_P_joinParts_21 ?_
        refine jx_top (y := nI (P.r (fr + i))) (r7 _ (by omega)) ?_
        refine jx_iast (pc := 22) hX oC_8 _ rfl (show 2 * i < 8 by omega) d_P_joinParts_22 ?_
        refine jx_aload_n (pc := 23) hX d_P_joinParts_23 rfl rfl ?_
        refine g_P_27 (pc := 24) hX d_P_joinParts_24 ?_
        refine jx_iconst (pc := 27) hX (v := 2) d_P_joinParts_27 rfl ?_
        refine jx_iload_n (pc := 28) hX d_P_joinParts_28 rfl rfl ?_
        refine jx_imul (pc := 29) hX d_P_joinParts_29 ?_
        refine jx_top (y := nI (2 * i)) (pk_mul 2 i) ?_
        refine jx_iconst (pc := 30) hX (v := 1) d_P_joinParts_30 rfl ?_
        refine jx_iadd (pc := 31) hX d_P_joinParts_31 ?_
        refine jx_top (y := nI (2 * i + 1)) (nI_1 _) ?_
        refine jx_aload_n (pc := 32) hX d_P_joinParts_32 rfl rfl ?_
        refine g_P_21 (pc := 33) hX d_P_joinParts_33 ?_
        refine jx_iload_n (pc := 36) hX d_P_joinParts_36 rfl rfl ?_
        refine jx_iload_n (pc := 37) hX d_P_joinParts_37 rfl rfl ?_
        refine jx_iadd (pc := 38) hX d_P_joinParts_38 ?_
        refine jx_top (y := nI (fr + hf)) (nI_add _ _) ?_
        refine jx_iload_n (pc := 39) hX d_P_joinParts_39 rfl rfl ?_
        refine jx_iadd (pc := 40) hX d_P_joinParts_40 ?_
        refine jx_top (y := nI (fr + hf + i)) (nI_add _ _) ?_
        refine jx_iald (pc := 41) hX oC_6 _ rfl (show fr + hf + i < 8 by omega) d_P_joinParts_41 ?_
        refine jx_top (y := nI (P.r (fr + hf + i))) (r7 _ (by omega)) ?_
        refine jx_iast (pc := 42) hX oC_8 _ rfl (show 2 * i + 1 < 8 by omega) d_P_joinParts_42 ?_
        refine jx_aload_n (pc := 43) hX d_P_joinParts_43 rfl rfl ?_
        refine jx_aload_n (pc := 44) hX d_P_joinParts_44 rfl rfl ?_
        refine g_P_27 (pc := 45) hX d_P_joinParts_45 ?_
        refine jx_iconst (pc := 48) hX (v := 2) d_P_joinParts_48 rfl ?_
        refine jx_iload_n (pc := 49) hX d_P_joinParts_49 rfl rfl ?_
        refine jx_imul (pc := 50) hX d_P_joinParts_50 ?_
        refine jx_top (y := nI (2 * i)) (pk_mul 2 i) ?_
        refine jx_iald (pc := 51) hX oC_8 _ rfl (show 2 * i < 8 by omega) d_P_joinParts_51 ?_
        refine jx_top (y := nI (P.r (fr + i))) (by show upd (upd (σ1.2 8) (2 * i) (nI (P.r (fr + i)))) (2 * i + 1) (nI (P.r (fr + hf + i))) (2 * i) = _; rw [pk_un (by omega), pk_us]) ?_
        refine jx_aload_n (pc := 52) hX d_P_joinParts_52 rfl rfl ?_
        refine g_P_27 (pc := 53) hX d_P_joinParts_53 ?_
        refine jx_iconst (pc := 56) hX (v := 2) d_P_joinParts_56 rfl ?_
        refine jx_iload_n (pc := 57) hX d_P_joinParts_57 rfl rfl ?_
        refine jx_imul (pc := 58) hX d_P_joinParts_58 ?_
        refine jx_top (y := nI (2 * i)) (pk_mul 2 i) ?_
        refine jx_iconst (pc := 59) hX (v := 1) d_P_joinParts_59 rfl ?_
        refine jx_iadd (pc := 60) hX d_P_joinParts_60 ?_
        refine jx_top (y := nI (2 * i + 1)) (nI_1 _) ?_
        refine jx_iald (pc := 61) hX oC_8 _ rfl (show 2 * i + 1 < 8 by omega) d_P_joinParts_61 ?_
        refine jx_top (y := nI (P.r (fr + hf + i))) (by show upd (upd (σ1.2 8) (2 * i) (nI (P.r (fr + i)))) (2 * i + 1) (nI (P.r (fr + hf + i))) (2 * i + 1) = _; rw [pk_us]) ?_
        refine k_P_47 (pc := 62) hX (t_P_lay (sA (sA σ1 8 (2 * i) (nI (P.r (fr + i)))) 8 (2 * i + 1) (nI (P.r (fr + hf + i)))) w (Pl.jnL fr hf i P) hw8 ⟨po, r1, r2, r3, r4, r5, r6, by rw [Pl.jnL_r]; exact r7, r8⟩ (by omega) (P.r (fr + i)) (P.r (fr + hf + i)) (by have := po.1 (fr + i) (by omega); rw [Pl.jnL_r] at this; exact this.1) (by have := po.1 (fr + hf + i) (by omega); rw [Pl.jnL_r] at this; exact this.1)) ⟨rfl, rfl, (Nat.le_of_ble_eq_true rfl), (Nat.le_of_ble_eq_true rfl)⟩ rfl rfl (Nat.le_of_ble_eq_true rfl) ⟨Nat.zero_le _, Nat.zero_le _⟩ d_P_joinParts_62 (fun u hu => ?_)
        refine jx_iinc (pc := 65) hX (v := nI (i + 1)) d_P_joinParts_65 rfl (nI_1 i) (by decide) (L' := [(0, _), (1, _), (2, _), (3, _)]) rfl ?_
        refine jx_goto (pc := 68) hX 2 d_P_joinParts_68 rfl ?_
        exact ih _ (by omega) (i + 1) u rfl (by omega) hu.1 (by rw [hu.2]; exact jr_s hS rfl rfl)
  refine jx_iconst (pc := 0) hX (v := 0) d_P_joinParts_0 rfl ?_
  refine jx_istore_n (pc := 1) hX d_P_joinParts_1 rfl (by decide) (L' := [(0, _), (1, _), (2, _), (3, _)]) rfl ?_
  exact loop _ 0 σ rfl (Nat.zero_le _) hR (fun p hp => absurd hp (by omega))
set_option maxRecDepth 100000 in
set_option maxHeartbeats 4000000 in
theorem t_P_sortIntoParts {l : Launch} {D : va_G} {ad : Nat → Nat} {ac : Nat → ClassId} (σ : St) (w : Nat) (P : Pl) (hw8 : w ≤ 8) (hR : relP σ w P) (fr hf : Nat) (hfr : fr + 2 * hf ≤ w) (h2 : hf % 2 = 0) : jMv l (yC D ad ac) mt_P_sortIntoParts TT (rmk 1) [.ref (ad 21), .int (nI fr), .int (nI hf)] σ (fun u => relP u w (P.sort fr hf)) := by
  refine jMv_of (by decide) (Nat.le_of_ble_eq_true rfl) (List.forall_mem_cons.mpr ⟨rfl, List.forall_mem_cons.mpr ⟨rfl, List.forall_mem_cons.mpr ⟨rfl, fun _ h => absurd h List.not_mem_nil⟩⟩⟩) ?_
  intro X A hX
  have hX : jX X (yC D ad ac) A b_P_sortIntoParts 6 RP (mt_P_sortIntoParts.w :: TT) (rmk 1) none := hX
  show jW l X (yC D ad ac) A 6 0 0 kT (jQv X (yC D ad ac) A (fun u => relP u w (P.sort fr hf))) σ 0 [(0, .ref (ad 21)), (1, .int (nI fr)), (2, .int (nI hf))] []
  have loop : ∀ (fu : Nat) (i : Nat) (σ1 : St), hf - i = fu → i ≤ hf → relP σ1 w P → sOk P.r (σ1.2 8) fr hf i → jW l X (yC D ad ac) A 6 0 0 kT (jQv X (yC D ad ac) A (fun u => relP u w (P.sort fr hf))) σ1 7 [(0, .ref (ad 21)), (1, .int (nI fr)), (2, .int (nI hf)), (3, .int (nI (hf / 2))), (4, .int (nI i))] [] := by
    intro fu
    induction fu using Nat.strongRecOn with
    | ind fu ih =>
      intro i σ1 hfu hi hR1 hS
      obtain ⟨po, r1, r2, r3, r4, r5, r6, r7, r8⟩ := id hR1
      refine jx_iload (pc := 7) hX d_P_sortIntoParts_7 rfl ?_
      refine jx_iload_n (pc := 9) hX d_P_sortIntoParts_9 rfl rfl ?_
      refine jx_icmp_ge (pc := 10) hX 95 d_P_sortIntoParts_10 rfl (fun q10 => ?_) (fun q10 => ?_)
      · have hge : i = hf := by have : hf ≤ i := (nI_leI (by omega) (by omega)).mp q10; omega
        refine jx_aload_n (pc := 95) hX d_P_sortIntoParts_95 rfl rfl ?_
        refine g_P_27 (pc := 96) hX d_P_sortIntoParts_96 ?_
        refine jx_iconst (pc := 99) hX (v := 0) d_P_sortIntoParts_99 rfl ?_
        refine jx_aload_n (pc := 100) hX d_P_sortIntoParts_100 rfl rfl ?_
        refine g_P_21 (pc := 101) hX d_P_sortIntoParts_101 ?_
        refine jx_iload_n (pc := 104) hX d_P_sortIntoParts_104 rfl rfl ?_
        refine jx_iconst (pc := 105) hX (v := 2) d_P_sortIntoParts_105 rfl ?_
        refine jx_iload_n (pc := 106) hX d_P_sortIntoParts_106 rfl rfl ?_
        refine jx_imul (pc := 107) hX d_P_sortIntoParts_107 ?_
        refine jx_top (y := nI (2 * hf)) (pk_mul 2 hf) ?_
        refine jx_copy (pc := 108) hX w_P_56 oC_8 oC_6 0 fr (2 * hf) rfl rfl rfl (show 0 + 2 * hf ≤ 8 by omega) (show fr + 2 * hf ≤ 8 by omega) (Nat.le_of_ble_eq_true rfl) (Nat.le_of_ble_eq_true rfl) d_P_sortIntoParts_108 ?_
        exact jx_vret (pc := 111) hX d_P_sortIntoParts_111 (by subst hge; exact ⟨po.back (sor_lt po hfr h2), r1, r2, r3, r4, r5, r6, AR_bk r7 (sOk_all h2 hS), r8⟩)
      · have hlt : i < hf := Nat.lt_of_not_le (fun q => q10 (nI_le q (by omega)))
        refine jx_iload (pc := 13) hX d_P_sortIntoParts_13 rfl ?_
        refine jx_iconst (pc := 15) hX (v := 2) d_P_sortIntoParts_15 rfl ?_
        refine jx_irem (pc := 16) hX d_P_sortIntoParts_16 (by decide) ?_
        refine jx_top (y := nI (i % 2)) (pk_rem (by omega) (by decide) (by decide)) ?_
        refine jx_if_ne (pc := 17) hX 24 d_P_sortIntoParts_17 rfl (fun q17a => ?_) (fun q17a => ?_)
        · have q17 : ¬ i % 2 = 0 := fun q => q17a (by rw [q]; decide)
          refine jx_iconst (pc := 24) hX (v := 0) d_P_sortIntoParts_24 rfl ?_
          refine jx_istore (pc := 25) hX d_P_sortIntoParts_25 (by decide) (L' := [(0, _), (1, _), (2, _), (3, _), (4, _), (5, _)]) rfl ?_
          try rw [show (0 : Int32) = 0 from rfl]
          refine jx_aload_n (pc := 27) hX d_P_sortIntoParts_27 rfl rfl ?_
          refine g_P_27 (pc := 28) hX d_P_sortIntoParts_28 ?_
          refine jx_iload (pc := 31) hX d_P_sortIntoParts_31 rfl ?_
          refine jx_if_eq (pc := 33) hX 40 d_P_sortIntoParts_33 rfl (fun _ => ?_) (fun hh => absurd (rfl) hh)
          refine jx_iload_n (pc := 40) hX d_P_sortIntoParts_40 rfl rfl ?_
          refine jx_iload (pc := 41) hX d_P_sortIntoParts_41 rfl ?_
          refine jx_iconst (pc := 43) hX (v := 2) d_P_sortIntoParts_43 rfl ?_
          refine jx_idiv (pc := 44) hX d_P_sortIntoParts_44 (by decide) ?_
          refine jx_top (y := nI (i / 2)) (pk_div (by omega) (by decide) (by decide)) ?_
          refine jx_iadd (pc := 45) hX d_P_sortIntoParts_45 ?_
          refine jx_top (y := nI (hf + i / 2)) (nI_add _ _) ?_
          refine jx_aload_n (pc := 46) hX d_P_sortIntoParts_46 rfl rfl ?_
          refine g_P_21 (pc := 47) hX d_P_sortIntoParts_47 ?_
          refine jx_iload_n (pc := 50) hX d_P_sortIntoParts_50 rfl rfl ?_
          refine jx_iload (pc := 51) hX d_P_sortIntoParts_51 rfl ?_
          refine jx_iadd (pc := 53) hX d_P_sortIntoParts_53 ?_
          refine jx_top (y := nI (fr + i)) (nI_add _ _) ?_
          refine jx_iald (pc := 54) hX oC_6 _ rfl (show fr + i < 8 by omega) d_P_sortIntoParts_54 ?_
          refine jx_top (y := nI (P.r (fr + i))) (r7 _ (by omega)) ?_
          refine jx_iast (pc := 55) hX oC_8 _ rfl (show hf + i / 2 < 8 by omega) d_P_sortIntoParts_55 ?_
          refine jx_aload_n (pc := 56) hX d_P_sortIntoParts_56 rfl rfl ?_
          refine g_P_27 (pc := 57) hX d_P_sortIntoParts_57 ?_
          refine jx_iload (pc := 60) hX d_P_sortIntoParts_60 rfl ?_
          refine jx_if_eq (pc := 62) hX 69 d_P_sortIntoParts_62 rfl (fun _ => ?_) (fun hh => absurd (rfl) hh)
          refine jx_iconst (pc := 69) hX (v := 0) d_P_sortIntoParts_69 rfl ?_
          refine jx_iload_n (pc := 70) hX d_P_sortIntoParts_70 rfl rfl ?_
          refine jx_iadd (pc := 71) hX d_P_sortIntoParts_71 ?_
          refine jx_top (y := nI (0 + hf / 2)) (nI_add 0 _) ?_
          refine jx_iload (pc := 72) hX d_P_sortIntoParts_72 rfl ?_
          refine jx_iconst (pc := 74) hX (v := 2) d_P_sortIntoParts_74 rfl ?_
          refine jx_idiv (pc := 75) hX d_P_sortIntoParts_75 (by decide) ?_
          refine jx_top (y := nI (i / 2)) (pk_div (by omega) (by decide) (by decide)) ?_
          refine jx_iadd (pc := 76) hX d_P_sortIntoParts_76 ?_
          refine jx_top (y := nI (0 + hf / 2 + i / 2)) (nI_add _ _) ?_
          refine jx_aload_n (pc := 77) hX d_P_sortIntoParts_77 rfl rfl ?_
          refine g_P_21 (pc := 78) hX d_P_sortIntoParts_78 ?_
          refine jx_iload_n (pc := 81) hX d_P_sortIntoParts_81 rfl rfl ?_
          refine jx_iload_n (pc := 82) hX d_P_sortIntoParts_82 rfl rfl ?_
          refine jx_iadd (pc := 83) hX d_P_sortIntoParts_83 ?_
          refine jx_top (y := nI (fr + hf)) (nI_add _ _) ?_
          refine jx_iload (pc := 84) hX d_P_sortIntoParts_84 rfl ?_
          refine jx_iadd (pc := 86) hX d_P_sortIntoParts_86 ?_
          refine jx_top (y := nI (fr + hf + i)) (nI_add _ _) ?_
          refine jx_iald (pc := 87) hX oC_6 _ rfl (show fr + hf + i < 8 by omega) d_P_sortIntoParts_87 ?_
          refine jx_top (y := nI (P.r (fr + hf + i))) (r7 _ (by omega)) ?_
          refine jx_iast (pc := 88) hX oC_8 _ rfl (show 0 + hf / 2 + i / 2 < 8 by omega) d_P_sortIntoParts_88 ?_
          refine jx_iinc (pc := 89) hX (v := nI (i + 1)) d_P_sortIntoParts_89 rfl (nI_1 i) (by decide) (L' := [(0, _), (1, _), (2, _), (3, _), (4, _), (5, _)]) rfl ?_
          refine jx_goto (pc := 92) hX 7 d_P_sortIntoParts_92 rfl ?_
          refine jx_take 5 ?_
          exact ih _ (by omega) (i + 1) (sA (sA σ1 8 (hf + i / 2) (nI (P.r (fr + i)))) 8 (0 + hf / 2 + i / 2) (nI (P.r (fr + hf + i)))) rfl (by omega) ⟨po, r1, r2, r3, r4, r5, r6, r7, r8⟩ (sOk_s h2 hlt hS (by rw [if_neg q17]) (by rw [if_neg q17]) rfl rfl)
        · have q17 : i % 2 = 0 := (nI_n0 (by omega)).mp q17a
          refine jx_iconst (pc := 20) hX (v := 1) d_P_sortIntoParts_20 rfl ?_
          refine jx_goto (pc := 21) hX 25 d_P_sortIntoParts_21 rfl ?_
          refine jx_istore (pc := 25) hX d_P_sortIntoParts_25 (by decide) (L' := [(0, _), (1, _), (2, _), (3, _), (4, _), (5, _)]) rfl ?_
          try rw [show (0 : Int32) = 0 from rfl]
          refine jx_aload_n (pc := 27) hX d_P_sortIntoParts_27 rfl rfl ?_
          refine g_P_27 (pc := 28) hX d_P_sortIntoParts_28 ?_
          refine jx_iload (pc := 31) hX d_P_sortIntoParts_31 rfl ?_
          refine jx_if_eq (pc := 33) hX 40 d_P_sortIntoParts_33 rfl (fun hh => absurd hh (by decide)) (fun _ => ?_)
          refine jx_iconst (pc := 36) hX (v := 0) d_P_sortIntoParts_36 rfl ?_
          refine jx_goto (pc := 37) hX 41 d_P_sortIntoParts_37 rfl ?_
          refine jx_iload (pc := 41) hX d_P_sortIntoParts_41 rfl ?_
          refine jx_iconst (pc := 43) hX (v := 2) d_P_sortIntoParts_43 rfl ?_
          refine jx_idiv (pc := 44) hX d_P_sortIntoParts_44 (by decide) ?_
          refine jx_top (y := nI (i / 2)) (pk_div (by omega) (by decide) (by decide)) ?_
          refine jx_iadd (pc := 45) hX d_P_sortIntoParts_45 ?_
          refine jx_top (y := nI (0 + i / 2)) (nI_add 0 _) ?_
          refine jx_aload_n (pc := 46) hX d_P_sortIntoParts_46 rfl rfl ?_
          refine g_P_21 (pc := 47) hX d_P_sortIntoParts_47 ?_
          refine jx_iload_n (pc := 50) hX d_P_sortIntoParts_50 rfl rfl ?_
          refine jx_iload (pc := 51) hX d_P_sortIntoParts_51 rfl ?_
          refine jx_iadd (pc := 53) hX d_P_sortIntoParts_53 ?_
          refine jx_top (y := nI (fr + i)) (nI_add _ _) ?_
          refine jx_iald (pc := 54) hX oC_6 _ rfl (show fr + i < 8 by omega) d_P_sortIntoParts_54 ?_
          refine jx_top (y := nI (P.r (fr + i))) (r7 _ (by omega)) ?_
          refine jx_iast (pc := 55) hX oC_8 _ rfl (show 0 + i / 2 < 8 by omega) d_P_sortIntoParts_55 ?_
          refine jx_aload_n (pc := 56) hX d_P_sortIntoParts_56 rfl rfl ?_
          refine g_P_27 (pc := 57) hX d_P_sortIntoParts_57 ?_
          refine jx_iload (pc := 60) hX d_P_sortIntoParts_60 rfl ?_
          refine jx_if_eq (pc := 62) hX 69 d_P_sortIntoParts_62 rfl (fun hh => absurd hh (by decide)) (fun _ => ?_)
          refine jx_iload_n (pc := 65) hX d_P_sortIntoParts_65 rfl rfl ?_
          refine jx_goto (pc := 66) hX 70 d_P_sortIntoParts_66 rfl ?_
          refine jx_iload_n (pc := 70) hX d_P_sortIntoParts_70 rfl rfl ?_
          refine jx_iadd (pc := 71) hX d_P_sortIntoParts_71 ?_
          refine jx_top (y := nI (hf + hf / 2)) (nI_add _ _) ?_
          refine jx_iload (pc := 72) hX d_P_sortIntoParts_72 rfl ?_
          refine jx_iconst (pc := 74) hX (v := 2) d_P_sortIntoParts_74 rfl ?_
          refine jx_idiv (pc := 75) hX d_P_sortIntoParts_75 (by decide) ?_
          refine jx_top (y := nI (i / 2)) (pk_div (by omega) (by decide) (by decide)) ?_
          refine jx_iadd (pc := 76) hX d_P_sortIntoParts_76 ?_
          refine jx_top (y := nI (hf + hf / 2 + i / 2)) (nI_add _ _) ?_
          refine jx_aload_n (pc := 77) hX d_P_sortIntoParts_77 rfl rfl ?_
          refine g_P_21 (pc := 78) hX d_P_sortIntoParts_78 ?_
          refine jx_iload_n (pc := 81) hX d_P_sortIntoParts_81 rfl rfl ?_
          refine jx_iload_n (pc := 82) hX d_P_sortIntoParts_82 rfl rfl ?_
          refine jx_iadd (pc := 83) hX d_P_sortIntoParts_83 ?_
          refine jx_top (y := nI (fr + hf)) (nI_add _ _) ?_
          refine jx_iload (pc := 84) hX d_P_sortIntoParts_84 rfl ?_
          refine jx_iadd (pc := 86) hX d_P_sortIntoParts_86 ?_
          refine jx_top (y := nI (fr + hf + i)) (nI_add _ _) ?_
          refine jx_iald (pc := 87) hX oC_6 _ rfl (show fr + hf + i < 8 by omega) d_P_sortIntoParts_87 ?_
          refine jx_top (y := nI (P.r (fr + hf + i))) (r7 _ (by omega)) ?_
          refine jx_iast (pc := 88) hX oC_8 _ rfl (show hf + hf / 2 + i / 2 < 8 by omega) d_P_sortIntoParts_88 ?_
          refine jx_iinc (pc := 89) hX (v := nI (i + 1)) d_P_sortIntoParts_89 rfl (nI_1 i) (by decide) (L' := [(0, _), (1, _), (2, _), (3, _), (4, _), (5, _)]) rfl ?_
          refine jx_goto (pc := 92) hX 7 d_P_sortIntoParts_92 rfl ?_
          refine jx_take 5 ?_
          exact ih _ (by omega) (i + 1) (sA (sA σ1 8 (0 + i / 2) (nI (P.r (fr + i)))) 8 (hf + hf / 2 + i / 2) (nI (P.r (fr + hf + i)))) rfl (by omega) ⟨po, r1, r2, r3, r4, r5, r6, r7, r8⟩ (sOk_s h2 hlt hS (by rw [if_pos q17]) (by rw [if_pos q17]) rfl rfl)
  refine jx_iload_n (pc := 0) hX d_P_sortIntoParts_0 rfl rfl ?_
  refine jx_iconst (pc := 1) hX (v := 2) d_P_sortIntoParts_1 rfl ?_
  refine jx_idiv (pc := 2) hX d_P_sortIntoParts_2 (by decide) ?_
  refine jx_top (y := nI (hf / 2)) (pk_div (by omega) (by decide) (by decide)) ?_
  refine jx_istore_n (pc := 3) hX d_P_sortIntoParts_3 rfl (by decide) (L' := [(0, _), (1, _), (2, _), (3, _)]) rfl ?_
  refine jx_iconst (pc := 4) hX (v := 0) d_P_sortIntoParts_4 rfl ?_
  refine jx_istore (pc := 5) hX d_P_sortIntoParts_5 (by decide) (L' := [(0, _), (1, _), (2, _), (3, _), (4, _)]) rfl ?_
  exact loop _ 0 σ rfl (Nat.zero_le _) hR sOk_0
set_option maxRecDepth 100000 in
set_option maxHeartbeats 4000000 in
theorem t_P_merge0 {l : Launch} {D : va_G} {ad : Nat → Nat} {ac : Nat → ClassId} (σ : St) (w : Nat) (P : Pl) (hw8 : w ≤ 8) (hR : relP σ w P) (fr : Nat) (hfr : fr + 2 ≤ w) (hl : P.l.length + 1 ≤ 24) : jMv l (yC D ad ac) mt_P_merge TT (rmk 2) [.ref (ad 21), .int (nI fr), .int (nI 2)] σ (fun u => relP u w (P.m0 fr)) := by
  obtain ⟨po, r1, r2, r3, r4, r5, r6, r7, r8⟩ := id hR
  refine jMv_of (by decide) (Nat.le_of_ble_eq_true rfl) (List.forall_mem_cons.mpr ⟨rfl, List.forall_mem_cons.mpr ⟨rfl, List.forall_mem_cons.mpr ⟨rfl, fun _ h => absurd h List.not_mem_nil⟩⟩⟩) ?_
  intro X A hX
  have hX : jX X (yC D ad ac) A b_P_merge 4 RP (mt_P_merge.w :: TT) (rmk 2) none := hX
  show jW l X (yC D ad ac) A 4 0 0 kT (jQv X (yC D ad ac) A (fun u => relP u w (P.m0 fr))) σ 0 [(0, .ref (ad 21)), (1, .int (nI fr)), (2, .int (nI 2))] []
  refine jx_iload_n (pc := 0) hX d_P_merge_0 rfl rfl ?_
  refine jx_iconst (pc := 1) hX (v := 2) d_P_merge_1 rfl ?_
  refine jx_icmp_gt (pc := 2) hX 24 d_P_merge_2 rfl (fun hh => absurd hh (by decide)) (fun _ => ?_)
  refine jx_aload_n (pc := 5) hX d_P_merge_5 rfl rfl ?_
  refine jx_aload_n (pc := 6) hX d_P_merge_6 rfl rfl ?_
  refine g_P_21 (pc := 7) hX d_P_merge_7 ?_
  refine jx_iload_n (pc := 10) hX d_P_merge_10 rfl rfl ?_
  refine jx_iald (pc := 11) hX oC_6 _ rfl (show fr < 8 by omega) d_P_merge_11 ?_
  refine jx_top (y := nI (P.r fr)) (r7 _ (by omega)) ?_
  refine jx_aload_n (pc := 12) hX d_P_merge_12 rfl rfl ?_
  refine g_P_21 (pc := 13) hX d_P_merge_13 ?_
  refine jx_iload_n (pc := 16) hX d_P_merge_16 rfl rfl ?_
  refine jx_iconst (pc := 17) hX (v := 1) d_P_merge_17 rfl ?_
  refine jx_iadd (pc := 18) hX d_P_merge_18 ?_
  refine jx_top (y := nI (fr + 1)) (nI_1 _) ?_
  refine jx_iald (pc := 19) hX oC_6 _ rfl (show fr + 1 < 8 by omega) d_P_merge_19 ?_
  refine jx_top (y := nI (P.r (fr + 1))) (r7 _ (by omega)) ?_
  refine k_P_47 (pc := 20) hX (t_P_lay σ w P hw8 hR (by omega) (P.r fr) (P.r (fr + 1)) (po.1 _ (by omega)).1 (po.1 _ (by omega)).1) ⟨rfl, rfl, (Nat.le_of_ble_eq_true rfl), (Nat.le_of_ble_eq_true rfl)⟩ rfl rfl (Nat.le_of_ble_eq_true rfl) ⟨Nat.zero_le _, Nat.zero_le _⟩ d_P_merge_20 (fun u hu => ?_)
  exact jx_vret (pc := 23) hX d_P_merge_23 (hu.1)
set_option maxRecDepth 100000 in
set_option maxHeartbeats 4000000 in
theorem t_P_merge1 {l : Launch} {D : va_G} {ad : Nat → Nat} {ac : Nat → ClassId} (σ : St) (w : Nat) (P : Pl) (hw8 : w ≤ 8) (hR : relP σ w P) (fr : Nat) (hfr : fr + 4 ≤ w) (hl : P.l.length + 4 ≤ 24) : jMv l (yC D ad ac) mt_P_merge TT (rmk 4) [.ref (ad 21), .int (nI fr), .int (nI 4)] σ (fun u => relP u w (P.m1 fr)) := by
  refine jMv_of (by decide) (Nat.le_of_ble_eq_true rfl) (List.forall_mem_cons.mpr ⟨rfl, List.forall_mem_cons.mpr ⟨rfl, List.forall_mem_cons.mpr ⟨rfl, fun _ h => absurd h List.not_mem_nil⟩⟩⟩) ?_
  intro X A hX
  have hX : jX X (yC D ad ac) A b_P_merge 4 RP (mt_P_merge.w :: TT) (rmk 4) none := hX
  show jW l X (yC D ad ac) A 4 0 0 kT (jQv X (yC D ad ac) A (fun u => relP u w (P.m1 fr))) σ 0 [(0, .ref (ad 21)), (1, .int (nI fr)), (2, .int (nI 4))] []
  refine jx_iload_n (pc := 0) hX d_P_merge_0 rfl rfl ?_
  refine jx_iconst (pc := 1) hX (v := 2) d_P_merge_1 rfl ?_
  refine jx_icmp_gt (pc := 2) hX 24 d_P_merge_2 rfl (fun _ => ?_) (fun hh => absurd (by decide) hh)
  refine jx_iload_n (pc := 24) hX d_P_merge_24 rfl rfl ?_
  refine jx_iconst (pc := 25) hX (v := 2) d_P_merge_25 rfl ?_
  refine jx_idiv (pc := 26) hX d_P_merge_26 (by decide) ?_
  refine jx_top (y := nI 2) (by decide) ?_
  refine jx_istore_n (pc := 27) hX d_P_merge_27 rfl (by decide) (L' := [(0, _), (1, _), (2, _), (3, _)]) rfl ?_
  refine jx_aload_n (pc := 28) hX d_P_merge_28 rfl rfl ?_
  refine jx_iload_n (pc := 29) hX d_P_merge_29 rfl rfl ?_
  refine jx_iload_n (pc := 30) hX d_P_merge_30 rfl rfl ?_
  refine k_P_50 (pc := 31) hX (t_P_sortIntoParts σ w P hw8 hR fr 2 (by omega) (by decide)) ⟨rfl, rfl, (Nat.le_of_ble_eq_true rfl), (Nat.le_of_ble_eq_true rfl)⟩ rfl rfl (Nat.le_of_ble_eq_true rfl) ⟨Nat.zero_le _, Nat.zero_le _⟩ d_P_merge_31 (fun u1 hu1 => ?_)
  refine jx_aload_n (pc := 34) hX d_P_merge_34 rfl rfl ?_
  refine jx_iload_n (pc := 35) hX d_P_merge_35 rfl rfl ?_
  refine jx_iload_n (pc := 36) hX d_P_merge_36 rfl rfl ?_
  refine k_P_44 (pc := 37) hX (t_P_merge0 u1 w (P.sort fr 2) hw8 hu1 fr (by omega) (show P.l.length + 1 ≤ 24 by omega)) ⟨rfl, rfl, (Nat.le_of_ble_eq_true rfl), (Nat.le_of_ble_eq_true rfl)⟩ rfl rfl (Nat.le_of_ble_eq_true rfl) ⟨Nat.zero_le _, Nat.zero_le _⟩ d_P_merge_37 (fun u2 hu2 => ?_)
  refine jx_aload_n (pc := 40) hX d_P_merge_40 rfl rfl ?_
  refine jx_iload_n (pc := 41) hX d_P_merge_41 rfl rfl ?_
  refine jx_iload_n (pc := 42) hX d_P_merge_42 rfl rfl ?_
  refine jx_iadd (pc := 43) hX d_P_merge_43 ?_
  refine jx_top (y := nI (fr + 2)) (nI_add _ _) ?_
  refine jx_iload_n (pc := 44) hX d_P_merge_44 rfl rfl ?_
  refine k_P_44 (pc := 45) hX (t_P_merge0 u2 w ((P.sort fr 2).m0 fr) hw8 hu2 (fr + 2) (by omega) (by rw [Pl.m0_len]; show P.l.length + 1 + 1 ≤ 24; omega)) ⟨rfl, rfl, (Nat.le_of_ble_eq_true rfl), (Nat.le_of_ble_eq_true rfl)⟩ rfl rfl (Nat.le_of_ble_eq_true rfl) ⟨Nat.zero_le _, Nat.zero_le _⟩ d_P_merge_45 (fun u3 hu3 => ?_)
  refine jx_aload_n (pc := 48) hX d_P_merge_48 rfl rfl ?_
  refine jx_iload_n (pc := 49) hX d_P_merge_49 rfl rfl ?_
  refine jx_iload_n (pc := 50) hX d_P_merge_50 rfl rfl ?_
  refine k_P_53 (pc := 51) hX (t_P_joinParts u3 w (((P.sort fr 2).m0 fr).m0 (fr + 2)) hw8 hu3 fr 2 (by omega) (by rw [Pl.m0_len, Pl.m0_len]; show P.l.length + 1 + 1 + 2 ≤ 24; omega)) ⟨rfl, rfl, (Nat.le_of_ble_eq_true rfl), (Nat.le_of_ble_eq_true rfl)⟩ rfl rfl (Nat.le_of_ble_eq_true rfl) ⟨Nat.zero_le _, Nat.zero_le _⟩ d_P_merge_51 (fun u4 hu4 => ?_)
  exact jx_vret (pc := 54) hX d_P_merge_54 (hu4)
set_option maxRecDepth 100000 in
set_option maxHeartbeats 4000000 in
theorem t_P_merge2 {l : Launch} {D : va_G} {ad : Nat → Nat} {ac : Nat → ClassId} (σ : St) (w : Nat) (P : Pl) (hw8 : w ≤ 8) (hR : relP σ w P) (fr : Nat) (hfr : fr + 8 ≤ w) (hl : P.l.length + 12 ≤ 24) : jMv l (yC D ad ac) mt_P_merge TT (rmk 5) [.ref (ad 21), .int (nI fr), .int (nI 8)] σ (fun u => relP u w (P.m2 fr)) := by
  refine jMv_of (by decide) (Nat.le_of_ble_eq_true rfl) (List.forall_mem_cons.mpr ⟨rfl, List.forall_mem_cons.mpr ⟨rfl, List.forall_mem_cons.mpr ⟨rfl, fun _ h => absurd h List.not_mem_nil⟩⟩⟩) ?_
  intro X A hX
  have hX : jX X (yC D ad ac) A b_P_merge 4 RP (mt_P_merge.w :: TT) (rmk 5) none := hX
  show jW l X (yC D ad ac) A 4 0 0 kT (jQv X (yC D ad ac) A (fun u => relP u w (P.m2 fr))) σ 0 [(0, .ref (ad 21)), (1, .int (nI fr)), (2, .int (nI 8))] []
  refine jx_iload_n (pc := 0) hX d_P_merge_0 rfl rfl ?_
  refine jx_iconst (pc := 1) hX (v := 2) d_P_merge_1 rfl ?_
  refine jx_icmp_gt (pc := 2) hX 24 d_P_merge_2 rfl (fun _ => ?_) (fun hh => absurd (by decide) hh)
  refine jx_iload_n (pc := 24) hX d_P_merge_24 rfl rfl ?_
  refine jx_iconst (pc := 25) hX (v := 2) d_P_merge_25 rfl ?_
  refine jx_idiv (pc := 26) hX d_P_merge_26 (by decide) ?_
  refine jx_top (y := nI 4) (by decide) ?_
  refine jx_istore_n (pc := 27) hX d_P_merge_27 rfl (by decide) (L' := [(0, _), (1, _), (2, _), (3, _)]) rfl ?_
  refine jx_aload_n (pc := 28) hX d_P_merge_28 rfl rfl ?_
  refine jx_iload_n (pc := 29) hX d_P_merge_29 rfl rfl ?_
  refine jx_iload_n (pc := 30) hX d_P_merge_30 rfl rfl ?_
  refine k_P_50 (pc := 31) hX (t_P_sortIntoParts σ w P hw8 hR fr 4 (by omega) (by decide)) ⟨rfl, rfl, (Nat.le_of_ble_eq_true rfl), (Nat.le_of_ble_eq_true rfl)⟩ rfl rfl (Nat.le_of_ble_eq_true rfl) ⟨Nat.zero_le _, Nat.zero_le _⟩ d_P_merge_31 (fun u1 hu1 => ?_)
  refine jx_aload_n (pc := 34) hX d_P_merge_34 rfl rfl ?_
  refine jx_iload_n (pc := 35) hX d_P_merge_35 rfl rfl ?_
  refine jx_iload_n (pc := 36) hX d_P_merge_36 rfl rfl ?_
  refine k_P_44 (pc := 37) hX (t_P_merge1 u1 w (P.sort fr 4) hw8 hu1 fr (by omega) (show P.l.length + 4 ≤ 24 by omega)) ⟨rfl, rfl, (Nat.le_of_ble_eq_true rfl), (Nat.le_of_ble_eq_true rfl)⟩ rfl rfl (Nat.le_of_ble_eq_true rfl) ⟨Nat.zero_le _, Nat.zero_le _⟩ d_P_merge_37 (fun u2 hu2 => ?_)
  refine jx_aload_n (pc := 40) hX d_P_merge_40 rfl rfl ?_
  refine jx_iload_n (pc := 41) hX d_P_merge_41 rfl rfl ?_
  refine jx_iload_n (pc := 42) hX d_P_merge_42 rfl rfl ?_
  refine jx_iadd (pc := 43) hX d_P_merge_43 ?_
  refine jx_top (y := nI (fr + 4)) (nI_add _ _) ?_
  refine jx_iload_n (pc := 44) hX d_P_merge_44 rfl rfl ?_
  refine k_P_44 (pc := 45) hX (t_P_merge1 u2 w ((P.sort fr 4).m1 fr) hw8 hu2 (fr + 4) (by omega) (by rw [Pl.m1_len]; show P.l.length + 4 + 4 ≤ 24; omega)) ⟨rfl, rfl, (Nat.le_of_ble_eq_true rfl), (Nat.le_of_ble_eq_true rfl)⟩ rfl rfl (Nat.le_of_ble_eq_true rfl) ⟨Nat.zero_le _, Nat.zero_le _⟩ d_P_merge_45 (fun u3 hu3 => ?_)
  refine jx_aload_n (pc := 48) hX d_P_merge_48 rfl rfl ?_
  refine jx_iload_n (pc := 49) hX d_P_merge_49 rfl rfl ?_
  refine jx_iload_n (pc := 50) hX d_P_merge_50 rfl rfl ?_
  refine k_P_53 (pc := 51) hX (t_P_joinParts u3 w (((P.sort fr 4).m1 fr).m1 (fr + 4)) hw8 hu3 fr 4 (by omega) (by rw [Pl.m1_len, Pl.m1_len]; show P.l.length + 4 + 4 + 4 ≤ 24; omega)) ⟨rfl, rfl, (Nat.le_of_ble_eq_true rfl), (Nat.le_of_ble_eq_true rfl)⟩ rfl rfl (Nat.le_of_ble_eq_true rfl) ⟨Nat.zero_le _, Nat.zero_le _⟩ d_P_merge_51 (fun u4 hu4 => ?_)
  exact jx_vret (pc := 54) hX d_P_merge_54 (hu4)
set_option maxRecDepth 100000 in
set_option maxHeartbeats 4000000 in
theorem t_P_layOut0 {l : Launch} {D : va_G} {ad : Nat → Nat} {ac : Nat → ClassId} (σ : St) (w : Nat) (P : Pl) (hw8 : w ≤ 8) (hR : relP σ w P) (fr : Nat) : jMv l (yC D ad ac) mt_P_layOut TT (rmk 0) [.ref (ad 21), .int (nI fr), .int (nI 1)] σ (fun u => relP u w P) := by
  refine jMv_of (by decide) (Nat.le_of_ble_eq_true rfl) (List.forall_mem_cons.mpr ⟨rfl, List.forall_mem_cons.mpr ⟨rfl, List.forall_mem_cons.mpr ⟨rfl, fun _ h => absurd h List.not_mem_nil⟩⟩⟩) ?_
  intro X A hX
  have hX : jX X (yC D ad ac) A b_P_layOut 4 RP (mt_P_layOut.w :: TT) (rmk 0) none := hX
  show jW l X (yC D ad ac) A 4 0 0 kT (jQv X (yC D ad ac) A (fun u => relP u w P)) σ 0 [(0, .ref (ad 21)), (1, .int (nI fr)), (2, .int (nI 1))] []
  refine jx_iload_n (pc := 0) hX d_P_layOut_0 rfl rfl ?_
  refine jx_iconst (pc := 1) hX (v := 2) d_P_layOut_1 rfl ?_
  refine jx_icmp_ge (pc := 2) hX 6 d_P_layOut_2 rfl (fun hh => absurd hh (by decide)) (fun _ => ?_)
  exact jx_vret (pc := 5) hX d_P_layOut_5 (hR)
set_option maxRecDepth 100000 in
set_option maxHeartbeats 4000000 in
theorem t_P_layOut1 {l : Launch} {D : va_G} {ad : Nat → Nat} {ac : Nat → ClassId} (σ : St) (w : Nat) (P : Pl) (hw8 : w ≤ 8) (hR : relP σ w P) (fr : Nat) (hfr : fr + 2 ≤ w) (hl : P.l.length + 1 ≤ 24) : jMv l (yC D ad ac) mt_P_layOut TT (rmk 6) [.ref (ad 21), .int (nI fr), .int (nI 2)] σ (fun u => relP u w (P.m0 fr)) := by
  refine jMv_of (by decide) (Nat.le_of_ble_eq_true rfl) (List.forall_mem_cons.mpr ⟨rfl, List.forall_mem_cons.mpr ⟨rfl, List.forall_mem_cons.mpr ⟨rfl, fun _ h => absurd h List.not_mem_nil⟩⟩⟩) ?_
  intro X A hX
  have hX : jX X (yC D ad ac) A b_P_layOut 4 RP (mt_P_layOut.w :: TT) (rmk 6) none := hX
  show jW l X (yC D ad ac) A 4 0 0 kT (jQv X (yC D ad ac) A (fun u => relP u w (P.m0 fr))) σ 0 [(0, .ref (ad 21)), (1, .int (nI fr)), (2, .int (nI 2))] []
  refine jx_iload_n (pc := 0) hX d_P_layOut_0 rfl rfl ?_
  refine jx_iconst (pc := 1) hX (v := 2) d_P_layOut_1 rfl ?_
  refine jx_icmp_ge (pc := 2) hX 6 d_P_layOut_2 rfl (fun _ => ?_) (fun hh => absurd (by decide) hh)
  refine jx_iload_n (pc := 6) hX d_P_layOut_6 rfl rfl ?_
  refine jx_iconst (pc := 7) hX (v := 2) d_P_layOut_7 rfl ?_
  refine jx_idiv (pc := 8) hX d_P_layOut_8 (by decide) ?_
  refine jx_top (y := nI 1) (by decide) ?_
  refine jx_istore_n (pc := 9) hX d_P_layOut_9 rfl (by decide) (L' := [(0, _), (1, _), (2, _), (3, _)]) rfl ?_
  refine jx_aload_n (pc := 10) hX d_P_layOut_10 rfl rfl ?_
  refine jx_iload_n (pc := 11) hX d_P_layOut_11 rfl rfl ?_
  refine jx_iload_n (pc := 12) hX d_P_layOut_12 rfl rfl ?_
  refine k_P_40 (pc := 13) hX (t_P_layOut0 σ w P hw8 hR fr) ⟨rfl, rfl, (Nat.le_of_ble_eq_true rfl), (Nat.le_of_ble_eq_true rfl)⟩ rfl rfl (Nat.le_of_ble_eq_true rfl) ⟨Nat.zero_le _, Nat.zero_le _⟩ d_P_layOut_13 (fun u1 hu1 => ?_)
  refine jx_aload_n (pc := 16) hX d_P_layOut_16 rfl rfl ?_
  refine jx_iload_n (pc := 17) hX d_P_layOut_17 rfl rfl ?_
  refine jx_iload_n (pc := 18) hX d_P_layOut_18 rfl rfl ?_
  refine jx_iadd (pc := 19) hX d_P_layOut_19 ?_
  refine jx_top (y := nI (fr + 1)) (nI_add _ _) ?_
  refine jx_iload_n (pc := 20) hX d_P_layOut_20 rfl rfl ?_
  refine k_P_40 (pc := 21) hX (t_P_layOut0 u1 w P hw8 hu1 (fr + 1)) ⟨rfl, rfl, (Nat.le_of_ble_eq_true rfl), (Nat.le_of_ble_eq_true rfl)⟩ rfl rfl (Nat.le_of_ble_eq_true rfl) ⟨Nat.zero_le _, Nat.zero_le _⟩ d_P_layOut_21 (fun u2 hu2 => ?_)
  refine jx_aload_n (pc := 24) hX d_P_layOut_24 rfl rfl ?_
  refine jx_iload_n (pc := 25) hX d_P_layOut_25 rfl rfl ?_
  refine jx_iload_n (pc := 26) hX d_P_layOut_26 rfl rfl ?_
  refine k_P_44 (pc := 27) hX (t_P_merge0 u2 w P hw8 hu2 fr hfr hl) ⟨rfl, rfl, (Nat.le_of_ble_eq_true rfl), (Nat.le_of_ble_eq_true rfl)⟩ rfl rfl (Nat.le_of_ble_eq_true rfl) ⟨Nat.zero_le _, Nat.zero_le _⟩ d_P_layOut_27 (fun u3 hu3 => ?_)
  exact jx_vret (pc := 30) hX d_P_layOut_30 (hu3)
set_option maxRecDepth 100000 in
set_option maxHeartbeats 4000000 in
theorem t_P_layOut2 {l : Launch} {D : va_G} {ad : Nat → Nat} {ac : Nat → ClassId} (σ : St) (w : Nat) (P : Pl) (hw8 : w ≤ 8) (hR : relP σ w P) (fr : Nat) (hfr : fr + 4 ≤ w) (hl : P.l.length + 6 ≤ 24) : jMv l (yC D ad ac) mt_P_layOut TT (rmk 7) [.ref (ad 21), .int (nI fr), .int (nI 4)] σ (fun u => relP u w (P.l2 fr)) := by
  refine jMv_of (by decide) (Nat.le_of_ble_eq_true rfl) (List.forall_mem_cons.mpr ⟨rfl, List.forall_mem_cons.mpr ⟨rfl, List.forall_mem_cons.mpr ⟨rfl, fun _ h => absurd h List.not_mem_nil⟩⟩⟩) ?_
  intro X A hX
  have hX : jX X (yC D ad ac) A b_P_layOut 4 RP (mt_P_layOut.w :: TT) (rmk 7) none := hX
  show jW l X (yC D ad ac) A 4 0 0 kT (jQv X (yC D ad ac) A (fun u => relP u w (P.l2 fr))) σ 0 [(0, .ref (ad 21)), (1, .int (nI fr)), (2, .int (nI 4))] []
  refine jx_iload_n (pc := 0) hX d_P_layOut_0 rfl rfl ?_
  refine jx_iconst (pc := 1) hX (v := 2) d_P_layOut_1 rfl ?_
  refine jx_icmp_ge (pc := 2) hX 6 d_P_layOut_2 rfl (fun _ => ?_) (fun hh => absurd (by decide) hh)
  refine jx_iload_n (pc := 6) hX d_P_layOut_6 rfl rfl ?_
  refine jx_iconst (pc := 7) hX (v := 2) d_P_layOut_7 rfl ?_
  refine jx_idiv (pc := 8) hX d_P_layOut_8 (by decide) ?_
  refine jx_top (y := nI 2) (by decide) ?_
  refine jx_istore_n (pc := 9) hX d_P_layOut_9 rfl (by decide) (L' := [(0, _), (1, _), (2, _), (3, _)]) rfl ?_
  refine jx_aload_n (pc := 10) hX d_P_layOut_10 rfl rfl ?_
  refine jx_iload_n (pc := 11) hX d_P_layOut_11 rfl rfl ?_
  refine jx_iload_n (pc := 12) hX d_P_layOut_12 rfl rfl ?_
  refine k_P_40 (pc := 13) hX (t_P_layOut1 σ w P hw8 hR fr (by omega) (by omega)) ⟨rfl, rfl, (Nat.le_of_ble_eq_true rfl), (Nat.le_of_ble_eq_true rfl)⟩ rfl rfl (Nat.le_of_ble_eq_true rfl) ⟨Nat.zero_le _, Nat.zero_le _⟩ d_P_layOut_13 (fun u1 hu1 => ?_)
  refine jx_aload_n (pc := 16) hX d_P_layOut_16 rfl rfl ?_
  refine jx_iload_n (pc := 17) hX d_P_layOut_17 rfl rfl ?_
  refine jx_iload_n (pc := 18) hX d_P_layOut_18 rfl rfl ?_
  refine jx_iadd (pc := 19) hX d_P_layOut_19 ?_
  refine jx_top (y := nI (fr + 2)) (nI_add _ _) ?_
  refine jx_iload_n (pc := 20) hX d_P_layOut_20 rfl rfl ?_
  refine k_P_40 (pc := 21) hX (t_P_layOut1 u1 w (P.m0 fr) hw8 hu1 (fr + 2) (by omega) (by rw [Pl.m0_len]; omega)) ⟨rfl, rfl, (Nat.le_of_ble_eq_true rfl), (Nat.le_of_ble_eq_true rfl)⟩ rfl rfl (Nat.le_of_ble_eq_true rfl) ⟨Nat.zero_le _, Nat.zero_le _⟩ d_P_layOut_21 (fun u2 hu2 => ?_)
  refine jx_aload_n (pc := 24) hX d_P_layOut_24 rfl rfl ?_
  refine jx_iload_n (pc := 25) hX d_P_layOut_25 rfl rfl ?_
  refine jx_iload_n (pc := 26) hX d_P_layOut_26 rfl rfl ?_
  refine k_P_44 (pc := 27) hX (t_P_merge1 u2 w ((P.m0 fr).m0 (fr + 2)) hw8 hu2 fr (by omega) (by rw [Pl.m0_len, Pl.m0_len]; omega)) ⟨rfl, rfl, (Nat.le_of_ble_eq_true rfl), (Nat.le_of_ble_eq_true rfl)⟩ rfl rfl (Nat.le_of_ble_eq_true rfl) ⟨Nat.zero_le _, Nat.zero_le _⟩ d_P_layOut_27 (fun u3 hu3 => ?_)
  exact jx_vret (pc := 30) hX d_P_layOut_30 (hu3)
set_option maxRecDepth 100000 in
set_option maxHeartbeats 4000000 in
theorem t_P_layOut3 {l : Launch} {D : va_G} {ad : Nat → Nat} {ac : Nat → ClassId} (σ : St) (w : Nat) (P : Pl) (hw8 : w ≤ 8) (hR : relP σ w P) (hl : P.l.length + 24 ≤ 24) (hw9 : w = 8) : jMv l (yC D ad ac) mt_P_layOut TT (rmk 8) [.ref (ad 21), .int 0, .int (nI 8)] σ (fun u => relP u w (P.l3)) := by
  refine jMv_of (by decide) (Nat.le_of_ble_eq_true rfl) (List.forall_mem_cons.mpr ⟨rfl, List.forall_mem_cons.mpr ⟨rfl, List.forall_mem_cons.mpr ⟨rfl, fun _ h => absurd h List.not_mem_nil⟩⟩⟩) ?_
  intro X A hX
  have hX : jX X (yC D ad ac) A b_P_layOut 4 RP (mt_P_layOut.w :: TT) (rmk 8) none := hX
  show jW l X (yC D ad ac) A 4 0 0 kT (jQv X (yC D ad ac) A (fun u => relP u w (P.l3))) σ 0 [(0, .ref (ad 21)), (1, .int 0), (2, .int (nI 8))] []
  refine jx_iload_n (pc := 0) hX d_P_layOut_0 rfl rfl ?_
  refine jx_iconst (pc := 1) hX (v := 2) d_P_layOut_1 rfl ?_
  refine jx_icmp_ge (pc := 2) hX 6 d_P_layOut_2 rfl (fun _ => ?_) (fun hh => absurd (by decide) hh)
  refine jx_iload_n (pc := 6) hX d_P_layOut_6 rfl rfl ?_
  refine jx_iconst (pc := 7) hX (v := 2) d_P_layOut_7 rfl ?_
  refine jx_idiv (pc := 8) hX d_P_layOut_8 (by decide) ?_
  refine jx_top (y := nI 4) (by decide) ?_
  refine jx_istore_n (pc := 9) hX d_P_layOut_9 rfl (by decide) (L' := [(0, _), (1, _), (2, _), (3, _)]) rfl ?_
  refine jx_aload_n (pc := 10) hX d_P_layOut_10 rfl rfl ?_
  refine jx_iload_n (pc := 11) hX d_P_layOut_11 rfl rfl ?_
  refine jx_iload_n (pc := 12) hX d_P_layOut_12 rfl rfl ?_
  refine k_P_40 (pc := 13) hX (t_P_layOut2 σ w P hw8 hR 0 (by omega) (by omega)) ⟨rfl, rfl, (Nat.le_of_ble_eq_true rfl), (Nat.le_of_ble_eq_true rfl)⟩ rfl rfl (Nat.le_of_ble_eq_true rfl) ⟨Nat.zero_le _, Nat.zero_le _⟩ d_P_layOut_13 (fun u1 hu1 => ?_)
  refine jx_aload_n (pc := 16) hX d_P_layOut_16 rfl rfl ?_
  refine jx_iload_n (pc := 17) hX d_P_layOut_17 rfl rfl ?_
  refine jx_iload_n (pc := 18) hX d_P_layOut_18 rfl rfl ?_
  refine jx_iadd (pc := 19) hX d_P_layOut_19 ?_
  refine jx_top (y := nI 4) (by decide) ?_
  refine jx_iload_n (pc := 20) hX d_P_layOut_20 rfl rfl ?_
  refine k_P_40 (pc := 21) hX (t_P_layOut2 u1 w (P.l2 0) hw8 hu1 4 (by omega) (by rw [Pl.l2_len]; omega)) ⟨rfl, rfl, (Nat.le_of_ble_eq_true rfl), (Nat.le_of_ble_eq_true rfl)⟩ rfl rfl (Nat.le_of_ble_eq_true rfl) ⟨Nat.zero_le _, Nat.zero_le _⟩ d_P_layOut_21 (fun u2 hu2 => ?_)
  refine jx_aload_n (pc := 24) hX d_P_layOut_24 rfl rfl ?_
  refine jx_iload_n (pc := 25) hX d_P_layOut_25 rfl rfl ?_
  refine jx_iload_n (pc := 26) hX d_P_layOut_26 rfl rfl ?_
  refine k_P_44 (pc := 27) hX (t_P_merge2 u2 w ((P.l2 0).l2 4) hw8 hu2 0 (by omega) (by rw [Pl.l2_len, Pl.l2_len]; omega)) ⟨rfl, rfl, (Nat.le_of_ble_eq_true rfl), (Nat.le_of_ble_eq_true rfl)⟩ rfl rfl (Nat.le_of_ble_eq_true rfl) ⟨Nat.zero_le _, Nat.zero_le _⟩ d_P_layOut_27 (fun u3 hu3 => ?_)
  exact jx_vret (pc := 30) hX d_P_layOut_30 (hu3)
end
section
theorem AR.pushf {α : Type} {n : Nat} {enc : α → Int32} {f : Nat → Int32} {g : Nat → α} (h : AR n enc f g) {x : Int32} (e : x = enc (g n)) : AR (n + 1) enc (upd f n x) g := by
  intro t ht
  by_cases q : t = n
  · subst q; rw [pk_us]; exact e
  · rw [pk_un q]; exact h t (by omega)
theorem tab_len (w : Nat) : (tab w).length = nb w := by unfold tab; rw [List.length_map, List.length_range]
theorem tab_at {w b : Nat} (hb : b < nb w) : (tab w).getD b (0, 0, 0) = (uU w b, uL w b, uC w b) := by
  unfold tab
  rw [List.getD_eq_getElem?_getD, List.getElem?_map, List.getElem?_range hb]
  rfl
theorem plan_of_rel {u : St} {w : Nat} {P : Pl} (h : relP u w P) (h1 : P.l = tab w) (h2 : P.k = nc w) (h3 : ∀ i, i < w → P.r i = uE w i) : u.1 1 = nI w ∧ planC u w := by
  obtain ⟨-, r1, r2, r3, r4, r5, r6, r7, -⟩ := h
  rw [h1, tab_len] at r2 r4 r5 r6
  rw [h2] at r3
  refine ⟨r1, r2, r3, fun b hb => ?_, fun b hb => ?_, fun b hb => ?_, fun i hi => ?_⟩
  · have := r4 b hb; dsimp only at this; rw [tab_at hb] at this; exact this
  · have := r5 b hb; dsimp only at this; rw [tab_at hb] at this; exact this
  · have := r6 b hb; dsimp only at this; rw [tab_at hb] at this; exact this
  · rw [r7 i hi, h3 i hi]
theorem zero_s {f : Nat → Int32} {i : Nat} (hz : ∀ j, j < i → f j = 0) : ∀ j, j < i + 1 → upd f i 0 j = 0 := by
  intro j hj
  by_cases q : j = i
  · rw [q, pk_us]
  · rw [pk_un q]; exact hz j (by omega)
def stA (σ : St) (w ns : Nat) : Prop := σ.1 1 = nI w ∧ planC σ w ∧ σ.1 0 = nI ns ∧ σ.1 4 = 0 ∧ σ.1 5 = 0 ∧ σ.1 6 = 0
set_option maxRecDepth 100000 in
set_option maxHeartbeats 4000000 in
theorem t_P_layT1 {l : Launch} {D : va_G} {ad : Nat → Nat} {ac : Nat → ClassId} (σ : St) (w : Nat) (P : Pl) (hw8 : w ≤ 8) (hR : relP σ w P) (fr : Nat) (hfr : fr + 2 ≤ w) (hl : P.l.length + 1 ≤ 24) : jMv l (yC D ad ac) mt_P_layOut TT (rmk 8) [.ref (ad 21), .int (nI fr), .int (nI 2)] σ (fun u => relP u w (P.m0 fr)) := by
  refine jMv_of (by decide) (Nat.le_of_ble_eq_true rfl) (List.forall_mem_cons.mpr ⟨rfl, List.forall_mem_cons.mpr ⟨rfl, List.forall_mem_cons.mpr ⟨rfl, fun _ h => absurd h List.not_mem_nil⟩⟩⟩) ?_
  intro X A hX
  have hX : jX X (yC D ad ac) A b_P_layOut 4 RP (mt_P_layOut.w :: TT) (rmk 8) none := hX
  show jW l X (yC D ad ac) A 4 0 0 kT (jQv X (yC D ad ac) A (fun u => relP u w (P.m0 fr))) σ 0 [(0, .ref (ad 21)), (1, .int (nI fr)), (2, .int (nI 2))] []
  refine jx_iload_n (pc := 0) hX d_P_layOut_0 rfl rfl ?_
  refine jx_iconst (pc := 1) hX (v := 2) d_P_layOut_1 rfl ?_
  refine jx_icmp_ge (pc := 2) hX 6 d_P_layOut_2 rfl (fun _ => ?_) (fun hh => absurd (by decide) hh)
  refine jx_iload_n (pc := 6) hX d_P_layOut_6 rfl rfl ?_
  refine jx_iconst (pc := 7) hX (v := 2) d_P_layOut_7 rfl ?_
  refine jx_idiv (pc := 8) hX d_P_layOut_8 (by decide) ?_
  refine jx_top (y := nI 1) (by decide) ?_
  refine jx_istore_n (pc := 9) hX d_P_layOut_9 rfl (by decide) (L' := [(0, _), (1, _), (2, _), (3, _)]) rfl ?_
  refine jx_aload_n (pc := 10) hX d_P_layOut_10 rfl rfl ?_
  refine jx_iload_n (pc := 11) hX d_P_layOut_11 rfl rfl ?_
  refine jx_iload_n (pc := 12) hX d_P_layOut_12 rfl rfl ?_
  refine k_P_40 (pc := 13) hX (t_P_layOut0 σ w P hw8 hR fr) ⟨rfl, rfl, (Nat.le_of_ble_eq_true rfl), (Nat.le_of_ble_eq_true rfl)⟩ rfl rfl (Nat.le_of_ble_eq_true rfl) ⟨Nat.zero_le _, Nat.zero_le _⟩ d_P_layOut_13 (fun u1 hu1 => ?_)
  refine jx_aload_n (pc := 16) hX d_P_layOut_16 rfl rfl ?_
  refine jx_iload_n (pc := 17) hX d_P_layOut_17 rfl rfl ?_
  refine jx_iload_n (pc := 18) hX d_P_layOut_18 rfl rfl ?_
  refine jx_iadd (pc := 19) hX d_P_layOut_19 ?_
  refine jx_top (y := nI (fr + 1)) (nI_add _ _) ?_
  refine jx_iload_n (pc := 20) hX d_P_layOut_20 rfl rfl ?_
  refine k_P_40 (pc := 21) hX (t_P_layOut0 u1 w P hw8 hu1 (fr + 1)) ⟨rfl, rfl, (Nat.le_of_ble_eq_true rfl), (Nat.le_of_ble_eq_true rfl)⟩ rfl rfl (Nat.le_of_ble_eq_true rfl) ⟨Nat.zero_le _, Nat.zero_le _⟩ d_P_layOut_21 (fun u2 hu2 => ?_)
  refine jx_aload_n (pc := 24) hX d_P_layOut_24 rfl rfl ?_
  refine jx_iload_n (pc := 25) hX d_P_layOut_25 rfl rfl ?_
  refine jx_iload_n (pc := 26) hX d_P_layOut_26 rfl rfl ?_
  refine k_P_44 (pc := 27) hX (t_P_merge0 u2 w P hw8 hu2 fr hfr hl) ⟨rfl, rfl, (Nat.le_of_ble_eq_true rfl), (Nat.le_of_ble_eq_true rfl)⟩ rfl rfl (Nat.le_of_ble_eq_true rfl) ⟨Nat.zero_le _, Nat.zero_le _⟩ d_P_layOut_27 (fun u3 hu3 => ?_)
  exact jx_vret (pc := 30) hX d_P_layOut_30 (hu3)
set_option maxRecDepth 100000 in
set_option maxHeartbeats 4000000 in
theorem t_P_layT2 {l : Launch} {D : va_G} {ad : Nat → Nat} {ac : Nat → ClassId} (σ : St) (w : Nat) (P : Pl) (hw8 : w ≤ 8) (hR : relP σ w P) (fr : Nat) (hfr : fr + 4 ≤ w) (hl : P.l.length + 6 ≤ 24) : jMv l (yC D ad ac) mt_P_layOut TT (rmk 8) [.ref (ad 21), .int (nI fr), .int (nI 4)] σ (fun u => relP u w (P.l2 fr)) := by
  refine jMv_of (by decide) (Nat.le_of_ble_eq_true rfl) (List.forall_mem_cons.mpr ⟨rfl, List.forall_mem_cons.mpr ⟨rfl, List.forall_mem_cons.mpr ⟨rfl, fun _ h => absurd h List.not_mem_nil⟩⟩⟩) ?_
  intro X A hX
  have hX : jX X (yC D ad ac) A b_P_layOut 4 RP (mt_P_layOut.w :: TT) (rmk 8) none := hX
  show jW l X (yC D ad ac) A 4 0 0 kT (jQv X (yC D ad ac) A (fun u => relP u w (P.l2 fr))) σ 0 [(0, .ref (ad 21)), (1, .int (nI fr)), (2, .int (nI 4))] []
  refine jx_iload_n (pc := 0) hX d_P_layOut_0 rfl rfl ?_
  refine jx_iconst (pc := 1) hX (v := 2) d_P_layOut_1 rfl ?_
  refine jx_icmp_ge (pc := 2) hX 6 d_P_layOut_2 rfl (fun _ => ?_) (fun hh => absurd (by decide) hh)
  refine jx_iload_n (pc := 6) hX d_P_layOut_6 rfl rfl ?_
  refine jx_iconst (pc := 7) hX (v := 2) d_P_layOut_7 rfl ?_
  refine jx_idiv (pc := 8) hX d_P_layOut_8 (by decide) ?_
  refine jx_top (y := nI 2) (by decide) ?_
  refine jx_istore_n (pc := 9) hX d_P_layOut_9 rfl (by decide) (L' := [(0, _), (1, _), (2, _), (3, _)]) rfl ?_
  refine jx_aload_n (pc := 10) hX d_P_layOut_10 rfl rfl ?_
  refine jx_iload_n (pc := 11) hX d_P_layOut_11 rfl rfl ?_
  refine jx_iload_n (pc := 12) hX d_P_layOut_12 rfl rfl ?_
  refine k_P_40 (pc := 13) hX (t_P_layOut1 σ w P hw8 hR fr (by omega) (by omega)) ⟨rfl, rfl, (Nat.le_of_ble_eq_true rfl), (Nat.le_of_ble_eq_true rfl)⟩ rfl rfl (Nat.le_of_ble_eq_true rfl) ⟨Nat.zero_le _, Nat.zero_le _⟩ d_P_layOut_13 (fun u1 hu1 => ?_)
  refine jx_aload_n (pc := 16) hX d_P_layOut_16 rfl rfl ?_
  refine jx_iload_n (pc := 17) hX d_P_layOut_17 rfl rfl ?_
  refine jx_iload_n (pc := 18) hX d_P_layOut_18 rfl rfl ?_
  refine jx_iadd (pc := 19) hX d_P_layOut_19 ?_
  refine jx_top (y := nI (fr + 2)) (nI_add _ _) ?_
  refine jx_iload_n (pc := 20) hX d_P_layOut_20 rfl rfl ?_
  refine k_P_40 (pc := 21) hX (t_P_layOut1 u1 w (P.m0 fr) hw8 hu1 (fr + 2) (by omega) (by rw [Pl.m0_len]; omega)) ⟨rfl, rfl, (Nat.le_of_ble_eq_true rfl), (Nat.le_of_ble_eq_true rfl)⟩ rfl rfl (Nat.le_of_ble_eq_true rfl) ⟨Nat.zero_le _, Nat.zero_le _⟩ d_P_layOut_21 (fun u2 hu2 => ?_)
  refine jx_aload_n (pc := 24) hX d_P_layOut_24 rfl rfl ?_
  refine jx_iload_n (pc := 25) hX d_P_layOut_25 rfl rfl ?_
  refine jx_iload_n (pc := 26) hX d_P_layOut_26 rfl rfl ?_
  refine k_P_44 (pc := 27) hX (t_P_merge1 u2 w ((P.m0 fr).m0 (fr + 2)) hw8 hu2 fr (by omega) (by rw [Pl.m0_len, Pl.m0_len]; omega)) ⟨rfl, rfl, (Nat.le_of_ble_eq_true rfl), (Nat.le_of_ble_eq_true rfl)⟩ rfl rfl (Nat.le_of_ble_eq_true rfl) ⟨Nat.zero_le _, Nat.zero_le _⟩ d_P_layOut_27 (fun u3 hu3 => ?_)
  exact jx_vret (pc := 30) hX d_P_layOut_30 (hu3)
theorem t_P_layW {l : Launch} {D : va_G} {ad : Nat → Nat} {ac : Nat → ClassId} (σ : St) (w : Nat) (hw : Wok w) (hR : relP σ w Pl0) : jMv l (yC D ad ac) mt_P_layOut TT (rmk 8) [.ref (ad 21), .int 0, .int (nI w)] σ (fun u => u.1 1 = nI w ∧ planC u w) := by
  rcases hw with rfl | rfl | rfl
  · exact jMv.mono (t_P_layT1 σ 2 Pl0 (by decide) hR 0 (by decide) (by decide)) (fun u hu => plan_of_rel hu draw_1.1 draw_1.2.1 draw_1.2.2)
  · exact jMv.mono (t_P_layT2 σ 4 Pl0 (by decide) hR 0 (by decide) (by decide)) (fun u hu => plan_of_rel hu draw_2.1 draw_2.2.1 draw_2.2.2)
  · exact jMv.mono (t_P_layOut3 σ 8 Pl0 (by decide) hR (by decide) rfl) (fun u hu => plan_of_rel hu draw_3.1 draw_3.2.1 draw_3.2.2)
set_option maxRecDepth 100000 in
set_option maxHeartbeats 4000000 in
theorem t_P_drawFor {l : Launch} {D : va_G} {ad : Nat → Nat} {ac : Nat → ClassId} (σ : St) (w : Nat) (hw : Wok w) : jMv l (yC D ad ac) mt_P_drawFor TT (rmk 9) [.ref (ad 21), .int (nI w)] σ (fun u => u.1 1 = nI w ∧ planC u w) := by
  have hw8 := hw.le
  refine jMv_of (by decide) (Nat.le_of_ble_eq_true rfl) (List.forall_mem_cons.mpr ⟨rfl, List.forall_mem_cons.mpr ⟨rfl, fun _ h => absurd h List.not_mem_nil⟩⟩) ?_
  intro X A hX
  have hX : jX X (yC D ad ac) A b_P_drawFor 3 RP (mt_P_drawFor.w :: TT) (rmk 9) none := hX
  show jW l X (yC D ad ac) A 3 0 0 kT (jQv X (yC D ad ac) A (fun u => u.1 1 = nI w ∧ planC u w)) σ 0 [(0, .ref (ad 21)), (1, .int (nI w))] []
  have loop : ∀ (fu : Nat) (i : Nat) (σ1 : St), w - i = fu → i ≤ w → σ1.1 1 = nI w → σ1.1 2 = 0 → σ1.1 3 = 0 → AR i nI (σ1.2 6) (fun j => j) → AR i nI (σ1.2 7) (fun _ => 0) → jW l X (yC D ad ac) A 3 0 0 kT (jQv X (yC D ad ac) A (fun u => u.1 1 = nI w ∧ planC u w)) σ1 17 [(0, .ref (ad 21)), (1, .int (nI w)), (2, .int (nI i))] [] := by
    intro fu
    induction fu using Nat.strongRecOn with
    | ind fu ih =>
      intro i σ1 hfu hi a1 a2 a3 a6 a7
      refine jx_iload_n (pc := 17) hX d_P_drawFor_17 rfl rfl ?_
      refine jx_iload_n (pc := 18) hX d_P_drawFor_18 rfl rfl ?_
      refine jx_icmp_ge (pc := 19) hX 42 d_P_drawFor_19 rfl (fun q19 => ?_) (fun q19 => ?_)
      · have hge : i = w := by have : w ≤ i := (nI_leI (by omega) (by omega)).mp q19; omega
        subst hge
        refine jx_aload_n (pc := 42) hX d_P_drawFor_42 rfl rfl ?_
        refine jx_iconst (pc := 43) hX (v := 0) d_P_drawFor_43 rfl ?_
        refine jx_iload_n (pc := 44) hX d_P_drawFor_44 rfl rfl ?_
        refine k_P_40 (pc := 45) hX (t_P_layW σ1 i hw ⟨⟨fun j hj => ⟨hj, Nat.le_refl _⟩, Nat.le_refl _⟩, a1, a2, a3, fun b hb => absurd hb (Nat.not_lt_zero b), fun b hb => absurd hb (Nat.not_lt_zero b), fun b hb => absurd hb (Nat.not_lt_zero b), a6, a7⟩) ⟨rfl, rfl, (Nat.le_of_ble_eq_true rfl), (Nat.le_of_ble_eq_true rfl)⟩ rfl rfl (Nat.le_of_ble_eq_true rfl) ⟨Nat.zero_le _, Nat.zero_le _⟩ d_P_drawFor_45 (fun u hu => ?_)
        exact jx_vret (pc := 48) hX d_P_drawFor_48 (hu)
      · have hlt : i < w := Nat.lt_of_not_le (fun q => q19 (nI_le q (by omega)))
        refine jx_aload_n (pc := 22) hX d_P_drawFor_22 rfl rfl ?_
        refine g_P_21 (pc := 23) hX d_P_drawFor_23 ?_
        refine jx_iload_n (pc := 26) hX d_P_drawFor_26 rfl rfl ?_
        refine jx_iload_n (pc := 27) hX d_P_drawFor_27 rfl rfl ?_
        refine jx_iast (pc := 28) hX oC_6 _ rfl (show i < 8 by omega) d_P_drawFor_28 ?_
        refine jx_aload_n (pc := 29) hX d_P_drawFor_29 rfl rfl ?_
        refine g_P_24 (pc := 30) hX d_P_drawFor_30 ?_
        refine jx_iload_n (pc := 33) hX d_P_drawFor_33 rfl rfl ?_
        refine jx_iconst (pc := 34) hX (v := 0) d_P_drawFor_34 rfl ?_
        refine jx_iast (pc := 35) hX oC_7 _ rfl (show i < 8 by omega) d_P_drawFor_35 ?_
        refine jx_iinc (pc := 36) hX (v := nI (i + 1)) d_P_drawFor_36 rfl (nI_1 i) (by decide) (L' := [(0, _), (1, _), (2, _)]) rfl ?_
        refine jx_goto (pc := 39) hX 17 d_P_drawFor_39 rfl ?_
        exact ih _ (by omega) (i + 1) (sA (sA σ1 6 i (nI i)) 7 i 0) rfl (by omega) a1 a2 a3 (a6.pushf rfl) (a7.pushf rfl)
  refine jx_aload_n (pc := 0) hX d_P_drawFor_0 rfl rfl ?_
  refine jx_iload_n (pc := 1) hX d_P_drawFor_1 rfl rfl ?_
  refine p_P_30 (pc := 2) hX d_P_drawFor_2 ?_
  refine jx_aload_n (pc := 5) hX d_P_drawFor_5 rfl rfl ?_
  refine jx_iconst (pc := 6) hX (v := 0) d_P_drawFor_6 rfl ?_
  refine p_P_34 (pc := 7) hX d_P_drawFor_7 ?_
  refine jx_aload_n (pc := 10) hX d_P_drawFor_10 rfl rfl ?_
  refine jx_iconst (pc := 11) hX (v := 0) d_P_drawFor_11 rfl ?_
  refine p_P_37 (pc := 12) hX d_P_drawFor_12 ?_
  refine jx_iconst (pc := 15) hX (v := 0) d_P_drawFor_15 rfl ?_
  refine jx_istore_n (pc := 16) hX d_P_drawFor_16 rfl (by decide) (L' := [(0, _), (1, _), (2, _)]) rfl ?_
  exact loop _ 0 _ rfl (Nat.zero_le _) rfl rfl rfl (fun j hj => absurd hj (Nat.not_lt_zero j)) (fun j hj => absurd hj (Nat.not_lt_zero j))
set_option maxRecDepth 100000 in
set_option maxHeartbeats 4000000 in
theorem t_N_startAnew {l : Launch} {D : va_G} {ad : Nat → Nat} {ac : Nat → ClassId} (σ : St) (M : Ms) (w ns : Nat) (hw : Wok w) : jMv l (yC D ad ac) mt_N_startAnew TT (rmk 10) [.ref (ad 20), .int (nI w), .int (nI ns)] σ (fun u => repC u (M.build w ns)) := by
  have hw8 := hw.le
  have hnb := nb_le w
  refine jMv_of (by decide) (Nat.le_of_ble_eq_true rfl) (List.forall_mem_cons.mpr ⟨rfl, List.forall_mem_cons.mpr ⟨rfl, List.forall_mem_cons.mpr ⟨rfl, fun _ h => absurd h List.not_mem_nil⟩⟩⟩) ?_
  intro X A hX
  have hX : jX X (yC D ad ac) A b_N_startAnew 4 RN (mt_N_startAnew.w :: TT) (rmk 10) none := hX
  show jW l X (yC D ad ac) A 4 0 0 kT (jQv X (yC D ad ac) A (fun u => repC u (M.build w ns))) σ 0 [(0, .ref (ad 20)), (1, .int (nI w)), (2, .int (nI ns))] []
  have loop3 : ∀ (fu : Nat) (i : Nat) (σa : St) (f : Nat → Int32), 6 - i = fu → i ≤ 6 → stA σa w ns → (∀ j, j < 24 → σa.2 0 j = 0) → (∀ j, j < 8 → σa.2 1 j = 0) → (∀ j, j < i → f j = 0) → jW l X (yC D ad ac) A 4 0 0 kT (jQv X (yC D ad ac) A (fun u => repC u (M.build w ns))) (sR σa 2 f) 71 [(0, .ref (ad 20)), (1, .int (nI w)), (2, .int (nI ns)), (3, .int (nI i))] [] := by
    intro fu
    induction fu using Nat.strongRecOn with
    | ind fu ih =>
      intro i σa f hfu hi hst z0 z1 hz
      refine jx_iload_n (pc := 71) hX d_N_startAnew_71 rfl rfl ?_
      refine jx_bipush (pc := 72) hX (v := 6) d_N_startAnew_72 rfl ?_
      refine jx_icmp_ge (pc := 74) hX 90 d_N_startAnew_74 rfl (fun qb => ?_) (fun qb => ?_)
      · have hge : i = 6 := by have : 6 ≤ i := (nI_leI (a := 6) (by omega) (by omega)).mp qb; omega
        subst hge
        exact jx_vret (pc := 90) hX d_N_startAnew_90 (⟨rep.build hst.1 hst.2.2.1 hst.2.2.2.1 hst.2.2.2.2.2 hz (fun t ht => z0 t (by omega)) (fun t ht => z1 t (by omega)), hst.2.2.2.2.1.trans nI_0.symm, hst.2.1⟩)
      · have hlt : i < 6 := Nat.lt_of_not_le (fun q => qb (nI_le (a := 6) q (by omega)))
        refine jx_aload_n (pc := 77) hX d_N_startAnew_77 rfl rfl ?_
        refine g_N_37 (pc := 78) hX d_N_startAnew_78 ?_
        refine jx_iload_n (pc := 81) hX d_N_startAnew_81 rfl rfl ?_
        refine jx_iconst (pc := 82) hX (v := 0) d_N_startAnew_82 rfl ?_
        refine jx_zast (pc := 83) hX oC_2 _ rfl (show i < 6 by omega) rfl d_N_startAnew_83 ?_
        refine jx_iinc (pc := 84) hX (v := nI (i + 1)) d_N_startAnew_84 rfl (nI_1 i) (by decide) (L' := [(0, _), (1, _), (2, _), (3, _)]) rfl ?_
        refine jx_goto (pc := 87) hX 71 d_N_startAnew_87 rfl ?_
        rw [sA_sR]
        exact ih _ (by omega) (i + 1) σa (upd f i 0) rfl (by omega) hst z0 z1 (zero_s hz)
  have loop2 : ∀ (fu : Nat) (i : Nat) (σa : St) (f : Nat → Int32), 8 - i = fu → i ≤ 8 → stA σa w ns → (∀ j, j < 24 → σa.2 0 j = 0) → (∀ j, j < i → f j = 0) → jW l X (yC D ad ac) A 4 0 0 kT (jQv X (yC D ad ac) A (fun u => repC u (M.build w ns))) (sR σa 1 f) 50 [(0, .ref (ad 20)), (1, .int (nI w)), (2, .int (nI ns)), (3, .int (nI i))] [] := by
    intro fu
    induction fu using Nat.strongRecOn with
    | ind fu ih =>
      intro i σa f hfu hi hst z0 hz
      refine jx_iload_n (pc := 50) hX d_N_startAnew_50 rfl rfl ?_
      refine jx_bipush (pc := 51) hX (v := 8) d_N_startAnew_51 rfl ?_
      refine jx_icmp_ge (pc := 53) hX 69 d_N_startAnew_53 rfl (fun qb => ?_) (fun qb => ?_)
      · have hge : i = 8 := by have : 8 ≤ i := (nI_leI (a := 8) (by omega) (by omega)).mp qb; omega
        subst hge
        refine jx_iconst (pc := 69) hX (v := 0) d_N_startAnew_69 rfl ?_
        refine jx_istore_n (pc := 70) hX d_N_startAnew_70 rfl (by decide) (L' := [(0, _), (1, _), (2, _), (3, _)]) rfl ?_
        exact jx_to (loop3 _ 0 (sR σa 1 f) (σa.2 2) rfl (Nat.zero_le _) hst z0 hz (fun j hj => absurd hj (Nat.not_lt_zero j))) (sR_self (sR σa 1 f) 2).symm rfl rfl rfl
      · have hlt : i < 8 := Nat.lt_of_not_le (fun q => qb (nI_le (a := 8) q (by omega)))
        refine jx_aload_n (pc := 56) hX d_N_startAnew_56 rfl rfl ?_
        refine g_N_34 (pc := 57) hX d_N_startAnew_57 ?_
        refine jx_iload_n (pc := 60) hX d_N_startAnew_60 rfl rfl ?_
        refine jx_iconst (pc := 61) hX (v := 0) d_N_startAnew_61 rfl ?_
        refine jx_iast (pc := 62) hX oC_1 _ rfl (show i < 8 by omega) d_N_startAnew_62 ?_
        refine jx_iinc (pc := 63) hX (v := nI (i + 1)) d_N_startAnew_63 rfl (nI_1 i) (by decide) (L' := [(0, _), (1, _), (2, _), (3, _)]) rfl ?_
        refine jx_goto (pc := 66) hX 50 d_N_startAnew_66 rfl ?_
        rw [sA_sR]
        exact ih _ (by omega) (i + 1) σa (upd f i 0) rfl (by omega) hst z0 (zero_s hz)
  have loop1 : ∀ (fu : Nat) (i : Nat) (σa : St) (f : Nat → Int32), 24 - i = fu → i ≤ 24 → stA σa w ns → (∀ j, j < i → f j = 0) → jW l X (yC D ad ac) A 4 0 0 kT (jQv X (yC D ad ac) A (fun u => repC u (M.build w ns))) (sR σa 0 f) 29 [(0, .ref (ad 20)), (1, .int (nI w)), (2, .int (nI ns)), (3, .int (nI i))] [] := by
    intro fu
    induction fu using Nat.strongRecOn with
    | ind fu ih =>
      intro i σa f hfu hi hst  hz
      refine jx_iload_n (pc := 29) hX d_N_startAnew_29 rfl rfl ?_
      refine jx_bipush (pc := 30) hX (v := 24) d_N_startAnew_30 rfl ?_
      refine jx_icmp_ge (pc := 32) hX 48 d_N_startAnew_32 rfl (fun qb => ?_) (fun qb => ?_)
      · have hge : i = 24 := by have : 24 ≤ i := (nI_leI (a := 24) (by omega) (by omega)).mp qb; omega
        subst hge
        refine jx_iconst (pc := 48) hX (v := 0) d_N_startAnew_48 rfl ?_
        refine jx_istore_n (pc := 49) hX d_N_startAnew_49 rfl (by decide) (L' := [(0, _), (1, _), (2, _), (3, _)]) rfl ?_
        exact jx_to (loop2 _ 0 (sR σa 0 f) (σa.2 1) rfl (Nat.zero_le _) hst hz (fun j hj => absurd hj (Nat.not_lt_zero j))) (sR_self (sR σa 0 f) 1).symm rfl rfl rfl
      · have hlt : i < 24 := Nat.lt_of_not_le (fun q => qb (nI_le (a := 24) q (by omega)))
        refine jx_aload_n (pc := 35) hX d_N_startAnew_35 rfl rfl ?_
        refine g_N_30 (pc := 36) hX d_N_startAnew_36 ?_
        refine jx_iload_n (pc := 39) hX d_N_startAnew_39 rfl rfl ?_
        refine jx_iconst (pc := 40) hX (v := 0) d_N_startAnew_40 rfl ?_
        refine jx_iast (pc := 41) hX oC_0 _ rfl (show i < 24 by omega) d_N_startAnew_41 ?_
        refine jx_iinc (pc := 42) hX (v := nI (i + 1)) d_N_startAnew_42 rfl (nI_1 i) (by decide) (L' := [(0, _), (1, _), (2, _), (3, _)]) rfl ?_
        refine jx_goto (pc := 45) hX 29 d_N_startAnew_45 rfl ?_
        rw [sA_sR]
        exact ih _ (by omega) (i + 1) σa (upd f i 0) rfl (by omega) hst (zero_s hz)
  refine jx_aload_n (pc := 0) hX d_N_startAnew_0 rfl rfl ?_
  refine g_N_10 (pc := 1) hX d_N_startAnew_1 ?_
  refine jx_iload_n (pc := 4) hX d_N_startAnew_4 rfl rfl ?_
  refine k_N_195 (pc := 5) hX (t_P_drawFor σ w hw) ⟨rfl, rfl, (Nat.le_of_ble_eq_true rfl), (Nat.le_of_ble_eq_true rfl)⟩ rfl rfl (Nat.le_of_ble_eq_true rfl) ⟨Nat.zero_le _, Nat.zero_le _⟩ d_N_startAnew_5 (fun u1 hu1 => ?_)
  refine jx_aload_n (pc := 8) hX d_N_startAnew_8 rfl rfl ?_
  refine g_N_19 (pc := 9) hX d_N_startAnew_9 ?_
  refine k_N_198 (pc := 12) hX (t_T_clear u1) ⟨rfl, rfl, (Nat.le_of_ble_eq_true rfl), (Nat.le_of_ble_eq_true rfl)⟩ rfl rfl (Nat.le_of_ble_eq_true rfl) ⟨Nat.zero_le _, Nat.zero_le _⟩ d_N_startAnew_12 (fun u2 hu2 => ?_)
  subst hu2
  refine jx_aload_n (pc := 15) hX d_N_startAnew_15 rfl rfl ?_
  refine g_N_26 (pc := 16) hX d_N_startAnew_16 ?_
  refine k_N_201 (pc := 19) hX (t_B_clear _) ⟨rfl, rfl, (Nat.le_of_ble_eq_true rfl), (Nat.le_of_ble_eq_true rfl)⟩ rfl rfl (Nat.le_of_ble_eq_true rfl) ⟨Nat.zero_le _, Nat.zero_le _⟩ d_N_startAnew_19 (fun u3 hu3 => ?_)
  subst hu3
  refine jx_aload_n (pc := 22) hX d_N_startAnew_22 rfl rfl ?_
  refine jx_iload_n (pc := 23) hX d_N_startAnew_23 rfl rfl ?_
  refine p_N_162 (pc := 24) hX d_N_startAnew_24 ?_
  refine jx_iconst (pc := 27) hX (v := 0) d_N_startAnew_27 rfl ?_
  refine jx_istore_n (pc := 28) hX d_N_startAnew_28 rfl (by decide) (L' := [(0, _), (1, _), (2, _), (3, _)]) rfl ?_
  exact jx_to (loop1 _ 0 (sF (sF (sF (sF u1 4 0) 5 0) 6 0) 0 (nI ns)) (u1.2 0) rfl (Nat.zero_le _) ⟨hu1.1, hu1.2, rfl, rfl, rfl, rfl⟩ (fun j hj => absurd hj (Nat.not_lt_zero j))) (sR_self _ 0).symm rfl rfl rfl
end
section
/-! rows for the reference's side -/
def rf (a b : Bool) : Int32 := if a = true then 1 else if b = true then 2 else 0
theorem AR.off {α : Type} {n : Nat} {enc : α → Int32} {f : Nat → Int32} {g : Nat → α} (h : AR n enc f g) {x : Int32} {i : Nat} (hi : n ≤ i) : AR n enc (upd f i x) g := by
  intro t ht
  rw [pk_un (by omega)]
  exact h t ht
theorem eO_neg {o : Option Nat} (h : ∀ p, o = some p → p < 2 ^ 31) : eO o < 0 ↔ o = none := by
  cases o with
  | none => exact ⟨fun _ => rfl, fun _ => by decide⟩
  | some p => exact ⟨fun q => absurd q (nI_pos (h p rfl)), fun q => by cases q⟩
theorem eO_ge {o : Option Nat} (h : ∀ p, o = some p → p < 2 ^ 31) : 0 ≤ eO o ↔ ∃ p, o = some p := by
  cases o with
  | none => exact ⟨fun q => absurd q (by decide), fun ⟨_, q⟩ => by cases q⟩
  | some p => exact ⟨fun _ => ⟨p, rfl⟩, fun _ => nI_pos' (h p rfl)⟩
theorem lefF_s (st : Nat → Nat) (n : Nat) : lefF st (n + 1) = lefF st n + (if st n = 2 then 0 else 1) := rfl
theorem lefF_s2 {st : Nat → Nat} {n : Nat} (h : st n = 2) : lefF st (n + 1) = lefF st n := by rw [lefF_s, if_pos h, Nat.add_zero]
theorem lefF_s1 {st : Nat → Nat} {n : Nat} (h : ¬ st n = 2) : lefF st (n + 1) = lefF st n + 1 := by rw [lefF_s, if_neg h]
theorem lefF_le (st : Nat → Nat) : ∀ n, lefF st n ≤ n
  | 0 => Nat.le_refl _
  | n + 1 => by have := lefF_le st n; rw [lefF_s]; split <;> omega
def exF (w wi i : Nat) : Nat := if uX w wi < i then uX w wi else 0
theorem exF_0 (w wi : Nat) : exF w wi 0 = 0 := by unfold exF; rw [if_neg (by omega)]
theorem exF_hit {w wi i : Nat} (h : i = uX w wi) : exF w wi (i + 1) = i := by unfold exF; rw [if_pos (by omega), h]
theorem exF_no {w wi i : Nat} (h : ¬ i = uX w wi) : exF w wi (i + 1) = exF w wi i := by
  unfold exF
  by_cases q : uX w wi < i
  · rw [if_pos (by omega), if_pos q]
  · rw [if_neg (by omega), if_neg q]
theorem exF_end {w wi : Nat} (hw : Wok w) (h : wi < w) : exF w wi w = uX w wi := by unfold exF; rw [if_pos (uX_lt hw h)]
theorem hasF_s (la : Nat → Nat) (lw : Nat → Int32) (t : Nat) (wy : Int32) (n : Nat) : hasF la lw t wy (n + 1) = (hasF la lw t wy n || (la n == t && lw n == wy)) := rfl
theorem hasF_s1 {la : Nat → Nat} {lw : Nat → Int32} {t : Nat} {wy : Int32} {n : Nat} (h : hasF la lw t wy n = true ∨ (la n = t ∧ lw n = wy)) : hasF la lw t wy (n + 1) = true := by
  rw [hasF_s]
  rcases h with h | ⟨a, b⟩
  · rw [h]; rfl
  · rw [a, b]; simp
theorem hasF_s0 {la : Nat → Nat} {lw : Nat → Int32} {t : Nat} {wy : Int32} {n : Nat} (h : hasF la lw t wy n = false) (h2 : ¬ (la n = t ∧ lw n = wy)) : hasF la lw t wy (n + 1) = false := by
  rw [hasF_s, h]
  cases h1 : (la n == t) with
  | false => rfl
  | true =>
    cases h3 : (lw n == wy) with
    | false => rfl
    | true => exact absurd ⟨by simpa using h1, by simpa using h3⟩ h2
def isH (M : Ms) (n : Nat) : Bool := decide (n / M.w < M.handed (n % M.w))
def alF (M : Ms) : Nat → Bool
  | 0 => true
  | n + 1 => alF M n && isH M n
theorem alF_s1 {M : Ms} {n : Nat} (h1 : alF M n = true) (h2 : isH M n = true) : alF M (n + 1) = true := by
  show (alF M n && isH M n) = true
  rw [h1, h2]; rfl
theorem alF_s0 {M : Ms} {n : Nat} (h : alF M n = false ∨ isH M n = false) : alF M (n + 1) = false := by
  show (alF M n && isH M n) = false
  rcases h with h | h
  · rw [h]; rfl
  · rw [h]; exact Bool.and_false _
theorem alF_iff (M : Ms) : ∀ q, alF M q = true ↔ ∀ n, n < q → n / M.w < M.handed (n % M.w)
  | 0 => ⟨fun _ n hn => absurd hn (Nat.not_lt_zero n), fun _ => rfl⟩
  | q + 1 => by
    show (alF M q && isH M q) = true ↔ _
    rw [Bool.and_eq_true, alF_iff M q]
    unfold isH
    rw [decide_eq_true_eq]
    constructor
    · intro h n hn
      by_cases e : n = q
      · rw [e]; exact h.2
      · exact h.1 n (by omega)
    · intro h
      exact ⟨fun n hn => h n (by omega), h q (by omega)⟩
theorem alF_least {M : Ms} (h : Inv M) (q : Nat) : alF M q = true ↔ q ≤ M.least := by
  rw [alF_iff]
  exact least_iff (by have := h.1.pos; omega)
theorem gaF_s0 {M : Ms} {n : Nat} (h : isH M n = true) : gaF M.handed M.w (n + 1) = gaF M.handed M.w n := by
  show gaF M.handed M.w n + (if n / M.w < M.handed (n % M.w) then 0 else 1) = _
  rw [if_pos (of_decide_eq_true h), Nat.add_zero]
theorem gaF_s1 {M : Ms} {n : Nat} (h : isH M n = false) : gaF M.handed M.w (n + 1) = gaF M.handed M.w n + 1 := by
  show gaF M.handed M.w n + (if n / M.w < M.handed (n % M.w) then 0 else 1) = _
  rw [if_neg (of_decide_eq_false h)]
def cp (f : Nat → Int32) (i k : Nat) : Nat → Int32 := va_cpy f f (i + 1) i (k - i)
theorem cp_0 (f : Nat → Int32) (i : Nat) : cp f i i = f := by
  funext j
  unfold cp
  rw [Nat.sub_self, pk_cpy_out (by omega)]
theorem cp_at (f : Nat → Int32) {i k : Nat} (h : i ≤ k) : cp f i k (k + 1) = f (k + 1) := by
  unfold cp
  rw [pk_cpy_out (by omega)]
theorem cp_s (f : Nat → Int32) {i k : Nat} (h : i ≤ k) : upd (cp f i k) k (f (k + 1)) = cp f i (k + 1) := by
  funext j
  unfold cp
  by_cases e : j = k
  · subst e
    rw [pk_us, pk_cpy_in (by omega) (by omega)]
    congr 1
    omega
  · rw [pk_un e]
    by_cases q : i ≤ j ∧ j < k
    · rw [pk_cpy_in (by omega) (by omega), pk_cpy_in (by omega) (by omega)]
    · rw [pk_cpy_out (by omega), pk_cpy_out (by omega)]
theorem sR_self' {σ : St} {k : Nat} {f : Nat → Int32} (h : σ.2 k = f) : σ = sR σ k f := by rw [← h, sR_self]
theorem sR3 (τ : St) (f g h : Nat → Int32) (k : Nat) (x y z : Int32) : sA (sA (sA (sR (sR (sR τ 16 f) 17 g) 18 h) 16 k x) 17 k y) 18 k z = sR (sR (sR τ 16 (upd f k x)) 17 (upd g k y)) 18 (upd h k z) := by
  unfold sA sR
  show (_, _) = (_, _)
  congr 1
  funext j
  by_cases e1 : j = 18
  · subst e1; rfl
  · by_cases e2 : j = 17
    · subst e2; rfl
    · by_cases e3 : j = 16
      · subst e3; rfl
      · simp only [va_up, e1, e2, e3, if_false]
theorem sR3_0 (τ : St) : τ = sR (sR (sR τ 16 (τ.2 16)) 17 (τ.2 17)) 18 (τ.2 18) := by
  rw [sR_self τ 16, sR_self τ 17, sR_self τ 18]
theorem eP_le {a b : Nat} (ha : a < 2 ^ 30) (hb : b < 2 ^ 30) : eP a ≤ eP b ↔ a ≤ b := by
  rw [Int32.le_iff_toInt_le, eP_toInt ha, eP_toInt hb]
  omega
def lst (M : Ms) (i : Nat) : Nat := if M.handed i = 0 then 0 else i + M.w * (M.handed i - 1) + 1
theorem hi1_lst (M : Ms) (i : Nat) : hi1 M.handed M.w (i + 1) = max (hi1 M.handed M.w i) (lst M i) := rfl
end
section
set_option maxRecDepth 100000 in
set_option maxHeartbeats 4000000 in
theorem t_M_thrown {l : Launch} {D : va_G} {ad : Nat → Nat} {ac : Nat → ClassId} (σ : St) : jMp l (yM D ad ac) mt_M_thrown TT (rmk 0) [.ref (ad 19)] σ (fun r => r = σ.1 0) := by
  refine jMp_of (by decide) (Nat.le_of_ble_eq_true rfl) (List.forall_mem_cons.mpr ⟨rfl, fun _ h => absurd h List.not_mem_nil⟩) ?_
  intro X A hX
  have hX : jX X (yM D ad ac) A b_M_thrown 1 RM (mt_M_thrown.w :: TT) (rmk 0) (some .int) := hX
  show jW l X (yM D ad ac) A 1 0 0 (k0 X) (jQp X (fun r => r = σ.1 0)) σ 0 [(0, .ref (ad 19))] []
  refine jx_aload_n (pc := 0) hX d_M_thrown_0 rfl rfl ?_
  refine g_M_72 (pc := 1) hX d_M_thrown_1 ?_
  exact jx_iretp (pc := 4) hX d_M_thrown_4 (rfl)
set_option maxRecDepth 100000 in
set_option maxHeartbeats 4000000 in
theorem t_M_in {l : Launch} {D : va_G} {ad : Nat → Nat} {ac : Nat → ClassId} (σ : St) (v lo hi : Int32) : jMp l (yM D ad ac) mt_M_in TT (rmk 0) [.int v, .int lo, .int hi] σ (fun r => r = eB (decide (lo ≤ v ∧ v ≤ hi))) := by
  refine jMp_of (by decide) (Nat.le_of_ble_eq_true rfl) (List.forall_mem_cons.mpr ⟨rfl, List.forall_mem_cons.mpr ⟨rfl, List.forall_mem_cons.mpr ⟨rfl, fun _ h => absurd h List.not_mem_nil⟩⟩⟩) ?_
  intro X A hX
  have hX : jX X (yM D ad ac) A b_M_in 3 RM (mt_M_in.w :: TT) (rmk 0) (some .boolean) := hX
  show jW l X (yM D ad ac) A 3 0 0 (k0 X) (jQp X (fun r => r = eB (decide (lo ≤ v ∧ v ≤ hi)))) σ 0 [(0, .int v), (1, .int lo), (2, .int hi)] []
  refine jx_iload_n (pc := 0) hX d_M_in_0 rfl rfl ?_
  refine jx_iload_n (pc := 1) hX d_M_in_1 rfl rfl ?_
  refine jx_icmp_lt (pc := 2) hX 14 d_M_in_2 rfl (fun h2 => ?_) (fun h2 => ?_)
  · refine jx_iconst (pc := 14) hX (v := 0) d_M_in_14 rfl ?_
    exact jx_zretp (pc := 15) hX d_M_in_15 rfl (eB_f (decide_eq_false (fun q => absurd q.1 (Int32.not_le.mpr h2))))
  · refine jx_iload_n (pc := 5) hX d_M_in_5 rfl rfl ?_
    refine jx_iload_n (pc := 6) hX d_M_in_6 rfl rfl ?_
    refine jx_icmp_gt (pc := 7) hX 14 d_M_in_7 rfl (fun h7 => ?_) (fun h7 => ?_)
    · refine jx_iconst (pc := 14) hX (v := 0) d_M_in_14 rfl ?_
      exact jx_zretp (pc := 15) hX d_M_in_15 rfl (eB_f (decide_eq_false (fun q => absurd q.2 (Int32.not_le.mpr h7))))
    · refine jx_iconst (pc := 10) hX (v := 1) d_M_in_10 rfl ?_
      refine jx_goto (pc := 11) hX 15 d_M_in_11 rfl ?_
      exact jx_zretp (pc := 15) hX d_M_in_15 rfl (eB_t (decide_eq_true ⟨Int32.not_lt.mp h2, Int32.not_lt.mp h7⟩))
set_option maxRecDepth 100000 in
set_option maxHeartbeats 4000000 in
theorem t_M_refuse1 {l : Launch} {D : va_G} {ad : Nat → Nat} {ac : Nat → ClassId} (σ : St) (y : Int32) : jMi l (yM D ad ac) mt_M_refuse TT (rmk 0) [.ref (ad 19), .int 1, .int y] σ (fun r u => r = 1 ∧ u = sF σ 0 1) := by
  refine jMi_of (by decide) (Nat.le_of_ble_eq_true rfl) (List.forall_mem_cons.mpr ⟨rfl, List.forall_mem_cons.mpr ⟨rfl, List.forall_mem_cons.mpr ⟨rfl, fun _ h => absurd h List.not_mem_nil⟩⟩⟩) ?_
  intro X A hX
  have hX : jX X (yM D ad ac) A b_M_refuse 3 RM (mt_M_refuse.w :: TT) (rmk 0) (some .boolean) := hX
  show jW l X (yM D ad ac) A 3 0 0 kT (jQi X (yM D ad ac) A (fun r u => r = 1 ∧ u = sF σ 0 1)) σ 0 [(0, .ref (ad 19)), (1, .int 1), (2, .int y)] []
  refine jx_aload_n (pc := 0) hX d_M_refuse_0 rfl rfl ?_
  refine jx_iload_n (pc := 1) hX d_M_refuse_1 rfl rfl ?_
  refine jx_if_eq (pc := 2) hX 9 d_M_refuse_2 rfl (fun hh => absurd hh (by decide)) (fun _ => ?_)
  refine jx_iconst (pc := 5) hX (v := 1) d_M_refuse_5 rfl ?_
  refine jx_goto (pc := 6) hX 18 d_M_refuse_6 rfl ?_
  refine p_M_72 (pc := 18) hX d_M_refuse_18 ?_
  refine jx_aload_n (pc := 21) hX d_M_refuse_21 rfl rfl ?_
  refine g_M_72 (pc := 22) hX d_M_refuse_22 ?_
  refine jx_top (y := 1) (rfl) ?_
  refine jx_if_le (pc := 25) hX 32 d_M_refuse_25 rfl (fun hh => absurd hh (by decide)) (fun _ => ?_)
  refine jx_iconst (pc := 28) hX (v := 1) d_M_refuse_28 rfl ?_
  refine jx_goto (pc := 29) hX 33 d_M_refuse_29 rfl ?_
  exact jx_zret (pc := 33) hX d_M_refuse_33 rfl (⟨rfl, rfl⟩)
set_option maxRecDepth 100000 in
set_option maxHeartbeats 4000000 in
theorem t_M_refuse2 {l : Launch} {D : va_G} {ad : Nat → Nat} {ac : Nat → ClassId} (σ : St) : jMi l (yM D ad ac) mt_M_refuse TT (rmk 0) [.ref (ad 19), .int 0, .int 1] σ (fun r u => r = 1 ∧ u = sF σ 0 2) := by
  refine jMi_of (by decide) (Nat.le_of_ble_eq_true rfl) (List.forall_mem_cons.mpr ⟨rfl, List.forall_mem_cons.mpr ⟨rfl, List.forall_mem_cons.mpr ⟨rfl, fun _ h => absurd h List.not_mem_nil⟩⟩⟩) ?_
  intro X A hX
  have hX : jX X (yM D ad ac) A b_M_refuse 3 RM (mt_M_refuse.w :: TT) (rmk 0) (some .boolean) := hX
  show jW l X (yM D ad ac) A 3 0 0 kT (jQi X (yM D ad ac) A (fun r u => r = 1 ∧ u = sF σ 0 2)) σ 0 [(0, .ref (ad 19)), (1, .int 0), (2, .int 1)] []
  refine jx_aload_n (pc := 0) hX d_M_refuse_0 rfl rfl ?_
  refine jx_iload_n (pc := 1) hX d_M_refuse_1 rfl rfl ?_
  refine jx_if_eq (pc := 2) hX 9 d_M_refuse_2 rfl (fun _ => ?_) (fun hh => absurd (rfl) hh)
  refine jx_iload_n (pc := 9) hX d_M_refuse_9 rfl rfl ?_
  refine jx_if_eq (pc := 10) hX 17 d_M_refuse_10 rfl (fun hh => absurd hh (by decide)) (fun _ => ?_)
  refine jx_iconst (pc := 13) hX (v := 2) d_M_refuse_13 rfl ?_
  refine jx_goto (pc := 14) hX 18 d_M_refuse_14 rfl ?_
  refine p_M_72 (pc := 18) hX d_M_refuse_18 ?_
  refine jx_aload_n (pc := 21) hX d_M_refuse_21 rfl rfl ?_
  refine g_M_72 (pc := 22) hX d_M_refuse_22 ?_
  refine jx_top (y := 2) (rfl) ?_
  refine jx_if_le (pc := 25) hX 32 d_M_refuse_25 rfl (fun hh => absurd hh (by decide)) (fun _ => ?_)
  refine jx_iconst (pc := 28) hX (v := 1) d_M_refuse_28 rfl ?_
  refine jx_goto (pc := 29) hX 33 d_M_refuse_29 rfl ?_
  exact jx_zret (pc := 33) hX d_M_refuse_33 rfl (⟨rfl, rfl⟩)
set_option maxRecDepth 100000 in
set_option maxHeartbeats 4000000 in
theorem t_M_refuse0 {l : Launch} {D : va_G} {ad : Nat → Nat} {ac : Nat → ClassId} (σ : St) : jMi l (yM D ad ac) mt_M_refuse TT (rmk 0) [.ref (ad 19), .int 0, .int 0] σ (fun r u => r = 0 ∧ u = sF σ 0 0) := by
  refine jMi_of (by decide) (Nat.le_of_ble_eq_true rfl) (List.forall_mem_cons.mpr ⟨rfl, List.forall_mem_cons.mpr ⟨rfl, List.forall_mem_cons.mpr ⟨rfl, fun _ h => absurd h List.not_mem_nil⟩⟩⟩) ?_
  intro X A hX
  have hX : jX X (yM D ad ac) A b_M_refuse 3 RM (mt_M_refuse.w :: TT) (rmk 0) (some .boolean) := hX
  show jW l X (yM D ad ac) A 3 0 0 kT (jQi X (yM D ad ac) A (fun r u => r = 0 ∧ u = sF σ 0 0)) σ 0 [(0, .ref (ad 19)), (1, .int 0), (2, .int 0)] []
  refine jx_aload_n (pc := 0) hX d_M_refuse_0 rfl rfl ?_
  refine jx_iload_n (pc := 1) hX d_M_refuse_1 rfl rfl ?_
  refine jx_if_eq (pc := 2) hX 9 d_M_refuse_2 rfl (fun _ => ?_) (fun hh => absurd (rfl) hh)
  refine jx_iload_n (pc := 9) hX d_M_refuse_9 rfl rfl ?_
  refine jx_if_eq (pc := 10) hX 17 d_M_refuse_10 rfl (fun _ => ?_) (fun hh => absurd (rfl) hh)
  refine jx_iconst (pc := 17) hX (v := 0) d_M_refuse_17 rfl ?_
  refine p_M_72 (pc := 18) hX d_M_refuse_18 ?_
  refine jx_aload_n (pc := 21) hX d_M_refuse_21 rfl rfl ?_
  refine g_M_72 (pc := 22) hX d_M_refuse_22 ?_
  refine jx_top (y := 0) (rfl) ?_
  refine jx_if_le (pc := 25) hX 32 d_M_refuse_25 rfl (fun _ => ?_) (fun hh => absurd (by decide) hh)
  refine jx_iconst (pc := 32) hX (v := 0) d_M_refuse_32 rfl ?_
  exact jx_zret (pc := 33) hX d_M_refuse_33 rfl (⟨rfl, rfl⟩)
theorem t_M_refuse {l : Launch} {D : va_G} {ad : Nat → Nat} {ac : Nat → ClassId} (σ : St) (a b : Bool) : jMi l (yM D ad ac) mt_M_refuse TT (rmk 0) [.ref (ad 19), .int (eB a), .int (eB b)] σ (fun r u => r = eB (a || b) ∧ u = sF σ 0 (rf a b)) := by
  cases a with
  | true => exact t_M_refuse1 σ (eB b)
  | false =>
    cases b with
    | true => exact t_M_refuse2 σ
    | false => exact t_M_refuse0 σ
set_option maxRecDepth 100000 in
set_option maxHeartbeats 4000000 in
theorem t_M_left {l : Launch} {D : va_G} {ad : Nat → Nat} {ac : Nat → ClassId} (σ : St) (M : Ms) (hI : Inv M) (hM : repM σ M) : jMp l (yM D ad ac) mt_M_left TT (rmk 0) [.ref (ad 19)] σ (fun r => r = nI M.left) := by
  obtain ⟨⟨⟨s0, s1, s2, s3⟩, h0, h1, h2, h3, h4, h5, h6, h7, h8, h9, h10, h11, h12, h13⟩, hpl⟩ := id hM
  obtain ⟨i1, i2, i3, i4, i5, i6, i7, i8⟩ := id hI
  obtain ⟨p1, p3, p4, p5, p6⟩ := id hpl
  have hw8 := i1.le
  have hw2 := i1.pos
  have hnb := nb_le M.w
  refine jMp_of (by decide) (Nat.le_of_ble_eq_true rfl) (List.forall_mem_cons.mpr ⟨rfl, fun _ h => absurd h List.not_mem_nil⟩) ?_
  intro X A hX
  have hX : jX X (yM D ad ac) A b_M_left 3 RM (mt_M_left.w :: TT) (rmk 0) (some .int) := hX
  show jW l X (yM D ad ac) A 3 0 0 (k0 X) (jQp X (fun r => r = nI M.left)) σ 0 [(0, .ref (ad 19))] []
  have loop : ∀ (fu : Nat) (t : Nat), M.nt - t = fu → t ≤ M.nt → jW l X (yM D ad ac) A 3 0 0 (k0 X) (jQp X (fun r => r = nI M.left)) σ 4 [(0, .ref (ad 19)), (1, .int (nI (lefF M.state t))), (2, .int (nI t))] [] := by
    intro fu
    induction fu using Nat.strongRecOn with
    | ind fu ih =>
      intro t hfu htl
      refine jx_iload_n (pc := 4) hX d_M_left_4 rfl rfl ?_
      refine jx_aload_n (pc := 5) hX d_M_left_5 rfl rfl ?_
      refine g_M_99 (pc := 6) hX d_M_left_6 ?_
      refine jx_top (y := nI M.nt) (s2) ?_
      refine jx_icmp_ge (pc := 9) hX 36 d_M_left_9 rfl (fun q9 => ?_) (fun q9 => ?_)
      · have hge : t = M.nt := by have : M.nt ≤ t := (nI_leI (by omega) (by omega)).mp q9; omega
        refine jx_iload_n (pc := 36) hX d_M_left_36 rfl rfl ?_
        exact jx_iretp (pc := 37) hX d_M_left_37 (by rw [hge]; rfl)
      · have hlt : t < M.nt := Nat.lt_of_not_le (fun q => q9 (nI_le q (by omega)))
        have j3 := (i6 t hlt).2.2.1
        refine jx_aload_n (pc := 12) hX d_M_left_12 rfl rfl ?_
        refine g_M_41 (pc := 13) hX d_M_left_13 ?_
        refine jx_iload_n (pc := 16) hX d_M_left_16 rfl rfl ?_
        refine jx_iald (pc := 17) hX oM_10 _ rfl (show t < 200 by omega) d_M_left_17 ?_
        refine jx_top (y := nI (M.state t)) (h2 t hlt) ?_
        refine jx_iconst (pc := 18) hX (v := 2) d_M_left_18 rfl ?_
        refine jx_icmp_ne (pc := 19) hX 26 d_M_left_19 rfl (fun q19 => ?_) (fun q19 => ?_)
        · have a19 : ¬ M.state t = 2 := fun q => q19 ((nI_n2 (by omega)).mpr q)
          refine jx_iload_n (pc := 26) hX d_M_left_26 rfl rfl ?_
          refine jx_iconst (pc := 27) hX (v := 1) d_M_left_27 rfl ?_
          refine jx_iadd (pc := 28) hX d_M_left_28 ?_
          refine jx_top (y := nI (lefF M.state t + 1)) (nI_1 _) ?_
          refine jx_istore_n (pc := 29) hX d_M_left_29 rfl (by decide) (L' := [(0, _), (1, _), (2, _)]) rfl ?_
          refine jx_iinc (pc := 30) hX (v := nI (t + 1)) d_M_left_30 rfl (nI_1 t) (by decide) (L' := [(0, _), (1, _), (2, _)]) rfl ?_
          refine jx_goto (pc := 33) hX 4 d_M_left_33 rfl ?_
          rw [← lefF_s1 a19]
          exact ih _ (by omega) (t + 1) rfl (by omega)
        · have a19 : M.state t = 2 := (nI_n2 (by omega)).mp q19
          refine jx_iload_n (pc := 22) hX d_M_left_22 rfl rfl ?_
          refine jx_goto (pc := 23) hX 29 d_M_left_23 rfl ?_
          refine jx_istore_n (pc := 29) hX d_M_left_29 rfl (by decide) (L' := [(0, _), (1, _), (2, _)]) rfl ?_
          refine jx_iinc (pc := 30) hX (v := nI (t + 1)) d_M_left_30 rfl (nI_1 t) (by decide) (L' := [(0, _), (1, _), (2, _)]) rfl ?_
          refine jx_goto (pc := 33) hX 4 d_M_left_33 rfl ?_
          rw [← lefF_s2 a19]
          exact ih _ (by omega) (t + 1) rfl (by omega)
  refine jx_iconst (pc := 0) hX (v := 0) d_M_left_0 rfl ?_
  refine jx_istore_n (pc := 1) hX d_M_left_1 rfl (by decide) (L' := [(0, _), (1, _)]) rfl ?_
  refine jx_iconst (pc := 2) hX (v := 0) d_M_left_2 rfl ?_
  refine jx_istore_n (pc := 3) hX d_M_left_3 rfl (by decide) (L' := [(0, _), (1, _), (2, _)]) rfl ?_
  exact loop _ 0 rfl (Nat.zero_le _)
set_option maxRecDepth 100000 in
set_option maxHeartbeats 4000000 in
theorem t_M_nextOf {l : Launch} {D : va_G} {ad : Nat → Nat} {ac : Nat → ClassId} (σ : St) (M : Ms) (hI : Inv M) (hM : repM σ M) (t : Nat) (ht : t < M.nt) : jMp l (yM D ad ac) mt_M_nextOf TT (rmk 0) [.ref (ad 19), .int (nI t)] σ (fun r => r = eO (M.next t)) := by
  obtain ⟨⟨⟨s0, s1, s2, s3⟩, h0, h1, h2, h3, h4, h5, h6, h7, h8, h9, h10, h11, h12, h13⟩, hpl⟩ := id hM
  obtain ⟨i1, i2, i3, i4, i5, i6, i7, i8⟩ := id hI
  obtain ⟨p1, p3, p4, p5, p6⟩ := id hpl
  have hw8 := i1.le
  have hw2 := i1.pos
  have hnb := nb_le M.w
  obtain ⟨j1, j2, j3, j4, j5, j6⟩ := i6 t ht
  have ht9 : t < 200 := by omega
  have jp : ∀ p, M.place t = some p → p < 2 ^ 31 := fun p hp => by have := j2 p hp; omega
  refine jMp_of (by decide) (Nat.le_of_ble_eq_true rfl) (List.forall_mem_cons.mpr ⟨rfl, List.forall_mem_cons.mpr ⟨rfl, fun _ h => absurd h List.not_mem_nil⟩⟩) ?_
  intro X A hX
  have hX : jX X (yM D ad ac) A b_M_nextOf 3 RM (mt_M_nextOf.w :: TT) (rmk 0) (some .int) := hX
  show jW l X (yM D ad ac) A 3 0 0 (k0 X) (jQp X (fun r => r = eO (M.next t))) σ 0 [(0, .ref (ad 19)), (1, .int (nI t))] []
  have loop : ∀ (fu : Nat) (b : Nat), nb M.w - b = fu → b ≤ nb M.w → nxF M.w (M.wire t) (nb M.w - b) b = nxB M.w (M.wire t) (M.nxt t) → jW l X (yM D ad ac) A 3 0 0 (k0 X) (jQp X (fun r => r = eO (M.next t))) σ 9 [(0, .ref (ad 19)), (1, .int (nI t)), (2, .int (nI b))] [] := by
    intro fu
    induction fu using Nat.strongRecOn with
    | ind fu ih =>
      intro b hfu hbl hq
      refine jx_iload_n (pc := 9) hX d_M_nextOf_9 rfl rfl ?_
      refine jx_aload_n (pc := 10) hX d_M_nextOf_10 rfl rfl ?_
      refine g_M_76 (pc := 11) hX d_M_nextOf_11 ?_
      refine jx_top (y := nI (nb M.w)) (p1) ?_
      refine jx_icmp_ge (pc := 14) hX 55 d_M_nextOf_14 rfl (fun q14 => ?_) (fun q14 => ?_)
      · have hb : nb M.w ≤ b := (nI_leI (by omega) (by omega)).mp q14
        refine jx_iconst (pc := 55) hX (v := -1) d_M_nextOf_55 rfl ?_
        exact jx_iretp (pc := 56) hX d_M_nextOf_56 (by unfold Ms.next; rw [nxB_none hb hq]; rfl)
      · have hb : b < nb M.w := Nat.lt_of_not_le (fun q => q14 (nI_le q (by omega)))
        have hu := uU_lt i1 hb
        have hv := uL_lt i1 hb
        refine jx_aload_n (pc := 17) hX d_M_nextOf_17 rfl rfl ?_
        refine g_M_7 (pc := 18) hX d_M_nextOf_18 ?_
        refine jx_iload_n (pc := 21) hX d_M_nextOf_21 rfl rfl ?_
        refine jx_iald (pc := 22) hX oM_0 _ rfl (show b < 24 by omega) d_M_nextOf_22 ?_
        refine jx_top (y := nI (uU M.w b)) (p3 b hb) ?_
        refine jx_aload_n (pc := 23) hX d_M_nextOf_23 rfl rfl ?_
        refine g_M_35 (pc := 24) hX d_M_nextOf_24 ?_
        refine jx_iload_n (pc := 27) hX d_M_nextOf_27 rfl rfl ?_
        refine jx_iald (pc := 28) hX oM_8 _ rfl ht9 d_M_nextOf_28 ?_
        refine jx_top (y := nI (M.wire t)) (h0 t ht) ?_
        refine jx_icmp_eq (pc := 29) hX 47 d_M_nextOf_29 rfl (fun e19 => ?_) (fun e19 => ?_)
        · refine jx_iload_n (pc := 47) hX d_M_nextOf_47 rfl rfl ?_
          exact jx_iretp (pc := 48) hX d_M_nextOf_48 (by unfold Ms.next; rw [nxB_hit hb hq (Or.inl ((nI_eq (by omega) (by omega)).mp e19))]; rfl)
        · refine jx_aload_n (pc := 32) hX d_M_nextOf_32 rfl rfl ?_
          refine g_M_13 (pc := 33) hX d_M_nextOf_33 ?_
          refine jx_iload_n (pc := 36) hX d_M_nextOf_36 rfl rfl ?_
          refine jx_iald (pc := 37) hX oM_1 _ rfl (show b < 24 by omega) d_M_nextOf_37 ?_
          refine jx_top (y := nI (uL M.w b)) (p4 b hb) ?_
          refine jx_aload_n (pc := 38) hX d_M_nextOf_38 rfl rfl ?_
          refine g_M_35 (pc := 39) hX d_M_nextOf_39 ?_
          refine jx_iload_n (pc := 42) hX d_M_nextOf_42 rfl rfl ?_
          refine jx_iald (pc := 43) hX oM_8 _ rfl ht9 d_M_nextOf_43 ?_
          refine jx_top (y := nI (M.wire t)) (h0 t ht) ?_
          refine jx_icmp_ne (pc := 44) hX 49 d_M_nextOf_44 rfl (fun e29 => ?_) (fun e29 => ?_)
          · have hno : ¬ (uU M.w b = M.wire t ∨ uL M.w b = M.wire t) := fun q => q.elim (fun a => e19 (by rw [a])) (fun a => e29 (by rw [a]))
            refine jx_iinc (pc := 49) hX (v := nI (b + 1)) d_M_nextOf_49 rfl (nI_1 b) (by decide) (L' := [(0, _), (1, _), (2, _)]) rfl ?_
            refine jx_goto (pc := 52) hX 9 d_M_nextOf_52 rfl ?_
            exact ih _ (by omega) (b + 1) rfl (by omega) (nxB_step hb hq hno)
          · refine jx_iload_n (pc := 47) hX d_M_nextOf_47 rfl rfl ?_
            exact jx_iretp (pc := 48) hX d_M_nextOf_48 (by unfold Ms.next; rw [nxB_hit hb hq (Or.inr ((nI_eq (by omega) (by omega)).mp e29))]; rfl)
  refine jx_aload_n (pc := 0) hX d_M_nextOf_0 rfl rfl ?_
  refine g_M_44 (pc := 1) hX d_M_nextOf_1 ?_
  refine jx_iload_n (pc := 4) hX d_M_nextOf_4 rfl rfl ?_
  refine jx_iald (pc := 5) hX oM_11 _ rfl ht9 d_M_nextOf_5 ?_
  refine jx_top (y := eP (M.nxt t)) (h4 t ht) ?_
  refine jx_iconst (pc := 6) hX (v := 1) d_M_nextOf_6 rfl ?_
  refine jx_iadd (pc := 7) hX d_M_nextOf_7 ?_
  refine jx_top (y := nI (M.nxt t)) (eP_1 _) ?_
  refine jx_istore_n (pc := 8) hX d_M_nextOf_8 rfl (by decide) (L' := [(0, _), (1, _), (2, _)]) rfl ?_
  exact loop _ (M.nxt t) rfl j4 rfl
set_option maxRecDepth 100000 in
set_option maxHeartbeats 4000000 in
theorem t_M_exitOf {l : Launch} {D : va_G} {ad : Nat → Nat} {ac : Nat → ClassId} (σ : St) (M : Ms) (hI : Inv M) (hM : repM σ M) (wi : Nat) (hwi : wi < M.w) : jMp l (yM D ad ac) mt_M_exitOf TT (rmk 0) [.ref (ad 19), .int (nI wi)] σ (fun r => r = nI (uX M.w wi)) := by
  obtain ⟨⟨⟨s0, s1, s2, s3⟩, h0, h1, h2, h3, h4, h5, h6, h7, h8, h9, h10, h11, h12, h13⟩, hpl⟩ := id hM
  obtain ⟨i1, i2, i3, i4, i5, i6, i7, i8⟩ := id hI
  obtain ⟨p1, p3, p4, p5, p6⟩ := id hpl
  have hw8 := i1.le
  have hw2 := i1.pos
  have hnb := nb_le M.w
  refine jMp_of (by decide) (Nat.le_of_ble_eq_true rfl) (List.forall_mem_cons.mpr ⟨rfl, List.forall_mem_cons.mpr ⟨rfl, fun _ h => absurd h List.not_mem_nil⟩⟩) ?_
  intro X A hX
  have hX : jX X (yM D ad ac) A b_M_exitOf 4 RM (mt_M_exitOf.w :: TT) (rmk 0) (some .int) := hX
  show jW l X (yM D ad ac) A 4 0 0 (k0 X) (jQp X (fun r => r = nI (uX M.w wi))) σ 0 [(0, .ref (ad 19)), (1, .int (nI wi))] []
  have loop : ∀ (fu : Nat) (i : Nat), M.w - i = fu → i ≤ M.w → jW l X (yM D ad ac) A 4 0 0 (k0 X) (jQp X (fun r => r = nI (uX M.w wi))) σ 4 [(0, .ref (ad 19)), (1, .int (nI wi)), (2, .int (nI (exF M.w wi i))), (3, .int (nI i))] [] := by
    intro fu
    induction fu using Nat.strongRecOn with
    | ind fu ih =>
      intro i hfu hi
      refine jx_iload_n (pc := 4) hX d_M_exitOf_4 rfl rfl ?_
      refine jx_aload_n (pc := 5) hX d_M_exitOf_5 rfl rfl ?_
      refine g_M_93 (pc := 6) hX d_M_exitOf_6 ?_
      refine jx_top (y := nI M.w) (s0) ?_
      refine jx_icmp_ge (pc := 9) hX 34 d_M_exitOf_9 rfl (fun q9 => ?_) (fun q9 => ?_)
      · have hge : i = M.w := by have : M.w ≤ i := (nI_leI (by omega) (by omega)).mp q9; omega
        refine jx_iload_n (pc := 34) hX d_M_exitOf_34 rfl rfl ?_
        exact jx_iretp (pc := 35) hX d_M_exitOf_35 (by rw [hge, exF_end i1 hwi])
      · have hlt : i < M.w := Nat.lt_of_not_le (fun q => q9 (nI_le q (by omega)))
        have hu := uE_lt i1 hlt
        refine jx_aload_n (pc := 12) hX d_M_exitOf_12 rfl rfl ?_
        refine g_M_22 (pc := 13) hX d_M_exitOf_13 ?_
        refine jx_iload_n (pc := 16) hX d_M_exitOf_16 rfl rfl ?_
        refine jx_iald (pc := 17) hX oM_4 _ rfl (show i < 8 by omega) d_M_exitOf_17 ?_
        refine jx_top (y := nI (uE M.w i)) (p6 i hlt) ?_
        refine jx_iload_n (pc := 18) hX d_M_exitOf_18 rfl rfl ?_
        refine jx_icmp_ne (pc := 19) hX 26 d_M_exitOf_19 rfl (fun q19 => ?_) (fun q19 => ?_)
        · have a19 : ¬ i = uX M.w wi := fun q => q19 (by rw [q, uE_uX i1 hwi])
          refine jx_iload_n (pc := 26) hX d_M_exitOf_26 rfl rfl ?_
          refine jx_istore_n (pc := 27) hX d_M_exitOf_27 rfl (by decide) (L' := [(0, _), (1, _), (2, _), (3, _)]) rfl ?_
          refine jx_iinc (pc := 28) hX (v := nI (i + 1)) d_M_exitOf_28 rfl (nI_1 i) (by decide) (L' := [(0, _), (1, _), (2, _), (3, _)]) rfl ?_
          refine jx_goto (pc := 31) hX 4 d_M_exitOf_31 rfl ?_
          rw [← exF_no a19]
          exact ih _ (by omega) (i + 1) rfl (by omega)
        · have a19 : i = uX M.w wi := uX_hit i1 hlt ((nI_eq (by omega) (by omega)).mp q19)
          refine jx_iload_n (pc := 22) hX d_M_exitOf_22 rfl rfl ?_
          refine jx_goto (pc := 23) hX 27 d_M_exitOf_23 rfl ?_
          refine jx_istore_n (pc := 27) hX d_M_exitOf_27 rfl (by decide) (L' := [(0, _), (1, _), (2, _), (3, _)]) rfl ?_
          refine jx_iinc (pc := 28) hX (v := nI (i + 1)) d_M_exitOf_28 rfl (nI_1 i) (by decide) (L' := [(0, _), (1, _), (2, _), (3, _)]) rfl ?_
          refine jx_goto (pc := 31) hX 4 d_M_exitOf_31 rfl ?_
          exact jx_to (ih _ (by omega) (i + 1) rfl (by omega)) rfl rfl (by rw [exF_hit a19]) rfl
  refine jx_iconst (pc := 0) hX (v := 0) d_M_exitOf_0 rfl ?_
  refine jx_istore_n (pc := 1) hX d_M_exitOf_1 rfl (by decide) (L' := [(0, _), (1, _), (2, _)]) rfl ?_
  refine jx_iconst (pc := 2) hX (v := 0) d_M_exitOf_2 rfl ?_
  refine jx_istore_n (pc := 3) hX d_M_exitOf_3 rfl (by decide) (L' := [(0, _), (1, _), (2, _), (3, _)]) rfl ?_
  exact jx_to (loop _ 0 rfl (Nat.zero_le _)) rfl rfl (by rw [exF_0]; rfl) rfl
set_option maxRecDepth 100000 in
set_option maxHeartbeats 4000000 in
theorem t_M_stationOf {l : Launch} {D : va_G} {ad : Nat → Nat} {ac : Nat → ClassId} (σ : St) (M : Ms) (hI : Inv M) (hM : repM σ M) (t : Nat) (ht : t < M.nt) : jMp l (yM D ad ac) mt_M_stationOf TT (rmk 1) [.ref (ad 19), .int (nI t)] σ (fun r => r = nI (M.stN t)) := by
  obtain ⟨⟨⟨s0, s1, s2, s3⟩, h0, h1, h2, h3, h4, h5, h6, h7, h8, h9, h10, h11, h12, h13⟩, hpl⟩ := id hM
  obtain ⟨i1, i2, i3, i4, i5, i6, i7, i8⟩ := id hI
  obtain ⟨p1, p3, p4, p5, p6⟩ := id hpl
  have hw8 := i1.le
  have hw2 := i1.pos
  have hnb := nb_le M.w
  obtain ⟨j1, j2, j3, j4, j5, j6⟩ := i6 t ht
  have ht9 : t < 200 := by omega
  have jp : ∀ p, M.place t = some p → p < 2 ^ 31 := fun p hp => by have := j2 p hp; omega
  have jn : ∀ p, M.next t = some p → p < 2 ^ 31 := fun p hp => by have := nxB_lt hp; omega
  refine jMp_of (by decide) (Nat.le_of_ble_eq_true rfl) (List.forall_mem_cons.mpr ⟨rfl, List.forall_mem_cons.mpr ⟨rfl, fun _ h => absurd h List.not_mem_nil⟩⟩) ?_
  intro X A hX
  have hX : jX X (yM D ad ac) A b_M_stationOf 3 RM (mt_M_stationOf.w :: TT) (rmk 1) (some .int) := hX
  show jW l X (yM D ad ac) A 3 0 0 (k0 X) (jQp X (fun r => r = nI (M.stN t))) σ 0 [(0, .ref (ad 19)), (1, .int (nI t))] []
  refine jx_aload_n (pc := 0) hX d_M_stationOf_0 rfl rfl ?_
  refine jx_iload_n (pc := 1) hX d_M_stationOf_1 rfl rfl ?_
  refine k_M_123 (pc := 2) hX (t_M_nextOf σ M hI hM t ht) ⟨rfl, rfl, (Nat.le_of_ble_eq_true rfl), (Nat.le_of_ble_eq_true rfl)⟩ rfl rfl (Nat.le_of_ble_eq_true rfl) ⟨Nat.zero_le _, Nat.zero_le _⟩ d_M_stationOf_2 (fun r hr => ?_)
  subst hr
  refine jx_istore_n (pc := 5) hX d_M_stationOf_5 rfl (by decide) (L' := [(0, _), (1, _), (2, _)]) rfl ?_
  refine jx_iload_n (pc := 6) hX d_M_stationOf_6 rfl rfl ?_
  refine jx_if_ge (pc := 7) hX 28 d_M_stationOf_7 rfl (fun q7 => ?_) (fun q7 => ?_)
  · obtain ⟨b, hb⟩ := (eO_ge jn).mp q7
    have hbl : b < nb M.w := nxB_lt hb
    rw [hb]
    refine jx_aload_n (pc := 28) hX d_M_stationOf_28 rfl rfl ?_
    refine g_M_16 (pc := 29) hX d_M_stationOf_29 ?_
    refine jx_iload_n (pc := 32) hX d_M_stationOf_32 rfl rfl ?_
    refine jx_iald (pc := 33) hX oM_2 _ rfl (show b < 24 by omega) d_M_stationOf_33 ?_
    refine jx_top (y := nI (uC M.w b)) (p5 b hbl) ?_
    refine jx_aload_n (pc := 34) hX d_M_stationOf_34 rfl rfl ?_
    refine g_M_96 (pc := 35) hX d_M_stationOf_35 ?_
    refine jx_top (y := nI M.ns) (s1) ?_
    refine jx_irem (pc := 38) hX d_M_stationOf_38 (nI_ne0 (by omega) (by omega)) ?_
    refine jx_top (y := nI (uC M.w b % M.ns)) (pk_rem (by have := uC_lt i1 hbl; omega) (by omega) (by omega)) ?_
    exact jx_iretp (pc := 39) hX d_M_stationOf_39 (by rw [Ms.stN_some hb])
  · have hb : M.next t = none := by
      cases hq : M.next t with
      | none => rfl
      | some b => exact absurd ((eO_ge jn).mpr ⟨b, hq⟩) q7
    refine jx_aload_n (pc := 10) hX d_M_stationOf_10 rfl rfl ?_
    refine jx_aload_n (pc := 11) hX d_M_stationOf_11 rfl rfl ?_
    refine g_M_35 (pc := 12) hX d_M_stationOf_12 ?_
    refine jx_iload_n (pc := 15) hX d_M_stationOf_15 rfl rfl ?_
    refine jx_iald (pc := 16) hX oM_8 _ rfl ht9 d_M_stationOf_16 ?_
    refine jx_top (y := nI (M.wire t)) (h0 t ht) ?_
    refine k_M_127 (pc := 17) hX (t_M_exitOf σ M hI hM (M.wire t) j1) ⟨rfl, rfl, (Nat.le_of_ble_eq_true rfl), (Nat.le_of_ble_eq_true rfl)⟩ rfl rfl (Nat.le_of_ble_eq_true rfl) ⟨Nat.zero_le _, Nat.zero_le _⟩ d_M_stationOf_17 (fun r hr => ?_)
    subst hr
    refine jx_aload_n (pc := 20) hX d_M_stationOf_20 rfl rfl ?_
    refine g_M_96 (pc := 21) hX d_M_stationOf_21 ?_
    refine jx_top (y := nI M.ns) (s1) ?_
    refine jx_irem (pc := 24) hX d_M_stationOf_24 (nI_ne0 (by omega) (by omega)) ?_
    refine jx_top (y := nI (uX M.w (M.wire t) % M.ns)) (pk_rem (by have := uX_lt i1 j1; omega) (by omega) (by omega)) ?_
    refine jx_goto (pc := 25) hX 39 d_M_stationOf_25 rfl ?_
    exact jx_iretp (pc := 39) hX d_M_stationOf_39 (by rw [Ms.stN_none hb]; rfl)
set_option maxRecDepth 100000 in
set_option maxHeartbeats 4000000 in
theorem t_M_post {l : Launch} {D : va_G} {ad : Nat → Nat} {ac : Nat → ClassId} (σ : St) (M : Ms) (hI : Inv M) (hM : repM σ M) (t : Nat) (ht : t < M.nt) (hnl : M.nl < 60) : jMv l (yM D ad ac) mt_M_post TT (rmk 2) [.ref (ad 19), .int (nI t)] σ (fun u => repM u (M.post t (M.way t) (M.stN t)) ∧ u.1 0 = σ.1 0) := by
  obtain ⟨⟨⟨s0, s1, s2, s3⟩, h0, h1, h2, h3, h4, h5, h6, h7, h8, h9, h10, h11, h12, h13⟩, hpl⟩ := id hM
  obtain ⟨i1, i2, i3, i4, i5, i6, i7, i8⟩ := id hI
  obtain ⟨p1, p3, p4, p5, p6⟩ := id hpl
  have hw8 := i1.le
  have hw2 := i1.pos
  have hnb := nb_le M.w
  obtain ⟨j1, j2, j3, j4, j5, j6⟩ := i6 t ht
  have ht9 : t < 200 := by omega
  have jp : ∀ p, M.place t = some p → p < 2 ^ 31 := fun p hp => by have := j2 p hp; omega
  refine jMv_of (by decide) (Nat.le_of_ble_eq_true rfl) (List.forall_mem_cons.mpr ⟨rfl, List.forall_mem_cons.mpr ⟨rfl, fun _ h => absurd h List.not_mem_nil⟩⟩) ?_
  intro X A hX
  have hX : jX X (yM D ad ac) A b_M_post 2 RM (mt_M_post.w :: TT) (rmk 2) none := hX
  show jW l X (yM D ad ac) A 2 0 0 kT (jQv X (yM D ad ac) A (fun u => repM u (M.post t (M.way t) (M.stN t)) ∧ u.1 0 = σ.1 0)) σ 0 [(0, .ref (ad 19)), (1, .int (nI t))] []
  refine jx_aload_n (pc := 0) hX d_M_post_0 rfl rfl ?_
  refine g_M_59 (pc := 1) hX d_M_post_1 ?_
  refine jx_aload_n (pc := 4) hX d_M_post_4 rfl rfl ?_
  refine g_M_102 (pc := 5) hX d_M_post_5 ?_
  refine jx_iload_n (pc := 8) hX d_M_post_8 rfl rfl ?_
  refine jx_iast (pc := 9) hX oM_16 _ s3 hnl d_M_post_9 ?_
  refine jx_aload_n (pc := 10) hX d_M_post_10 rfl rfl ?_
  refine g_M_62 (pc := 11) hX d_M_post_11 ?_
  refine jx_aload_n (pc := 14) hX d_M_post_14 rfl rfl ?_
  refine g_M_102 (pc := 15) hX d_M_post_15 ?_
  refine jx_aload_n (pc := 18) hX d_M_post_18 rfl rfl ?_
  refine jx_iload_n (pc := 19) hX d_M_post_19 rfl rfl ?_
  refine k_M_130 (pc := 20) hX (t_M_stationOf (sA σ 16 M.nl (nI t)) M hI ⟨⟨⟨s0, s1, s2, s3⟩, h0, h1, h2, h3, h4, h5, h6, h7, h8.off (Nat.le_refl _), h9, h10, h11, h12, h13⟩, hpl⟩ t ht) ⟨rfl, rfl, (Nat.le_of_ble_eq_true rfl), (Nat.le_of_ble_eq_true rfl)⟩ rfl rfl (Nat.le_of_ble_eq_true rfl) ⟨Nat.zero_le _, Nat.zero_le _⟩ d_M_post_20 (fun r hr => ?_)
  subst hr
  refine jx_iast (pc := 23) hX oM_17 _ s3 hnl d_M_post_23 ?_
  refine jx_aload_n (pc := 24) hX d_M_post_24 rfl rfl ?_
  refine g_M_65 (pc := 25) hX d_M_post_25 ?_
  refine jx_aload_n (pc := 28) hX d_M_post_28 rfl rfl ?_
  refine g_M_102 (pc := 29) hX d_M_post_29 ?_
  refine jx_aload_n (pc := 32) hX d_M_post_32 rfl rfl ?_
  refine g_M_53 (pc := 33) hX d_M_post_33 ?_
  refine jx_iload_n (pc := 36) hX d_M_post_36 rfl rfl ?_
  refine jx_iald (pc := 37) hX oM_14 _ rfl ht9 d_M_post_37 ?_
  refine jx_top (y := M.way t) (h5 t ht) ?_
  refine jx_iast (pc := 38) hX oM_18 _ s3 hnl d_M_post_38 ?_
  refine jx_aload_n (pc := 39) hX d_M_post_39 rfl rfl ?_
  refine jx_dup (pc := 40) hX d_M_post_40 rfl ?_
  refine g_M_102 (pc := 41) hX d_M_post_41 ?_
  refine jx_iconst (pc := 44) hX (v := 1) d_M_post_44 rfl ?_
  refine jx_iadd (pc := 45) hX d_M_post_45 ?_
  refine p_M_102 (pc := 46) hX d_M_post_46 ?_
  exact jx_vret (pc := 49) hX d_M_post_49 (⟨⟨hM.1.post rfl rfl, hpl⟩, rfl⟩)
set_option maxRecDepth 100000 in
set_option maxHeartbeats 4000000 in
theorem t_M_isStuck {l : Launch} {D : va_G} {ad : Nat → Nat} {ac : Nat → ClassId} (σ : St) (M : Ms) (hI : Inv M) (hM : repM σ M) (t : Nat) (ht : t < M.nt) : jMp l (yM D ad ac) mt_M_isStuck TT (rmk 2) [.ref (ad 19), .int (nI t)] σ (fun r => r = eB (!M.can t)) := by
  obtain ⟨⟨⟨s0, s1, s2, s3⟩, h0, h1, h2, h3, h4, h5, h6, h7, h8, h9, h10, h11, h12, h13⟩, hpl⟩ := id hM
  obtain ⟨i1, i2, i3, i4, i5, i6, i7, i8⟩ := id hI
  obtain ⟨p1, p3, p4, p5, p6⟩ := id hpl
  have hw8 := i1.le
  have hw2 := i1.pos
  have hnb := nb_le M.w
  obtain ⟨j1, j2, j3, j4, j5, j6⟩ := i6 t ht
  have ht9 : t < 200 := by omega
  have jp : ∀ p, M.place t = some p → p < 2 ^ 31 := fun p hp => by have := j2 p hp; omega
  refine jMp_of (by decide) (Nat.le_of_ble_eq_true rfl) (List.forall_mem_cons.mpr ⟨rfl, List.forall_mem_cons.mpr ⟨rfl, fun _ h => absurd h List.not_mem_nil⟩⟩) ?_
  intro X A hX
  have hX : jX X (yM D ad ac) A b_M_isStuck 3 RM (mt_M_isStuck.w :: TT) (rmk 2) (some .boolean) := hX
  show jW l X (yM D ad ac) A 3 0 0 (k0 X) (jQp X (fun r => r = eB (!M.can t))) σ 0 [(0, .ref (ad 19)), (1, .int (nI t))] []
  have join : ∀ (fu : Nat) (z : Int32), 0 = fu → z = eB (M.asleep t) → jW l X (yM D ad ac) A 3 0 0 (k0 X) (jQp X (fun r => r = eB (!M.can t))) σ 29 [(0, .ref (ad 19)), (1, .int (nI t)), (2, .int z)] [] := by
    intro fu
    induction fu using Nat.strongRecOn with
    | ind fu ih =>
      intro z hfu hz
      subst hz
      refine jx_aload_n (pc := 29) hX d_M_isStuck_29 rfl rfl ?_
      refine g_M_41 (pc := 30) hX d_M_isStuck_30 ?_
      refine jx_iload_n (pc := 33) hX d_M_isStuck_33 rfl rfl ?_
      refine jx_iald (pc := 34) hX oM_10 _ rfl ht9 d_M_isStuck_34 ?_
      refine jx_top (y := nI (M.state t)) (h2 t ht) ?_
      refine jx_iconst (pc := 35) hX (v := 2) d_M_isStuck_35 rfl ?_
      refine jx_icmp_eq (pc := 36) hX 75 d_M_isStuck_36 rfl (fun q36 => ?_) (fun q36 => ?_)
      · have a36 : M.state t = 2 := (nI_n2 (by omega)).mp q36
        refine jx_iconst (pc := 75) hX (v := 1) d_M_isStuck_75 rfl ?_
        refine jx_goto (pc := 76) hX 80 d_M_isStuck_76 rfl ?_
        exact jx_zretp (pc := 80) hX d_M_isStuck_80 rfl (by rw [Ms.can_f (Or.inl a36)]; rfl)
      · have a36 : ¬ M.state t = 2 := fun q => q36 ((nI_n2 (by omega)).mpr q)
        refine jx_iload_n (pc := 39) hX d_M_isStuck_39 rfl rfl ?_
        refine jx_if_ne (pc := 40) hX 75 d_M_isStuck_40 rfl (fun q40 => ?_) (fun q40 => ?_)
        · have a40 : M.asleep t = true := eB_n0.mp q40
          refine jx_iconst (pc := 75) hX (v := 1) d_M_isStuck_75 rfl ?_
          refine jx_goto (pc := 76) hX 80 d_M_isStuck_76 rfl ?_
          exact jx_zretp (pc := 80) hX d_M_isStuck_80 rfl (by rw [Ms.can_f (Or.inr (Or.inl a40))]; rfl)
        · have a40 : M.asleep t = false := eB_0.mp q40
          refine jx_aload_n (pc := 43) hX d_M_isStuck_43 rfl rfl ?_
          refine g_M_41 (pc := 44) hX d_M_isStuck_44 ?_
          refine jx_iload_n (pc := 47) hX d_M_isStuck_47 rfl rfl ?_
          refine jx_iald (pc := 48) hX oM_10 _ rfl ht9 d_M_isStuck_48 ?_
          refine jx_top (y := nI (M.state t)) (h2 t ht) ?_
          refine jx_if_ne (pc := 49) hX 79 d_M_isStuck_49 rfl (fun q49 => ?_) (fun q49 => ?_)
          · have a49 : M.state t = 1 := by have : ¬ M.state t = 0 := fun q => q49 (by rw [q]; rfl); omega
            refine jx_iconst (pc := 79) hX (v := 0) d_M_isStuck_79 rfl ?_
            exact jx_zretp (pc := 80) hX d_M_isStuck_80 rfl (by rw [Ms.can_t a36 a40 (Or.inr (Or.inl a49))]; rfl)
          · have a49 : M.state t = 0 := (nI_n0 (by omega)).mp q49
            refine jx_aload_n (pc := 52) hX d_M_isStuck_52 rfl rfl ?_
            refine g_M_38 (pc := 53) hX d_M_isStuck_53 ?_
            refine jx_iload_n (pc := 56) hX d_M_isStuck_56 rfl rfl ?_
            refine jx_iald (pc := 57) hX oM_9 _ rfl ht9 d_M_isStuck_57 ?_
            refine jx_top (y := eO (M.place t)) (h1 t ht) ?_
            refine jx_aload_n (pc := 58) hX d_M_isStuck_58 rfl rfl ?_
            refine jx_iload_n (pc := 59) hX d_M_isStuck_59 rfl rfl ?_
            refine k_M_130 (pc := 60) hX (t_M_stationOf σ M hI hM t ht) ⟨rfl, rfl, (Nat.le_of_ble_eq_true rfl), (Nat.le_of_ble_eq_true rfl)⟩ rfl rfl (Nat.le_of_ble_eq_true rfl) ⟨Nat.zero_le _, Nat.zero_le _⟩ d_M_isStuck_60 (fun r hr => ?_)
            subst hr
            refine jx_icmp_eq (pc := 63) hX 79 d_M_isStuck_63 rfl (fun q63 => ?_) (fun q63 => ?_)
            · have a63 : M.place t = some (M.stN t) := (eO_some jp (by have := Ms.stN_lt i2.1 t; omega)).mp q63
              refine jx_iconst (pc := 79) hX (v := 0) d_M_isStuck_79 rfl ?_
              exact jx_zretp (pc := 80) hX d_M_isStuck_80 rfl (by rw [Ms.can_t a36 a40 (Or.inr (Or.inr a63))]; rfl)
            · have a63 : ¬ M.place t = some (M.stN t) := fun q => q63 (by rw [q]; rfl)
              refine jx_aload_n (pc := 66) hX d_M_isStuck_66 rfl rfl ?_
              refine g_M_102 (pc := 67) hX d_M_isStuck_67 ?_
              refine jx_top (y := nI M.nl) (s3) ?_
              refine jx_bipush (pc := 70) hX (v := 60) d_M_isStuck_70 rfl ?_
              refine jx_icmp_ne (pc := 72) hX 79 d_M_isStuck_72 rfl (fun q72 => ?_) (fun q72 => ?_)
              · have a72 : M.nl < 60 := by have : ¬ M.nl = 60 := fun q => q72 (by rw [q]; rfl); omega
                refine jx_iconst (pc := 79) hX (v := 0) d_M_isStuck_79 rfl ?_
                exact jx_zretp (pc := 80) hX d_M_isStuck_80 rfl (by rw [Ms.can_t a36 a40 (Or.inl a72)]; rfl)
              · have a72 : ¬ M.nl < 60 := by have : M.nl = 60 := (nI_eq (by omega) (by decide)).mp q72; omega
                refine jx_iconst (pc := 75) hX (v := 1) d_M_isStuck_75 rfl ?_
                refine jx_goto (pc := 76) hX 80 d_M_isStuck_76 rfl ?_
                exact jx_zretp (pc := 80) hX d_M_isStuck_80 rfl (by rw [Ms.can_f (Or.inr (Or.inr ⟨a72, by omega, a63⟩))]; rfl)
  refine jx_aload_n (pc := 0) hX d_M_isStuck_0 rfl rfl ?_
  refine g_M_38 (pc := 1) hX d_M_isStuck_1 ?_
  refine jx_iload_n (pc := 4) hX d_M_isStuck_4 rfl rfl ?_
  refine jx_iald (pc := 5) hX oM_9 _ rfl ht9 d_M_isStuck_5 ?_
  refine jx_top (y := eO (M.place t)) (h1 t ht) ?_
  refine jx_if_lt (pc := 6) hX 27 d_M_isStuck_6 rfl (fun q6 => ?_) (fun q6 => ?_)
  · have hp : M.place t = none := (eO_neg jp).mp q6
    have ha : (0 : Int32) = eB (M.asleep t) := by unfold Ms.asleep; rw [hp]; rfl
    refine jx_iconst (pc := 27) hX (v := 0) d_M_isStuck_27 rfl ?_
    refine jx_istore_n (pc := 28) hX d_M_isStuck_28 rfl (by decide) (L' := [(0, _), (1, _), (2, _)]) rfl ?_
    exact join _ _ rfl ha
  · obtain ⟨p, hp⟩ : ∃ p, M.place t = some p := by
      cases hq : M.place t with
      | none => exact absurd ((eO_neg jp).mpr hq) q6
      | some p => exact ⟨p, rfl⟩
    refine jx_aload_n (pc := 9) hX d_M_isStuck_9 rfl rfl ?_
    refine g_M_28 (pc := 10) hX d_M_isStuck_10 ?_
    refine jx_aload_n (pc := 13) hX d_M_isStuck_13 rfl rfl ?_
    refine g_M_38 (pc := 14) hX d_M_isStuck_14 ?_
    refine jx_iload_n (pc := 17) hX d_M_isStuck_17 rfl rfl ?_
    refine jx_iald (pc := 18) hX oM_9 _ rfl ht9 d_M_isStuck_18 ?_
    refine jx_top (y := nI p) (by rw [h1 t ht, hp]; rfl) ?_
    refine jx_zald (pc := 19) hX oM_6 _ rfl (show p < 6 by have := j2 p hp; omega) d_M_isStuck_19 ?_
    refine jx_top (y := eB (M.down p)) (h11 p (by have := j2 p hp; omega)) ?_
    refine jx_if_eq (pc := 20) hX 27 d_M_isStuck_20 rfl (fun q20 => ?_) (fun q20 => ?_)
    · have ha : (0 : Int32) = eB (M.asleep t) := by unfold Ms.asleep; rw [hp]; exact q20.symm
      refine jx_iconst (pc := 27) hX (v := 0) d_M_isStuck_27 rfl ?_
      refine jx_istore_n (pc := 28) hX d_M_isStuck_28 rfl (by decide) (L' := [(0, _), (1, _), (2, _)]) rfl ?_
      exact join _ _ rfl ha
    · have ha : (1 : Int32) = eB (M.asleep t) := by unfold Ms.asleep; rw [hp]; exact eB_t (eB_n0.mp q20)
      refine jx_iconst (pc := 23) hX (v := 1) d_M_isStuck_23 rfl ?_
      refine jx_goto (pc := 24) hX 28 d_M_isStuck_24 rfl ?_
      refine jx_istore_n (pc := 28) hX d_M_isStuck_28 rfl (by decide) (L' := [(0, _), (1, _), (2, _)]) rfl ?_
      exact join _ _ rfl ha
set_option maxRecDepth 100000 in
set_option maxHeartbeats 4000000 in
theorem t_M_step {l : Launch} {D : va_G} {ad : Nat → Nat} {ac : Nat → ClassId} (σ : St) (M : Ms) (hI : Inv M) (hM : repM σ M) (t : Nat) (ht : t < M.nt) (hc : M.can t = true) : jMi l (yM D ad ac) mt_M_step TT (rmk 3) [.ref (ad 19), .int (nI t)] σ (fun r u => r = nI (M.step t).1 ∧ repM u (M.step t).2 ∧ u.1 0 = σ.1 0) := by
  obtain ⟨⟨⟨s0, s1, s2, s3⟩, h0, h1, h2, h3, h4, h5, h6, h7, h8, h9, h10, h11, h12, h13⟩, hpl⟩ := id hM
  obtain ⟨i1, i2, i3, i4, i5, i6, i7, i8⟩ := id hI
  obtain ⟨p1, p3, p4, p5, p6⟩ := id hpl
  have hw8 := i1.le
  have hw2 := i1.pos
  have hnb := nb_le M.w
  obtain ⟨j1, j2, j3, j4, j5, j6⟩ := i6 t ht
  have ht9 : t < 200 := by omega
  have jp : ∀ p, M.place t = some p → p < 2 ^ 31 := fun p hp => by have := j2 p hp; omega
  obtain ⟨c1, c2, c3⟩ := Ms.can_spec hc
  have jn : ∀ p, M.next t = some p → p < 2 ^ 31 := fun p hp => by have := nxB_lt hp; omega
  refine jMi_of (by decide) (Nat.le_of_ble_eq_true rfl) (List.forall_mem_cons.mpr ⟨rfl, List.forall_mem_cons.mpr ⟨rfl, fun _ h => absurd h List.not_mem_nil⟩⟩) ?_
  intro X A hX
  have hX : jX X (yM D ad ac) A b_M_step 4 RM (mt_M_step.w :: TT) (rmk 3) (some .int) := hX
  show jW l X (yM D ad ac) A 4 0 0 kT (jQi X (yM D ad ac) A (fun r u => r = nI (M.step t).1 ∧ repM u (M.step t).2 ∧ u.1 0 = σ.1 0)) σ 0 [(0, .ref (ad 19)), (1, .int (nI t))] []
  refine jx_aload_n (pc := 0) hX d_M_step_0 rfl rfl ?_
  refine g_M_41 (pc := 1) hX d_M_step_1 ?_
  refine jx_iload_n (pc := 4) hX d_M_step_4 rfl rfl ?_
  refine jx_iald (pc := 5) hX oM_10 _ rfl ht9 d_M_step_5 ?_
  refine jx_top (y := nI (M.state t)) (h2 t ht) ?_
  refine jx_iconst (pc := 6) hX (v := 1) d_M_step_6 rfl ?_
  refine jx_icmp_ne (pc := 7) hX 12 d_M_step_7 rfl (fun q10 => ?_) (fun q10 => ?_)
  · have a10 : ¬ M.state t = 1 := fun q => q10 ((nI_n1 (by omega)).mpr q)
    refine jx_aload_n (pc := 12) hX d_M_step_12 rfl rfl ?_
    refine g_M_38 (pc := 13) hX d_M_step_13 ?_
    refine jx_iload_n (pc := 16) hX d_M_step_16 rfl rfl ?_
    refine jx_iald (pc := 17) hX oM_9 _ rfl ht9 d_M_step_17 ?_
    refine jx_top (y := eO (M.place t)) (h1 t ht) ?_
    refine jx_aload_n (pc := 18) hX d_M_step_18 rfl rfl ?_
    refine jx_iload_n (pc := 19) hX d_M_step_19 rfl rfl ?_
    refine k_M_130 (pc := 20) hX (t_M_stationOf σ M hI hM t ht) ⟨rfl, rfl, (Nat.le_of_ble_eq_true rfl), (Nat.le_of_ble_eq_true rfl)⟩ rfl rfl (Nat.le_of_ble_eq_true rfl) ⟨Nat.zero_le _, Nat.zero_le _⟩ d_M_step_20 (fun r hr => ?_)
    subst hr
    refine jx_icmp_eq (pc := 23) hX 50 d_M_step_23 rfl (fun q31 => ?_) (fun q31 => ?_)
    · have a31 : M.place t = some (M.stN t) := (eO_some jp (by have := Ms.stN_lt i2.1 t; omega)).mp q31
      refine jx_aload_n (pc := 50) hX d_M_step_50 rfl rfl ?_
      refine jx_iload_n (pc := 51) hX d_M_step_51 rfl rfl ?_
      refine k_M_123 (pc := 52) hX (t_M_nextOf σ M hI hM t ht) ⟨rfl, rfl, (Nat.le_of_ble_eq_true rfl), (Nat.le_of_ble_eq_true rfl)⟩ rfl rfl (Nat.le_of_ble_eq_true rfl) ⟨Nat.zero_le _, Nat.zero_le _⟩ d_M_step_52 (fun r hr => ?_)
      subst hr
      refine jx_istore_n (pc := 55) hX d_M_step_55 rfl (by decide) (L' := [(0, _), (1, _), (2, _)]) rfl ?_
      refine jx_iload_n (pc := 56) hX d_M_step_56 rfl rfl ?_
      refine jx_if_lt (pc := 57) hX 121 d_M_step_57 rfl (fun q57 => ?_) (fun q57 => ?_)
      · have hb : M.next t = none := (eO_neg jn).mp q57
        have hx := uX_lt i1 j1
        refine jx_aload_n (pc := 121) hX d_M_step_121 rfl rfl ?_
        refine jx_aload_n (pc := 122) hX d_M_step_122 rfl rfl ?_
        refine g_M_35 (pc := 123) hX d_M_step_123 ?_
        refine jx_iload_n (pc := 126) hX d_M_step_126 rfl rfl ?_
        refine jx_iald (pc := 127) hX oM_8 _ rfl ht9 d_M_step_127 ?_
        refine jx_top (y := nI (M.wire t)) (h0 t ht) ?_
        refine k_M_127 (pc := 128) hX (t_M_exitOf σ M hI hM (M.wire t) j1) ⟨rfl, rfl, (Nat.le_of_ble_eq_true rfl), (Nat.le_of_ble_eq_true rfl)⟩ rfl rfl (Nat.le_of_ble_eq_true rfl) ⟨Nat.zero_le _, Nat.zero_le _⟩ d_M_step_128 (fun r hr => ?_)
        subst hr
        refine jx_istore_n (pc := 131) hX d_M_step_131 rfl (by decide) (L' := [(0, _), (1, _), (2, _), (3, _)]) rfl ?_
        refine jx_aload_n (pc := 132) hX d_M_step_132 rfl rfl ?_
        refine g_M_50 (pc := 133) hX d_M_step_133 ?_
        refine jx_iload_n (pc := 136) hX d_M_step_136 rfl rfl ?_
        refine jx_iload_n (pc := 137) hX d_M_step_137 rfl rfl ?_
        refine jx_aload_n (pc := 138) hX d_M_step_138 rfl rfl ?_
        refine g_M_93 (pc := 139) hX d_M_step_139 ?_
        refine jx_top (y := nI M.w) (s0) ?_
        refine jx_aload_n (pc := 142) hX d_M_step_142 rfl rfl ?_
        refine g_M_25 (pc := 143) hX d_M_step_143 ?_
        refine jx_iload_n (pc := 146) hX d_M_step_146 rfl rfl ?_
        refine jx_iald (pc := 147) hX oM_5 _ rfl (show uX M.w (M.wire t) < 8 by omega) d_M_step_147 ?_
        refine jx_top (y := nI (M.handed (uX M.w (M.wire t)))) (h13 _ hx) ?_
        refine jx_imul (pc := 148) hX d_M_step_148 ?_
        refine jx_top (y := nI (M.w * M.handed (uX M.w (M.wire t)))) (pk_mul _ _) ?_
        refine jx_iadd (pc := 149) hX d_M_step_149 ?_
        refine jx_top (y := nI (uX M.w (M.wire t) + M.w * M.handed (uX M.w (M.wire t)))) (nI_add _ _) ?_
        refine jx_iast (pc := 150) hX oM_13 _ rfl ht9 d_M_step_150 ?_
        refine jx_aload_n (pc := 151) hX d_M_step_151 rfl rfl ?_
        refine g_M_25 (pc := 152) hX d_M_step_152 ?_
        refine jx_iload_n (pc := 155) hX d_M_step_155 rfl rfl ?_
        refine jx_dup2 (pc := 156) hX d_M_step_156 rfl rfl ?_
        refine jx_iald (pc := 157) hX oM_5 _ rfl (show uX M.w (M.wire t) < 8 by omega) d_M_step_157 ?_
        refine jx_iconst (pc := 158) hX (v := 1) d_M_step_158 rfl ?_
        refine jx_iadd (pc := 159) hX d_M_step_159 ?_
        refine jx_iast (pc := 160) hX oM_5 _ rfl (show uX M.w (M.wire t) < 8 by omega) d_M_step_160 ?_
        refine jx_aload_n (pc := 161) hX d_M_step_161 rfl rfl ?_
        refine g_M_41 (pc := 162) hX d_M_step_162 ?_
        refine jx_iload_n (pc := 165) hX d_M_step_165 rfl rfl ?_
        refine jx_iconst (pc := 166) hX (v := 2) d_M_step_166 rfl ?_
        refine jx_iast (pc := 167) hX oM_10 _ rfl ht9 d_M_step_167 ?_
        refine jx_iconst (pc := 168) hX (v := 1) d_M_step_168 rfl ?_
        exact jx_iret (pc := 169) hX d_M_step_169 (by rw [Ms.step_1 a10 a31 hb]; exact ⟨rfl, ⟨hM.1.out hx rfl, hpl⟩, rfl⟩)
      · obtain ⟨b, hb⟩ : ∃ b, M.next t = some b := by
          cases hq : M.next t with
          | none => exact absurd ((eO_neg jn).mpr hq) q57
          | some b => exact ⟨b, rfl⟩
        have hbl : b < nb M.w := nxB_lt hb
        rw [hb]
        refine jx_aload_n (pc := 60) hX d_M_step_60 rfl rfl ?_
        refine g_M_35 (pc := 61) hX d_M_step_61 ?_
        refine jx_iload_n (pc := 64) hX d_M_step_64 rfl rfl ?_
        refine jx_aload_n (pc := 65) hX d_M_step_65 rfl rfl ?_
        refine g_M_19 (pc := 66) hX d_M_step_66 ?_
        refine jx_iload_n (pc := 69) hX d_M_step_69 rfl rfl ?_
        refine jx_iald (pc := 70) hX oM_3 _ rfl (show b < 24 by omega) d_M_step_70 ?_
        refine jx_top (y := M.had b) (h12 b hbl) ?_
        refine jx_iconst (pc := 71) hX (v := 2) d_M_step_71 rfl ?_
        refine jx_irem (pc := 72) hX d_M_step_72 (by decide) ?_
        refine jx_if_ne (pc := 73) hX 85 d_M_step_73 rfl (fun q73 => ?_) (fun q73 => ?_)
        · refine jx_aload_n (pc := 85) hX d_M_step_85 rfl rfl ?_
          refine g_M_13 (pc := 86) hX d_M_step_86 ?_
          refine jx_iload_n (pc := 89) hX d_M_step_89 rfl rfl ?_
          refine jx_iald (pc := 90) hX oM_1 _ rfl (show b < 24 by omega) d_M_step_90 ?_
          refine jx_top (y := nI (uL M.w b)) (p4 b hbl) ?_
          refine jx_iast (pc := 91) hX oM_8 _ rfl ht9 d_M_step_91 ?_
          refine jx_aload_n (pc := 92) hX d_M_step_92 rfl rfl ?_
          refine g_M_19 (pc := 93) hX d_M_step_93 ?_
          refine jx_iload_n (pc := 96) hX d_M_step_96 rfl rfl ?_
          refine jx_dup2 (pc := 97) hX d_M_step_97 rfl rfl ?_
          refine jx_iald (pc := 98) hX oM_3 _ rfl (show b < 24 by omega) d_M_step_98 ?_
          refine jx_iconst (pc := 99) hX (v := 1) d_M_step_99 rfl ?_
          refine jx_iadd (pc := 100) hX d_M_step_100 ?_
          refine jx_iast (pc := 101) hX oM_3 _ rfl (show b < 24 by omega) d_M_step_101 ?_
          refine jx_aload_n (pc := 102) hX d_M_step_102 rfl rfl ?_
          refine g_M_44 (pc := 103) hX d_M_step_103 ?_
          refine jx_iload_n (pc := 106) hX d_M_step_106 rfl rfl ?_
          refine jx_iload_n (pc := 107) hX d_M_step_107 rfl rfl ?_
          refine jx_iast (pc := 108) hX oM_11 _ rfl ht9 d_M_step_108 ?_
          refine jx_aload_n (pc := 109) hX d_M_step_109 rfl rfl ?_
          refine g_M_47 (pc := 110) hX d_M_step_110 ?_
          refine jx_iload_n (pc := 113) hX d_M_step_113 rfl rfl ?_
          refine jx_dup2 (pc := 114) hX d_M_step_114 rfl rfl ?_
          refine jx_iald (pc := 115) hX oM_12 _ rfl ht9 d_M_step_115 ?_
          refine jx_iconst (pc := 116) hX (v := 1) d_M_step_116 rfl ?_
          refine jx_iadd (pc := 117) hX d_M_step_117 ?_
          refine jx_iast (pc := 118) hX oM_12 _ rfl ht9 d_M_step_118 ?_
          refine jx_iconst (pc := 119) hX (v := 0) d_M_step_119 rfl ?_
          exact jx_iret (pc := 120) hX d_M_step_120 (by rw [Ms.step_0 a10 a31 hb]; exact ⟨rfl, ⟨hM.1.go ht hbl (by rw [if_neg q73]) rfl, hpl⟩, rfl⟩)
        · refine jx_aload_n (pc := 76) hX d_M_step_76 rfl rfl ?_
          refine g_M_7 (pc := 77) hX d_M_step_77 ?_
          refine jx_iload_n (pc := 80) hX d_M_step_80 rfl rfl ?_
          refine jx_iald (pc := 81) hX oM_0 _ rfl (show b < 24 by omega) d_M_step_81 ?_
          refine jx_top (y := nI (uU M.w b)) (p3 b hbl) ?_
          refine jx_goto (pc := 82) hX 91 d_M_step_82 rfl ?_
          refine jx_iast (pc := 91) hX oM_8 _ rfl ht9 d_M_step_91 ?_
          refine jx_aload_n (pc := 92) hX d_M_step_92 rfl rfl ?_
          refine g_M_19 (pc := 93) hX d_M_step_93 ?_
          refine jx_iload_n (pc := 96) hX d_M_step_96 rfl rfl ?_
          refine jx_dup2 (pc := 97) hX d_M_step_97 rfl rfl ?_
          refine jx_iald (pc := 98) hX oM_3 _ rfl (show b < 24 by omega) d_M_step_98 ?_
          refine jx_iconst (pc := 99) hX (v := 1) d_M_step_99 rfl ?_
          refine jx_iadd (pc := 100) hX d_M_step_100 ?_
          refine jx_iast (pc := 101) hX oM_3 _ rfl (show b < 24 by omega) d_M_step_101 ?_
          refine jx_aload_n (pc := 102) hX d_M_step_102 rfl rfl ?_
          refine g_M_44 (pc := 103) hX d_M_step_103 ?_
          refine jx_iload_n (pc := 106) hX d_M_step_106 rfl rfl ?_
          refine jx_iload_n (pc := 107) hX d_M_step_107 rfl rfl ?_
          refine jx_iast (pc := 108) hX oM_11 _ rfl ht9 d_M_step_108 ?_
          refine jx_aload_n (pc := 109) hX d_M_step_109 rfl rfl ?_
          refine g_M_47 (pc := 110) hX d_M_step_110 ?_
          refine jx_iload_n (pc := 113) hX d_M_step_113 rfl rfl ?_
          refine jx_dup2 (pc := 114) hX d_M_step_114 rfl rfl ?_
          refine jx_iald (pc := 115) hX oM_12 _ rfl ht9 d_M_step_115 ?_
          refine jx_iconst (pc := 116) hX (v := 1) d_M_step_116 rfl ?_
          refine jx_iadd (pc := 117) hX d_M_step_117 ?_
          refine jx_iast (pc := 118) hX oM_12 _ rfl ht9 d_M_step_118 ?_
          refine jx_iconst (pc := 119) hX (v := 0) d_M_step_119 rfl ?_
          exact jx_iret (pc := 120) hX d_M_step_120 (by rw [Ms.step_0 a10 a31 hb]; exact ⟨rfl, ⟨hM.1.go ht hbl (by rw [if_pos q73]) rfl, hpl⟩, rfl⟩)
    · have a31 : ¬ M.place t = some (M.stN t) := fun q => q31 (by rw [q]; rfl)
      have hnl : M.nl < 60 := by
        rcases c3 with q | q | q
        · exact q
        · exact absurd q a10
        · exact absurd q a31
      refine jx_aload_n (pc := 26) hX d_M_step_26 rfl rfl ?_
      refine g_M_41 (pc := 27) hX d_M_step_27 ?_
      refine jx_iload_n (pc := 30) hX d_M_step_30 rfl rfl ?_
      refine jx_iconst (pc := 31) hX (v := 1) d_M_step_31 rfl ?_
      refine jx_iast (pc := 32) hX oM_10 _ rfl ht9 d_M_step_32 ?_
      refine jx_aload_n (pc := 33) hX d_M_step_33 rfl rfl ?_
      refine g_M_53 (pc := 34) hX d_M_step_34 ?_
      refine jx_iload_n (pc := 37) hX d_M_step_37 rfl rfl ?_
      refine jx_dup2 (pc := 38) hX d_M_step_38 rfl rfl ?_
      refine jx_iald (pc := 39) hX oM_14 _ rfl ht9 d_M_step_39 ?_
      refine jx_iconst (pc := 40) hX (v := 1) d_M_step_40 rfl ?_
      refine jx_iadd (pc := 41) hX d_M_step_41 ?_
      refine jx_iast (pc := 42) hX oM_14 _ rfl ht9 d_M_step_42 ?_
      refine jx_aload_n (pc := 43) hX d_M_step_43 rfl rfl ?_
      refine jx_iload_n (pc := 44) hX d_M_step_44 rfl rfl ?_
      refine k_M_133 (pc := 45) hX (t_M_post (sA (sA σ 10 t 1) 14 t (σ.2 14 t + 1)) (M.setOut t) (hI.setOut ht c1) ⟨hM.1.setOut ht, hpl⟩ t ht hnl) ⟨rfl, rfl, (Nat.le_of_ble_eq_true rfl), (Nat.le_of_ble_eq_true rfl)⟩ rfl rfl (Nat.le_of_ble_eq_true rfl) ⟨Nat.zero_le _, Nat.zero_le _⟩ d_M_step_45 (fun u hu => ?_)
      refine jx_iconst (pc := 48) hX (v := 2) d_M_step_48 rfl ?_
      exact jx_iret (pc := 49) hX d_M_step_49 (by rw [Ms.step_2 a10 a31]; refine ⟨rfl, ?_, hu.2⟩; have := hu.1; rw [show (M.setOut t).way t = M.way t + 1 from va_up_self _ _ _] at this; exact this)
  · have a10 : M.state t = 1 := (nI_n1 (by omega)).mp q10
    refine jx_iconst (pc := 10) hX (v := 3) d_M_step_10 rfl ?_
    exact jx_iret (pc := 11) hX d_M_step_11 (by rw [Ms.step_3 a10]; exact ⟨rfl, hM, rfl⟩)
end
section
set_option maxRecDepth 100000 in
set_option maxHeartbeats 4000000 in
theorem t_M_take {l : Launch} {D : va_G} {ad : Nat → Nat} {ac : Nat → ClassId} (σ : St) (M : Ms) (hI : Inv M) (hM : repM σ M) (i : Nat) (hi : i < M.nl) : jMv l (yM D ad ac) mt_M_take TT (rmk 0) [.ref (ad 19), .int (nI i)] σ (fun u => repM u (M.take i) ∧ u.1 0 = σ.1 0) := by
  obtain ⟨⟨⟨s0, s1, s2, s3⟩, h0, h1, h2, h3, h4, h5, h6, h7, h8, h9, h10, h11, h12, h13⟩, hpl⟩ := id hM
  obtain ⟨i1, i2, i3, i4, i5, i6, i7, i8⟩ := id hI
  obtain ⟨p1, p3, p4, p5, p6⟩ := id hpl
  have hw8 := i1.le
  have hw2 := i1.pos
  have hnb := nb_le M.w
  have hb : σ.1 5 - 1 = nI (M.nl - 1) := by rw [s3, nI_c1, pk_sub (by omega)]
  refine jMv_of (by decide) (Nat.le_of_ble_eq_true rfl) (List.forall_mem_cons.mpr ⟨rfl, List.forall_mem_cons.mpr ⟨rfl, fun _ h => absurd h List.not_mem_nil⟩⟩) ?_
  intro X A hX
  have hX : jX X (yM D ad ac) A b_M_take 3 RM (mt_M_take.w :: TT) (rmk 0) none := hX
  show jW l X (yM D ad ac) A 3 0 0 kT (jQv X (yM D ad ac) A (fun u => repM u (M.take i) ∧ u.1 0 = σ.1 0)) σ 0 [(0, .ref (ad 19)), (1, .int (nI i))] []
  have loop : ∀ (fu : Nat) (k : Nat), M.nl - k = fu → i ≤ k → k + 1 ≤ M.nl → jW l X (yM D ad ac) A 3 0 0 kT (jQv X (yM D ad ac) A (fun u => repM u (M.take i) ∧ u.1 0 = σ.1 0)) (sR (sR (sR (sF σ 5 (σ.1 5 - 1)) 16 (cp (σ.2 16) i k)) 17 (cp (σ.2 17) i k)) 18 (cp (σ.2 18) i k)) 12 [(0, .ref (ad 19)), (1, .int (nI i)), (2, .int (nI k))] [] := by
    intro fu
    induction fu using Nat.strongRecOn with
    | ind fu ih =>
      intro k hfu hik hk
      refine jx_iload_n (pc := 12) hX d_M_take_12 rfl rfl ?_
      refine jx_aload_n (pc := 13) hX d_M_take_13 rfl rfl ?_
      refine g_M_102 (pc := 14) hX d_M_take_14 ?_
      refine jx_top (y := nI (M.nl - 1)) (hb) ?_
      refine jx_icmp_ge (pc := 17) hX 68 d_M_take_17 rfl (fun q17 => ?_) (fun q17 => ?_)
      · have hge : k = M.nl - 1 := by have : M.nl - 1 ≤ k := (nI_leI (by omega) (by omega)).mp q17; omega
        subst hge
        exact jx_vret (pc := 68) hX d_M_take_68 (by have e : M.nl - 1 - i = M.nl - i - 1 := (by omega); exact ⟨⟨hM.1.take hi (by have := h8.cut hi; rw [← e] at this; exact this) (by have := h9.cut hi; rw [← e] at this; exact this) (by have := h10.cut hi; rw [← e] at this; exact this), hpl⟩, rfl⟩)
      · have hlt : k < M.nl - 1 := Nat.lt_of_not_le (fun q => q17 (nI_le q (by omega)))
        refine jx_aload_n (pc := 20) hX d_M_take_20 rfl rfl ?_
        refine g_M_59 (pc := 21) hX d_M_take_21 ?_
        refine jx_iload_n (pc := 24) hX d_M_take_24 rfl rfl ?_
        refine jx_aload_n (pc := 25) hX d_M_take_25 rfl rfl ?_
        refine g_M_59 (pc := 26) hX d_M_take_26 ?_
        refine jx_iload_n (pc := 29) hX d_M_take_29 rfl rfl ?_
        refine jx_iconst (pc := 30) hX (v := 1) d_M_take_30 rfl ?_
        refine jx_iadd (pc := 31) hX d_M_take_31 ?_
        refine jx_top (y := nI (k + 1)) (nI_1 k) ?_
        refine jx_iald (pc := 32) hX oM_16 _ rfl (show k + 1 < 60 by omega) d_M_take_32 ?_
        refine jx_top (y := σ.2 16 (k + 1)) (cp_at _ hik) ?_
        refine jx_iast (pc := 33) hX oM_16 _ rfl (show k < 60 by omega) d_M_take_33 ?_
        refine jx_aload_n (pc := 34) hX d_M_take_34 rfl rfl ?_
        refine g_M_62 (pc := 35) hX d_M_take_35 ?_
        refine jx_iload_n (pc := 38) hX d_M_take_38 rfl rfl ?_
        refine jx_aload_n (pc := 39) hX d_M_take_39 rfl rfl ?_
        refine g_M_62 (pc := 40) hX d_M_take_40 ?_
        refine jx_iload_n (pc := 43) hX d_M_take_43 rfl rfl ?_
        refine jx_iconst (pc := 44) hX (v := 1) d_M_take_44 rfl ?_
        refine jx_iadd (pc := 45) hX d_M_take_45 ?_
        refine jx_top (y := nI (k + 1)) (nI_1 k) ?_
        refine jx_iald (pc := 46) hX oM_17 _ rfl (show k + 1 < 60 by omega) d_M_take_46 ?_
        refine jx_top (y := σ.2 17 (k + 1)) (cp_at _ hik) ?_
        refine jx_iast (pc := 47) hX oM_17 _ rfl (show k < 60 by omega) d_M_take_47 ?_
        refine jx_aload_n (pc := 48) hX d_M_take_48 rfl rfl ?_
        refine g_M_65 (pc := 49) hX d_M_take_49 ?_
        refine jx_iload_n (pc := 52) hX d_M_take_52 rfl rfl ?_
        refine jx_aload_n (pc := 53) hX d_M_take_53 rfl rfl ?_
        refine g_M_65 (pc := 54) hX d_M_take_54 ?_
        refine jx_iload_n (pc := 57) hX d_M_take_57 rfl rfl ?_
        refine jx_iconst (pc := 58) hX (v := 1) d_M_take_58 rfl ?_
        refine jx_iadd (pc := 59) hX d_M_take_59 ?_
        refine jx_top (y := nI (k + 1)) (nI_1 k) ?_
        refine jx_iald (pc := 60) hX oM_18 _ rfl (show k + 1 < 60 by omega) d_M_take_60 ?_
        refine jx_top (y := σ.2 18 (k + 1)) (cp_at _ hik) ?_
        refine jx_iast (pc := 61) hX oM_18 _ rfl (show k < 60 by omega) d_M_take_61 ?_
        refine jx_iinc (pc := 62) hX (v := nI (k + 1)) d_M_take_62 rfl (nI_1 k) (by decide) (L' := [(0, _), (1, _), (2, _)]) rfl ?_
        refine jx_goto (pc := 65) hX 12 d_M_take_65 rfl ?_
        refine jx_to (ih _ (by omega) (k + 1) rfl (by omega) (by omega)) ?_ rfl rfl rfl
        rw [sR3, cp_s _ hik, cp_s _ hik, cp_s _ hik]
  refine jx_aload_n (pc := 0) hX d_M_take_0 rfl rfl ?_
  refine jx_dup (pc := 1) hX d_M_take_1 rfl ?_
  refine g_M_102 (pc := 2) hX d_M_take_2 ?_
  refine jx_iconst (pc := 5) hX (v := 1) d_M_take_5 rfl ?_
  refine jx_isub (pc := 6) hX d_M_take_6 ?_
  refine p_M_102 (pc := 7) hX d_M_take_7 ?_
  refine jx_iload_n (pc := 10) hX d_M_take_10 rfl rfl ?_
  refine jx_istore_n (pc := 11) hX d_M_take_11 rfl (by decide) (L' := [(0, _), (1, _), (2, _)]) rfl ?_
  exact jx_to (loop _ i rfl (Nat.le_refl _) (by omega)) (by rw [cp_0, cp_0, cp_0]; exact sR3_0 _) rfl rfl rfl
set_option maxRecDepth 100000 in
set_option maxHeartbeats 4000000 in
theorem t_M_hasLetter {l : Launch} {D : va_G} {ad : Nat → Nat} {ac : Nat → ClassId} (σ : St) (M : Ms) (hI : Inv M) (hM : repM σ M) (t : Nat) (ht : t < M.nt) : jMp l (yM D ad ac) mt_M_hasLetter TT (rmk 0) [.ref (ad 19), .int (nI t)] σ (fun r => r = eB (M.holds t)) := by
  obtain ⟨⟨⟨s0, s1, s2, s3⟩, h0, h1, h2, h3, h4, h5, h6, h7, h8, h9, h10, h11, h12, h13⟩, hpl⟩ := id hM
  obtain ⟨i1, i2, i3, i4, i5, i6, i7, i8⟩ := id hI
  obtain ⟨p1, p3, p4, p5, p6⟩ := id hpl
  have hw8 := i1.le
  have hw2 := i1.pos
  have hnb := nb_le M.w
  obtain ⟨j1, j2, j3, j4, j5, j6⟩ := i6 t ht
  have ht9 : t < 200 := by omega
  have jp : ∀ p, M.place t = some p → p < 2 ^ 31 := fun p hp => by have := j2 p hp; omega
  refine jMp_of (by decide) (Nat.le_of_ble_eq_true rfl) (List.forall_mem_cons.mpr ⟨rfl, List.forall_mem_cons.mpr ⟨rfl, fun _ h => absurd h List.not_mem_nil⟩⟩) ?_
  intro X A hX
  have hX : jX X (yM D ad ac) A b_M_hasLetter 4 RM (mt_M_hasLetter.w :: TT) (rmk 0) (some .boolean) := hX
  show jW l X (yM D ad ac) A 4 0 0 (k0 X) (jQp X (fun r => r = eB (M.holds t))) σ 0 [(0, .ref (ad 19)), (1, .int (nI t))] []
  have loop : ∀ (fu : Nat) (k : Nat), M.nl - k = fu → k ≤ M.nl → jW l X (yM D ad ac) A 4 0 0 (k0 X) (jQp X (fun r => r = eB (M.holds t))) σ 4 [(0, .ref (ad 19)), (1, .int (nI t)), (2, .int (eB (hasF M.la M.lw t (M.way t) k))), (3, .int (nI k))] [] := by
    intro fu
    induction fu using Nat.strongRecOn with
    | ind fu ih =>
      intro k hfu hkl
      refine jx_iload_n (pc := 4) hX d_M_hasLetter_4 rfl rfl ?_
      refine jx_aload_n (pc := 5) hX d_M_hasLetter_5 rfl rfl ?_
      refine g_M_102 (pc := 6) hX d_M_hasLetter_6 ?_
      refine jx_top (y := nI M.nl) (s3) ?_
      refine jx_icmp_ge (pc := 9) hX 53 d_M_hasLetter_9 rfl (fun q9 => ?_) (fun q9 => ?_)
      · have hge : k = M.nl := by have : M.nl ≤ k := (nI_leI (by omega) (by omega)).mp q9; omega
        refine jx_iload_n (pc := 53) hX d_M_hasLetter_53 rfl rfl ?_
        exact jx_zretp (pc := 54) hX d_M_hasLetter_54 (eB_zr _) (by rw [hge]; rfl)
      · have hlt : k < M.nl := Nat.lt_of_not_le (fun q => q9 (nI_le q (by omega)))
        have k9 := i7 k hlt
        refine jx_iload_n (pc := 12) hX d_M_hasLetter_12 rfl rfl ?_
        refine jx_if_ne (pc := 13) hX 41 d_M_hasLetter_13 rfl (fun q13 => ?_) (fun q13 => ?_)
        · refine jx_iconst (pc := 41) hX (v := 1) d_M_hasLetter_41 rfl ?_
          refine jx_goto (pc := 42) hX 46 d_M_hasLetter_42 rfl ?_
          refine jx_istore_n (pc := 46) hX d_M_hasLetter_46 rfl (by decide) (L' := [(0, _), (1, _), (2, _), (3, _)]) rfl ?_
          refine jx_iinc (pc := 47) hX (v := nI (k + 1)) d_M_hasLetter_47 rfl (nI_1 k) (by decide) (L' := [(0, _), (1, _), (2, _), (3, _)]) rfl ?_
          refine jx_goto (pc := 50) hX 4 d_M_hasLetter_50 rfl ?_
          exact jx_to (ih _ (by omega) (k + 1) rfl (by omega)) rfl rfl (by rw [hasF_s1 (Or.inl (eB_n0.mp q13))]; rfl) rfl
        · refine jx_aload_n (pc := 16) hX d_M_hasLetter_16 rfl rfl ?_
          refine g_M_59 (pc := 17) hX d_M_hasLetter_17 ?_
          refine jx_iload_n (pc := 20) hX d_M_hasLetter_20 rfl rfl ?_
          refine jx_iald (pc := 21) hX oM_16 _ rfl (show k < 60 by omega) d_M_hasLetter_21 ?_
          refine jx_top (y := nI (M.la k)) (h8 k hlt) ?_
          refine jx_iload_n (pc := 22) hX d_M_hasLetter_22 rfl rfl ?_
          refine jx_icmp_ne (pc := 23) hX 45 d_M_hasLetter_23 rfl (fun q23 => ?_) (fun q23 => ?_)
          · refine jx_iconst (pc := 45) hX (v := 0) d_M_hasLetter_45 rfl ?_
            refine jx_istore_n (pc := 46) hX d_M_hasLetter_46 rfl (by decide) (L' := [(0, _), (1, _), (2, _), (3, _)]) rfl ?_
            refine jx_iinc (pc := 47) hX (v := nI (k + 1)) d_M_hasLetter_47 rfl (nI_1 k) (by decide) (L' := [(0, _), (1, _), (2, _), (3, _)]) rfl ?_
            refine jx_goto (pc := 50) hX 4 d_M_hasLetter_50 rfl ?_
            exact jx_to (ih _ (by omega) (k + 1) rfl (by omega)) rfl rfl (by rw [hasF_s0 (eB_0.mp q13) (fun q => q23 (by rw [q.1]))]; rfl) rfl
          · refine jx_aload_n (pc := 26) hX d_M_hasLetter_26 rfl rfl ?_
            refine g_M_65 (pc := 27) hX d_M_hasLetter_27 ?_
            refine jx_iload_n (pc := 30) hX d_M_hasLetter_30 rfl rfl ?_
            refine jx_iald (pc := 31) hX oM_18 _ rfl (show k < 60 by omega) d_M_hasLetter_31 ?_
            refine jx_top (y := M.lw k) (h9 k hlt) ?_
            refine jx_aload_n (pc := 32) hX d_M_hasLetter_32 rfl rfl ?_
            refine g_M_53 (pc := 33) hX d_M_hasLetter_33 ?_
            refine jx_iload_n (pc := 36) hX d_M_hasLetter_36 rfl rfl ?_
            refine jx_iald (pc := 37) hX oM_14 _ rfl ht9 d_M_hasLetter_37 ?_
            refine jx_top (y := M.way t) (h5 t ht) ?_
            refine jx_icmp_ne (pc := 38) hX 45 d_M_hasLetter_38 rfl (fun q38 => ?_) (fun q38 => ?_)
            · refine jx_iconst (pc := 45) hX (v := 0) d_M_hasLetter_45 rfl ?_
              refine jx_istore_n (pc := 46) hX d_M_hasLetter_46 rfl (by decide) (L' := [(0, _), (1, _), (2, _), (3, _)]) rfl ?_
              refine jx_iinc (pc := 47) hX (v := nI (k + 1)) d_M_hasLetter_47 rfl (nI_1 k) (by decide) (L' := [(0, _), (1, _), (2, _), (3, _)]) rfl ?_
              refine jx_goto (pc := 50) hX 4 d_M_hasLetter_50 rfl ?_
              exact jx_to (ih _ (by omega) (k + 1) rfl (by omega)) rfl rfl (by rw [hasF_s0 (eB_0.mp q13) (fun q => q38 q.2)]; rfl) rfl
            · refine jx_iconst (pc := 41) hX (v := 1) d_M_hasLetter_41 rfl ?_
              refine jx_goto (pc := 42) hX 46 d_M_hasLetter_42 rfl ?_
              refine jx_istore_n (pc := 46) hX d_M_hasLetter_46 rfl (by decide) (L' := [(0, _), (1, _), (2, _), (3, _)]) rfl ?_
              refine jx_iinc (pc := 47) hX (v := nI (k + 1)) d_M_hasLetter_47 rfl (nI_1 k) (by decide) (L' := [(0, _), (1, _), (2, _), (3, _)]) rfl ?_
              refine jx_goto (pc := 50) hX 4 d_M_hasLetter_50 rfl ?_
              exact jx_to (ih _ (by omega) (k + 1) rfl (by omega)) rfl rfl (by rw [hasF_s1 (Or.inr ⟨(nI_eq (by omega) (by omega)).mp q23, q38⟩)]; rfl) rfl
  refine jx_iconst (pc := 0) hX (v := 0) d_M_hasLetter_0 rfl ?_
  refine jx_istore_n (pc := 1) hX d_M_hasLetter_1 rfl (by decide) (L' := [(0, _), (1, _), (2, _)]) rfl ?_
  refine jx_iconst (pc := 2) hX (v := 0) d_M_hasLetter_2 rfl ?_
  refine jx_istore_n (pc := 3) hX d_M_hasLetter_3 rfl (by decide) (L' := [(0, _), (1, _), (2, _), (3, _)]) rfl ?_
  exact loop _ 0 rfl (Nat.zero_le _)
set_option maxRecDepth 100000 in
set_option maxHeartbeats 4000000 in
theorem t_M_isHanded {l : Launch} {D : va_G} {ad : Nat → Nat} {ac : Nat → ClassId} (σ : St) (M : Ms) (hI : Inv M) (hM : repM σ M) (n : Nat) (hn : n < 2 ^ 31) : jMp l (yM D ad ac) mt_M_isHanded TT (rmk 0) [.ref (ad 19), .int (nI n)] σ (fun r => r = eB (isH M n)) := by
  obtain ⟨⟨⟨s0, s1, s2, s3⟩, h0, h1, h2, h3, h4, h5, h6, h7, h8, h9, h10, h11, h12, h13⟩, hpl⟩ := id hM
  obtain ⟨i1, i2, i3, i4, i5, i6, i7, i8⟩ := id hI
  obtain ⟨p1, p3, p4, p5, p6⟩ := id hpl
  have hw8 := i1.le
  have hw2 := i1.pos
  have hnb := nb_le M.w
  have hm : n % M.w < M.w := Nat.mod_lt _ (by omega)
  have hh := hI.hand hm
  have hd : n / M.w < 2 ^ 31 := Nat.lt_of_le_of_lt (Nat.div_le_self _ _) hn
  refine jMp_of (by decide) (Nat.le_of_ble_eq_true rfl) (List.forall_mem_cons.mpr ⟨rfl, List.forall_mem_cons.mpr ⟨rfl, fun _ h => absurd h List.not_mem_nil⟩⟩) ?_
  intro X A hX
  have hX : jX X (yM D ad ac) A b_M_isHanded 2 RM (mt_M_isHanded.w :: TT) (rmk 0) (some .boolean) := hX
  show jW l X (yM D ad ac) A 2 0 0 (k0 X) (jQp X (fun r => r = eB (isH M n))) σ 0 [(0, .ref (ad 19)), (1, .int (nI n))] []
  refine jx_aload_n (pc := 0) hX d_M_isHanded_0 rfl rfl ?_
  refine g_M_25 (pc := 1) hX d_M_isHanded_1 ?_
  refine jx_iload_n (pc := 4) hX d_M_isHanded_4 rfl rfl ?_
  refine jx_aload_n (pc := 5) hX d_M_isHanded_5 rfl rfl ?_
  refine g_M_93 (pc := 6) hX d_M_isHanded_6 ?_
  refine jx_top (y := nI M.w) (s0) ?_
  refine jx_irem (pc := 9) hX d_M_isHanded_9 (nI_ne0 (by omega) (by omega)) ?_
  refine jx_top (y := nI (n % M.w)) (pk_rem hn (by omega) (by omega)) ?_
  refine jx_iald (pc := 10) hX oM_5 _ rfl (show n % M.w < 8 by omega) d_M_isHanded_10 ?_
  refine jx_top (y := nI (M.handed (n % M.w))) (h13 _ hm) ?_
  refine jx_iload_n (pc := 11) hX d_M_isHanded_11 rfl rfl ?_
  refine jx_aload_n (pc := 12) hX d_M_isHanded_12 rfl rfl ?_
  refine g_M_93 (pc := 13) hX d_M_isHanded_13 ?_
  refine jx_top (y := nI M.w) (s0) ?_
  refine jx_idiv (pc := 16) hX d_M_isHanded_16 (nI_ne0 (by omega) (by omega)) ?_
  refine jx_top (y := nI (n / M.w)) (pk_div hn (by omega) (by omega)) ?_
  refine jx_icmp_le (pc := 17) hX 24 d_M_isHanded_17 rfl (fun q17 => ?_) (fun q17 => ?_)
  · refine jx_iconst (pc := 24) hX (v := 0) d_M_isHanded_24 rfl ?_
    exact jx_zretp (pc := 25) hX d_M_isHanded_25 rfl (eB_f (decide_eq_false (Nat.not_lt.mpr ((nI_leI (by omega) hd).mp q17))))
  · refine jx_iconst (pc := 20) hX (v := 1) d_M_isHanded_20 rfl ?_
    refine jx_goto (pc := 21) hX 25 d_M_isHanded_21 rfl ?_
    exact jx_zretp (pc := 25) hX d_M_isHanded_25 rfl (eB_t (decide_eq_true (Nat.lt_of_not_le (fun q => q17 ((nI_leI (by omega) hd).mpr q)))))
set_option maxRecDepth 100000 in
set_option maxHeartbeats 4000000 in
theorem t_M_shown0 {l : Launch} {D : va_G} {ad : Nat → Nat} {ac : Nat → ClassId} (σ : St) (M : Ms) (hI : Inv M) (hM : repM σ M) (t : Nat) (ht : t < M.nt) (hq : M.number t = none) : jMp l (yM D ad ac) mt_M_shown TT (rmk 1) [.ref (ad 19), .int (nI t)] σ (fun r => r = eO (M.shown t)) := by
  obtain ⟨⟨⟨s0, s1, s2, s3⟩, h0, h1, h2, h3, h4, h5, h6, h7, h8, h9, h10, h11, h12, h13⟩, hpl⟩ := id hM
  obtain ⟨i1, i2, i3, i4, i5, i6, i7, i8⟩ := id hI
  obtain ⟨p1, p3, p4, p5, p6⟩ := id hpl
  have hw8 := i1.le
  have hw2 := i1.pos
  have hnb := nb_le M.w
  obtain ⟨j1, j2, j3, j4, j5, j6⟩ := i6 t ht
  have ht9 : t < 200 := by omega
  have jp : ∀ p, M.place t = some p → p < 2 ^ 31 := fun p hp => by have := j2 p hp; omega
  refine jMp_of (by decide) (Nat.le_of_ble_eq_true rfl) (List.forall_mem_cons.mpr ⟨rfl, List.forall_mem_cons.mpr ⟨rfl, fun _ h => absurd h List.not_mem_nil⟩⟩) ?_
  intro X A hX
  have hX : jX X (yM D ad ac) A b_M_shown 4 RM (mt_M_shown.w :: TT) (rmk 1) (some .int) := hX
  show jW l X (yM D ad ac) A 4 0 0 (k0 X) (jQp X (fun r => r = eO (M.shown t))) σ 0 [(0, .ref (ad 19)), (1, .int (nI t))] []
  refine jx_iconst (pc := 0) hX (v := 1) d_M_shown_0 rfl ?_
  refine jx_istore_n (pc := 1) hX d_M_shown_1 rfl (by decide) (L' := [(0, _), (1, _), (2, _)]) rfl ?_
  refine jx_iconst (pc := 2) hX (v := 0) d_M_shown_2 rfl ?_
  refine jx_istore_n (pc := 3) hX d_M_shown_3 rfl (by decide) (L' := [(0, _), (1, _), (2, _), (3, _)]) rfl ?_
  refine jx_iload_n (pc := 4) hX d_M_shown_4 rfl rfl ?_
  refine jx_aload_n (pc := 5) hX d_M_shown_5 rfl rfl ?_
  refine g_M_50 (pc := 6) hX d_M_shown_6 ?_
  refine jx_iload_n (pc := 9) hX d_M_shown_9 rfl rfl ?_
  refine jx_iald (pc := 10) hX oM_13 _ rfl ht9 d_M_shown_10 ?_
  refine jx_top (y := -1) (by rw [h6 t ht, hq]; rfl) ?_
  refine jx_icmp_ge (pc := 11) hX 47 d_M_shown_11 rfl (fun _ => ?_) (fun hh => absurd (by decide) hh)
  refine jx_iload_n (pc := 47) hX d_M_shown_47 rfl rfl ?_
  refine jx_if_eq (pc := 48) hX 60 d_M_shown_48 rfl (fun hh => absurd hh (by decide)) (fun _ => ?_)
  refine jx_aload_n (pc := 51) hX d_M_shown_51 rfl rfl ?_
  refine g_M_50 (pc := 52) hX d_M_shown_52 ?_
  refine jx_iload_n (pc := 55) hX d_M_shown_55 rfl rfl ?_
  refine jx_iald (pc := 56) hX oM_13 _ rfl ht9 d_M_shown_56 ?_
  refine jx_top (y := -1) (by rw [h6 t ht, hq]; rfl) ?_
  refine jx_goto (pc := 57) hX 61 d_M_shown_57 rfl ?_
  exact jx_iretp (pc := 61) hX d_M_shown_61 (by rw [Ms.shown_none hq]; rfl)
set_option maxRecDepth 100000 in
set_option maxHeartbeats 4000000 in
theorem t_M_shown1 {l : Launch} {D : va_G} {ad : Nat → Nat} {ac : Nat → ClassId} (σ : St) (M : Ms) (hI : Inv M) (hM : repM σ M) (t : Nat) (ht : t < M.nt) (q : Nat) (hq : M.number t = some q) : jMp l (yM D ad ac) mt_M_shown TT (rmk 1) [.ref (ad 19), .int (nI t)] σ (fun r => r = eO (M.shown t)) := by
  obtain ⟨⟨⟨s0, s1, s2, s3⟩, h0, h1, h2, h3, h4, h5, h6, h7, h8, h9, h10, h11, h12, h13⟩, hpl⟩ := id hM
  obtain ⟨i1, i2, i3, i4, i5, i6, i7, i8⟩ := id hI
  obtain ⟨p1, p3, p4, p5, p6⟩ := id hpl
  have hw8 := i1.le
  have hw2 := i1.pos
  have hnb := nb_le M.w
  obtain ⟨j1, j2, j3, j4, j5, j6⟩ := i6 t ht
  have ht9 : t < 200 := by omega
  have jp : ∀ p, M.place t = some p → p < 2 ^ 31 := fun p hp => by have := j2 p hp; omega
  have hqb := hI.num ht hq
  refine jMp_of (by decide) (Nat.le_of_ble_eq_true rfl) (List.forall_mem_cons.mpr ⟨rfl, List.forall_mem_cons.mpr ⟨rfl, fun _ h => absurd h List.not_mem_nil⟩⟩) ?_
  intro X A hX
  have hX : jX X (yM D ad ac) A b_M_shown 4 RM (mt_M_shown.w :: TT) (rmk 1) (some .int) := hX
  show jW l X (yM D ad ac) A 4 0 0 (k0 X) (jQp X (fun r => r = eO (M.shown t))) σ 0 [(0, .ref (ad 19)), (1, .int (nI t))] []
  have loop : ∀ (fu : Nat) (n : Nat), q - n = fu → n ≤ q → (M.ordered t = false → n = 0) → jW l X (yM D ad ac) A 4 0 0 (k0 X) (jQp X (fun r => r = eO (M.shown t))) σ 4 [(0, .ref (ad 19)), (1, .int (nI t)), (2, .int (eB (alF M n))), (3, .int (nI n))] [] := by
    intro fu
    induction fu using Nat.strongRecOn with
    | ind fu ih =>
      intro n hfu hnq hod
      refine jx_iload_n (pc := 4) hX d_M_shown_4 rfl rfl ?_
      refine jx_aload_n (pc := 5) hX d_M_shown_5 rfl rfl ?_
      refine g_M_50 (pc := 6) hX d_M_shown_6 ?_
      refine jx_iload_n (pc := 9) hX d_M_shown_9 rfl rfl ?_
      refine jx_iald (pc := 10) hX oM_13 _ rfl ht9 d_M_shown_10 ?_
      refine jx_top (y := nI q) (by rw [h6 t ht, hq]; rfl) ?_
      refine jx_icmp_ge (pc := 11) hX 47 d_M_shown_11 rfl (fun q11 => ?_) (fun q11 => ?_)
      · have hge : n = q := by have : q ≤ n := (nI_leI (by omega) (by omega)).mp q11; omega
        have hend : M.shown t = if alF M n = true then some q else none := by
          rw [Ms.shown_some hq, hge]
          by_cases c : alF M q = true
          · rw [if_pos c, if_neg (fun a => a.2 ((alF_least hI q).mp c))]
          · rw [if_neg c]
            cases ho : M.ordered t with
            | true => rw [if_pos ⟨rfl, fun a => c ((alF_least hI q).mpr a)⟩]
            | false => have := hod ho; rw [hge] at this; rw [this] at c; exact absurd rfl c
        refine jx_iload_n (pc := 47) hX d_M_shown_47 rfl rfl ?_
        refine jx_if_eq (pc := 48) hX 60 d_M_shown_48 rfl (fun q48 => ?_) (fun q48 => ?_)
        · refine jx_iconst (pc := 60) hX (v := -1) d_M_shown_60 rfl ?_
          exact jx_iretp (pc := 61) hX d_M_shown_61 (by rw [hend, if_neg (by rw [eB_0.mp q48]; decide)]; rfl)
        · refine jx_aload_n (pc := 51) hX d_M_shown_51 rfl rfl ?_
          refine g_M_50 (pc := 52) hX d_M_shown_52 ?_
          refine jx_iload_n (pc := 55) hX d_M_shown_55 rfl rfl ?_
          refine jx_iald (pc := 56) hX oM_13 _ rfl ht9 d_M_shown_56 ?_
          refine jx_top (y := nI q) (by rw [h6 t ht, hq]; rfl) ?_
          refine jx_goto (pc := 57) hX 61 d_M_shown_57 rfl ?_
          exact jx_iretp (pc := 61) hX d_M_shown_61 (by rw [hend, if_pos (eB_n0.mp q48)]; rfl)
      · have hlt : n < q := Nat.lt_of_not_le (fun q => q11 (nI_le q (by omega)))
        refine jx_aload_n (pc := 14) hX d_M_shown_14 rfl rfl ?_
        refine g_M_56 (pc := 15) hX d_M_shown_15 ?_
        refine jx_iload_n (pc := 18) hX d_M_shown_18 rfl rfl ?_
        refine jx_zald (pc := 19) hX oM_15 _ rfl ht9 d_M_shown_19 ?_
        refine jx_top (y := eB (M.ordered t)) (h7 t ht) ?_
        refine jx_if_eq (pc := 20) hX 47 d_M_shown_20 rfl (fun q20 => ?_) (fun q20 => ?_)
        · have hend : M.shown t = if alF M n = true then some q else none := by
            have ho := eB_0.mp q20
            rw [Ms.shown_some hq, hod ho, if_neg (by rw [ho]; exact fun a => absurd a.1 (by decide))]
            rfl
          refine jx_iload_n (pc := 47) hX d_M_shown_47 rfl rfl ?_
          refine jx_if_eq (pc := 48) hX 60 d_M_shown_48 rfl (fun q48 => ?_) (fun q48 => ?_)
          · refine jx_iconst (pc := 60) hX (v := -1) d_M_shown_60 rfl ?_
            exact jx_iretp (pc := 61) hX d_M_shown_61 (by rw [hend, if_neg (by rw [eB_0.mp q48]; decide)]; rfl)
          · refine jx_aload_n (pc := 51) hX d_M_shown_51 rfl rfl ?_
            refine g_M_50 (pc := 52) hX d_M_shown_52 ?_
            refine jx_iload_n (pc := 55) hX d_M_shown_55 rfl rfl ?_
            refine jx_iald (pc := 56) hX oM_13 _ rfl ht9 d_M_shown_56 ?_
            refine jx_top (y := nI q) (by rw [h6 t ht, hq]; rfl) ?_
            refine jx_goto (pc := 57) hX 61 d_M_shown_57 rfl ?_
            exact jx_iretp (pc := 61) hX d_M_shown_61 (by rw [hend, if_pos (eB_n0.mp q48)]; rfl)
        · have ho : M.ordered t = true := eB_n0.mp q20
          refine jx_iload_n (pc := 23) hX d_M_shown_23 rfl rfl ?_
          refine jx_if_eq (pc := 24) hX 39 d_M_shown_24 rfl (fun q24 => ?_) (fun q24 => ?_)
          · refine jx_iconst (pc := 39) hX (v := 0) d_M_shown_39 rfl ?_
            refine jx_istore_n (pc := 40) hX d_M_shown_40 rfl (by decide) (L' := [(0, _), (1, _), (2, _), (3, _)]) rfl ?_
            refine jx_iinc (pc := 41) hX (v := nI (n + 1)) d_M_shown_41 rfl (nI_1 n) (by decide) (L' := [(0, _), (1, _), (2, _), (3, _)]) rfl ?_
            refine jx_goto (pc := 44) hX 4 d_M_shown_44 rfl ?_
            exact jx_to (ih _ (by omega) (n + 1) rfl (by omega) (fun a => by rw [ho] at a; cases a)) rfl rfl (by rw [alF_s0 (Or.inl (eB_0.mp q24))]; rfl) rfl
          · refine jx_aload_n (pc := 27) hX d_M_shown_27 rfl rfl ?_
            refine jx_iload_n (pc := 28) hX d_M_shown_28 rfl rfl ?_
            refine k_M_150 (pc := 29) hX (t_M_isHanded σ M hI hM n (by omega)) ⟨rfl, rfl, (Nat.le_of_ble_eq_true rfl), (Nat.le_of_ble_eq_true rfl)⟩ rfl rfl (Nat.le_of_ble_eq_true rfl) ⟨Nat.zero_le _, Nat.zero_le _⟩ d_M_shown_29 (fun r hr => ?_)
            subst hr
            refine jx_if_eq (pc := 32) hX 39 d_M_shown_32 rfl (fun q32 => ?_) (fun q32 => ?_)
            · refine jx_iconst (pc := 39) hX (v := 0) d_M_shown_39 rfl ?_
              refine jx_istore_n (pc := 40) hX d_M_shown_40 rfl (by decide) (L' := [(0, _), (1, _), (2, _), (3, _)]) rfl ?_
              refine jx_iinc (pc := 41) hX (v := nI (n + 1)) d_M_shown_41 rfl (nI_1 n) (by decide) (L' := [(0, _), (1, _), (2, _), (3, _)]) rfl ?_
              refine jx_goto (pc := 44) hX 4 d_M_shown_44 rfl ?_
              exact jx_to (ih _ (by omega) (n + 1) rfl (by omega) (fun a => by rw [ho] at a; cases a)) rfl rfl (by rw [alF_s0 (Or.inr (eB_0.mp q32))]; rfl) rfl
            · refine jx_iconst (pc := 35) hX (v := 1) d_M_shown_35 rfl ?_
              refine jx_goto (pc := 36) hX 40 d_M_shown_36 rfl ?_
              refine jx_istore_n (pc := 40) hX d_M_shown_40 rfl (by decide) (L' := [(0, _), (1, _), (2, _), (3, _)]) rfl ?_
              refine jx_iinc (pc := 41) hX (v := nI (n + 1)) d_M_shown_41 rfl (nI_1 n) (by decide) (L' := [(0, _), (1, _), (2, _), (3, _)]) rfl ?_
              refine jx_goto (pc := 44) hX 4 d_M_shown_44 rfl ?_
              exact jx_to (ih _ (by omega) (n + 1) rfl (by omega) (fun a => by rw [ho] at a; cases a)) rfl rfl (by rw [alF_s1 (eB_n0.mp q24) (eB_n0.mp q32)]; rfl) rfl
  refine jx_iconst (pc := 0) hX (v := 1) d_M_shown_0 rfl ?_
  refine jx_istore_n (pc := 1) hX d_M_shown_1 rfl (by decide) (L' := [(0, _), (1, _), (2, _)]) rfl ?_
  refine jx_iconst (pc := 2) hX (v := 0) d_M_shown_2 rfl ?_
  refine jx_istore_n (pc := 3) hX d_M_shown_3 rfl (by decide) (L' := [(0, _), (1, _), (2, _), (3, _)]) rfl ?_
  exact loop _ 0 rfl (Nat.zero_le _) (fun _ => rfl)
theorem t_M_shown {l : Launch} {D : va_G} {ad : Nat → Nat} {ac : Nat → ClassId} (σ : St) (M : Ms) (hI : Inv M) (hM : repM σ M) (t : Nat) (ht : t < M.nt) : jMp l (yM D ad ac) mt_M_shown TT (rmk 1) [.ref (ad 19), .int (nI t)] σ (fun r => r = eO (M.shown t)) := by
  cases hq : M.number t with
  | none => exact t_M_shown0 σ M hI hM t ht hq
  | some q => exact t_M_shown1 σ M hI hM t ht q hq
set_option maxRecDepth 100000 in
set_option maxHeartbeats 4000000 in
theorem t_M_highest {l : Launch} {D : va_G} {ad : Nat → Nat} {ac : Nat → ClassId} (σ : St) (M : Ms) (hI : Inv M) (hM : repM σ M) : jMp l (yM D ad ac) mt_M_highest TT (rmk 0) [.ref (ad 19)] σ (fun r => r = eP (hi1 M.handed M.w M.w)) := by
  obtain ⟨⟨⟨s0, s1, s2, s3⟩, h0, h1, h2, h3, h4, h5, h6, h7, h8, h9, h10, h11, h12, h13⟩, hpl⟩ := id hM
  obtain ⟨i1, i2, i3, i4, i5, i6, i7, i8⟩ := id hI
  obtain ⟨p1, p3, p4, p5, p6⟩ := id hpl
  have hw8 := i1.le
  have hw2 := i1.pos
  have hnb := nb_le M.w
  refine jMp_of (by decide) (Nat.le_of_ble_eq_true rfl) (List.forall_mem_cons.mpr ⟨rfl, fun _ h => absurd h List.not_mem_nil⟩) ?_
  intro X A hX
  have hX : jX X (yM D ad ac) A b_M_highest 4 RM (mt_M_highest.w :: TT) (rmk 0) (some .int) := hX
  show jW l X (yM D ad ac) A 4 0 0 (k0 X) (jQp X (fun r => r = eP (hi1 M.handed M.w M.w))) σ 0 [(0, .ref (ad 19))] []
  have loop : ∀ (fu : Nat) (i : Nat), M.w - i = fu → i ≤ M.w → jW l X (yM D ad ac) A 4 0 0 (k0 X) (jQp X (fun r => r = eP (hi1 M.handed M.w M.w))) σ 4 [(0, .ref (ad 19)), (1, .int (eP (hi1 M.handed M.w i))), (2, .int (nI i))] [] := by
    intro fu
    induction fu using Nat.strongRecOn with
    | ind fu ih =>
      intro i hfu hi
      have join : i < M.w → jW l X (yM D ad ac) A 4 0 0 (k0 X) (jQp X (fun r => r = eP (hi1 M.handed M.w M.w))) σ 41 [(0, .ref (ad 19)), (1, .int (eP (hi1 M.handed M.w i))), (2, .int (nI i)), (3, .int (eP (lst M i)))] [] := by
        intro hlt
        have b1 := hI.hi_le i hi
        have b2 := hI.hi_le (i + 1) (by omega)
        rw [hi1_lst] at b2
        refine jx_iload_n (pc := 41) hX d_M_highest_41 rfl rfl ?_
        refine jx_iload_n (pc := 42) hX d_M_highest_42 rfl rfl ?_
        refine jx_icmp_le (pc := 43) hX 50 d_M_highest_43 rfl (fun q43 => ?_) (fun q43 => ?_)
        · have a43 : lst M i ≤ hi1 M.handed M.w i := (eP_le (by omega) (by omega)).mp q43
          have e43 : hi1 M.handed M.w (i + 1) = hi1 M.handed M.w i := by rw [hi1_lst]; omega
          refine jx_iload_n (pc := 50) hX d_M_highest_50 rfl rfl ?_
          refine jx_istore_n (pc := 51) hX d_M_highest_51 rfl (by decide) (L' := [(0, _), (1, _), (2, _), (3, _)]) rfl ?_
          refine jx_iinc (pc := 52) hX (v := nI (i + 1)) d_M_highest_52 rfl (nI_1 i) (by decide) (L' := [(0, _), (1, _), (2, _), (3, _)]) rfl ?_
          refine jx_goto (pc := 55) hX 4 d_M_highest_55 rfl ?_
          refine jx_take 3 ?_
          rw [← e43]
          exact ih _ (by omega) (i + 1) rfl (by omega)
        · have a43 : hi1 M.handed M.w i < lst M i := Nat.lt_of_not_le (fun q => q43 ((eP_le (by omega) (by omega)).mpr q))
          have e43 : hi1 M.handed M.w (i + 1) = lst M i := by rw [hi1_lst]; omega
          refine jx_iload_n (pc := 46) hX d_M_highest_46 rfl rfl ?_
          refine jx_goto (pc := 47) hX 51 d_M_highest_47 rfl ?_
          refine jx_istore_n (pc := 51) hX d_M_highest_51 rfl (by decide) (L' := [(0, _), (1, _), (2, _), (3, _)]) rfl ?_
          refine jx_iinc (pc := 52) hX (v := nI (i + 1)) d_M_highest_52 rfl (nI_1 i) (by decide) (L' := [(0, _), (1, _), (2, _), (3, _)]) rfl ?_
          refine jx_goto (pc := 55) hX 4 d_M_highest_55 rfl ?_
          refine jx_take 3 ?_
          rw [← e43]
          exact ih _ (by omega) (i + 1) rfl (by omega)
      refine jx_iload_n (pc := 4) hX d_M_highest_4 rfl rfl ?_
      refine jx_aload_n (pc := 5) hX d_M_highest_5 rfl rfl ?_
      refine g_M_93 (pc := 6) hX d_M_highest_6 ?_
      refine jx_top (y := nI M.w) (s0) ?_
      refine jx_icmp_ge (pc := 9) hX 58 d_M_highest_9 rfl (fun q9 => ?_) (fun q9 => ?_)
      · have hge : i = M.w := by have : M.w ≤ i := (nI_leI (by omega) (by omega)).mp q9; omega
        refine jx_iload_n (pc := 58) hX d_M_highest_58 rfl rfl ?_
        exact jx_iretp (pc := 59) hX d_M_highest_59 (by rw [hge])
      · have hlt : i < M.w := Nat.lt_of_not_le (fun q => q9 (nI_le q (by omega)))
        have hh := hI.hand hlt
        refine jx_aload_n (pc := 12) hX d_M_highest_12 rfl rfl ?_
        refine g_M_25 (pc := 13) hX d_M_highest_13 ?_
        refine jx_iload_n (pc := 16) hX d_M_highest_16 rfl rfl ?_
        refine jx_iald (pc := 17) hX oM_5 _ rfl (show i < 8 by omega) d_M_highest_17 ?_
        refine jx_top (y := nI (M.handed i)) (h13 i hlt) ?_
        refine jx_if_ne (pc := 18) hX 25 d_M_highest_18 rfl (fun q18 => ?_) (fun q18 => ?_)
        · have a18 : ¬ M.handed i = 0 := fun q => q18 (by rw [q]; rfl)
          refine jx_iload_n (pc := 25) hX d_M_highest_25 rfl rfl ?_
          refine jx_aload_n (pc := 26) hX d_M_highest_26 rfl rfl ?_
          refine g_M_93 (pc := 27) hX d_M_highest_27 ?_
          refine jx_top (y := nI M.w) (s0) ?_
          refine jx_aload_n (pc := 30) hX d_M_highest_30 rfl rfl ?_
          refine g_M_25 (pc := 31) hX d_M_highest_31 ?_
          refine jx_iload_n (pc := 34) hX d_M_highest_34 rfl rfl ?_
          refine jx_iald (pc := 35) hX oM_5 _ rfl (show i < 8 by omega) d_M_highest_35 ?_
          refine jx_top (y := nI (M.handed i)) (h13 i hlt) ?_
          refine jx_iconst (pc := 36) hX (v := 1) d_M_highest_36 rfl ?_
          refine jx_isub (pc := 37) hX d_M_highest_37 ?_
          refine jx_top (y := nI (M.handed i - 1)) (by rw [nI_c1, pk_sub (by omega)]) ?_
          refine jx_imul (pc := 38) hX d_M_highest_38 ?_
          refine jx_top (y := nI (M.w * (M.handed i - 1))) (pk_mul _ _) ?_
          refine jx_iadd (pc := 39) hX d_M_highest_39 ?_
          refine jx_top (y := nI (i + M.w * (M.handed i - 1))) (nI_add _ _) ?_
          refine jx_istore_n (pc := 40) hX d_M_highest_40 rfl (by decide) (L' := [(0, _), (1, _), (2, _), (3, _)]) rfl ?_
          exact jx_to (join hlt) rfl rfl (by rw [show lst M i = i + M.w * (M.handed i - 1) + 1 from if_neg a18, eP_s]) rfl
        · have a18 : M.handed i = 0 := (nI_n0 (by omega)).mp q18
          refine jx_iconst (pc := 21) hX (v := -1) d_M_highest_21 rfl ?_
          refine jx_top (y := eP 0) (by decide) ?_
          refine jx_goto (pc := 22) hX 40 d_M_highest_22 rfl ?_
          refine jx_istore_n (pc := 40) hX d_M_highest_40 rfl (by decide) (L' := [(0, _), (1, _), (2, _), (3, _)]) rfl ?_
          exact jx_to (join hlt) rfl rfl (by rw [show lst M i = 0 from if_pos a18]) rfl
  refine jx_iconst (pc := 0) hX (v := -1) d_M_highest_0 rfl ?_
  refine jx_top (y := eP 0) (by decide) ?_
  refine jx_istore_n (pc := 1) hX d_M_highest_1 rfl (by decide) (L' := [(0, _), (1, _)]) rfl ?_
  refine jx_iconst (pc := 2) hX (v := 0) d_M_highest_2 rfl ?_
  refine jx_istore_n (pc := 3) hX d_M_highest_3 rfl (by decide) (L' := [(0, _), (1, _), (2, _)]) rfl ?_
  exact loop _ 0 rfl (Nat.zero_le _)
set_option maxRecDepth 100000 in
set_option maxHeartbeats 4000000 in
theorem t_M_gaps {l : Launch} {D : va_G} {ad : Nat → Nat} {ac : Nat → ClassId} (σ : St) (M : Ms) (hI : Inv M) (hM : repM σ M) : jMp l (yM D ad ac) mt_M_gaps TT (rmk 1) [.ref (ad 19)] σ (fun r => r = nI (gaF M.handed M.w (hi1 M.handed M.w M.w - 1))) := by
  obtain ⟨⟨⟨s0, s1, s2, s3⟩, h0, h1, h2, h3, h4, h5, h6, h7, h8, h9, h10, h11, h12, h13⟩, hpl⟩ := id hM
  obtain ⟨i1, i2, i3, i4, i5, i6, i7, i8⟩ := id hI
  obtain ⟨p1, p3, p4, p5, p6⟩ := id hpl
  have hw8 := i1.le
  have hw2 := i1.pos
  have hnb := nb_le M.w
  have hb := hI.hi_le M.w (Nat.le_refl _)
  refine jMp_of (by decide) (Nat.le_of_ble_eq_true rfl) (List.forall_mem_cons.mpr ⟨rfl, fun _ h => absurd h List.not_mem_nil⟩) ?_
  intro X A hX
  have hX : jX X (yM D ad ac) A b_M_gaps 3 RM (mt_M_gaps.w :: TT) (rmk 1) (some .int) := hX
  show jW l X (yM D ad ac) A 3 0 0 (k0 X) (jQp X (fun r => r = nI (gaF M.handed M.w (hi1 M.handed M.w M.w - 1)))) σ 0 [(0, .ref (ad 19))] []
  have loop : ∀ (fu : Nat) (k : Nat), hi1 M.handed M.w M.w - k = fu → k ≤ hi1 M.handed M.w M.w - 1 → jW l X (yM D ad ac) A 3 0 0 (k0 X) (jQp X (fun r => r = nI (gaF M.handed M.w (hi1 M.handed M.w M.w - 1)))) σ 4 [(0, .ref (ad 19)), (1, .int (nI (gaF M.handed M.w k))), (2, .int (nI k))] [] := by
    intro fu
    induction fu using Nat.strongRecOn with
    | ind fu ih =>
      intro k hfu hk
      refine jx_iload_n (pc := 4) hX d_M_gaps_4 rfl rfl ?_
      refine jx_aload_n (pc := 5) hX d_M_gaps_5 rfl rfl ?_
      refine k_M_156 (pc := 6) hX (t_M_highest σ M hI hM) ⟨rfl, rfl, (Nat.le_of_ble_eq_true rfl), (Nat.le_of_ble_eq_true rfl)⟩ rfl rfl (Nat.le_of_ble_eq_true rfl) ⟨Nat.zero_le _, Nat.zero_le _⟩ d_M_gaps_6 (fun r hr => ?_)
      subst hr
      rw [← eP_s k]
      refine jx_icmp_ge (pc := 9) hX 34 d_M_gaps_9 rfl (fun q9 => ?_) (fun q9 => ?_)
      · have hge : k = hi1 M.handed M.w M.w - 1 := by have : hi1 M.handed M.w M.w ≤ k + 1 := (eP_le (by omega) (by omega)).mp q9; omega
        refine jx_iload_n (pc := 34) hX d_M_gaps_34 rfl rfl ?_
        exact jx_iretp (pc := 35) hX d_M_gaps_35 (by rw [hge])
      · have hlt : k + 1 < hi1 M.handed M.w M.w := Nat.lt_of_not_le (fun q => q9 ((eP_le (by omega) (by omega)).mpr q))
        rw [eP_s k]
        refine jx_aload_n (pc := 12) hX d_M_gaps_12 rfl rfl ?_
        refine jx_iload_n (pc := 13) hX d_M_gaps_13 rfl rfl ?_
        refine k_M_150 (pc := 14) hX (t_M_isHanded σ M hI hM k (by omega)) ⟨rfl, rfl, (Nat.le_of_ble_eq_true rfl), (Nat.le_of_ble_eq_true rfl)⟩ rfl rfl (Nat.le_of_ble_eq_true rfl) ⟨Nat.zero_le _, Nat.zero_le _⟩ d_M_gaps_14 (fun r hr => ?_)
        subst hr
        refine jx_if_eq (pc := 17) hX 24 d_M_gaps_17 rfl (fun q17 => ?_) (fun q17 => ?_)
        · refine jx_iload_n (pc := 24) hX d_M_gaps_24 rfl rfl ?_
          refine jx_iconst (pc := 25) hX (v := 1) d_M_gaps_25 rfl ?_
          refine jx_iadd (pc := 26) hX d_M_gaps_26 ?_
          refine jx_top (y := nI (gaF M.handed M.w k + 1)) (nI_1 _) ?_
          refine jx_istore_n (pc := 27) hX d_M_gaps_27 rfl (by decide) (L' := [(0, _), (1, _), (2, _)]) rfl ?_
          refine jx_iinc (pc := 28) hX (v := nI (k + 1)) d_M_gaps_28 rfl (nI_1 k) (by decide) (L' := [(0, _), (1, _), (2, _)]) rfl ?_
          refine jx_goto (pc := 31) hX 4 d_M_gaps_31 rfl ?_
          rw [← gaF_s1 (eB_0.mp q17)]
          exact ih _ (by omega) (k + 1) rfl (by omega)
        · refine jx_iload_n (pc := 20) hX d_M_gaps_20 rfl rfl ?_
          refine jx_goto (pc := 21) hX 27 d_M_gaps_21 rfl ?_
          refine jx_istore_n (pc := 27) hX d_M_gaps_27 rfl (by decide) (L' := [(0, _), (1, _), (2, _)]) rfl ?_
          refine jx_iinc (pc := 28) hX (v := nI (k + 1)) d_M_gaps_28 rfl (nI_1 k) (by decide) (L' := [(0, _), (1, _), (2, _)]) rfl ?_
          refine jx_goto (pc := 31) hX 4 d_M_gaps_31 rfl ?_
          rw [← gaF_s0 (eB_n0.mp q17)]
          exact ih _ (by omega) (k + 1) rfl (by omega)
  refine jx_iconst (pc := 0) hX (v := 0) d_M_gaps_0 rfl ?_
  refine jx_istore_n (pc := 1) hX d_M_gaps_1 rfl (by decide) (L' := [(0, _), (1, _)]) rfl ?_
  refine jx_iconst (pc := 2) hX (v := 0) d_M_gaps_2 rfl ?_
  refine jx_istore_n (pc := 3) hX d_M_gaps_3 rfl (by decide) (L' := [(0, _), (1, _), (2, _)]) rfl ?_
  exact loop _ 0 rfl (Nat.zero_le _)
set_option maxRecDepth 100000 in
set_option maxHeartbeats 4000000 in
theorem t_M_resend {l : Launch} {D : va_G} {ad : Nat → Nat} {ac : Nat → ClassId} (σ : St) (M : Ms) (hI : Inv M) (hM : repM σ M) : jMi l (yM D ad ac) mt_M_resend TT (rmk 3) [.ref (ad 19)] σ (fun r u => r = nI (M.resend.nl - M.nl) ∧ repM u M.resend) := by
  have i3 : M.nt ≤ 200 := hI.2.2.1
  have i4 : M.nl ≤ 60 := hI.2.2.2.1
  refine jMi_of (by decide) (Nat.le_of_ble_eq_true rfl) (List.forall_mem_cons.mpr ⟨rfl, fun _ h => absurd h List.not_mem_nil⟩) ?_
  intro X A hX
  have hX : jX X (yM D ad ac) A b_M_resend 3 RM (mt_M_resend.w :: TT) (rmk 3) (some .int) := hX
  show jW l X (yM D ad ac) A 3 0 0 kT (jQi X (yM D ad ac) A (fun r u => r = nI (M.resend.nl - M.nl) ∧ repM u M.resend)) σ 0 [(0, .ref (ad 19))] []
  have loop : ∀ (fu : Nat) (t : Nat) (σ1 : St) (M1 : Ms), M.nt - t = fu → t ≤ M.nt → Inv M1 → repM σ1 M1 → M1.nt = M.nt → M.nl ≤ M1.nl → Ms.resF (M.nt - t) t M1 = M.resend → jW l X (yM D ad ac) A 3 0 0 kT (jQi X (yM D ad ac) A (fun r u => r = nI (M.resend.nl - M.nl) ∧ repM u M.resend)) σ1 9 [(0, .ref (ad 19)), (1, .int (nI (M1.nl - M.nl))), (2, .int (nI t))] [] := by
    intro fu
    induction fu using Nat.strongRecOn with
    | ind fu ih =>
      intro t σ1 M1 hfu htl hI1 hM1 e1 e3 e2
      have j4 : M1.nl ≤ 60 := hI1.2.2.2.1
      refine jx_iload_n (pc := 9) hX d_M_resend_9 rfl rfl ?_
      refine jx_aload_n (pc := 10) hX d_M_resend_10 rfl rfl ?_
      refine g_M_99 (pc := 11) hX d_M_resend_11 ?_
      refine jx_top (y := nI M.nt) (by rw [← e1]; exact hM1.1.1.2.2.1) ?_
      refine jx_icmp_ge (pc := 14) hX 58 d_M_resend_14 rfl (fun q18 => ?_) (fun q18 => ?_)
      · have hge : M.nt ≤ t := (nI_leI (by omega) (by omega)).mp q18
        have hend : M1 = M.resend := by rw [← e2, Nat.sub_eq_zero_of_le hge]; rfl
        refine jx_iload_n (pc := 58) hX d_M_resend_58 rfl rfl ?_
        exact jx_iret (pc := 59) hX d_M_resend_59 (by rw [← hend]; exact ⟨rfl, hM1⟩)
      · have hlt : t < M.nt := Nat.lt_of_not_le (fun q => q18 (nI_le q (by omega)))
        have hs9 := (hI1.2.2.2.2.2.1 t (by omega)).2.2.1
        refine jx_aload_n (pc := 17) hX d_M_resend_17 rfl rfl ?_
        refine g_M_102 (pc := 18) hX d_M_resend_18 ?_
        refine jx_top (y := nI M1.nl) (hM1.1.1.2.2.2) ?_
        refine jx_bipush (pc := 21) hX (v := 60) d_M_resend_21 rfl ?_
        refine jx_icmp_ge (pc := 23) hX 58 d_M_resend_23 rfl (fun q28 => ?_) (fun q28 => ?_)
        · have a28 : ¬ M1.nl < 60 := Nat.not_lt.mpr ((nI_leI (a := 60) (by decide) (by omega)).mp q28)
          have hend : M1 = M.resend := by rw [← e2, Ms.resF_f a28]
          refine jx_iload_n (pc := 58) hX d_M_resend_58 rfl rfl ?_
          exact jx_iret (pc := 59) hX d_M_resend_59 (by rw [← hend]; exact ⟨rfl, hM1⟩)
        · have a28 : M1.nl < 60 := Nat.lt_of_not_le (fun q => q28 (nI_le (a := 60) q (by omega)))
          refine jx_aload_n (pc := 26) hX d_M_resend_26 rfl rfl ?_
          refine g_M_41 (pc := 27) hX d_M_resend_27 ?_
          refine jx_iload_n (pc := 30) hX d_M_resend_30 rfl rfl ?_
          refine jx_iald (pc := 31) hX oM_10 _ rfl (show t < 200 by omega) d_M_resend_31 ?_
          refine jx_top (y := nI (M1.state t)) (hM1.1.2.2.2.1 t (by omega)) ?_
          refine jx_iconst (pc := 32) hX (v := 1) d_M_resend_32 rfl ?_
          refine jx_icmp_ne (pc := 33) hX 52 d_M_resend_33 rfl (fun q41 => ?_) (fun q41 => ?_)
          · have a41 : ¬ M1.state t = 1 := fun q => q41 ((nI_n1 (by omega)).mpr q)
            refine jx_iinc (pc := 52) hX (v := nI (t + 1)) d_M_resend_52 rfl (nI_1 t) (by decide) (L' := [(0, _), (1, _), (2, _)]) rfl ?_
            refine jx_goto (pc := 55) hX 9 d_M_resend_55 rfl ?_
            exact ih _ (by omega) (t + 1) σ1 M1 rfl (by omega) hI1 hM1 e1 e3 (by rw [← e2, Ms.resF_s hlt a28, Ms.res1_f (Or.inl a41)])
          · have a41 : M1.state t = 1 := (nI_n1 (by omega)).mp q41
            refine jx_aload_n (pc := 36) hX d_M_resend_36 rfl rfl ?_
            refine jx_iload_n (pc := 37) hX d_M_resend_37 rfl rfl ?_
            refine k_M_147 (pc := 38) hX (t_M_hasLetter σ1 M1 hI1 hM1 t (by omega)) ⟨rfl, rfl, (Nat.le_of_ble_eq_true rfl), (Nat.le_of_ble_eq_true rfl)⟩ rfl rfl (Nat.le_of_ble_eq_true rfl) ⟨Nat.zero_le _, Nat.zero_le _⟩ d_M_resend_38 (fun r hr => ?_)
            subst hr
            refine jx_if_ne (pc := 41) hX 52 d_M_resend_41 rfl (fun q61 => ?_) (fun q61 => ?_)
            · have a61 : M1.holds t = true := eB_n0.mp q61
              refine jx_iinc (pc := 52) hX (v := nI (t + 1)) d_M_resend_52 rfl (nI_1 t) (by decide) (L' := [(0, _), (1, _), (2, _)]) rfl ?_
              refine jx_goto (pc := 55) hX 9 d_M_resend_55 rfl ?_
              exact ih _ (by omega) (t + 1) σ1 M1 rfl (by omega) hI1 hM1 e1 e3 (by rw [← e2, Ms.resF_s hlt a28, Ms.res1_f (Or.inr a61)])
            · have a61 : M1.holds t = false := eB_0.mp q61
              refine jx_aload_n (pc := 44) hX d_M_resend_44 rfl rfl ?_
              refine jx_iload_n (pc := 45) hX d_M_resend_45 rfl rfl ?_
              refine k_M_133 (pc := 46) hX (t_M_post σ1 M1 hI1 hM1 t (by omega) a28) ⟨rfl, rfl, (Nat.le_of_ble_eq_true rfl), (Nat.le_of_ble_eq_true rfl)⟩ rfl rfl (Nat.le_of_ble_eq_true rfl) ⟨Nat.zero_le _, Nat.zero_le _⟩ d_M_resend_46 (fun u hu => ?_)
              refine jx_iinc (pc := 49) hX (v := nI ((M1.post t (M1.way t) (M1.stN t)).nl - M.nl)) d_M_resend_49 rfl (by show nI (M1.nl - M.nl) + 1 = nI (M1.nl + 1 - M.nl); rw [nI_1]; congr 1; omega) (by decide) (L' := [(0, _), (1, _), (2, _)]) rfl ?_
              refine jx_iinc (pc := 52) hX (v := nI (t + 1)) d_M_resend_52 rfl (nI_1 t) (by decide) (L' := [(0, _), (1, _), (2, _)]) rfl ?_
              refine jx_goto (pc := 55) hX 9 d_M_resend_55 rfl ?_
              exact ih _ (by omega) (t + 1) u (M1.post t (M1.way t) (M1.stN t)) rfl (by omega) (hI1.post (by omega) (Ms.stN_lt hI1.2.1.1 t) a28) hu.1 e1 (Nat.le_trans e3 (Nat.le_succ _)) (by rw [← e2, Ms.resF_s hlt a28, Ms.res1_t a41 a61])
  refine jx_aload_n (pc := 0) hX d_M_resend_0 rfl rfl ?_
  refine jx_iconst (pc := 1) hX (v := 0) d_M_resend_1 rfl ?_
  refine p_M_72 (pc := 2) hX d_M_resend_2 ?_
  refine jx_iconst (pc := 5) hX (v := 0) d_M_resend_5 rfl ?_
  refine jx_istore_n (pc := 6) hX d_M_resend_6 rfl (by decide) (L' := [(0, _), (1, _)]) rfl ?_
  refine jx_iconst (pc := 7) hX (v := 0) d_M_resend_7 rfl ?_
  refine jx_istore_n (pc := 8) hX d_M_resend_8 rfl (by decide) (L' := [(0, _), (1, _), (2, _)]) rfl ?_
  exact jx_to (loop _ 0 (sF σ 0 0) M rfl (Nat.zero_le _) hI hM rfl (Nat.le_refl _) rfl) rfl rfl (by rw [Nat.sub_self]; rfl) rfl
end
section
/-! how the network is laid, on the reference's side: what the rows hold, where it is known; what is laid -/
abbrev Ql : Type := (Nat → Option Nat) × List (Nat × Nat × Nat)
def meet (q : Nat × Nat × Nat) (a b : Nat) : Bool := q.1 == a || q.2.1 == a || q.1 == b || q.2.1 == b
def coF (l : List (Nat × Nat × Nat)) (a b : Nat) : Nat → Nat
  | 0 => 0
  | n + 1 => if meet (l.getD n (0, 0, 0)) a b = true ∧ coF l a b n < (l.getD n (0, 0, 0)).2.2 + 1 then (l.getD n (0, 0, 0)).2.2 + 1 else coF l a b n
def Ql.lay (Q : Ql) (a b : Nat) : Ql := (Q.1, Q.2 ++ [(a, b, coF Q.2 a b Q.2.length)])
def Ql.ones (Q : Ql) (a b to : Nat) : Ql := (va_up (va_up Q.1 to (some a)) (to + 1) (some b), (Q.lay a b).2)
def Ql.g (Q : Ql) (j : Nat) : Nat := (Q.1 j).getD 0
def Ql.jnA (p q : Nat) : Nat → Ql → Ql
  | 0, Q => Q
  | i + 1, Q => (Ql.jnA p q i Q).lay (Q.g (p + i)) (Q.g (q + i))
def rwB (r : Nat → Option Nat) (p q to n : Nat) : Nat → Option Nat := fun j => if to ≤ j ∧ j < to + 2 * n then (if (j - to) % 2 = 0 then r (p + (j - to) / 2) else r (q + (j - to) / 2)) else r j
def Ql.join (Q : Ql) (p q n to : Nat) : Ql := (rwB Q.1 p q to n, (Ql.jnA p q n Q).2)
def Ql.t1 (Q : Ql) (x y to : Nat) : Ql := Q.ones (Q.g x) (Q.g (y + 1)) (to + 4)
def Ql.t2 (Q : Ql) (x y to : Nat) : Ql := (Q.t1 x y to).ones ((Q.t1 x y to).g (x + 1)) ((Q.t1 x y to).g y) (to + 6)
def Ql.twos (Q : Ql) (x y to : Nat) : Ql := (Q.t2 x y to).join (to + 4) (to + 6) 2 to
def Ql.pk1 (Q : Ql) (x y to k i : Nat) : Ql := (va_up (va_up Q.1 (to + 8 + i) (Q.1 (x + 2 * i + k))) (to + 10 + i) (va_up Q.1 (to + 8 + i) (Q.1 (x + 2 * i + k)) (y + 2 * i + 1 - k)), Q.2)
def Ql.pick (x y to k : Nat) : Nat → Ql → Ql
  | 0, Q => Q
  | i + 1, Q => (Ql.pick x y to k i Q).pk1 x y to k i
def Ql.f1 (Q : Ql) (x y to k : Nat) : Ql := (Ql.pick x y to k 2 Q).twos (to + 8) (to + 10) (to + 16 + 8 * k)
def Ql.fours (Q : Ql) (x y to : Nat) : Ql := ((Q.f1 x y to 0).f1 x y to 1).join (to + 16) (to + 24) 4 to
def Ql.h2 (Q : Ql) (f to : Nat) : Ql := (Q.ones f (f + 1) (to + 16)).ones (f + 2) (f + 3) (to + 18)
def Ql.four (Q : Ql) (f to : Nat) : Ql := (Q.h2 f to).twos (to + 16) (to + 18) to
def Ql0 : Ql := (fun _ => none, [])
def Ql.mk (w : Nat) : Ql := if w = 2 then Ql0.ones 0 1 0 else if w = 4 then Ql0.four 0 0 else ((Ql0.four 0 40).four 4 48).fours 40 48 0
theorem mk_2 : (Ql.mk 2).2 = tab 2 ∧ ∀ i, i < 2 → (Ql.mk 2).1 i = some (uE 2 i) := by decide +kernel
theorem mk_4 : (Ql.mk 4).2 = tab 4 ∧ ∀ i, i < 4 → (Ql.mk 4).1 i = some (uE 4 i) := by decide +kernel
theorem mk_8 : (Ql.mk 8).2 = tab 8 ∧ ∀ i, i < 8 → (Ql.mk 8).1 i = some (uE 8 i) := by decide +kernel
def Ql.join_ok (Q : Ql) (p q n to : Nat) : Bool := decide (to + 2 * n ≤ p) && decide (to + 2 * n ≤ q) && decide (p + n ≤ 80) && decide (q + n ≤ 80) && decide (Q.2.length + n ≤ 24) && (List.range n).all (fun i => (Q.1 (p + i)).isSome && (Q.1 (q + i)).isSome)
def Ql.twos_ok (Q : Ql) (x y to : Nat) : Bool := decide (to + 8 ≤ 80) && decide (x + 2 ≤ 80) && decide (y + 2 ≤ 80) && decide (Q.2.length + 2 ≤ 24) && (Q.1 x).isSome && (Q.1 (y + 1)).isSome && ((Q.t1 x y to).1 (x + 1)).isSome && ((Q.t1 x y to).1 y).isSome && (Q.t2 x y to).join_ok (to + 4) (to + 6) 2 to
def Ql.pk_ok (Q : Ql) (x y to k i : Nat) : Bool := (Q.1 (x + 2 * i + k)).isSome && (va_up Q.1 (to + 8 + i) (Q.1 (x + 2 * i + k)) (y + 2 * i + 1 - k)).isSome
def Ql.f1_ok (Q : Ql) (x y to k : Nat) : Bool := Q.pk_ok x y to k 0 && (Ql.pick x y to k 1 Q).pk_ok x y to k 1 && (Ql.pick x y to k 2 Q).twos_ok (to + 8) (to + 10) (to + 16 + 8 * k)
def Ql.four_ok (Q : Ql) (f to : Nat) : Bool := decide (f + 3 < 8) && decide (to + 20 ≤ 80) && decide (Q.2.length + 2 ≤ 24) && (Q.h2 f to).twos_ok (to + 16) (to + 18) to
theorem mk4_ok : Ql0.four_ok 0 0 = true := by decide +kernel
theorem mk8_ok : Ql0.four_ok 0 40 = true ∧ (Ql0.four 0 40).four_ok 4 48 = true ∧ ((Ql0.four 0 40).four 4 48).f1_ok 40 48 0 0 = true ∧ (((Ql0.four 0 40).four 4 48).f1 40 48 0 0).f1_ok 40 48 0 1 = true ∧ ((((Ql0.four 0 40).four 4 48).f1 40 48 0 0).f1 40 48 0 1).join_ok 16 24 4 0 = true := by decide +kernel
theorem coF_le {l : List (Nat × Nat × Nat)} {a b : Nat} (h : ∀ n, n < l.length → (l.getD n (0, 0, 0)).2.2 ≤ n) : ∀ n, n ≤ l.length → coF l a b n ≤ n
  | 0, _ => Nat.le_refl _
  | n + 1, hn => by
    have h1 := coF_le (a := a) (b := b) h n (by omega)
    have h2 := h n (by omega)
    unfold coF
    split <;> omega
def relQ (σ : St) (th : Int32) (w ns : Nat) (Q : Ql) : Prop :=
  (σ.1 0 = th ∧ σ.1 1 = nI w ∧ σ.1 2 = nI ns ∧ σ.1 4 = 0 ∧ σ.1 5 = 0) ∧ σ.1 3 = nI Q.2.length ∧
  (∀ n, n < Q.2.length → (Q.2.getD n (0, 0, 0)).1 < 8 ∧ (Q.2.getD n (0, 0, 0)).2.1 < 8 ∧ (Q.2.getD n (0, 0, 0)).2.2 ≤ n) ∧
  AR Q.2.length nI (σ.2 0) (fun b => (Q.2.getD b (0, 0, 0)).1) ∧ AR Q.2.length nI (σ.2 1) (fun b => (Q.2.getD b (0, 0, 0)).2.1) ∧ AR Q.2.length nI (σ.2 2) (fun b => (Q.2.getD b (0, 0, 0)).2.2) ∧ (∀ b, b < Q.2.length → σ.2 3 b = 0) ∧
  ∀ j v, Q.1 j = some v → v < 8 ∧ σ.2 7 j = nI v
theorem getD_app {l : List (Nat × Nat × Nat)} {q : Nat × Nat × Nat} {n : Nat} (h : n < l.length) : (l ++ [q]).getD n (0, 0, 0) = l.getD n (0, 0, 0) := by
  rw [List.getD_eq_getElem?_getD, List.getElem?_append_left h, ← List.getD_eq_getElem?_getD]
theorem getD_last {l : List (Nat × Nat × Nat)} {q : Nat × Nat × Nat} : (l ++ [q]).getD l.length (0, 0, 0) = q := by
  rw [List.getD_eq_getElem?_getD, List.getElem?_append_right (Nat.le_refl _), Nat.sub_self]
  rfl
theorem Ql.lay_len (Q : Ql) (a b : Nat) : (Q.lay a b).2.length = Q.2.length + 1 := List.length_append
theorem lay_ok {Q : Ql} {a b : Nat} (ha : a < 8) (hb : b < 8) (h : ∀ n, n < Q.2.length → (Q.2.getD n (0, 0, 0)).1 < 8 ∧ (Q.2.getD n (0, 0, 0)).2.1 < 8 ∧ (Q.2.getD n (0, 0, 0)).2.2 ≤ n) :
    ∀ n, n < (Q.lay a b).2.length → ((Q.lay a b).2.getD n (0, 0, 0)).1 < 8 ∧ ((Q.lay a b).2.getD n (0, 0, 0)).2.1 < 8 ∧ ((Q.lay a b).2.getD n (0, 0, 0)).2.2 ≤ n := by
  intro n hn
  rw [Ql.lay_len] at hn
  show ((Q.2 ++ [(a, b, coF Q.2 a b Q.2.length)]).getD n (0, 0, 0)).1 < 8 ∧ ((Q.2 ++ [(a, b, coF Q.2 a b Q.2.length)]).getD n (0, 0, 0)).2.1 < 8 ∧ ((Q.2 ++ [(a, b, coF Q.2 a b Q.2.length)]).getD n (0, 0, 0)).2.2 ≤ n
  by_cases e : n = Q.2.length
  · rw [e, getD_last]
    exact ⟨ha, hb, coF_le (fun n hn => (h n hn).2.2) _ (Nat.le_refl _)⟩
  · rw [getD_app (by omega)]
    exact h n (by omega)
theorem meet_t {q : Nat × Nat × Nat} {a b : Nat} (h : q.1 = a ∨ q.2.1 = a ∨ q.1 = b ∨ q.2.1 = b) : meet q a b = true := by
  unfold meet
  rcases h with h | h | h | h <;> rw [h] <;> simp
theorem meet_f {q : Nat × Nat × Nat} {a b : Nat} (h1 : ¬ q.1 = a) (h2 : ¬ q.2.1 = a) (h3 : ¬ q.1 = b) (h4 : ¬ q.2.1 = b) : meet q a b = false := by
  unfold meet
  simp [h1, h2, h3, h4]
theorem coF_s0 {l : List (Nat × Nat × Nat)} {a b n : Nat} (h : ¬ (meet (l.getD n (0, 0, 0)) a b = true ∧ coF l a b n < (l.getD n (0, 0, 0)).2.2 + 1)) : coF l a b (n + 1) = coF l a b n := if_neg h
theorem coF_s1 {l : List (Nat × Nat × Nat)} {a b n : Nat} (h : meet (l.getD n (0, 0, 0)) a b = true ∧ coF l a b n < (l.getD n (0, 0, 0)).2.2 + 1) : coF l a b (n + 1) = (l.getD n (0, 0, 0)).2.2 + 1 := if_pos h
theorem zero_at {f : Nat → Int32} {n : Nat} (h : ∀ b, b < n → f b = 0) : ∀ b, b < n + 1 → upd f n 0 b = 0 := zero_s h
theorem Ql.jnA_r (p q : Nat) : ∀ (i : Nat) (Q : Ql), (Ql.jnA p q i Q).1 = Q.1
  | 0, _ => rfl
  | i + 1, Q => Ql.jnA_r p q i Q
theorem Ql.jnA_len (p q : Nat) : ∀ (i : Nat) (Q : Ql), (Ql.jnA p q i Q).2.length = Q.2.length + i
  | 0, _ => rfl
  | i + 1, Q => by
    show ((Ql.jnA p q i Q).lay _ _).2.length = _
    rw [Ql.lay_len, Ql.jnA_len p q i Q]
    rfl
theorem Ql.g_of {Q : Ql} {j : Nat} (h : (Q.1 j).isSome = true) : Q.1 j = some (Q.g j) := by
  obtain ⟨v, hv⟩ := Option.isSome_iff_exists.mp h
  unfold Ql.g
  rw [hv]
  rfl
theorem rwB_s {r : Nat → Option Nat} {p q to n : Nat} : va_up (va_up (rwB r p q to n) (to + 2 * n) (r (p + n))) (to + 2 * n + 1) (r (q + n)) = rwB r p q to (n + 1) := by
  funext j
  by_cases e1 : j = to + 2 * n + 1
  · subst e1
    rw [va_up_self]
    unfold rwB
    rw [if_pos (by omega), if_neg (by omega), show (to + 2 * n + 1 - to) / 2 = n by omega]
  · rw [va_up_ne _ _ e1]
    by_cases e2 : j = to + 2 * n
    · subst e2
      rw [va_up_self]
      unfold rwB
      rw [if_pos (by omega), if_pos (by omega), show (to + 2 * n - to) / 2 = n by omega]
    · rw [va_up_ne _ _ e2]
      unfold rwB
      by_cases c : to ≤ j ∧ j < to + 2 * n
      · rw [if_pos c, if_pos (show to ≤ j ∧ j < to + 2 * (n + 1) by omega)]
      · rw [if_neg c, if_neg (show ¬ (to ≤ j ∧ j < to + 2 * (n + 1)) by omega)]
theorem rwB_off {r : Nat → Option Nat} {p q to n j : Nat} (h : to + 2 * n ≤ j) : rwB r p q to n j = r j := by unfold rwB; rw [if_neg (by omega)]
theorem rwB_0 (r : Nat → Option Nat) (p q to : Nat) : rwB r p q to 0 = r := by funext j; unfold rwB; rw [if_neg (by omega)]
theorem rowUp {r : Nat → Option Nat} {f : Nat → Int32} (h : ∀ j v, r j = some v → v < 8 ∧ f j = nI v) {i v : Nat} {x : Int32} (hv : v < 8) (e : x = nI v) : ∀ j u, va_up r i (some v) j = some u → u < 8 ∧ upd f i x j = nI u := by
  intro j u hu
  by_cases c : j = i
  · subst c
    rw [va_up_self] at hu
    cases hu
    rw [pk_us]
    exact ⟨hv, e⟩
  · rw [va_up_ne _ _ c] at hu
    rw [pk_un c]
    exact h j u hu
end
section
set_option maxRecDepth 100000 in
set_option maxHeartbeats 4000000 in
theorem t_M_lay {l : Launch} {D : va_G} {ad : Nat → Nat} {ac : Nat → ClassId} (σ : St) (th : Int32) (w ns : Nat) (Q : Ql) (hR : relQ σ th w ns Q) (hl : Q.2.length < 24) (a b : Nat) (ha : a < 8) (hb : b < 8) : jMv l (yM D ad ac) mt_M_lay TT (rmk 0) [.ref (ad 19), .int (nI a), .int (nI b)] σ (fun u => relQ u th w ns (Q.lay a b)) := by
  obtain ⟨q0, q1, q2, q3, q4, q5, q6, q7⟩ := id hR
  refine jMv_of (by decide) (Nat.le_of_ble_eq_true rfl) (List.forall_mem_cons.mpr ⟨rfl, List.forall_mem_cons.mpr ⟨rfl, List.forall_mem_cons.mpr ⟨rfl, fun _ h => absurd h List.not_mem_nil⟩⟩⟩) ?_
  intro X A hX
  have hX : jX X (yM D ad ac) A b_M_lay 6 RM (mt_M_lay.w :: TT) (rmk 0) none := hX
  show jW l X (yM D ad ac) A 6 0 0 kT (jQv X (yM D ad ac) A (fun u => relQ u th w ns (Q.lay a b))) σ 0 [(0, .ref (ad 19)), (1, .int (nI a)), (2, .int (nI b))] []
  have loop : ∀ (fu : Nat) (n : Nat), Q.2.length - n = fu → n ≤ Q.2.length → jW l X (yM D ad ac) A 6 0 0 kT (jQv X (yM D ad ac) A (fun u => relQ u th w ns (Q.lay a b))) σ 5 [(0, .ref (ad 19)), (1, .int (nI a)), (2, .int (nI b)), (3, .int (nI (coF Q.2 a b n))), (4, .int (nI n))] [] := by
    intro fu
    induction fu using Nat.strongRecOn with
    | ind fu ih =>
      intro n hfu hn
      have hcl := coF_le (a := a) (b := b) (fun n hn => (q2 n hn).2.2) n hn
      have join : ∀ z : Int32, n < Q.2.length → z = eB (meet (Q.2.getD n (0, 0, 0)) a b) → jW l X (yM D ad ac) A 6 0 0 kT (jQv X (yM D ad ac) A (fun u => relQ u th w ns (Q.lay a b))) σ 65 [(0, .ref (ad 19)), (1, .int (nI a)), (2, .int (nI b)), (3, .int (nI (coF Q.2 a b n))), (4, .int (nI n)), (5, .int z)] [] := by
        intro z hlt hz
        subst hz
        have k9 := q2 n hlt
        refine jx_iload (pc := 65) hX d_M_lay_65 rfl ?_
        refine jx_if_eq (pc := 67) hX 95 d_M_lay_67 rfl (fun q67 => ?_) (fun q67 => ?_)
        · have e9 := coF_s0 (l := Q.2) (a := a) (b := b) (n := n) (fun q => by rw [eB_0.mp q67] at q; exact absurd q.1 (by decide))
          refine jx_iload_n (pc := 95) hX d_M_lay_95 rfl rfl ?_
          refine jx_istore_n (pc := 96) hX d_M_lay_96 rfl (by decide) (L' := [(0, _), (1, _), (2, _), (3, _), (4, _), (5, _)]) rfl ?_
          refine jx_iinc (pc := 97) hX (v := nI (n + 1)) d_M_lay_97 rfl (nI_1 n) (by decide) (L' := [(0, _), (1, _), (2, _), (3, _), (4, _), (5, _)]) rfl ?_
          refine jx_goto (pc := 100) hX 5 d_M_lay_100 rfl ?_
          refine jx_take 5 ?_
          rw [← e9]
          exact ih _ (by omega) (n + 1) rfl (by omega)
        · refine jx_aload_n (pc := 70) hX d_M_lay_70 rfl rfl ?_
          refine g_M_16 (pc := 71) hX d_M_lay_71 ?_
          refine jx_iload (pc := 74) hX d_M_lay_74 rfl ?_
          refine jx_iald (pc := 76) hX oM_2 _ rfl (show n < 24 by omega) d_M_lay_76 ?_
          refine jx_top (y := nI (Q.2.getD n (0, 0, 0)).2.2) (q5 n hlt) ?_
          refine jx_iconst (pc := 77) hX (v := 1) d_M_lay_77 rfl ?_
          refine jx_iadd (pc := 78) hX d_M_lay_78 ?_
          refine jx_top (y := nI ((Q.2.getD n (0, 0, 0)).2.2 + 1)) (nI_1 _) ?_
          refine jx_iload_n (pc := 79) hX d_M_lay_79 rfl rfl ?_
          refine jx_icmp_le (pc := 80) hX 95 d_M_lay_80 rfl (fun q80 => ?_) (fun q80 => ?_)
          · have e9 := coF_s0 (l := Q.2) (a := a) (b := b) (n := n) (fun q => absurd ((nI_leI (by omega) (by omega)).mp q80) (by omega))
            refine jx_iload_n (pc := 95) hX d_M_lay_95 rfl rfl ?_
            refine jx_istore_n (pc := 96) hX d_M_lay_96 rfl (by decide) (L' := [(0, _), (1, _), (2, _), (3, _), (4, _), (5, _)]) rfl ?_
            refine jx_iinc (pc := 97) hX (v := nI (n + 1)) d_M_lay_97 rfl (nI_1 n) (by decide) (L' := [(0, _), (1, _), (2, _), (3, _), (4, _), (5, _)]) rfl ?_
            refine jx_goto (pc := 100) hX 5 d_M_lay_100 rfl ?_
            refine jx_take 5 ?_
            rw [← e9]
            exact ih _ (by omega) (n + 1) rfl (by omega)
          · have e9 := coF_s1 (l := Q.2) (a := a) (b := b) (n := n) ⟨eB_n0.mp q67, Nat.lt_of_not_le (fun q => q80 ((nI_leI (by omega) (by omega)).mpr q))⟩
            refine jx_aload_n (pc := 83) hX d_M_lay_83 rfl rfl ?_
            refine g_M_16 (pc := 84) hX d_M_lay_84 ?_
            refine jx_iload (pc := 87) hX d_M_lay_87 rfl ?_
            refine jx_iald (pc := 89) hX oM_2 _ rfl (show n < 24 by omega) d_M_lay_89 ?_
            refine jx_top (y := nI (Q.2.getD n (0, 0, 0)).2.2) (q5 n hlt) ?_
            refine jx_iconst (pc := 90) hX (v := 1) d_M_lay_90 rfl ?_
            refine jx_iadd (pc := 91) hX d_M_lay_91 ?_
            refine jx_top (y := nI ((Q.2.getD n (0, 0, 0)).2.2 + 1)) (nI_1 _) ?_
            refine jx_goto (pc := 92) hX 96 d_M_lay_92 rfl ?_
            refine jx_istore_n (pc := 96) hX d_M_lay_96 rfl (by decide) (L' := [(0, _), (1, _), (2, _), (3, _), (4, _), (5, _)]) rfl ?_
            refine jx_iinc (pc := 97) hX (v := nI (n + 1)) d_M_lay_97 rfl (nI_1 n) (by decide) (L' := [(0, _), (1, _), (2, _), (3, _), (4, _), (5, _)]) rfl ?_
            refine jx_goto (pc := 100) hX 5 d_M_lay_100 rfl ?_
            refine jx_take 5 ?_
            rw [← e9]
            exact ih _ (by omega) (n + 1) rfl (by omega)
      refine jx_iload (pc := 5) hX d_M_lay_5 rfl ?_
      refine jx_aload_n (pc := 7) hX d_M_lay_7 rfl rfl ?_
      refine g_M_76 (pc := 8) hX d_M_lay_8 ?_
      refine jx_top (y := nI Q.2.length) (q1) ?_
      refine jx_icmp_ge (pc := 11) hX 103 d_M_lay_11 rfl (fun q11 => ?_) (fun q11 => ?_)
      · have hge : n = Q.2.length := by have : Q.2.length ≤ n := (nI_leI (by omega) (by omega)).mp q11; omega
        subst hge
        refine jx_aload_n (pc := 103) hX d_M_lay_103 rfl rfl ?_
        refine g_M_7 (pc := 104) hX d_M_lay_104 ?_
        refine jx_aload_n (pc := 107) hX d_M_lay_107 rfl rfl ?_
        refine g_M_76 (pc := 108) hX d_M_lay_108 ?_
        refine jx_iload_n (pc := 111) hX d_M_lay_111 rfl rfl ?_
        refine jx_iast (pc := 112) hX oM_0 _ q1 hl d_M_lay_112 ?_
        refine jx_aload_n (pc := 113) hX d_M_lay_113 rfl rfl ?_
        refine g_M_13 (pc := 114) hX d_M_lay_114 ?_
        refine jx_aload_n (pc := 117) hX d_M_lay_117 rfl rfl ?_
        refine g_M_76 (pc := 118) hX d_M_lay_118 ?_
        refine jx_iload_n (pc := 121) hX d_M_lay_121 rfl rfl ?_
        refine jx_iast (pc := 122) hX oM_1 _ q1 hl d_M_lay_122 ?_
        refine jx_aload_n (pc := 123) hX d_M_lay_123 rfl rfl ?_
        refine g_M_16 (pc := 124) hX d_M_lay_124 ?_
        refine jx_aload_n (pc := 127) hX d_M_lay_127 rfl rfl ?_
        refine g_M_76 (pc := 128) hX d_M_lay_128 ?_
        refine jx_iload_n (pc := 131) hX d_M_lay_131 rfl rfl ?_
        refine jx_iast (pc := 132) hX oM_2 _ q1 hl d_M_lay_132 ?_
        refine jx_aload_n (pc := 133) hX d_M_lay_133 rfl rfl ?_
        refine g_M_19 (pc := 134) hX d_M_lay_134 ?_
        refine jx_aload_n (pc := 137) hX d_M_lay_137 rfl rfl ?_
        refine g_M_76 (pc := 138) hX d_M_lay_138 ?_
        refine jx_iconst (pc := 141) hX (v := 0) d_M_lay_141 rfl ?_
        refine jx_iast (pc := 142) hX oM_3 _ q1 hl d_M_lay_142 ?_
        refine jx_aload_n (pc := 143) hX d_M_lay_143 rfl rfl ?_
        refine jx_dup (pc := 144) hX d_M_lay_144 rfl ?_
        refine g_M_76 (pc := 145) hX d_M_lay_145 ?_
        refine jx_iconst (pc := 148) hX (v := 1) d_M_lay_148 rfl ?_
        refine jx_iadd (pc := 149) hX d_M_lay_149 ?_
        refine p_M_76 (pc := 150) hX d_M_lay_150 ?_
        exact jx_vret (pc := 153) hX d_M_lay_153 (⟨q0, by show σ.1 3 + 1 = _; rw [q1, nI_1, Ql.lay_len], lay_ok ha hb q2, AR_app (q := (a, b, coF Q.2 a b Q.2.length)) (g := fun q => q.1) q3 rfl, AR_app (q := (a, b, coF Q.2 a b Q.2.length)) (g := fun q => q.2.1) q4 rfl, AR_app (q := (a, b, coF Q.2 a b Q.2.length)) (g := fun q => q.2.2) q5 rfl, by rw [Ql.lay_len]; exact zero_at q6, q7⟩)
      · have hlt : n < Q.2.length := Nat.lt_of_not_le (fun q => q11 (nI_le q (by omega)))
        have k9 := q2 n hlt
        refine jx_aload_n (pc := 14) hX d_M_lay_14 rfl rfl ?_
        refine g_M_7 (pc := 15) hX d_M_lay_15 ?_
        refine jx_iload (pc := 18) hX d_M_lay_18 rfl ?_
        refine jx_iald (pc := 20) hX oM_0 _ rfl (show n < 24 by omega) d_M_lay_20 ?_
        refine jx_top (y := nI (Q.2.getD n (0, 0, 0)).1) (q3 n hlt) ?_
        refine jx_iload_n (pc := 21) hX d_M_lay_21 rfl rfl ?_
        refine jx_icmp_eq (pc := 22) hX 58 d_M_lay_22 rfl (fun e22 => ?_) (fun e22 => ?_)
        · refine jx_iconst (pc := 58) hX (v := 1) d_M_lay_58 rfl ?_
          refine jx_goto (pc := 59) hX 63 d_M_lay_59 rfl ?_
          refine jx_istore (pc := 63) hX d_M_lay_63 (by decide) (L' := [(0, _), (1, _), (2, _), (3, _), (4, _), (5, _)]) rfl ?_
          exact join 1 hlt (eB_t (meet_t (Or.inl ((nI_eq (by omega) (by omega)).mp e22))))
        · refine jx_aload_n (pc := 25) hX d_M_lay_25 rfl rfl ?_
          refine g_M_13 (pc := 26) hX d_M_lay_26 ?_
          refine jx_iload (pc := 29) hX d_M_lay_29 rfl ?_
          refine jx_iald (pc := 31) hX oM_1 _ rfl (show n < 24 by omega) d_M_lay_31 ?_
          refine jx_top (y := nI (Q.2.getD n (0, 0, 0)).2.1) (q4 n hlt) ?_
          refine jx_iload_n (pc := 32) hX d_M_lay_32 rfl rfl ?_
          refine jx_icmp_eq (pc := 33) hX 58 d_M_lay_33 rfl (fun e33 => ?_) (fun e33 => ?_)
          · refine jx_iconst (pc := 58) hX (v := 1) d_M_lay_58 rfl ?_
            refine jx_goto (pc := 59) hX 63 d_M_lay_59 rfl ?_
            refine jx_istore (pc := 63) hX d_M_lay_63 (by decide) (L' := [(0, _), (1, _), (2, _), (3, _), (4, _), (5, _)]) rfl ?_
            exact join 1 hlt (eB_t (meet_t (Or.inr (Or.inl ((nI_eq (by omega) (by omega)).mp e33)))))
          · refine jx_aload_n (pc := 36) hX d_M_lay_36 rfl rfl ?_
            refine g_M_7 (pc := 37) hX d_M_lay_37 ?_
            refine jx_iload (pc := 40) hX d_M_lay_40 rfl ?_
            refine jx_iald (pc := 42) hX oM_0 _ rfl (show n < 24 by omega) d_M_lay_42 ?_
            refine jx_top (y := nI (Q.2.getD n (0, 0, 0)).1) (q3 n hlt) ?_
            refine jx_iload_n (pc := 43) hX d_M_lay_43 rfl rfl ?_
            refine jx_icmp_eq (pc := 44) hX 58 d_M_lay_44 rfl (fun e44 => ?_) (fun e44 => ?_)
            · refine jx_iconst (pc := 58) hX (v := 1) d_M_lay_58 rfl ?_
              refine jx_goto (pc := 59) hX 63 d_M_lay_59 rfl ?_
              refine jx_istore (pc := 63) hX d_M_lay_63 (by decide) (L' := [(0, _), (1, _), (2, _), (3, _), (4, _), (5, _)]) rfl ?_
              exact join 1 hlt (eB_t (meet_t (Or.inr (Or.inr (Or.inl ((nI_eq (by omega) (by omega)).mp e44))))))
            · refine jx_aload_n (pc := 47) hX d_M_lay_47 rfl rfl ?_
              refine g_M_13 (pc := 48) hX d_M_lay_48 ?_
              refine jx_iload (pc := 51) hX d_M_lay_51 rfl ?_
              refine jx_iald (pc := 53) hX oM_1 _ rfl (show n < 24 by omega) d_M_lay_53 ?_
              refine jx_top (y := nI (Q.2.getD n (0, 0, 0)).2.1) (q4 n hlt) ?_
              refine jx_iload_n (pc := 54) hX d_M_lay_54 rfl rfl ?_
              refine jx_icmp_ne (pc := 55) hX 62 d_M_lay_55 rfl (fun e55 => ?_) (fun e55 => ?_)
              · refine jx_iconst (pc := 62) hX (v := 0) d_M_lay_62 rfl ?_
                refine jx_istore (pc := 63) hX d_M_lay_63 (by decide) (L' := [(0, _), (1, _), (2, _), (3, _), (4, _), (5, _)]) rfl ?_
                exact join 0 hlt (eB_f (meet_f (fun q => e22 (by rw [q])) (fun q => e33 (by rw [q])) (fun q => e44 (by rw [q])) (fun q => e55 (by rw [q]))))
              · refine jx_iconst (pc := 58) hX (v := 1) d_M_lay_58 rfl ?_
                refine jx_goto (pc := 59) hX 63 d_M_lay_59 rfl ?_
                refine jx_istore (pc := 63) hX d_M_lay_63 (by decide) (L' := [(0, _), (1, _), (2, _), (3, _), (4, _), (5, _)]) rfl ?_
                exact join 1 hlt (eB_t (meet_t (Or.inr (Or.inr (Or.inr ((nI_eq (by omega) (by omega)).mp e55))))))
  refine jx_iconst (pc := 0) hX (v := 0) d_M_lay_0 rfl ?_
  refine jx_istore_n (pc := 1) hX d_M_lay_1 rfl (by decide) (L' := [(0, _), (1, _), (2, _), (3, _)]) rfl ?_
  refine jx_iconst (pc := 2) hX (v := 0) d_M_lay_2 rfl ?_
  refine jx_istore (pc := 3) hX d_M_lay_3 (by decide) (L' := [(0, _), (1, _), (2, _), (3, _), (4, _)]) rfl ?_
  exact loop _ 0 rfl (Nat.zero_le _)
set_option maxRecDepth 100000 in
set_option maxHeartbeats 4000000 in
theorem t_M_mergeOnes {l : Launch} {D : va_G} {ad : Nat → Nat} {ac : Nat → ClassId} (σ : St) (th : Int32) (w ns : Nat) (Q : Ql) (hR : relQ σ th w ns Q) (hl : Q.2.length < 24) (a b to : Nat) (ha : a < 8) (hb : b < 8) (hto : to + 2 ≤ 80) : jMv l (yM D ad ac) mt_M_mergeOnes TT (rmk 1) [.ref (ad 19), .int (nI a), .int (nI b), .int (nI to)] σ (fun u => relQ u th w ns (Q.ones a b to)) := by
  refine jMv_of (by decide) (Nat.le_of_ble_eq_true rfl) (List.forall_mem_cons.mpr ⟨rfl, List.forall_mem_cons.mpr ⟨rfl, List.forall_mem_cons.mpr ⟨rfl, List.forall_mem_cons.mpr ⟨rfl, fun _ h => absurd h List.not_mem_nil⟩⟩⟩⟩) ?_
  intro X A hX
  have hX : jX X (yM D ad ac) A b_M_mergeOnes 4 RM (mt_M_mergeOnes.w :: TT) (rmk 1) none := hX
  show jW l X (yM D ad ac) A 4 0 0 kT (jQv X (yM D ad ac) A (fun u => relQ u th w ns (Q.ones a b to))) σ 0 [(0, .ref (ad 19)), (1, .int (nI a)), (2, .int (nI b)), (3, .int (nI to))] []
  refine jx_aload_n (pc := 0) hX d_M_mergeOnes_0 rfl rfl ?_
  refine jx_iload_n (pc := 1) hX d_M_mergeOnes_1 rfl rfl ?_
  refine jx_iload_n (pc := 2) hX d_M_mergeOnes_2 rfl rfl ?_
  refine k_M_79 (pc := 3) hX (t_M_lay σ th w ns Q hR hl a b ha hb) ⟨rfl, rfl, (Nat.le_of_ble_eq_true rfl), (Nat.le_of_ble_eq_true rfl)⟩ rfl rfl (Nat.le_of_ble_eq_true rfl) ⟨Nat.zero_le _, Nat.zero_le _⟩ d_M_mergeOnes_3 (fun u hu => ?_)
  obtain ⟨q0, q1, q2, q3, q4, q5, q6, q7⟩ := id hu
  refine jx_aload_n (pc := 6) hX d_M_mergeOnes_6 rfl rfl ?_
  refine g_M_32 (pc := 7) hX d_M_mergeOnes_7 ?_
  refine jx_iload_n (pc := 10) hX d_M_mergeOnes_10 rfl rfl ?_
  refine jx_iload_n (pc := 11) hX d_M_mergeOnes_11 rfl rfl ?_
  refine jx_iast (pc := 12) hX oM_7 _ rfl (show to < 80 by omega) d_M_mergeOnes_12 ?_
  refine jx_aload_n (pc := 13) hX d_M_mergeOnes_13 rfl rfl ?_
  refine g_M_32 (pc := 14) hX d_M_mergeOnes_14 ?_
  refine jx_iload_n (pc := 17) hX d_M_mergeOnes_17 rfl rfl ?_
  refine jx_iconst (pc := 18) hX (v := 1) d_M_mergeOnes_18 rfl ?_
  refine jx_iadd (pc := 19) hX d_M_mergeOnes_19 ?_
  refine jx_top (y := nI (to + 1)) (nI_1 _) ?_
  refine jx_iload_n (pc := 20) hX d_M_mergeOnes_20 rfl rfl ?_
  refine jx_iast (pc := 21) hX oM_7 _ rfl (show to + 1 < 80 by omega) d_M_mergeOnes_21 ?_
  exact jx_vret (pc := 22) hX d_M_mergeOnes_22 (⟨q0, q1, q2, q3, q4, q5, q6, rowUp (rowUp q7 ha rfl) hb rfl⟩)
set_option maxRecDepth 100000 in
set_option maxHeartbeats 4000000 in
theorem t_M_join {l : Launch} {D : va_G} {ad : Nat → Nat} {ac : Nat → ClassId} (σ : St) (th : Int32) (w ns : Nat) (Q : Ql) (hR : relQ σ th w ns Q) (p q n to : Nat) (hk : Q.join_ok p q n to = true) : jMv l (yM D ad ac) mt_M_join TT (rmk 1) [.ref (ad 19), .int (nI p), .int (nI q), .int (nI n), .int (nI to)] σ (fun u => relQ u th w ns (Q.join p q n to)) := by
  simp only [Ql.join_ok, Bool.and_eq_true, decide_eq_true_eq, List.all_eq_true, List.mem_range] at hk
  obtain ⟨⟨⟨⟨⟨k1, k2⟩, k3⟩, k4⟩, k5⟩, k6⟩ := hk
  refine jMv_of (by decide) (Nat.le_of_ble_eq_true rfl) (List.forall_mem_cons.mpr ⟨rfl, List.forall_mem_cons.mpr ⟨rfl, List.forall_mem_cons.mpr ⟨rfl, List.forall_mem_cons.mpr ⟨rfl, List.forall_mem_cons.mpr ⟨rfl, fun _ h => absurd h List.not_mem_nil⟩⟩⟩⟩⟩) ?_
  intro X A hX
  have hX : jX X (yM D ad ac) A b_M_join 6 RM (mt_M_join.w :: TT) (rmk 1) none := hX
  show jW l X (yM D ad ac) A 6 0 0 kT (jQv X (yM D ad ac) A (fun u => relQ u th w ns (Q.join p q n to))) σ 0 [(0, .ref (ad 19)), (1, .int (nI p)), (2, .int (nI q)), (3, .int (nI n)), (4, .int (nI to))] []
  have loop2 : ∀ (fu : Nat) (i : Nat) (σ1 : St), n - i = fu → i ≤ n → relQ σ1 th w ns (rwB Q.1 p q to i, (Ql.jnA p q n Q).2) → jW l X (yM D ad ac) A 6 0 0 kT (jQv X (yM D ad ac) A (fun u => relQ u th w ns (Q.join p q n to))) σ1 40 [(0, .ref (ad 19)), (1, .int (nI p)), (2, .int (nI q)), (3, .int (nI n)), (4, .int (nI to)), (5, .int (nI i))] [] := by
    intro fu
    induction fu using Nat.strongRecOn with
    | ind fu ih =>
      intro i σ1 hfu hi hR1
      obtain ⟨q0, q1, q2, q3, q4, q5, q6, q7⟩ := id hR1
      refine jx_iload (pc := 40) hX d_M_join_40 rfl ?_
      refine jx_iload_n (pc := 42) hX d_M_join_42 rfl rfl ?_
      refine jx_icmp_ge (pc := 43) hX 96 d_M_join_43 rfl (fun q43 => ?_) (fun q43 => ?_)
      · have hge : i = n := by have : n ≤ i := (nI_leI (by omega) (by omega)).mp q43; omega
        subst hge
        exact jx_vret (pc := 96) hX d_M_join_96 (hR1)
      · have hlt : i < n := Nat.lt_of_not_le (fun q => q43 (nI_le q (by omega)))
        obtain ⟨ka, kb⟩ := k6 i hlt
        have ca := q7 (p + i) (Q.g (p + i)) ((rwB_off (by omega)).trans (Ql.g_of ka))
        have cb := q7 (q + i) (Q.g (q + i)) ((rwB_off (by omega)).trans (Ql.g_of kb))
        refine jx_aload_n (pc := 46) hX d_M_join_46 rfl rfl ?_
        refine g_M_32 (pc := 47) hX d_M_join_47 ?_
        refine jx_iload (pc := 50) hX d_M_join_50 rfl ?_
        refine jx_iconst (pc := 52) hX (v := 2) d_M_join_52 rfl ?_
        refine jx_iload (pc := 53) hX d_M_join_53 rfl ?_
        refine jx_imul (pc := 55) hX d_M_join_55 ?_
        refine jx_top (y := nI (2 * i)) (pk_mul 2 i) ?_
        refine jx_iadd (pc := 56) hX d_M_join_56 ?_
        refine jx_top (y := nI (to + 2 * i)) (nI_add _ _) ?_
        refine jx_aload_n (pc := 57) hX d_M_join_57 rfl rfl ?_
        refine g_M_32 (pc := 58) hX d_M_join_58 ?_
        refine jx_iload_n (pc := 61) hX d_M_join_61 rfl rfl ?_
        refine jx_iload (pc := 62) hX d_M_join_62 rfl ?_
        refine jx_iadd (pc := 64) hX d_M_join_64 ?_
        refine jx_top (y := nI (p + i)) (nI_add _ _) ?_
        refine jx_iald (pc := 65) hX oM_7 _ rfl (show p + i < 80 by omega) d_M_join_65 ?_
        refine jx_top (y := nI (Q.g (p + i))) (ca.2) ?_
        refine jx_iast (pc := 66) hX oM_7 _ rfl (show to + 2 * i < 80 by omega) d_M_join_66 ?_
        refine jx_aload_n (pc := 67) hX d_M_join_67 rfl rfl ?_
        refine g_M_32 (pc := 68) hX d_M_join_68 ?_
        refine jx_iload (pc := 71) hX d_M_join_71 rfl ?_
        refine jx_iconst (pc := 73) hX (v := 2) d_M_join_73 rfl ?_
        refine jx_iload (pc := 74) hX d_M_join_74 rfl ?_
        refine jx_imul (pc := 76) hX d_M_join_76 ?_
        refine jx_top (y := nI (2 * i)) (pk_mul 2 i) ?_
        refine jx_iadd (pc := 77) hX d_M_join_77 ?_
        refine jx_top (y := nI (to + 2 * i)) (nI_add _ _) ?_
        refine jx_iconst (pc := 78) hX (v := 1) d_M_join_78 rfl ?_
        refine jx_iadd (pc := 79) hX d_M_join_79 ?_
        refine jx_top (y := nI (to + 2 * i + 1)) (nI_1 _) ?_
        refine jx_aload_n (pc := 80) hX d_M_join_80 rfl rfl ?_
        refine g_M_32 (pc := 81) hX d_M_join_81 ?_
        refine jx_iload_n (pc := 84) hX d_M_join_84 rfl rfl ?_
        refine jx_iload (pc := 85) hX d_M_join_85 rfl ?_
        refine jx_iadd (pc := 87) hX d_M_join_87 ?_
        refine jx_top (y := nI (q + i)) (nI_add _ _) ?_
        refine jx_iald (pc := 88) hX oM_7 _ rfl (show q + i < 80 by omega) d_M_join_88 ?_
        refine jx_top (y := nI (Q.g (q + i))) (by show upd (σ1.2 7) (to + 2 * i) (nI (Q.g (p + i))) (q + i) = _; rw [pk_un (by omega)]; exact cb.2) ?_
        refine jx_iast (pc := 89) hX oM_7 _ rfl (show to + 2 * i + 1 < 80 by omega) d_M_join_89 ?_
        refine jx_iinc (pc := 90) hX (v := nI (i + 1)) d_M_join_90 rfl (nI_1 i) (by decide) (L' := [(0, _), (1, _), (2, _), (3, _), (4, _), (5, _)]) rfl ?_
        refine jx_goto (pc := 93) hX 40 d_M_join_93 rfl ?_
        exact ih _ (by omega) (i + 1) (sA (sA σ1 7 (to + 2 * i) (nI (Q.g (p + i)))) 7 (to + 2 * i + 1) (nI (Q.g (q + i)))) rfl (by omega) ⟨q0, q1, q2, q3, q4, q5, q6, by rw [← rwB_s, Ql.g_of ka, Ql.g_of kb]; exact rowUp (rowUp q7 ca.1 rfl) cb.1 rfl⟩
  have loop1 : ∀ (fu : Nat) (i : Nat) (σ1 : St), n - i = fu → i ≤ n → relQ σ1 th w ns (Ql.jnA p q i Q) → jW l X (yM D ad ac) A 6 0 0 kT (jQv X (yM D ad ac) A (fun u => relQ u th w ns (Q.join p q n to))) σ1 3 [(0, .ref (ad 19)), (1, .int (nI p)), (2, .int (nI q)), (3, .int (nI n)), (4, .int (nI to)), (5, .int (nI i))] [] := by
    intro fu
    induction fu using Nat.strongRecOn with
    | ind fu ih =>
      intro i σ1 hfu hi hR1
      obtain ⟨q0, q1, q2, q3, q4, q5, q6, q7⟩ := id hR1
      rw [Ql.jnA_r] at q7
      have hlen := Ql.jnA_len p q i Q
      refine jx_iload (pc := 3) hX d_M_join_3 rfl ?_
      refine jx_iload_n (pc := 5) hX d_M_join_5 rfl rfl ?_
      refine jx_icmp_ge (pc := 6) hX 37 d_M_join_6 rfl (fun q6a => ?_) (fun q6a => ?_)
      · have hge : i = n := by have : n ≤ i := (nI_leI (by omega) (by omega)).mp q6a; omega
        subst hge
        refine jx_iconst (pc := 37) hX (v := 0) d_M_join_37 rfl ?_
        refine jx_istore (pc := 38) hX d_M_join_38 (by decide) (L' := [(0, _), (1, _), (2, _), (3, _), (4, _), (5, _)]) rfl ?_
        exact loop2 _ 0 σ1 rfl (Nat.zero_le _) (by rw [rwB_0]; have := hR1; rw [show Ql.jnA p q i Q = (Q.1, (Ql.jnA p q i Q).2) by rw [← Ql.jnA_r p q i Q]] at this; exact this)
      · have hlt : i < n := Nat.lt_of_not_le (fun q => q6a (nI_le q (by omega)))
        obtain ⟨ka, kb⟩ := k6 i hlt
        have ca := q7 (p + i) (Q.g (p + i)) (Ql.g_of ka)
        have cb := q7 (q + i) (Q.g (q + i)) (Ql.g_of kb)
        refine jx_aload_n (pc := 9) hX d_M_join_9 rfl rfl ?_
        refine jx_aload_n (pc := 10) hX d_M_join_10 rfl rfl ?_
        refine g_M_32 (pc := 11) hX d_M_join_11 ?_
        refine jx_iload_n (pc := 14) hX d_M_join_14 rfl rfl ?_
        refine jx_iload (pc := 15) hX d_M_join_15 rfl ?_
        refine jx_iadd (pc := 17) hX d_M_join_17 ?_
        refine jx_top (y := nI (p + i)) (nI_add _ _) ?_
        refine jx_iald (pc := 18) hX oM_7 _ rfl (show p + i < 80 by omega) d_M_join_18 ?_
        refine jx_top (y := nI (Q.g (p + i))) (ca.2) ?_
        refine jx_aload_n (pc := 19) hX d_M_join_19 rfl rfl ?_
        refine g_M_32 (pc := 20) hX d_M_join_20 ?_
        refine jx_iload_n (pc := 23) hX d_M_join_23 rfl rfl ?_
        refine jx_iload (pc := 24) hX d_M_join_24 rfl ?_
        refine jx_iadd (pc := 26) hX d_M_join_26 ?_
        refine jx_top (y := nI (q + i)) (nI_add _ _) ?_
        refine jx_iald (pc := 27) hX oM_7 _ rfl (show q + i < 80 by omega) d_M_join_27 ?_
        refine jx_top (y := nI (Q.g (q + i))) (cb.2) ?_
        refine k_M_79 (pc := 28) hX (t_M_lay σ1 th w ns (Ql.jnA p q i Q) hR1 (by omega) (Q.g (p + i)) (Q.g (q + i)) ca.1 cb.1) ⟨rfl, rfl, (Nat.le_of_ble_eq_true rfl), (Nat.le_of_ble_eq_true rfl)⟩ rfl rfl (Nat.le_of_ble_eq_true rfl) ⟨Nat.zero_le _, Nat.zero_le _⟩ d_M_join_28 (fun u hu => ?_)
        refine jx_iinc (pc := 31) hX (v := nI (i + 1)) d_M_join_31 rfl (nI_1 i) (by decide) (L' := [(0, _), (1, _), (2, _), (3, _), (4, _), (5, _)]) rfl ?_
        refine jx_goto (pc := 34) hX 3 d_M_join_34 rfl ?_
        exact ih _ (by omega) (i + 1) u rfl (by omega) hu
  refine jx_iconst (pc := 0) hX (v := 0) d_M_join_0 rfl ?_
  refine jx_istore (pc := 1) hX d_M_join_1 (by decide) (L' := [(0, _), (1, _), (2, _), (3, _), (4, _), (5, _)]) rfl ?_
  exact loop1 _ 0 σ rfl (Nat.zero_le _) hR
set_option maxRecDepth 100000 in
set_option maxHeartbeats 4000000 in
theorem t_M_mergeTwos {l : Launch} {D : va_G} {ad : Nat → Nat} {ac : Nat → ClassId} (σ : St) (th : Int32) (w ns : Nat) (Q : Ql) (hR : relQ σ th w ns Q) (x y to : Nat) (hk : Q.twos_ok x y to = true) : jMv l (yM D ad ac) mt_M_mergeTwos TT (rmk 2) [.ref (ad 19), .int (nI x), .int (nI y), .int (nI to)] σ (fun u => relQ u th w ns (Q.twos x y to)) := by
  simp only [Ql.twos_ok, Bool.and_eq_true, decide_eq_true_eq] at hk
  obtain ⟨⟨⟨⟨⟨⟨⟨⟨k1, k2⟩, k3⟩, k4⟩, k5⟩, k6⟩, k7⟩, k8⟩, k9⟩ := hk
  have c1 := hR.2.2.2.2.2.2.2 x _ (Ql.g_of k5)
  have c2 := hR.2.2.2.2.2.2.2 (y + 1) _ (Ql.g_of k6)
  refine jMv_of (by decide) (Nat.le_of_ble_eq_true rfl) (List.forall_mem_cons.mpr ⟨rfl, List.forall_mem_cons.mpr ⟨rfl, List.forall_mem_cons.mpr ⟨rfl, List.forall_mem_cons.mpr ⟨rfl, fun _ h => absurd h List.not_mem_nil⟩⟩⟩⟩) ?_
  intro X A hX
  have hX : jX X (yM D ad ac) A b_M_mergeTwos 4 RM (mt_M_mergeTwos.w :: TT) (rmk 2) none := hX
  show jW l X (yM D ad ac) A 4 0 0 kT (jQv X (yM D ad ac) A (fun u => relQ u th w ns (Q.twos x y to))) σ 0 [(0, .ref (ad 19)), (1, .int (nI x)), (2, .int (nI y)), (3, .int (nI to))] []
  refine jx_aload_n (pc := 0) hX d_M_mergeTwos_0 rfl rfl ?_
  refine jx_aload_n (pc := 1) hX d_M_mergeTwos_1 rfl rfl ?_
  refine g_M_32 (pc := 2) hX d_M_mergeTwos_2 ?_
  refine jx_iload_n (pc := 5) hX d_M_mergeTwos_5 rfl rfl ?_
  refine jx_iald (pc := 6) hX oM_7 _ rfl (show x < 80 by omega) d_M_mergeTwos_6 ?_
  refine jx_top (y := nI (Q.g x)) (c1.2) ?_
  refine jx_aload_n (pc := 7) hX d_M_mergeTwos_7 rfl rfl ?_
  refine g_M_32 (pc := 8) hX d_M_mergeTwos_8 ?_
  refine jx_iload_n (pc := 11) hX d_M_mergeTwos_11 rfl rfl ?_
  refine jx_iconst (pc := 12) hX (v := 1) d_M_mergeTwos_12 rfl ?_
  refine jx_iadd (pc := 13) hX d_M_mergeTwos_13 ?_
  refine jx_top (y := nI (y + 1)) (nI_1 _) ?_
  refine jx_iald (pc := 14) hX oM_7 _ rfl (show y + 1 < 80 by omega) d_M_mergeTwos_14 ?_
  refine jx_top (y := nI (Q.g (y + 1))) (c2.2) ?_
  refine jx_iload_n (pc := 15) hX d_M_mergeTwos_15 rfl rfl ?_
  refine jx_iconst (pc := 16) hX (v := 4) d_M_mergeTwos_16 rfl ?_
  refine jx_iadd (pc := 17) hX d_M_mergeTwos_17 ?_
  refine jx_top (y := nI (to + 4)) (nI_add to 4) ?_
  refine k_M_82 (pc := 18) hX (t_M_mergeOnes σ th w ns Q hR (by omega) (Q.g x) (Q.g (y + 1)) (to + 4) c1.1 c2.1 (by omega)) ⟨rfl, rfl, (Nat.le_of_ble_eq_true rfl), (Nat.le_of_ble_eq_true rfl)⟩ rfl rfl (Nat.le_of_ble_eq_true rfl) ⟨Nat.zero_le _, Nat.zero_le _⟩ d_M_mergeTwos_18 (fun u hu => ?_)
  have c3 := hu.2.2.2.2.2.2.2 (x + 1) _ (Ql.g_of (Q := Q.t1 x y to) k7)
  have c4 := hu.2.2.2.2.2.2.2 y _ (Ql.g_of (Q := Q.t1 x y to) k8)
  refine jx_aload_n (pc := 21) hX d_M_mergeTwos_21 rfl rfl ?_
  refine jx_aload_n (pc := 22) hX d_M_mergeTwos_22 rfl rfl ?_
  refine g_M_32 (pc := 23) hX d_M_mergeTwos_23 ?_
  refine jx_iload_n (pc := 26) hX d_M_mergeTwos_26 rfl rfl ?_
  refine jx_iconst (pc := 27) hX (v := 1) d_M_mergeTwos_27 rfl ?_
  refine jx_iadd (pc := 28) hX d_M_mergeTwos_28 ?_
  refine jx_top (y := nI (x + 1)) (nI_1 _) ?_
  refine jx_iald (pc := 29) hX oM_7 _ rfl (show x + 1 < 80 by omega) d_M_mergeTwos_29 ?_
  refine jx_top (y := nI ((Q.t1 x y to).g (x + 1))) (c3.2) ?_
  refine jx_aload_n (pc := 30) hX d_M_mergeTwos_30 rfl rfl ?_
  refine g_M_32 (pc := 31) hX d_M_mergeTwos_31 ?_
  refine jx_iload_n (pc := 34) hX d_M_mergeTwos_34 rfl rfl ?_
  refine jx_iald (pc := 35) hX oM_7 _ rfl (show y < 80 by omega) d_M_mergeTwos_35 ?_
  refine jx_top (y := nI ((Q.t1 x y to).g y)) (c4.2) ?_
  refine jx_iload_n (pc := 36) hX d_M_mergeTwos_36 rfl rfl ?_
  refine jx_bipush (pc := 37) hX (v := 6) d_M_mergeTwos_37 rfl ?_
  refine jx_iadd (pc := 39) hX d_M_mergeTwos_39 ?_
  refine jx_top (y := nI (to + 6)) (nI_add to 6) ?_
  refine k_M_82 (pc := 40) hX (t_M_mergeOnes u th w ns (Q.t1 x y to) hu (by have := Ql.lay_len Q (Q.g x) (Q.g (y + 1)); show (Q.lay (Q.g x) (Q.g (y + 1))).2.length < 24; omega) ((Q.t1 x y to).g (x + 1)) ((Q.t1 x y to).g y) (to + 6) c3.1 c4.1 (by omega)) ⟨rfl, rfl, (Nat.le_of_ble_eq_true rfl), (Nat.le_of_ble_eq_true rfl)⟩ rfl rfl (Nat.le_of_ble_eq_true rfl) ⟨Nat.zero_le _, Nat.zero_le _⟩ d_M_mergeTwos_40 (fun u2 hu2 => ?_)
  refine jx_aload_n (pc := 43) hX d_M_mergeTwos_43 rfl rfl ?_
  refine jx_iload_n (pc := 44) hX d_M_mergeTwos_44 rfl rfl ?_
  refine jx_iconst (pc := 45) hX (v := 4) d_M_mergeTwos_45 rfl ?_
  refine jx_iadd (pc := 46) hX d_M_mergeTwos_46 ?_
  refine jx_top (y := nI (to + 4)) (nI_add to 4) ?_
  refine jx_iload_n (pc := 47) hX d_M_mergeTwos_47 rfl rfl ?_
  refine jx_bipush (pc := 48) hX (v := 6) d_M_mergeTwos_48 rfl ?_
  refine jx_iadd (pc := 50) hX d_M_mergeTwos_50 ?_
  refine jx_top (y := nI (to + 6)) (nI_add to 6) ?_
  refine jx_iconst (pc := 51) hX (v := 2) d_M_mergeTwos_51 rfl ?_
  refine jx_iload_n (pc := 52) hX d_M_mergeTwos_52 rfl rfl ?_
  refine k_M_86 (pc := 53) hX (t_M_join u2 th w ns (Q.t2 x y to) hu2 (to + 4) (to + 6) 2 to k9) ⟨rfl, rfl, (Nat.le_of_ble_eq_true rfl), (Nat.le_of_ble_eq_true rfl)⟩ rfl rfl (Nat.le_of_ble_eq_true rfl) ⟨Nat.zero_le _, Nat.zero_le _⟩ d_M_mergeTwos_53 (fun u3 hu3 => ?_)
  exact jx_vret (pc := 56) hX d_M_mergeTwos_56 (hu3)
set_option maxRecDepth 100000 in
set_option maxHeartbeats 4000000 in
theorem t_M_layFour {l : Launch} {D : va_G} {ad : Nat → Nat} {ac : Nat → ClassId} (σ : St) (th : Int32) (w ns : Nat) (Q : Ql) (hR : relQ σ th w ns Q) (f to : Nat) (hk : Q.four_ok f to = true) : jMv l (yM D ad ac) mt_M_layFour TT (rmk 3) [.ref (ad 19), .int (nI f), .int (nI to)] σ (fun u => relQ u th w ns (Q.four f to)) := by
  simp only [Ql.four_ok, Bool.and_eq_true, decide_eq_true_eq] at hk
  obtain ⟨⟨⟨k1, k2⟩, k3⟩, k4⟩ := hk
  refine jMv_of (by decide) (Nat.le_of_ble_eq_true rfl) (List.forall_mem_cons.mpr ⟨rfl, List.forall_mem_cons.mpr ⟨rfl, List.forall_mem_cons.mpr ⟨rfl, fun _ h => absurd h List.not_mem_nil⟩⟩⟩) ?_
  intro X A hX
  have hX : jX X (yM D ad ac) A b_M_layFour 3 RM (mt_M_layFour.w :: TT) (rmk 3) none := hX
  show jW l X (yM D ad ac) A 3 0 0 kT (jQv X (yM D ad ac) A (fun u => relQ u th w ns (Q.four f to))) σ 0 [(0, .ref (ad 19)), (1, .int (nI f)), (2, .int (nI to))] []
  refine jx_aload_n (pc := 0) hX d_M_layFour_0 rfl rfl ?_
  refine jx_iload_n (pc := 1) hX d_M_layFour_1 rfl rfl ?_
  refine jx_iload_n (pc := 2) hX d_M_layFour_2 rfl rfl ?_
  refine jx_iconst (pc := 3) hX (v := 1) d_M_layFour_3 rfl ?_
  refine jx_iadd (pc := 4) hX d_M_layFour_4 ?_
  refine jx_top (y := nI (f + 1)) (nI_1 _) ?_
  refine jx_iload_n (pc := 5) hX d_M_layFour_5 rfl rfl ?_
  refine jx_bipush (pc := 6) hX (v := 16) d_M_layFour_6 rfl ?_
  refine jx_iadd (pc := 8) hX d_M_layFour_8 ?_
  refine jx_top (y := nI (to + 16)) (nI_add to 16) ?_
  refine k_M_82 (pc := 9) hX (t_M_mergeOnes σ th w ns Q hR (by omega) f (f + 1) (to + 16) (by omega) (by omega) (by omega)) ⟨rfl, rfl, (Nat.le_of_ble_eq_true rfl), (Nat.le_of_ble_eq_true rfl)⟩ rfl rfl (Nat.le_of_ble_eq_true rfl) ⟨Nat.zero_le _, Nat.zero_le _⟩ d_M_layFour_9 (fun u hu => ?_)
  refine jx_aload_n (pc := 12) hX d_M_layFour_12 rfl rfl ?_
  refine jx_iload_n (pc := 13) hX d_M_layFour_13 rfl rfl ?_
  refine jx_iconst (pc := 14) hX (v := 2) d_M_layFour_14 rfl ?_
  refine jx_iadd (pc := 15) hX d_M_layFour_15 ?_
  refine jx_top (y := nI (f + 2)) (nI_add f 2) ?_
  refine jx_iload_n (pc := 16) hX d_M_layFour_16 rfl rfl ?_
  refine jx_iconst (pc := 17) hX (v := 3) d_M_layFour_17 rfl ?_
  refine jx_iadd (pc := 18) hX d_M_layFour_18 ?_
  refine jx_top (y := nI (f + 3)) (nI_add f 3) ?_
  refine jx_iload_n (pc := 19) hX d_M_layFour_19 rfl rfl ?_
  refine jx_bipush (pc := 20) hX (v := 18) d_M_layFour_20 rfl ?_
  refine jx_iadd (pc := 22) hX d_M_layFour_22 ?_
  refine jx_top (y := nI (to + 18)) (nI_add to 18) ?_
  refine k_M_82 (pc := 23) hX (t_M_mergeOnes u th w ns (Q.ones f (f + 1) (to + 16)) hu (by have := Ql.lay_len Q f (f + 1); show (Q.lay f (f + 1)).2.length < 24; omega) (f + 2) (f + 3) (to + 18) (by omega) (by omega) (by omega)) ⟨rfl, rfl, (Nat.le_of_ble_eq_true rfl), (Nat.le_of_ble_eq_true rfl)⟩ rfl rfl (Nat.le_of_ble_eq_true rfl) ⟨Nat.zero_le _, Nat.zero_le _⟩ d_M_layFour_23 (fun u2 hu2 => ?_)
  refine jx_aload_n (pc := 26) hX d_M_layFour_26 rfl rfl ?_
  refine jx_iload_n (pc := 27) hX d_M_layFour_27 rfl rfl ?_
  refine jx_bipush (pc := 28) hX (v := 16) d_M_layFour_28 rfl ?_
  refine jx_iadd (pc := 30) hX d_M_layFour_30 ?_
  refine jx_top (y := nI (to + 16)) (nI_add to 16) ?_
  refine jx_iload_n (pc := 31) hX d_M_layFour_31 rfl rfl ?_
  refine jx_bipush (pc := 32) hX (v := 18) d_M_layFour_32 rfl ?_
  refine jx_iadd (pc := 34) hX d_M_layFour_34 ?_
  refine jx_top (y := nI (to + 18)) (nI_add to 18) ?_
  refine jx_iload_n (pc := 35) hX d_M_layFour_35 rfl rfl ?_
  refine k_M_90 (pc := 36) hX (t_M_mergeTwos u2 th w ns (Q.h2 f to) hu2 (to + 16) (to + 18) to k4) ⟨rfl, rfl, (Nat.le_of_ble_eq_true rfl), (Nat.le_of_ble_eq_true rfl)⟩ rfl rfl (Nat.le_of_ble_eq_true rfl) ⟨Nat.zero_le _, Nat.zero_le _⟩ d_M_layFour_36 (fun u3 hu3 => ?_)
  exact jx_vret (pc := 39) hX d_M_layFour_39 (hu3)
def Ql.fk (Q : Ql) (x y to : Nat) : Nat → Ql
  | 0 => Q
  | k + 1 => (Ql.fk Q x y to k).f1 x y to k
def Ql.fours_ok (Q : Ql) (x y to : Nat) : Prop := x + 4 ≤ 80 ∧ y + 4 ≤ 80 ∧ to + 32 ≤ 80 ∧ Q.f1_ok x y to 0 = true ∧ (Q.f1 x y to 0).f1_ok x y to 1 = true ∧ ((Q.f1 x y to 0).f1 x y to 1).join_ok (to + 16) (to + 24) 4 to = true
theorem pk_rel {σ : St} {th : Int32} {w ns : Nat} {Q : Ql} {x y to k i : Nat} (hR : relQ σ th w ns Q) (hk : Q.pk_ok x y to k i = true) :
    σ.2 7 (x + 2 * i + k) = nI (Q.g (x + 2 * i + k)) ∧ ∃ v, upd (σ.2 7) (to + 8 + i) (nI (Q.g (x + 2 * i + k))) (y + 2 * i + 1 - k) = nI v ∧ relQ (sA (sA σ 7 (to + 8 + i) (nI (Q.g (x + 2 * i + k)))) 7 (to + 10 + i) (nI v)) th w ns (Q.pk1 x y to k i) := by
  unfold Ql.pk_ok at hk
  rw [Bool.and_eq_true] at hk
  obtain ⟨k1, k2⟩ := hk
  obtain ⟨q0, q1, q2, q3, q4, q5, q6, q7⟩ := id hR
  have c1 := q7 _ _ (Ql.g_of k1)
  obtain ⟨v, hv⟩ := Option.isSome_iff_exists.mp k2
  rw [Ql.g_of k1] at hv
  have r1 := rowUp (i := to + 8 + i) q7 c1.1 rfl
  have c2 := r1 _ _ hv
  refine ⟨c1.2, v, c2.2, q0, q1, q2, q3, q4, q5, q6, ?_⟩
  unfold Ql.pk1
  rw [Ql.g_of k1, hv]
  exact rowUp r1 c2.1 rfl
set_option maxRecDepth 100000 in
set_option maxHeartbeats 4000000 in
theorem t_M_mergeFours {l : Launch} {D : va_G} {ad : Nat → Nat} {ac : Nat → ClassId} (σ : St) (th : Int32) (w ns : Nat) (Q : Ql) (hR : relQ σ th w ns Q) (x y to : Nat) (hk : Q.fours_ok x y to) : jMv l (yM D ad ac) mt_M_mergeFours TT (rmk 4) [.ref (ad 19), .int (nI x), .int (nI y), .int (nI to)] σ (fun u => relQ u th w ns (Q.fours x y to)) := by
  obtain ⟨b1, b2, b3, f0, f1, fj⟩ := hk
  have fok : ∀ k, k < 2 → (Q.fk x y to k).f1_ok x y to k = true := by
    intro k hk2
    rcases (show k = 0 ∨ k = 1 by omega) with rfl | rfl
    · exact f0
    · exact f1
  refine jMv_of (by decide) (Nat.le_of_ble_eq_true rfl) (List.forall_mem_cons.mpr ⟨rfl, List.forall_mem_cons.mpr ⟨rfl, List.forall_mem_cons.mpr ⟨rfl, List.forall_mem_cons.mpr ⟨rfl, fun _ h => absurd h List.not_mem_nil⟩⟩⟩⟩) ?_
  intro X A hX
  have hX : jX X (yM D ad ac) A b_M_mergeFours 6 RM (mt_M_mergeFours.w :: TT) (rmk 4) none := hX
  show jW l X (yM D ad ac) A 6 0 0 kT (jQv X (yM D ad ac) A (fun u => relQ u th w ns (Q.fours x y to))) σ 0 [(0, .ref (ad 19)), (1, .int (nI x)), (2, .int (nI y)), (3, .int (nI to))] []
  have outer : ∀ (fu : Nat) (k : Nat) (σ1 : St), 2 - k = fu → k ≤ 2 → relQ σ1 th w ns (Q.fk x y to k) → jW l X (yM D ad ac) A 6 0 0 kT (jQv X (yM D ad ac) A (fun u => relQ u th w ns (Q.fours x y to))) σ1 3 [(0, .ref (ad 19)), (1, .int (nI x)), (2, .int (nI y)), (3, .int (nI to)), (4, .int (nI k))] [] := by
    intro fu
    induction fu using Nat.strongRecOn with
    | ind fu ih =>
      intro k σ1 hfu hk2 hR1
      have inner : k < 2 → ∀ (fu2 : Nat) (i : Nat) (σ2 : St), 2 - i = fu2 → i ≤ 2 → relQ σ2 th w ns (Ql.pick x y to k i (Q.fk x y to k)) → jW l X (yM D ad ac) A 6 0 0 kT (jQv X (yM D ad ac) A (fun u => relQ u th w ns (Q.fours x y to))) σ2 12 [(0, .ref (ad 19)), (1, .int (nI x)), (2, .int (nI y)), (3, .int (nI to)), (4, .int (nI k)), (5, .int (nI i))] [] := by
        intro hklt
        have fk := fok k hklt
        unfold Ql.f1_ok at fk
        simp only [Bool.and_eq_true] at fk
        obtain ⟨⟨g0, g1⟩, g2⟩ := fk
        have gi : ∀ i, i < 2 → (Ql.pick x y to k i (Q.fk x y to k)).pk_ok x y to k i = true := by
          intro i hi2
          rcases (show i = 0 ∨ i = 1 by omega) with rfl | rfl
          · exact g0
          · exact g1
        intro fu2
        induction fu2 using Nat.strongRecOn with
        | ind fu2 ih2 =>
          intro i σ2 hfu2 hi2 hR2
          refine jx_iload (pc := 12) hX d_M_mergeFours_12 rfl ?_
          refine jx_iconst (pc := 14) hX (v := 2) d_M_mergeFours_14 rfl ?_
          refine jx_icmp_ge (pc := 15) hX 78 d_M_mergeFours_15 rfl (fun q15 => ?_) (fun q15 => ?_)
          · have hge : i = 2 := by have : 2 ≤ i := (nI_leI (a := 2) (by decide) (by omega)).mp q15; omega
            subst hge
            refine jx_aload_n (pc := 78) hX d_M_mergeFours_78 rfl rfl ?_
            refine jx_iload_n (pc := 79) hX d_M_mergeFours_79 rfl rfl ?_
            refine jx_bipush (pc := 80) hX (v := 8) d_M_mergeFours_80 rfl ?_
            refine jx_iadd (pc := 82) hX d_M_mergeFours_82 ?_
            refine jx_top (y := nI (to + 8)) (nI_add to 8) ?_
            refine jx_iload_n (pc := 83) hX d_M_mergeFours_83 rfl rfl ?_
            refine jx_bipush (pc := 84) hX (v := 10) d_M_mergeFours_84 rfl ?_
            refine jx_iadd (pc := 86) hX d_M_mergeFours_86 ?_
            refine jx_top (y := nI (to + 10)) (nI_add to 10) ?_
            refine jx_iload_n (pc := 87) hX d_M_mergeFours_87 rfl rfl ?_
            refine jx_bipush (pc := 88) hX (v := 16) d_M_mergeFours_88 rfl ?_
            refine jx_iadd (pc := 90) hX d_M_mergeFours_90 ?_
            refine jx_top (y := nI (to + 16)) (nI_add to 16) ?_
            refine jx_bipush (pc := 91) hX (v := 8) d_M_mergeFours_91 rfl ?_
            refine jx_iload (pc := 93) hX d_M_mergeFours_93 rfl ?_
            refine jx_imul (pc := 95) hX d_M_mergeFours_95 ?_
            refine jx_top (y := nI (8 * k)) (pk_mul 8 k) ?_
            refine jx_iadd (pc := 96) hX d_M_mergeFours_96 ?_
            refine jx_top (y := nI (to + 16 + 8 * k)) (nI_add _ _) ?_
            refine k_M_90 (pc := 97) hX (t_M_mergeTwos σ2 th w ns (Ql.pick x y to k 2 (Q.fk x y to k)) hR2 (to + 8) (to + 10) (to + 16 + 8 * k) g2) ⟨rfl, rfl, (Nat.le_of_ble_eq_true rfl), (Nat.le_of_ble_eq_true rfl)⟩ rfl rfl (Nat.le_of_ble_eq_true rfl) ⟨Nat.zero_le _, Nat.zero_le _⟩ d_M_mergeFours_97 (fun u hu => ?_)
            refine jx_iinc (pc := 100) hX (v := nI (k + 1)) d_M_mergeFours_100 rfl (nI_1 k) (by decide) (L' := [(0, _), (1, _), (2, _), (3, _), (4, _), (5, _)]) rfl ?_
            refine jx_goto (pc := 103) hX 3 d_M_mergeFours_103 rfl ?_
            refine jx_take 5 ?_
            exact ih _ (by omega) (k + 1) u rfl (by omega) hu
          · have hlt : i < 2 := Nat.lt_of_not_le (fun q => q15 (nI_le (a := 2) q (by omega)))
            obtain ⟨v1, v, v2, hR3⟩ := pk_rel hR2 (gi i hlt)
            refine jx_aload_n (pc := 18) hX d_M_mergeFours_18 rfl rfl ?_
            refine g_M_32 (pc := 19) hX d_M_mergeFours_19 ?_
            refine jx_iload_n (pc := 22) hX d_M_mergeFours_22 rfl rfl ?_
            refine jx_bipush (pc := 23) hX (v := 8) d_M_mergeFours_23 rfl ?_
            refine jx_iadd (pc := 25) hX d_M_mergeFours_25 ?_
            refine jx_top (y := nI (to + 8)) (nI_add to 8) ?_
            refine jx_iload (pc := 26) hX d_M_mergeFours_26 rfl ?_
            refine jx_iadd (pc := 28) hX d_M_mergeFours_28 ?_
            refine jx_top (y := nI (to + 8 + i)) (nI_add _ _) ?_
            refine jx_aload_n (pc := 29) hX d_M_mergeFours_29 rfl rfl ?_
            refine g_M_32 (pc := 30) hX d_M_mergeFours_30 ?_
            refine jx_iload_n (pc := 33) hX d_M_mergeFours_33 rfl rfl ?_
            refine jx_iconst (pc := 34) hX (v := 2) d_M_mergeFours_34 rfl ?_
            refine jx_iload (pc := 35) hX d_M_mergeFours_35 rfl ?_
            refine jx_imul (pc := 37) hX d_M_mergeFours_37 ?_
            refine jx_top (y := nI (2 * i)) (pk_mul 2 i) ?_
            refine jx_iadd (pc := 38) hX d_M_mergeFours_38 ?_
            refine jx_top (y := nI (x + 2 * i)) (nI_add _ _) ?_
            refine jx_iload (pc := 39) hX d_M_mergeFours_39 rfl ?_
            refine jx_iadd (pc := 41) hX d_M_mergeFours_41 ?_
            refine jx_top (y := nI (x + 2 * i + k)) (nI_add _ _) ?_
            refine jx_iald (pc := 42) hX oM_7 _ rfl (show x + 2 * i + k < 80 by omega) d_M_mergeFours_42 ?_
            refine jx_top (y := nI ((Ql.pick x y to k i (Q.fk x y to k)).g (x + 2 * i + k))) (v1) ?_
            refine jx_iast (pc := 43) hX oM_7 _ rfl (show to + 8 + i < 80 by omega) d_M_mergeFours_43 ?_
            refine jx_aload_n (pc := 44) hX d_M_mergeFours_44 rfl rfl ?_
            refine g_M_32 (pc := 45) hX d_M_mergeFours_45 ?_
            refine jx_iload_n (pc := 48) hX d_M_mergeFours_48 rfl rfl ?_
            refine jx_bipush (pc := 49) hX (v := 10) d_M_mergeFours_49 rfl ?_
            refine jx_iadd (pc := 51) hX d_M_mergeFours_51 ?_
            refine jx_top (y := nI (to + 10)) (nI_add to 10) ?_
            refine jx_iload (pc := 52) hX d_M_mergeFours_52 rfl ?_
            refine jx_iadd (pc := 54) hX d_M_mergeFours_54 ?_
            refine jx_top (y := nI (to + 10 + i)) (nI_add _ _) ?_
            refine jx_aload_n (pc := 55) hX d_M_mergeFours_55 rfl rfl ?_
            refine g_M_32 (pc := 56) hX d_M_mergeFours_56 ?_
            refine jx_iload_n (pc := 59) hX d_M_mergeFours_59 rfl rfl ?_
            refine jx_iconst (pc := 60) hX (v := 2) d_M_mergeFours_60 rfl ?_
            refine jx_iload (pc := 61) hX d_M_mergeFours_61 rfl ?_
            refine jx_imul (pc := 63) hX d_M_mergeFours_63 ?_
            refine jx_top (y := nI (2 * i)) (pk_mul 2 i) ?_
            refine jx_iadd (pc := 64) hX d_M_mergeFours_64 ?_
            refine jx_top (y := nI (y + 2 * i)) (nI_add _ _) ?_
            refine jx_iconst (pc := 65) hX (v := 1) d_M_mergeFours_65 rfl ?_
            refine jx_iadd (pc := 66) hX d_M_mergeFours_66 ?_
            refine jx_top (y := nI (y + 2 * i + 1)) (nI_1 _) ?_
            refine jx_iload (pc := 67) hX d_M_mergeFours_67 rfl ?_
            refine jx_isub (pc := 69) hX d_M_mergeFours_69 ?_
            refine jx_top (y := nI (y + 2 * i + 1 - k)) (pk_sub (by omega)) ?_
            refine jx_iald (pc := 70) hX oM_7 _ rfl (show y + 2 * i + 1 - k < 80 by omega) d_M_mergeFours_70 ?_
            refine jx_top (y := nI v) (v2) ?_
            refine jx_iast (pc := 71) hX oM_7 _ rfl (show to + 10 + i < 80 by omega) d_M_mergeFours_71 ?_
            refine jx_iinc (pc := 72) hX (v := nI (i + 1)) d_M_mergeFours_72 rfl (nI_1 i) (by decide) (L' := [(0, _), (1, _), (2, _), (3, _), (4, _), (5, _)]) rfl ?_
            refine jx_goto (pc := 75) hX 12 d_M_mergeFours_75 rfl ?_
            exact ih2 _ (by omega) (i + 1) (sA (sA σ2 7 (to + 8 + i) (nI ((Ql.pick x y to k i (Q.fk x y to k)).g (x + 2 * i + k)))) 7 (to + 10 + i) (nI v)) rfl (by omega) hR3
      refine jx_iload (pc := 3) hX d_M_mergeFours_3 rfl ?_
      refine jx_iconst (pc := 5) hX (v := 2) d_M_mergeFours_5 rfl ?_
      refine jx_icmp_ge (pc := 6) hX 106 d_M_mergeFours_6 rfl (fun q6 => ?_) (fun q6 => ?_)
      · have hge : k = 2 := by have : 2 ≤ k := (nI_leI (a := 2) (by decide) (by omega)).mp q6; omega
        subst hge
        refine jx_aload_n (pc := 106) hX d_M_mergeFours_106 rfl rfl ?_
        refine jx_iload_n (pc := 107) hX d_M_mergeFours_107 rfl rfl ?_
        refine jx_bipush (pc := 108) hX (v := 16) d_M_mergeFours_108 rfl ?_
        refine jx_iadd (pc := 110) hX d_M_mergeFours_110 ?_
        refine jx_top (y := nI (to + 16)) (nI_add to 16) ?_
        refine jx_iload_n (pc := 111) hX d_M_mergeFours_111 rfl rfl ?_
        refine jx_bipush (pc := 112) hX (v := 24) d_M_mergeFours_112 rfl ?_
        refine jx_iadd (pc := 114) hX d_M_mergeFours_114 ?_
        refine jx_top (y := nI (to + 24)) (nI_add to 24) ?_
        refine jx_iconst (pc := 115) hX (v := 4) d_M_mergeFours_115 rfl ?_
        refine jx_iload_n (pc := 116) hX d_M_mergeFours_116 rfl rfl ?_
        refine k_M_86 (pc := 117) hX (t_M_join σ1 th w ns (Q.fk x y to 2) hR1 (to + 16) (to + 24) 4 to fj) ⟨rfl, rfl, (Nat.le_of_ble_eq_true rfl), (Nat.le_of_ble_eq_true rfl)⟩ rfl rfl (Nat.le_of_ble_eq_true rfl) ⟨Nat.zero_le _, Nat.zero_le _⟩ d_M_mergeFours_117 (fun u hu => ?_)
        exact jx_vret (pc := 120) hX d_M_mergeFours_120 (hu)
      · have hlt : k < 2 := Nat.lt_of_not_le (fun q => q6 (nI_le (a := 2) q (by omega)))
        refine jx_iconst (pc := 9) hX (v := 0) d_M_mergeFours_9 rfl ?_
        refine jx_istore (pc := 10) hX d_M_mergeFours_10 (by decide) (L' := [(0, _), (1, _), (2, _), (3, _), (4, _), (5, _)]) rfl ?_
        exact inner hlt _ 0 σ1 rfl (Nat.zero_le _) hR1
  refine jx_iconst (pc := 0) hX (v := 0) d_M_mergeFours_0 rfl ?_
  refine jx_istore (pc := 1) hX d_M_mergeFours_1 (by decide) (L' := [(0, _), (1, _), (2, _), (3, _), (4, _)]) rfl ?_
  exact outer _ 0 σ rfl (Nat.zero_le _) hR
theorem planM_of {u : St} {th : Int32} {w ns : Nat} {Q : Ql} (h : relQ u th w ns Q) (h1 : Q.2 = tab w) (h3 : AR w nI (u.2 4) (uE w)) : planM u w := by
  obtain ⟨-, r2, -, r4, r5, r6, -, -⟩ := h
  rw [h1, tab_len] at r2 r4 r5 r6
  refine ⟨r2, fun b hb => ?_, fun b hb => ?_, fun b hb => ?_, h3⟩
  · have := r4 b hb; dsimp only at this; rw [tab_at hb] at this; exact this
  · have := r5 b hb; dsimp only at this; rw [tab_at hb] at this; exact this
  · have := r6 b hb; dsimp only at this; rw [tab_at hb] at this; exact this
theorem relQ_0 (σ : St) (th : Int32) (w ns : Nat) (h0 : σ.1 0 = th) : relQ (sF (sF (sF (sF (sF σ 1 (nI w)) 2 (nI ns)) 3 0) 4 0) 5 0) th w ns Ql0 :=
  ⟨⟨h0, rfl, rfl, rfl, rfl⟩, rfl, fun n hn => absurd hn (Nat.not_lt_zero n), fun n hn => absurd hn (Nat.not_lt_zero n), fun n hn => absurd hn (Nat.not_lt_zero n), fun n hn => absurd hn (Nat.not_lt_zero n), fun n hn => absurd hn (Nat.not_lt_zero n), fun j v h => by cases h⟩
set_option maxRecDepth 100000 in
set_option maxHeartbeats 4000000 in
theorem t_M_make2 {l : Launch} {D : va_G} {ad : Nat → Nat} {ac : Nat → ClassId} (σ : St) (M : Ms) (ns : Nat) : jMv l (yM D ad ac) mt_M_make TT (rmk 5) [.ref (ad 19), .int (nI 2), .int (nI ns)] σ (fun u => repM u (M.build 2 ns) ∧ u.1 0 = σ.1 0) := by
  refine jMv_of (by decide) (Nat.le_of_ble_eq_true rfl) (List.forall_mem_cons.mpr ⟨rfl, List.forall_mem_cons.mpr ⟨rfl, List.forall_mem_cons.mpr ⟨rfl, fun _ h => absurd h List.not_mem_nil⟩⟩⟩) ?_
  intro X A hX
  have hX : jX X (yM D ad ac) A b_M_make 4 RM (mt_M_make.w :: TT) (rmk 5) none := hX
  show jW l X (yM D ad ac) A 4 0 0 kT (jQv X (yM D ad ac) A (fun u => repM u (M.build 2 ns) ∧ u.1 0 = σ.1 0)) σ 0 [(0, .ref (ad 19)), (1, .int (nI 2)), (2, .int (nI ns))] []
  have loopC : ∀ (fu : Nat) (i : Nat) (σa : St) (f : Nat → Int32), 6 - i = fu → i ≤ 6 → relQ σa (σ.1 0) 2 ns (Ql.mk 2) → AR 2 nI (σa.2 4) (uE 2) → (∀ j, j < 2 → σa.2 5 j = 0) → (∀ j, j < i → f j = 0) → jW l X (yM D ad ac) A 4 0 0 kT (jQv X (yM D ad ac) A (fun u => repM u (M.build 2 ns) ∧ u.1 0 = σ.1 0)) (sR σa 6 f) 111 [(0, .ref (ad 19)), (1, .int (nI 2)), (2, .int (nI ns)), (3, .int (nI i))] [] := by
    intro fu
    induction fu using Nat.strongRecOn with
    | ind fu ih =>
      intro i σa f hfu hi hR ha hz5 hz
      refine jx_iload_n (pc := 111) hX d_M_make_111 rfl rfl ?_
      refine jx_bipush (pc := 112) hX (v := 6) d_M_make_112 rfl ?_
      refine jx_icmp_ge (pc := 114) hX 130 d_M_make_114 rfl (fun qb => ?_) (fun qb => ?_)
      · have hge : i = 6 := by have : 6 ≤ i := (nI_leI (a := 6) (by omega) (by omega)).mp qb; omega
        subst hge
        exact jx_vret (pc := 130) hX d_M_make_130 (⟨⟨rep.build hR.1.2.1 hR.1.2.2.1 hR.1.2.2.2.1 hR.1.2.2.2.2 hz (fun b hb => hR.2.2.2.2.2.2.1 b (by rw [mk_2.1, tab_len]; exact hb)) hz5, planM_of (u := sR σa 6 f) hR mk_2.1 ha⟩, hR.1.1⟩)
      · have hlt : i < 6 := Nat.lt_of_not_le (fun q => qb (nI_le (a := 6) q (by omega)))
        refine jx_aload_n (pc := 117) hX d_M_make_117 rfl rfl ?_
        refine g_M_28 (pc := 118) hX d_M_make_118 ?_
        refine jx_iload_n (pc := 121) hX d_M_make_121 rfl rfl ?_
        refine jx_iconst (pc := 122) hX (v := 0) d_M_make_122 rfl ?_
        refine jx_zast (pc := 123) hX oM_6 _ rfl (show i < 6 by omega) rfl d_M_make_123 ?_
        refine jx_iinc (pc := 124) hX (v := nI (i + 1)) d_M_make_124 rfl (nI_1 i) (by decide) (L' := [(0, _), (1, _), (2, _), (3, _)]) rfl ?_
        refine jx_goto (pc := 127) hX 111 d_M_make_127 rfl ?_
        rw [sA_sR]
        exact ih _ (by omega) (i + 1) σa (upd f i 0) rfl (by omega) hR ha hz5 (zero_s hz)
  have loopB : ∀ (fu : Nat) (i : Nat) (σa : St), 2 - i = fu → i ≤ 2 → relQ σa (σ.1 0) 2 ns (Ql.mk 2) → AR i nI (σa.2 4) (uE 2) → (∀ j, j < i → σa.2 5 j = 0) → jW l X (yM D ad ac) A 4 0 0 kT (jQv X (yM D ad ac) A (fun u => repM u (M.build 2 ns) ∧ u.1 0 = σ.1 0)) σa 79 [(0, .ref (ad 19)), (1, .int (nI 2)), (2, .int (nI ns)), (3, .int (nI i))] [] := by
    intro fu
    induction fu using Nat.strongRecOn with
    | ind fu ih =>
      intro i σa hfu hi hR ha hz5
      refine jx_iload_n (pc := 79) hX d_M_make_79 rfl rfl ?_
      refine jx_iload_n (pc := 80) hX d_M_make_80 rfl rfl ?_
      refine jx_icmp_ge (pc := 81) hX 109 d_M_make_81 rfl (fun qb => ?_) (fun qb => ?_)
      · have hge : i = 2 := by have : 2 ≤ i := (nI_leI (by omega) (by omega)).mp qb; omega
        subst hge
        refine jx_iconst (pc := 109) hX (v := 0) d_M_make_109 rfl ?_
        refine jx_istore_n (pc := 110) hX d_M_make_110 rfl (by decide) (L' := [(0, _), (1, _), (2, _), (3, _)]) rfl ?_
        exact jx_to (loopC _ 0 σa (σa.2 6) rfl (Nat.zero_le _) hR ha hz5 (fun j hj => absurd hj (Nat.not_lt_zero j))) (sR_self σa 6).symm rfl rfl rfl
      · have hlt : i < 2 := Nat.lt_of_not_le (fun q => qb (nI_le q (by omega)))
        refine jx_aload_n (pc := 84) hX d_M_make_84 rfl rfl ?_
        refine g_M_22 (pc := 85) hX d_M_make_85 ?_
        refine jx_iload_n (pc := 88) hX d_M_make_88 rfl rfl ?_
        refine jx_aload_n (pc := 89) hX d_M_make_89 rfl rfl ?_
        refine g_M_32 (pc := 90) hX d_M_make_90 ?_
        refine jx_iload_n (pc := 93) hX d_M_make_93 rfl rfl ?_
        refine jx_iald (pc := 94) hX oM_7 _ rfl (show i < 80 by omega) d_M_make_94 ?_
        refine jx_top (y := nI (uE 2 i)) ((hR.2.2.2.2.2.2.2 i _ (mk_2.2 i hlt)).2) ?_
        refine jx_iast (pc := 95) hX oM_4 _ rfl (show i < 8 by omega) d_M_make_95 ?_
        refine jx_aload_n (pc := 96) hX d_M_make_96 rfl rfl ?_
        refine g_M_25 (pc := 97) hX d_M_make_97 ?_
        refine jx_iload_n (pc := 100) hX d_M_make_100 rfl rfl ?_
        refine jx_iconst (pc := 101) hX (v := 0) d_M_make_101 rfl ?_
        refine jx_iast (pc := 102) hX oM_5 _ rfl (show i < 8 by omega) d_M_make_102 ?_
        refine jx_iinc (pc := 103) hX (v := nI (i + 1)) d_M_make_103 rfl (nI_1 i) (by decide) (L' := [(0, _), (1, _), (2, _), (3, _)]) rfl ?_
        refine jx_goto (pc := 106) hX 79 d_M_make_106 rfl ?_
        exact ih _ (by omega) (i + 1) (sA (sA σa 4 i (nI (uE 2 i))) 5 i 0) rfl (by omega) hR (ha.pushf rfl) (zero_s hz5)
  refine jx_aload_n (pc := 0) hX d_M_make_0 rfl rfl ?_
  refine jx_iload_n (pc := 1) hX d_M_make_1 rfl rfl ?_
  refine p_M_93 (pc := 2) hX d_M_make_2 ?_
  refine jx_aload_n (pc := 5) hX d_M_make_5 rfl rfl ?_
  refine jx_iload_n (pc := 6) hX d_M_make_6 rfl rfl ?_
  refine p_M_96 (pc := 7) hX d_M_make_7 ?_
  refine jx_aload_n (pc := 10) hX d_M_make_10 rfl rfl ?_
  refine jx_iconst (pc := 11) hX (v := 0) d_M_make_11 rfl ?_
  refine p_M_76 (pc := 12) hX d_M_make_12 ?_
  refine jx_aload_n (pc := 15) hX d_M_make_15 rfl rfl ?_
  refine jx_iconst (pc := 16) hX (v := 0) d_M_make_16 rfl ?_
  refine p_M_99 (pc := 17) hX d_M_make_17 ?_
  refine jx_aload_n (pc := 20) hX d_M_make_20 rfl rfl ?_
  refine jx_iconst (pc := 21) hX (v := 0) d_M_make_21 rfl ?_
  refine p_M_102 (pc := 22) hX d_M_make_22 ?_
  refine jx_iload_n (pc := 25) hX d_M_make_25 rfl rfl ?_
  refine jx_iconst (pc := 26) hX (v := 2) d_M_make_26 rfl ?_
  refine jx_icmp_ne (pc := 27) hX 40 d_M_make_27 rfl (fun hh => absurd hh (fun h => h rfl)) (fun _ => ?_)
  refine jx_aload_n (pc := 30) hX d_M_make_30 rfl rfl ?_
  refine jx_iconst (pc := 31) hX (v := 0) d_M_make_31 rfl ?_
  refine jx_iconst (pc := 32) hX (v := 1) d_M_make_32 rfl ?_
  refine jx_iconst (pc := 33) hX (v := 0) d_M_make_33 rfl ?_
  refine k_M_82 (pc := 34) hX (t_M_mergeOnes (sF (sF (sF (sF (sF σ 1 (nI 2)) 2 (nI ns)) 3 0) 4 0) 5 0) (σ.1 0) 2 ns Ql0 (relQ_0 σ (σ.1 0) 2 ns rfl) (by decide) 0 1 0 (by decide) (by decide) (by decide)) ⟨rfl, rfl, (Nat.le_of_ble_eq_true rfl), (Nat.le_of_ble_eq_true rfl)⟩ rfl rfl (Nat.le_of_ble_eq_true rfl) ⟨Nat.zero_le _, Nat.zero_le _⟩ d_M_make_34 (fun u hu => ?_)
  refine jx_goto (pc := 37) hX 77 d_M_make_37 rfl ?_
  refine jx_iconst (pc := 77) hX (v := 0) d_M_make_77 rfl ?_
  refine jx_istore_n (pc := 78) hX d_M_make_78 rfl (by decide) (L' := [(0, _), (1, _), (2, _), (3, _)]) rfl ?_
  exact loopB _ 0 u rfl (Nat.zero_le _) hu (fun j hj => absurd hj (Nat.not_lt_zero j)) (fun j hj => absurd hj (Nat.not_lt_zero j))
set_option maxRecDepth 100000 in
set_option maxHeartbeats 4000000 in
theorem t_M_make4 {l : Launch} {D : va_G} {ad : Nat → Nat} {ac : Nat → ClassId} (σ : St) (M : Ms) (ns : Nat) : jMv l (yM D ad ac) mt_M_make TT (rmk 5) [.ref (ad 19), .int (nI 4), .int (nI ns)] σ (fun u => repM u (M.build 4 ns) ∧ u.1 0 = σ.1 0) := by
  refine jMv_of (by decide) (Nat.le_of_ble_eq_true rfl) (List.forall_mem_cons.mpr ⟨rfl, List.forall_mem_cons.mpr ⟨rfl, List.forall_mem_cons.mpr ⟨rfl, fun _ h => absurd h List.not_mem_nil⟩⟩⟩) ?_
  intro X A hX
  have hX : jX X (yM D ad ac) A b_M_make 4 RM (mt_M_make.w :: TT) (rmk 5) none := hX
  show jW l X (yM D ad ac) A 4 0 0 kT (jQv X (yM D ad ac) A (fun u => repM u (M.build 4 ns) ∧ u.1 0 = σ.1 0)) σ 0 [(0, .ref (ad 19)), (1, .int (nI 4)), (2, .int (nI ns))] []
  have loopC : ∀ (fu : Nat) (i : Nat) (σa : St) (f : Nat → Int32), 6 - i = fu → i ≤ 6 → relQ σa (σ.1 0) 4 ns (Ql.mk 4) → AR 4 nI (σa.2 4) (uE 4) → (∀ j, j < 4 → σa.2 5 j = 0) → (∀ j, j < i → f j = 0) → jW l X (yM D ad ac) A 4 0 0 kT (jQv X (yM D ad ac) A (fun u => repM u (M.build 4 ns) ∧ u.1 0 = σ.1 0)) (sR σa 6 f) 111 [(0, .ref (ad 19)), (1, .int (nI 4)), (2, .int (nI ns)), (3, .int (nI i))] [] := by
    intro fu
    induction fu using Nat.strongRecOn with
    | ind fu ih =>
      intro i σa f hfu hi hR ha hz5 hz
      refine jx_iload_n (pc := 111) hX d_M_make_111 rfl rfl ?_
      refine jx_bipush (pc := 112) hX (v := 6) d_M_make_112 rfl ?_
      refine jx_icmp_ge (pc := 114) hX 130 d_M_make_114 rfl (fun qb => ?_) (fun qb => ?_)
      · have hge : i = 6 := by have : 6 ≤ i := (nI_leI (a := 6) (by omega) (by omega)).mp qb; omega
        subst hge
        exact jx_vret (pc := 130) hX d_M_make_130 (⟨⟨rep.build hR.1.2.1 hR.1.2.2.1 hR.1.2.2.2.1 hR.1.2.2.2.2 hz (fun b hb => hR.2.2.2.2.2.2.1 b (by rw [mk_4.1, tab_len]; exact hb)) hz5, planM_of (u := sR σa 6 f) hR mk_4.1 ha⟩, hR.1.1⟩)
      · have hlt : i < 6 := Nat.lt_of_not_le (fun q => qb (nI_le (a := 6) q (by omega)))
        refine jx_aload_n (pc := 117) hX d_M_make_117 rfl rfl ?_
        refine g_M_28 (pc := 118) hX d_M_make_118 ?_
        refine jx_iload_n (pc := 121) hX d_M_make_121 rfl rfl ?_
        refine jx_iconst (pc := 122) hX (v := 0) d_M_make_122 rfl ?_
        refine jx_zast (pc := 123) hX oM_6 _ rfl (show i < 6 by omega) rfl d_M_make_123 ?_
        refine jx_iinc (pc := 124) hX (v := nI (i + 1)) d_M_make_124 rfl (nI_1 i) (by decide) (L' := [(0, _), (1, _), (2, _), (3, _)]) rfl ?_
        refine jx_goto (pc := 127) hX 111 d_M_make_127 rfl ?_
        rw [sA_sR]
        exact ih _ (by omega) (i + 1) σa (upd f i 0) rfl (by omega) hR ha hz5 (zero_s hz)
  have loopB : ∀ (fu : Nat) (i : Nat) (σa : St), 4 - i = fu → i ≤ 4 → relQ σa (σ.1 0) 4 ns (Ql.mk 4) → AR i nI (σa.2 4) (uE 4) → (∀ j, j < i → σa.2 5 j = 0) → jW l X (yM D ad ac) A 4 0 0 kT (jQv X (yM D ad ac) A (fun u => repM u (M.build 4 ns) ∧ u.1 0 = σ.1 0)) σa 79 [(0, .ref (ad 19)), (1, .int (nI 4)), (2, .int (nI ns)), (3, .int (nI i))] [] := by
    intro fu
    induction fu using Nat.strongRecOn with
    | ind fu ih =>
      intro i σa hfu hi hR ha hz5
      refine jx_iload_n (pc := 79) hX d_M_make_79 rfl rfl ?_
      refine jx_iload_n (pc := 80) hX d_M_make_80 rfl rfl ?_
      refine jx_icmp_ge (pc := 81) hX 109 d_M_make_81 rfl (fun qb => ?_) (fun qb => ?_)
      · have hge : i = 4 := by have : 4 ≤ i := (nI_leI (by omega) (by omega)).mp qb; omega
        subst hge
        refine jx_iconst (pc := 109) hX (v := 0) d_M_make_109 rfl ?_
        refine jx_istore_n (pc := 110) hX d_M_make_110 rfl (by decide) (L' := [(0, _), (1, _), (2, _), (3, _)]) rfl ?_
        exact jx_to (loopC _ 0 σa (σa.2 6) rfl (Nat.zero_le _) hR ha hz5 (fun j hj => absurd hj (Nat.not_lt_zero j))) (sR_self σa 6).symm rfl rfl rfl
      · have hlt : i < 4 := Nat.lt_of_not_le (fun q => qb (nI_le q (by omega)))
        refine jx_aload_n (pc := 84) hX d_M_make_84 rfl rfl ?_
        refine g_M_22 (pc := 85) hX d_M_make_85 ?_
        refine jx_iload_n (pc := 88) hX d_M_make_88 rfl rfl ?_
        refine jx_aload_n (pc := 89) hX d_M_make_89 rfl rfl ?_
        refine g_M_32 (pc := 90) hX d_M_make_90 ?_
        refine jx_iload_n (pc := 93) hX d_M_make_93 rfl rfl ?_
        refine jx_iald (pc := 94) hX oM_7 _ rfl (show i < 80 by omega) d_M_make_94 ?_
        refine jx_top (y := nI (uE 4 i)) ((hR.2.2.2.2.2.2.2 i _ (mk_4.2 i hlt)).2) ?_
        refine jx_iast (pc := 95) hX oM_4 _ rfl (show i < 8 by omega) d_M_make_95 ?_
        refine jx_aload_n (pc := 96) hX d_M_make_96 rfl rfl ?_
        refine g_M_25 (pc := 97) hX d_M_make_97 ?_
        refine jx_iload_n (pc := 100) hX d_M_make_100 rfl rfl ?_
        refine jx_iconst (pc := 101) hX (v := 0) d_M_make_101 rfl ?_
        refine jx_iast (pc := 102) hX oM_5 _ rfl (show i < 8 by omega) d_M_make_102 ?_
        refine jx_iinc (pc := 103) hX (v := nI (i + 1)) d_M_make_103 rfl (nI_1 i) (by decide) (L' := [(0, _), (1, _), (2, _), (3, _)]) rfl ?_
        refine jx_goto (pc := 106) hX 79 d_M_make_106 rfl ?_
        exact ih _ (by omega) (i + 1) (sA (sA σa 4 i (nI (uE 4 i))) 5 i 0) rfl (by omega) hR (ha.pushf rfl) (zero_s hz5)
  refine jx_aload_n (pc := 0) hX d_M_make_0 rfl rfl ?_
  refine jx_iload_n (pc := 1) hX d_M_make_1 rfl rfl ?_
  refine p_M_93 (pc := 2) hX d_M_make_2 ?_
  refine jx_aload_n (pc := 5) hX d_M_make_5 rfl rfl ?_
  refine jx_iload_n (pc := 6) hX d_M_make_6 rfl rfl ?_
  refine p_M_96 (pc := 7) hX d_M_make_7 ?_
  refine jx_aload_n (pc := 10) hX d_M_make_10 rfl rfl ?_
  refine jx_iconst (pc := 11) hX (v := 0) d_M_make_11 rfl ?_
  refine p_M_76 (pc := 12) hX d_M_make_12 ?_
  refine jx_aload_n (pc := 15) hX d_M_make_15 rfl rfl ?_
  refine jx_iconst (pc := 16) hX (v := 0) d_M_make_16 rfl ?_
  refine p_M_99 (pc := 17) hX d_M_make_17 ?_
  refine jx_aload_n (pc := 20) hX d_M_make_20 rfl rfl ?_
  refine jx_iconst (pc := 21) hX (v := 0) d_M_make_21 rfl ?_
  refine p_M_102 (pc := 22) hX d_M_make_22 ?_
  refine jx_iload_n (pc := 25) hX d_M_make_25 rfl rfl ?_
  refine jx_iconst (pc := 26) hX (v := 2) d_M_make_26 rfl ?_
  refine jx_icmp_ne (pc := 27) hX 40 d_M_make_27 rfl (fun _ => ?_) (fun hh => absurd hh (by decide))
  refine jx_iload_n (pc := 40) hX d_M_make_40 rfl rfl ?_
  refine jx_iconst (pc := 41) hX (v := 4) d_M_make_41 rfl ?_
  refine jx_icmp_ne (pc := 42) hX 54 d_M_make_42 rfl (fun hh => absurd hh (fun h => h rfl)) (fun _ => ?_)
  refine jx_aload_n (pc := 45) hX d_M_make_45 rfl rfl ?_
  refine jx_iconst (pc := 46) hX (v := 0) d_M_make_46 rfl ?_
  refine jx_iconst (pc := 47) hX (v := 0) d_M_make_47 rfl ?_
  refine k_M_105 (pc := 48) hX (t_M_layFour (sF (sF (sF (sF (sF σ 1 (nI 4)) 2 (nI ns)) 3 0) 4 0) 5 0) (σ.1 0) 4 ns Ql0 (relQ_0 σ (σ.1 0) 4 ns rfl) 0 0 mk4_ok) ⟨rfl, rfl, (Nat.le_of_ble_eq_true rfl), (Nat.le_of_ble_eq_true rfl)⟩ rfl rfl (Nat.le_of_ble_eq_true rfl) ⟨Nat.zero_le _, Nat.zero_le _⟩ d_M_make_48 (fun u hu => ?_)
  refine jx_goto (pc := 51) hX 77 d_M_make_51 rfl ?_
  refine jx_iconst (pc := 77) hX (v := 0) d_M_make_77 rfl ?_
  refine jx_istore_n (pc := 78) hX d_M_make_78 rfl (by decide) (L' := [(0, _), (1, _), (2, _), (3, _)]) rfl ?_
  exact loopB _ 0 u rfl (Nat.zero_le _) hu (fun j hj => absurd hj (Nat.not_lt_zero j)) (fun j hj => absurd hj (Nat.not_lt_zero j))
set_option maxRecDepth 100000 in
set_option maxHeartbeats 4000000 in
theorem t_M_make8 {l : Launch} {D : va_G} {ad : Nat → Nat} {ac : Nat → ClassId} (σ : St) (M : Ms) (ns : Nat) : jMv l (yM D ad ac) mt_M_make TT (rmk 5) [.ref (ad 19), .int (nI 8), .int (nI ns)] σ (fun u => repM u (M.build 8 ns) ∧ u.1 0 = σ.1 0) := by
  refine jMv_of (by decide) (Nat.le_of_ble_eq_true rfl) (List.forall_mem_cons.mpr ⟨rfl, List.forall_mem_cons.mpr ⟨rfl, List.forall_mem_cons.mpr ⟨rfl, fun _ h => absurd h List.not_mem_nil⟩⟩⟩) ?_
  intro X A hX
  have hX : jX X (yM D ad ac) A b_M_make 4 RM (mt_M_make.w :: TT) (rmk 5) none := hX
  show jW l X (yM D ad ac) A 4 0 0 kT (jQv X (yM D ad ac) A (fun u => repM u (M.build 8 ns) ∧ u.1 0 = σ.1 0)) σ 0 [(0, .ref (ad 19)), (1, .int (nI 8)), (2, .int (nI ns))] []
  have loopC : ∀ (fu : Nat) (i : Nat) (σa : St) (f : Nat → Int32), 6 - i = fu → i ≤ 6 → relQ σa (σ.1 0) 8 ns (Ql.mk 8) → AR 8 nI (σa.2 4) (uE 8) → (∀ j, j < 8 → σa.2 5 j = 0) → (∀ j, j < i → f j = 0) → jW l X (yM D ad ac) A 4 0 0 kT (jQv X (yM D ad ac) A (fun u => repM u (M.build 8 ns) ∧ u.1 0 = σ.1 0)) (sR σa 6 f) 111 [(0, .ref (ad 19)), (1, .int (nI 8)), (2, .int (nI ns)), (3, .int (nI i))] [] := by
    intro fu
    induction fu using Nat.strongRecOn with
    | ind fu ih =>
      intro i σa f hfu hi hR ha hz5 hz
      refine jx_iload_n (pc := 111) hX d_M_make_111 rfl rfl ?_
      refine jx_bipush (pc := 112) hX (v := 6) d_M_make_112 rfl ?_
      refine jx_icmp_ge (pc := 114) hX 130 d_M_make_114 rfl (fun qb => ?_) (fun qb => ?_)
      · have hge : i = 6 := by have : 6 ≤ i := (nI_leI (a := 6) (by omega) (by omega)).mp qb; omega
        subst hge
        exact jx_vret (pc := 130) hX d_M_make_130 (⟨⟨rep.build hR.1.2.1 hR.1.2.2.1 hR.1.2.2.2.1 hR.1.2.2.2.2 hz (fun b hb => hR.2.2.2.2.2.2.1 b (by rw [mk_8.1, tab_len]; exact hb)) hz5, planM_of (u := sR σa 6 f) hR mk_8.1 ha⟩, hR.1.1⟩)
      · have hlt : i < 6 := Nat.lt_of_not_le (fun q => qb (nI_le (a := 6) q (by omega)))
        refine jx_aload_n (pc := 117) hX d_M_make_117 rfl rfl ?_
        refine g_M_28 (pc := 118) hX d_M_make_118 ?_
        refine jx_iload_n (pc := 121) hX d_M_make_121 rfl rfl ?_
        refine jx_iconst (pc := 122) hX (v := 0) d_M_make_122 rfl ?_
        refine jx_zast (pc := 123) hX oM_6 _ rfl (show i < 6 by omega) rfl d_M_make_123 ?_
        refine jx_iinc (pc := 124) hX (v := nI (i + 1)) d_M_make_124 rfl (nI_1 i) (by decide) (L' := [(0, _), (1, _), (2, _), (3, _)]) rfl ?_
        refine jx_goto (pc := 127) hX 111 d_M_make_127 rfl ?_
        rw [sA_sR]
        exact ih _ (by omega) (i + 1) σa (upd f i 0) rfl (by omega) hR ha hz5 (zero_s hz)
  have loopB : ∀ (fu : Nat) (i : Nat) (σa : St), 8 - i = fu → i ≤ 8 → relQ σa (σ.1 0) 8 ns (Ql.mk 8) → AR i nI (σa.2 4) (uE 8) → (∀ j, j < i → σa.2 5 j = 0) → jW l X (yM D ad ac) A 4 0 0 kT (jQv X (yM D ad ac) A (fun u => repM u (M.build 8 ns) ∧ u.1 0 = σ.1 0)) σa 79 [(0, .ref (ad 19)), (1, .int (nI 8)), (2, .int (nI ns)), (3, .int (nI i))] [] := by
    intro fu
    induction fu using Nat.strongRecOn with
    | ind fu ih =>
      intro i σa hfu hi hR ha hz5
      refine jx_iload_n (pc := 79) hX d_M_make_79 rfl rfl ?_
      refine jx_iload_n (pc := 80) hX d_M_make_80 rfl rfl ?_
      refine jx_icmp_ge (pc := 81) hX 109 d_M_make_81 rfl (fun qb => ?_) (fun qb => ?_)
      · have hge : i = 8 := by have : 8 ≤ i := (nI_leI (by omega) (by omega)).mp qb; omega
        subst hge
        refine jx_iconst (pc := 109) hX (v := 0) d_M_make_109 rfl ?_
        refine jx_istore_n (pc := 110) hX d_M_make_110 rfl (by decide) (L' := [(0, _), (1, _), (2, _), (3, _)]) rfl ?_
        exact jx_to (loopC _ 0 σa (σa.2 6) rfl (Nat.zero_le _) hR ha hz5 (fun j hj => absurd hj (Nat.not_lt_zero j))) (sR_self σa 6).symm rfl rfl rfl
      · have hlt : i < 8 := Nat.lt_of_not_le (fun q => qb (nI_le q (by omega)))
        refine jx_aload_n (pc := 84) hX d_M_make_84 rfl rfl ?_
        refine g_M_22 (pc := 85) hX d_M_make_85 ?_
        refine jx_iload_n (pc := 88) hX d_M_make_88 rfl rfl ?_
        refine jx_aload_n (pc := 89) hX d_M_make_89 rfl rfl ?_
        refine g_M_32 (pc := 90) hX d_M_make_90 ?_
        refine jx_iload_n (pc := 93) hX d_M_make_93 rfl rfl ?_
        refine jx_iald (pc := 94) hX oM_7 _ rfl (show i < 80 by omega) d_M_make_94 ?_
        refine jx_top (y := nI (uE 8 i)) ((hR.2.2.2.2.2.2.2 i _ (mk_8.2 i hlt)).2) ?_
        refine jx_iast (pc := 95) hX oM_4 _ rfl (show i < 8 by omega) d_M_make_95 ?_
        refine jx_aload_n (pc := 96) hX d_M_make_96 rfl rfl ?_
        refine g_M_25 (pc := 97) hX d_M_make_97 ?_
        refine jx_iload_n (pc := 100) hX d_M_make_100 rfl rfl ?_
        refine jx_iconst (pc := 101) hX (v := 0) d_M_make_101 rfl ?_
        refine jx_iast (pc := 102) hX oM_5 _ rfl (show i < 8 by omega) d_M_make_102 ?_
        refine jx_iinc (pc := 103) hX (v := nI (i + 1)) d_M_make_103 rfl (nI_1 i) (by decide) (L' := [(0, _), (1, _), (2, _), (3, _)]) rfl ?_
        refine jx_goto (pc := 106) hX 79 d_M_make_106 rfl ?_
        exact ih _ (by omega) (i + 1) (sA (sA σa 4 i (nI (uE 8 i))) 5 i 0) rfl (by omega) hR (ha.pushf rfl) (zero_s hz5)
  refine jx_aload_n (pc := 0) hX d_M_make_0 rfl rfl ?_
  refine jx_iload_n (pc := 1) hX d_M_make_1 rfl rfl ?_
  refine p_M_93 (pc := 2) hX d_M_make_2 ?_
  refine jx_aload_n (pc := 5) hX d_M_make_5 rfl rfl ?_
  refine jx_iload_n (pc := 6) hX d_M_make_6 rfl rfl ?_
  refine p_M_96 (pc := 7) hX d_M_make_7 ?_
  refine jx_aload_n (pc := 10) hX d_M_make_10 rfl rfl ?_
  refine jx_iconst (pc := 11) hX (v := 0) d_M_make_11 rfl ?_
  refine p_M_76 (pc := 12) hX d_M_make_12 ?_
  refine jx_aload_n (pc := 15) hX d_M_make_15 rfl rfl ?_
  refine jx_iconst (pc := 16) hX (v := 0) d_M_make_16 rfl ?_
  refine p_M_99 (pc := 17) hX d_M_make_17 ?_
  refine jx_aload_n (pc := 20) hX d_M_make_20 rfl rfl ?_
  refine jx_iconst (pc := 21) hX (v := 0) d_M_make_21 rfl ?_
  refine p_M_102 (pc := 22) hX d_M_make_22 ?_
  refine jx_iload_n (pc := 25) hX d_M_make_25 rfl rfl ?_
  refine jx_iconst (pc := 26) hX (v := 2) d_M_make_26 rfl ?_
  refine jx_icmp_ne (pc := 27) hX 40 d_M_make_27 rfl (fun _ => ?_) (fun hh => absurd hh (by decide))
  refine jx_iload_n (pc := 40) hX d_M_make_40 rfl rfl ?_
  refine jx_iconst (pc := 41) hX (v := 4) d_M_make_41 rfl ?_
  refine jx_icmp_ne (pc := 42) hX 54 d_M_make_42 rfl (fun _ => ?_) (fun hh => absurd hh (by decide))
  refine jx_aload_n (pc := 54) hX d_M_make_54 rfl rfl ?_
  refine jx_iconst (pc := 55) hX (v := 0) d_M_make_55 rfl ?_
  refine jx_bipush (pc := 56) hX (v := 40) d_M_make_56 rfl ?_
  refine k_M_105 (pc := 58) hX (t_M_layFour (sF (sF (sF (sF (sF σ 1 (nI 8)) 2 (nI ns)) 3 0) 4 0) 5 0) (σ.1 0) 8 ns Ql0 (relQ_0 σ (σ.1 0) 8 ns rfl) 0 40 mk8_ok.1) ⟨rfl, rfl, (Nat.le_of_ble_eq_true rfl), (Nat.le_of_ble_eq_true rfl)⟩ rfl rfl (Nat.le_of_ble_eq_true rfl) ⟨Nat.zero_le _, Nat.zero_le _⟩ d_M_make_58 (fun u1 hu1 => ?_)
  refine jx_aload_n (pc := 61) hX d_M_make_61 rfl rfl ?_
  refine jx_iconst (pc := 62) hX (v := 4) d_M_make_62 rfl ?_
  refine jx_bipush (pc := 63) hX (v := 48) d_M_make_63 rfl ?_
  refine k_M_105 (pc := 65) hX (t_M_layFour u1 (σ.1 0) 8 ns (Ql0.four 0 40) hu1 4 48 mk8_ok.2.1) ⟨rfl, rfl, (Nat.le_of_ble_eq_true rfl), (Nat.le_of_ble_eq_true rfl)⟩ rfl rfl (Nat.le_of_ble_eq_true rfl) ⟨Nat.zero_le _, Nat.zero_le _⟩ d_M_make_65 (fun u2 hu2 => ?_)
  refine jx_aload_n (pc := 68) hX d_M_make_68 rfl rfl ?_
  refine jx_bipush (pc := 69) hX (v := 40) d_M_make_69 rfl ?_
  refine jx_bipush (pc := 71) hX (v := 48) d_M_make_71 rfl ?_
  refine jx_iconst (pc := 73) hX (v := 0) d_M_make_73 rfl ?_
  refine k_M_108 (pc := 74) hX (t_M_mergeFours u2 (σ.1 0) 8 ns ((Ql0.four 0 40).four 4 48) hu2 40 48 0 ⟨by decide, by decide, by decide, mk8_ok.2.2.1, mk8_ok.2.2.2.1, mk8_ok.2.2.2.2⟩) ⟨rfl, rfl, (Nat.le_of_ble_eq_true rfl), (Nat.le_of_ble_eq_true rfl)⟩ rfl rfl (Nat.le_of_ble_eq_true rfl) ⟨Nat.zero_le _, Nat.zero_le _⟩ d_M_make_74 (fun u hu => ?_)
  refine jx_iconst (pc := 77) hX (v := 0) d_M_make_77 rfl ?_
  refine jx_istore_n (pc := 78) hX d_M_make_78 rfl (by decide) (L' := [(0, _), (1, _), (2, _), (3, _)]) rfl ?_
  exact loopB _ 0 u rfl (Nat.zero_le _) hu (fun j hj => absurd hj (Nat.not_lt_zero j)) (fun j hj => absurd hj (Nat.not_lt_zero j))
theorem t_M_make {l : Launch} {D : va_G} {ad : Nat → Nat} {ac : Nat → ClassId} (σ : St) (M : Ms) (w ns : Nat) (hw : Wok w) : jMv l (yM D ad ac) mt_M_make TT (rmk 5) [.ref (ad 19), .int (nI w), .int (nI ns)] σ (fun u => repM u (M.build w ns) ∧ u.1 0 = σ.1 0) := by
  rcases hw with rfl | rfl | rfl
  · exact t_M_make2 σ M ns
  · exact t_M_make4 σ M ns
  · exact t_M_make8 σ M ns
end
