section
-- ===== PART A: goes FIRST, ahead of the names: the tables' words, and 'selects' of the private methods out of them =====
/-- a private method of a class that the tables say can be made, by its rows of tables_1 -/
def lw_okq (q : MethodName × Nat) : Prop := (q.1.cls ≠ "java/lang/invoke/MethodHandle" ∧ q.1.cls ≠ "java/lang/invoke/VarHandle") ∧ Cond.instantiable q.1.cls q.2 ∈ tables_1 ∧ Cond.privateMethod q.1 ∈ tables_1 ∧ Cond.instanceMethod q.1 ∈ tables_1
theorem lw_p0 : lw_okq (⟨"CountingNetwork", "startAnew", "(II)V"⟩, 7) := ⟨⟨by decide +kernel, by decide +kernel⟩, List.mem_of_getElem? (i := 15) (by decide +kernel), List.mem_of_getElem? (i := 136) (by decide +kernel), List.mem_of_getElem? (i := 137) (by decide +kernel)⟩
theorem lw_p1 : lw_okq (⟨"CountingNetwork$Plan", "layOut", "(II)V"⟩, 9) := ⟨⟨by decide +kernel, by decide +kernel⟩, List.mem_of_getElem? (i := 23) (by decide +kernel), List.mem_of_getElem? (i := 144) (by decide +kernel), List.mem_of_getElem? (i := 145) (by decide +kernel)⟩
theorem lw_p2 : lw_okq (⟨"CountingNetwork$Plan", "merge", "(II)V"⟩, 9) := ⟨⟨by decide +kernel, by decide +kernel⟩, List.mem_of_getElem? (i := 23) (by decide +kernel), List.mem_of_getElem? (i := 148) (by decide +kernel), List.mem_of_getElem? (i := 149) (by decide +kernel)⟩
theorem lw_p3 : lw_okq (⟨"CountingNetwork$Plan", "lay", "(II)V"⟩, 9) := ⟨⟨by decide +kernel, by decide +kernel⟩, List.mem_of_getElem? (i := 23) (by decide +kernel), List.mem_of_getElem? (i := 152) (by decide +kernel), List.mem_of_getElem? (i := 153) (by decide +kernel)⟩
theorem lw_p4 : lw_okq (⟨"CountingNetwork$Plan", "sortIntoParts", "(II)V"⟩, 9) := ⟨⟨by decide +kernel, by decide +kernel⟩, List.mem_of_getElem? (i := 23) (by decide +kernel), List.mem_of_getElem? (i := 159) (by decide +kernel), List.mem_of_getElem? (i := 160) (by decide +kernel)⟩
theorem lw_p5 : lw_okq (⟨"CountingNetwork$Plan", "joinParts", "(II)V"⟩, 9) := ⟨⟨by decide +kernel, by decide +kernel⟩, List.mem_of_getElem? (i := 23) (by decide +kernel), List.mem_of_getElem? (i := 166) (by decide +kernel), List.mem_of_getElem? (i := 167) (by decide +kernel)⟩
theorem lw_p6 : lw_okq (⟨"CountingNetwork", "stationOfNext", "(I)I"⟩, 7) := ⟨⟨by decide +kernel, by decide +kernel⟩, List.mem_of_getElem? (i := 15) (by decide +kernel), List.mem_of_getElem? (i := 212) (by decide +kernel), List.mem_of_getElem? (i := 213) (by decide +kernel)⟩
theorem lw_p7 : lw_okq (⟨"CountingNetwork", "nextBalancer", "(I)I"⟩, 7) := ⟨⟨by decide +kernel, by decide +kernel⟩, List.mem_of_getElem? (i := 15) (by decide +kernel), List.mem_of_getElem? (i := 216) (by decide +kernel), List.mem_of_getElem? (i := 217) (by decide +kernel)⟩
theorem lw_p8 : lw_okq (⟨"CountingNetwork", "stationOfExit", "(I)I"⟩, 7) := ⟨⟨by decide +kernel, by decide +kernel⟩, List.mem_of_getElem? (i := 15) (by decide +kernel), List.mem_of_getElem? (i := 228) (by decide +kernel), List.mem_of_getElem? (i := 229) (by decide +kernel)⟩
theorem lw_p9 : lw_okq (⟨"CountingNetwork", "stationOfBalancer", "(I)I"⟩, 7) := ⟨⟨by decide +kernel, by decide +kernel⟩, List.mem_of_getElem? (i := 15) (by decide +kernel), List.mem_of_getElem? (i := 232) (by decide +kernel), List.mem_of_getElem? (i := 233) (by decide +kernel)⟩
theorem lw_p10 : lw_okq (⟨"java/lang/Throwable", "fillInStackTrace", "(I)Ljava/lang/Throwable;"⟩, 6) := ⟨⟨by decide +kernel, by decide +kernel⟩, List.mem_of_getElem? (i := 286) (by decide +kernel), List.mem_of_getElem? (i := 284) (by decide +kernel), List.mem_of_getElem? (i := 285) (by decide +kernel)⟩
theorem lw_p11 : lw_okq (⟨"CountingNetwork", "canStep", "(I)Z"⟩, 7) := ⟨⟨by decide +kernel, by decide +kernel⟩, List.mem_of_getElem? (i := 15) (by decide +kernel), List.mem_of_getElem? (i := 391) (by decide +kernel), List.mem_of_getElem? (i := 392) (by decide +kernel)⟩
theorem lw_p12 : lw_okq (⟨"CountingNetwork", "isDown", "(I)Z"⟩, 7) := ⟨⟨by decide +kernel, by decide +kernel⟩, List.mem_of_getElem? (i := 15) (by decide +kernel), List.mem_of_getElem? (i := 395) (by decide +kernel), List.mem_of_getElem? (i := 396) (by decide +kernel)⟩
theorem lw_p13 : lw_okq (⟨"CountingNetwork", "step", "(I)I"⟩, 7) := ⟨⟨by decide +kernel, by decide +kernel⟩, List.mem_of_getElem? (i := 15) (by decide +kernel), List.mem_of_getElem? (i := 400) (by decide +kernel), List.mem_of_getElem? (i := 401) (by decide +kernel)⟩
theorem lw_p14 : lw_okq (⟨"CountingNetwork", "comeOut", "(II)V"⟩, 7) := ⟨⟨by decide +kernel, by decide +kernel⟩, List.mem_of_getElem? (i := 15) (by decide +kernel), List.mem_of_getElem? (i := 408) (by decide +kernel), List.mem_of_getElem? (i := 409) (by decide +kernel)⟩
theorem lw_p15 : lw_okq (⟨"CountingNetwork", "nextNumberAt", "(I)I"⟩, 7) := ⟨⟨by decide +kernel, by decide +kernel⟩, List.mem_of_getElem? (i := 15) (by decide +kernel), List.mem_of_getElem? (i := 412) (by decide +kernel), List.mem_of_getElem? (i := 413) (by decide +kernel)⟩
def lw_privs_1 : List (MethodName × Nat) := [(⟨"CountingNetwork", "startAnew", "(II)V"⟩, 7), (⟨"CountingNetwork$Plan", "layOut", "(II)V"⟩, 9), (⟨"CountingNetwork$Plan", "merge", "(II)V"⟩, 9), (⟨"CountingNetwork$Plan", "lay", "(II)V"⟩, 9), (⟨"CountingNetwork$Plan", "sortIntoParts", "(II)V"⟩, 9), (⟨"CountingNetwork$Plan", "joinParts", "(II)V"⟩, 9), (⟨"CountingNetwork", "stationOfNext", "(I)I"⟩, 7), (⟨"CountingNetwork", "nextBalancer", "(I)I"⟩, 7), (⟨"CountingNetwork", "stationOfExit", "(I)I"⟩, 7), (⟨"CountingNetwork", "stationOfBalancer", "(I)I"⟩, 7), (⟨"java/lang/Throwable", "fillInStackTrace", "(I)Ljava/lang/Throwable;"⟩, 6), (⟨"CountingNetwork", "canStep", "(I)Z"⟩, 7), (⟨"CountingNetwork", "isDown", "(I)Z"⟩, 7), (⟨"CountingNetwork", "step", "(I)I"⟩, 7), (⟨"CountingNetwork", "comeOut", "(II)V"⟩, 7), (⟨"CountingNetwork", "nextNumberAt", "(I)I"⟩, 7)]
theorem lw_r1 : ∀ q ∈ lw_privs_1, lw_okq q := List.forall_mem_cons.mpr ⟨lw_p0, List.forall_mem_cons.mpr ⟨lw_p1, List.forall_mem_cons.mpr ⟨lw_p2, List.forall_mem_cons.mpr ⟨lw_p3, List.forall_mem_cons.mpr ⟨lw_p4, List.forall_mem_cons.mpr ⟨lw_p5, List.forall_mem_cons.mpr ⟨lw_p6, List.forall_mem_cons.mpr ⟨lw_p7, List.forall_mem_cons.mpr ⟨lw_p8, List.forall_mem_cons.mpr ⟨lw_p9, List.forall_mem_cons.mpr ⟨lw_p10, List.forall_mem_cons.mpr ⟨lw_p11, List.forall_mem_cons.mpr ⟨lw_p12, List.forall_mem_cons.mpr ⟨lw_p13, List.forall_mem_cons.mpr ⟨lw_p14, List.forall_mem_cons.mpr ⟨lw_p15, fun _ h => absurd h List.not_mem_nil⟩⟩⟩⟩⟩⟩⟩⟩⟩⟩⟩⟩⟩⟩⟩⟩
theorem lw_p16 : lw_okq (⟨"CountingNetwork", "goThrough", "(II)V"⟩, 7) := ⟨⟨by decide +kernel, by decide +kernel⟩, List.mem_of_getElem? (i := 15) (by decide +kernel), List.mem_of_getElem? (i := 420) (by decide +kernel), List.mem_of_getElem? (i := 421) (by decide +kernel)⟩
theorem lw_p17 : lw_okq (⟨"CountingNetwork", "handOver", "(I)Z"⟩, 7) := ⟨⟨by decide +kernel, by decide +kernel⟩, List.mem_of_getElem? (i := 15) (by decide +kernel), List.mem_of_getElem? (i := 440) (by decide +kernel), List.mem_of_getElem? (i := 441) (by decide +kernel)⟩
theorem lw_p18 : lw_okq (⟨"CountingNetwork", "shownNumber", "(I)I"⟩, 7) := ⟨⟨by decide +kernel, by decide +kernel⟩, List.mem_of_getElem? (i := 15) (by decide +kernel), List.mem_of_getElem? (i := 490) (by decide +kernel), List.mem_of_getElem? (i := 491) (by decide +kernel)⟩
theorem lw_p19 : lw_okq (⟨"CountingNetwork", "leastMissing", "()I"⟩, 7) := ⟨⟨by decide +kernel, by decide +kernel⟩, List.mem_of_getElem? (i := 15) (by decide +kernel), List.mem_of_getElem? (i := 494) (by decide +kernel), List.mem_of_getElem? (i := 495) (by decide +kernel)⟩
theorem lw_p20 : lw_okq (⟨"CountingNetwork", "highestNumber", "()I"⟩, 7) := ⟨⟨by decide +kernel, by decide +kernel⟩, List.mem_of_getElem? (i := 15) (by decide +kernel), List.mem_of_getElem? (i := 508) (by decide +kernel), List.mem_of_getElem? (i := 509) (by decide +kernel)⟩
theorem lw_p21 : lw_okq (⟨"CountingNetwork", "missingBelowHighest", "()I"⟩, 7) := ⟨⟨by decide +kernel, by decide +kernel⟩, List.mem_of_getElem? (i := 15) (by decide +kernel), List.mem_of_getElem? (i := 513) (by decide +kernel), List.mem_of_getElem? (i := 514) (by decide +kernel)⟩
theorem lw_p22 : lw_okq (⟨"CountingNetwork", "stepAll", "()V"⟩, 7) := ⟨⟨by decide +kernel, by decide +kernel⟩, List.mem_of_getElem? (i := 15) (by decide +kernel), List.mem_of_getElem? (i := 525) (by decide +kernel), List.mem_of_getElem? (i := 526) (by decide +kernel)⟩
theorem lw_p23 : lw_okq (⟨"CountingNetwork", "handOverAll", "()V"⟩, 7) := ⟨⟨by decide +kernel, by decide +kernel⟩, List.mem_of_getElem? (i := 15) (by decide +kernel), List.mem_of_getElem? (i := 529) (by decide +kernel), List.mem_of_getElem? (i := 530) (by decide +kernel)⟩
theorem lw_p24 : lw_okq (⟨"CountingNetworkModel", "make", "(II)V"⟩, 25) := ⟨⟨by decide +kernel, by decide +kernel⟩, List.mem_of_getElem? (i := 533) (by decide +kernel), List.mem_of_getElem? (i := 539) (by decide +kernel), List.mem_of_getElem? (i := 540) (by decide +kernel)⟩
theorem lw_p25 : lw_okq (⟨"CountingNetworkModel", "mergeOnes", "(III)V"⟩, 25) := ⟨⟨by decide +kernel, by decide +kernel⟩, List.mem_of_getElem? (i := 533) (by decide +kernel), List.mem_of_getElem? (i := 543) (by decide +kernel), List.mem_of_getElem? (i := 544) (by decide +kernel)⟩
theorem lw_p26 : lw_okq (⟨"CountingNetworkModel", "lay", "(II)V"⟩, 25) := ⟨⟨by decide +kernel, by decide +kernel⟩, List.mem_of_getElem? (i := 533) (by decide +kernel), List.mem_of_getElem? (i := 547) (by decide +kernel), List.mem_of_getElem? (i := 548) (by decide +kernel)⟩
theorem lw_p27 : lw_okq (⟨"CountingNetworkModel", "layFour", "(II)V"⟩, 25) := ⟨⟨by decide +kernel, by decide +kernel⟩, List.mem_of_getElem? (i := 533) (by decide +kernel), List.mem_of_getElem? (i := 551) (by decide +kernel), List.mem_of_getElem? (i := 552) (by decide +kernel)⟩
theorem lw_p28 : lw_okq (⟨"CountingNetworkModel", "mergeTwos", "(III)V"⟩, 25) := ⟨⟨by decide +kernel, by decide +kernel⟩, List.mem_of_getElem? (i := 533) (by decide +kernel), List.mem_of_getElem? (i := 555) (by decide +kernel), List.mem_of_getElem? (i := 556) (by decide +kernel)⟩
theorem lw_p29 : lw_okq (⟨"CountingNetworkModel", "join", "(IIII)V"⟩, 25) := ⟨⟨by decide +kernel, by decide +kernel⟩, List.mem_of_getElem? (i := 533) (by decide +kernel), List.mem_of_getElem? (i := 559) (by decide +kernel), List.mem_of_getElem? (i := 560) (by decide +kernel)⟩
theorem lw_p30 : lw_okq (⟨"CountingNetworkModel", "mergeFours", "(III)V"⟩, 25) := ⟨⟨by decide +kernel, by decide +kernel⟩, List.mem_of_getElem? (i := 533) (by decide +kernel), List.mem_of_getElem? (i := 563) (by decide +kernel), List.mem_of_getElem? (i := 564) (by decide +kernel)⟩
theorem lw_p31 : lw_okq (⟨"CountingNetworkModel", "refuse", "(ZZ)Z"⟩, 25) := ⟨⟨by decide +kernel, by decide +kernel⟩, List.mem_of_getElem? (i := 533) (by decide +kernel), List.mem_of_getElem? (i := 654) (by decide +kernel), List.mem_of_getElem? (i := 655) (by decide +kernel)⟩
def lw_privs_2 : List (MethodName × Nat) := [(⟨"CountingNetwork", "goThrough", "(II)V"⟩, 7), (⟨"CountingNetwork", "handOver", "(I)Z"⟩, 7), (⟨"CountingNetwork", "shownNumber", "(I)I"⟩, 7), (⟨"CountingNetwork", "leastMissing", "()I"⟩, 7), (⟨"CountingNetwork", "highestNumber", "()I"⟩, 7), (⟨"CountingNetwork", "missingBelowHighest", "()I"⟩, 7), (⟨"CountingNetwork", "stepAll", "()V"⟩, 7), (⟨"CountingNetwork", "handOverAll", "()V"⟩, 7), (⟨"CountingNetworkModel", "make", "(II)V"⟩, 25), (⟨"CountingNetworkModel", "mergeOnes", "(III)V"⟩, 25), (⟨"CountingNetworkModel", "lay", "(II)V"⟩, 25), (⟨"CountingNetworkModel", "layFour", "(II)V"⟩, 25), (⟨"CountingNetworkModel", "mergeTwos", "(III)V"⟩, 25), (⟨"CountingNetworkModel", "join", "(IIII)V"⟩, 25), (⟨"CountingNetworkModel", "mergeFours", "(III)V"⟩, 25), (⟨"CountingNetworkModel", "refuse", "(ZZ)Z"⟩, 25)]
theorem lw_r2 : ∀ q ∈ lw_privs_2, lw_okq q := List.forall_mem_cons.mpr ⟨lw_p16, List.forall_mem_cons.mpr ⟨lw_p17, List.forall_mem_cons.mpr ⟨lw_p18, List.forall_mem_cons.mpr ⟨lw_p19, List.forall_mem_cons.mpr ⟨lw_p20, List.forall_mem_cons.mpr ⟨lw_p21, List.forall_mem_cons.mpr ⟨lw_p22, List.forall_mem_cons.mpr ⟨lw_p23, List.forall_mem_cons.mpr ⟨lw_p24, List.forall_mem_cons.mpr ⟨lw_p25, List.forall_mem_cons.mpr ⟨lw_p26, List.forall_mem_cons.mpr ⟨lw_p27, List.forall_mem_cons.mpr ⟨lw_p28, List.forall_mem_cons.mpr ⟨lw_p29, List.forall_mem_cons.mpr ⟨lw_p30, List.forall_mem_cons.mpr ⟨lw_p31, fun _ h => absurd h List.not_mem_nil⟩⟩⟩⟩⟩⟩⟩⟩⟩⟩⟩⟩⟩⟩⟩⟩
theorem lw_p32 : lw_okq (⟨"CountingNetworkModel", "left", "()I"⟩, 25) := ⟨⟨by decide +kernel, by decide +kernel⟩, List.mem_of_getElem? (i := 533) (by decide +kernel), List.mem_of_getElem? (i := 670) (by decide +kernel), List.mem_of_getElem? (i := 671) (by decide +kernel)⟩
theorem lw_p33 : lw_okq (⟨"CountingNetworkModel", "isStuck", "(I)Z"⟩, 25) := ⟨⟨by decide +kernel, by decide +kernel⟩, List.mem_of_getElem? (i := 533) (by decide +kernel), List.mem_of_getElem? (i := 678) (by decide +kernel), List.mem_of_getElem? (i := 679) (by decide +kernel)⟩
theorem lw_p34 : lw_okq (⟨"CountingNetworkModel", "stationOf", "(I)I"⟩, 25) := ⟨⟨by decide +kernel, by decide +kernel⟩, List.mem_of_getElem? (i := 533) (by decide +kernel), List.mem_of_getElem? (i := 682) (by decide +kernel), List.mem_of_getElem? (i := 683) (by decide +kernel)⟩
theorem lw_p35 : lw_okq (⟨"CountingNetworkModel", "nextOf", "(I)I"⟩, 25) := ⟨⟨by decide +kernel, by decide +kernel⟩, List.mem_of_getElem? (i := 533) (by decide +kernel), List.mem_of_getElem? (i := 686) (by decide +kernel), List.mem_of_getElem? (i := 687) (by decide +kernel)⟩
theorem lw_p36 : lw_okq (⟨"CountingNetworkModel", "exitOf", "(I)I"⟩, 25) := ⟨⟨by decide +kernel, by decide +kernel⟩, List.mem_of_getElem? (i := 533) (by decide +kernel), List.mem_of_getElem? (i := 690) (by decide +kernel), List.mem_of_getElem? (i := 691) (by decide +kernel)⟩
theorem lw_p37 : lw_okq (⟨"CountingNetworkModel", "step", "(I)I"⟩, 25) := ⟨⟨by decide +kernel, by decide +kernel⟩, List.mem_of_getElem? (i := 533) (by decide +kernel), List.mem_of_getElem? (i := 694) (by decide +kernel), List.mem_of_getElem? (i := 695) (by decide +kernel)⟩
theorem lw_p38 : lw_okq (⟨"CountingNetworkModel", "post", "(I)V"⟩, 25) := ⟨⟨by decide +kernel, by decide +kernel⟩, List.mem_of_getElem? (i := 533) (by decide +kernel), List.mem_of_getElem? (i := 698) (by decide +kernel), List.mem_of_getElem? (i := 699) (by decide +kernel)⟩
theorem lw_p39 : lw_okq (⟨"CountingNetworkModel", "take", "(I)V"⟩, 25) := ⟨⟨by decide +kernel, by decide +kernel⟩, List.mem_of_getElem? (i := 533) (by decide +kernel), List.mem_of_getElem? (i := 706) (by decide +kernel), List.mem_of_getElem? (i := 707) (by decide +kernel)⟩
theorem lw_p40 : lw_okq (⟨"CountingNetworkModel", "hasLetter", "(I)Z"⟩, 25) := ⟨⟨by decide +kernel, by decide +kernel⟩, List.mem_of_getElem? (i := 533) (by decide +kernel), List.mem_of_getElem? (i := 726) (by decide +kernel), List.mem_of_getElem? (i := 727) (by decide +kernel)⟩
theorem lw_p41 : lw_okq (⟨"CountingNetworkModel", "shown", "(I)I"⟩, 25) := ⟨⟨by decide +kernel, by decide +kernel⟩, List.mem_of_getElem? (i := 533) (by decide +kernel), List.mem_of_getElem? (i := 738) (by decide +kernel), List.mem_of_getElem? (i := 739) (by decide +kernel)⟩
theorem lw_p42 : lw_okq (⟨"CountingNetworkModel", "isHanded", "(I)Z"⟩, 25) := ⟨⟨by decide +kernel, by decide +kernel⟩, List.mem_of_getElem? (i := 533) (by decide +kernel), List.mem_of_getElem? (i := 742) (by decide +kernel), List.mem_of_getElem? (i := 743) (by decide +kernel)⟩
theorem lw_p43 : lw_okq (⟨"CountingNetworkModel", "highest", "()I"⟩, 25) := ⟨⟨by decide +kernel, by decide +kernel⟩, List.mem_of_getElem? (i := 533) (by decide +kernel), List.mem_of_getElem? (i := 750) (by decide +kernel), List.mem_of_getElem? (i := 751) (by decide +kernel)⟩
theorem lw_p44 : lw_okq (⟨"CountingNetworkModel", "gaps", "()I"⟩, 25) := ⟨⟨by decide +kernel, by decide +kernel⟩, List.mem_of_getElem? (i := 533) (by decide +kernel), List.mem_of_getElem? (i := 754) (by decide +kernel), List.mem_of_getElem? (i := 755) (by decide +kernel)⟩
def lw_privs_3 : List (MethodName × Nat) := [(⟨"CountingNetworkModel", "left", "()I"⟩, 25), (⟨"CountingNetworkModel", "isStuck", "(I)Z"⟩, 25), (⟨"CountingNetworkModel", "stationOf", "(I)I"⟩, 25), (⟨"CountingNetworkModel", "nextOf", "(I)I"⟩, 25), (⟨"CountingNetworkModel", "exitOf", "(I)I"⟩, 25), (⟨"CountingNetworkModel", "step", "(I)I"⟩, 25), (⟨"CountingNetworkModel", "post", "(I)V"⟩, 25), (⟨"CountingNetworkModel", "take", "(I)V"⟩, 25), (⟨"CountingNetworkModel", "hasLetter", "(I)Z"⟩, 25), (⟨"CountingNetworkModel", "shown", "(I)I"⟩, 25), (⟨"CountingNetworkModel", "isHanded", "(I)Z"⟩, 25), (⟨"CountingNetworkModel", "highest", "()I"⟩, 25), (⟨"CountingNetworkModel", "gaps", "()I"⟩, 25)]
theorem lw_r3 : ∀ q ∈ lw_privs_3, lw_okq q := List.forall_mem_cons.mpr ⟨lw_p32, List.forall_mem_cons.mpr ⟨lw_p33, List.forall_mem_cons.mpr ⟨lw_p34, List.forall_mem_cons.mpr ⟨lw_p35, List.forall_mem_cons.mpr ⟨lw_p36, List.forall_mem_cons.mpr ⟨lw_p37, List.forall_mem_cons.mpr ⟨lw_p38, List.forall_mem_cons.mpr ⟨lw_p39, List.forall_mem_cons.mpr ⟨lw_p40, List.forall_mem_cons.mpr ⟨lw_p41, List.forall_mem_cons.mpr ⟨lw_p42, List.forall_mem_cons.mpr ⟨lw_p43, List.forall_mem_cons.mpr ⟨lw_p44, fun _ h => absurd h List.not_mem_nil⟩⟩⟩⟩⟩⟩⟩⟩⟩⟩⟩⟩⟩
def lw_privs : List (MethodName × Nat) := lw_privs_1 ++ (lw_privs_2 ++ (lw_privs_3))
def lw_tbl : List Cond := k2_sels lw_privs ++ tables_1
theorem lw_privs_ok : ∀ q ∈ lw_privs, lw_okq q := by
  show ∀ q ∈ lw_privs_1 ++ (lw_privs_2 ++ (lw_privs_3)), lw_okq q
  exact List.forall_mem_append.mpr ⟨lw_r1, List.forall_mem_append.mpr ⟨lw_r2, lw_r3⟩⟩
def TT : List Cond := lw_tbl.filter goodWord
theorem TT_good : ∀ w ∈ TT, goodWord w = true := fun _ h => (List.mem_filter.mp h).2
theorem TT_mem {w : Cond} (h : w ∈ lw_tbl) (g : goodWord w = true) : w ∈ TT := List.mem_filter.mpr ⟨h, g⟩
end
section
/-! My own layer over the kit's rows: a method's walk over a state St (scalars, arrays) of one side. -/
abbrev St : Type := (Nat → Int32) × (Nat → Nat → Int32)
def sF (σ : St) (k : Nat) (v : Int32) : St := (va_up σ.1 k v, σ.2)
def sR (σ : St) (k : Nat) (f : Nat → Int32) : St := (σ.1, va_up σ.2 k f)
def sA (σ : St) (k i : Nat) (v : Int32) : St := sR σ k (upd (σ.2 k) i v)
abbrev Cx : Type := Program × Env × Room × State × MethodId × Array Value × List Frame × Method × Code
abbrev Cx.p (X : Cx) : Program := X.1
abbrev Cx.e (X : Cx) : Env := X.2.1
abbrev Cx.R (X : Cx) : Room := X.2.2.1
abbrev Cx.s (X : Cx) : State := X.2.2.2.1
abbrev Cx.m (X : Cx) : MethodId := X.2.2.2.2.1
abbrev Cx.args (X : Cx) : Array Value := X.2.2.2.2.2.1
abbrev Cx.below (X : Cx) : List Frame := X.2.2.2.2.2.2.1
abbrev Cx.meth (X : Cx) : Method := X.2.2.2.2.2.2.2.1
abbrev Cx.c (X : Cx) : Code := X.2.2.2.2.2.2.2.2
abbrev Wx : Type := va_G × List vw_C × List (ClassId × FieldType) × (St → va_W)
abbrev Wx.D (Y : Wx) : va_G := Y.1
abbrev Wx.cl (Y : Wx) : List vw_C := Y.2.1
abbrev Wx.tys (Y : Wx) : List (ClassId × FieldType) := Y.2.2.1
abbrev Wx.sh (Y : Wx) : St → va_W := Y.2.2.2
abbrev Mt : Type := MethodName × ByteArray × Nat × Option FieldType
abbrev Mt.y (t : Mt) : MethodName := t.1
abbrev Mt.b (t : Mt) : ByteArray := t.2.1
abbrev Mt.n (t : Mt) : Nat := t.2.2.1
abbrev Mt.r (t : Mt) : Option FieldType := t.2.2.2
abbrev Mt.w (t : Mt) : Cond := Cond.code t.y t.b t.n t.r
abbrev Lv : Type := List (Nat × Value)
def lput (L : Lv) (i : Nat) (v : Value) : Lv := if L.any (fun q => q.1 == i) then L.map (fun q => if q.1 == i then (i, v) else q) else L ++ [(i, v)]
def lget : Lv → Nat → Option Value
  | [], _ => none
  | q :: r, i => if q.1 == i then some q.2 else lget r i
theorem lget_mem : ∀ (L : Lv) (i : Nat) (v : Value), lget L i = some v → (i, v) ∈ L
  | [], _, _, h => by cases h
  | q :: r, i, v, h => by
    unfold lget at h
    split at h
    · rename_i hq
      have h1 : q.1 = i := by simpa using hq
      have h2 : q.2 = v := by simpa using h
      have : q = (i, v) := by rw [← h1, ← h2]
      rw [this]; exact List.mem_cons_self
    · exact List.mem_cons_of_mem _ (lget_mem r i v h)
theorem lput_mem {L : Lv} {i : Nat} {v : Value} {q : Nat × Value} (h : q ∈ lput L i v) : q = (i, v) ∨ (q ∈ L ∧ q.1 ≠ i) := by
  unfold lput at h
  split at h
  · obtain ⟨r, hr, he⟩ := List.mem_map.mp h
    by_cases hi : r.1 = i
    · rw [if_pos (by simpa using hi)] at he
      exact Or.inl he.symm
    · rw [if_neg (by simpa using hi)] at he
      subst he
      exact Or.inr ⟨hr, hi⟩
  · rename_i hn
    rcases List.mem_append.mp h with h | h
    · refine Or.inr ⟨h, fun hi => hn ?_⟩
      exact List.any_eq_true.mpr ⟨q, h, by simpa using hi⟩
    · exact Or.inl (by simpa using h)
def jL (ls : Array Slot) (nL : Nat) (L : Lv) : Prop := lv_has ls nL L ∧ ∀ q ∈ L, q.2.category = 1
theorem jL.get {ls : Array Slot} {nL : Nat} {L : Lv} (h : jL ls nL L) {i : Nat} {v : Value} (hv : lget L i = some v) : ls[i]? = some (.val v) := h.1.2.2 (i, v) (lget_mem L i v hv)
theorem jL.put {ls : Array Slot} {nL : Nat} {L : Lv} (hc : ∀ q ∈ L, q.2.category = 1) {i : Nat} {v : Value} (hv : v.category = 1)
    (h : lv_has ls nL ((i, v) :: L.filter (fun q => !(q.1 == i) && !(q.1 + 1 == i && q.2.category == 2)))) : jL ls nL (lput L i v) := by
  refine ⟨⟨h.1, h.2.1, fun q hq => ?_⟩, fun q hq => ?_⟩
  · rcases lput_mem hq with rfl | ⟨hq, hi⟩
    · exact h.2.2 _ List.mem_cons_self
    · refine h.2.2 _ (List.mem_cons_of_mem _ (List.mem_filter.mpr ⟨hq, ?_⟩))
      have h1 := hc q hq
      simp [hi, h1]
  · rcases lput_mem hq with rfl | ⟨hq, -⟩
    · exact hv
    · exact hc q hq
/-- a walk of a method over one side's state -/
def kT : Heap → List Loc → Prop := fun _ _ => True
def k0 (X : Cx) : Heap → List Loc → Prop := fun H locs => H = X.s.heap ∧ locs = []
def jW (l : Launch) (X : Cx) (Y : Wx) (A : Nat → Prop) (nL cells slots : Nat) (K : Heap → List Loc → Prop) (Q : State → Prop) (σ : St) (pc : Nat) (L : Lv) (st : List Value) : Prop :=
  ∀ (H : Heap) (locs : List Loc) (ls : Array Slot), K H locs → va_P Y.D Y.cl (Y.sh σ) H → va_D A (Y.sh σ) → va_S A X.s.heap H locs → jL ls nL L →
    W X.p l X.e X.R X.s X.m X.args X.below X.meth X.c H locs cells slots Q (F0 X.m pc ls st)
/-- what stands fixed in a method's walk -/
def jX (X : Cx) (Y : Wx) (A : Nat → Prop) (cc : ByteArray) (nL : Nat) (own : String) (Ts : List Cond) (R : Room) (ret : Option FieldType) : Prop :=
  X.p.tables.exec = Jvm.exec ∧ X.c.code = cc ∧ X.c.maxLocals = nL ∧ X.s.vm.findClass own = some X.m.cls ∧ (∀ w ∈ Ts, w.before X.args X.s = true) ∧
    va_K Y.D Y.cl Y.tys X.s ∧ (∀ q, X.s.heap.size ≤ q → A q) ∧ X.R = R ∧ X.meth.sig.returnType = ret ∧ X.meth.locks = false
section JPure
variable {l : Launch} {X : Cx} {Y : Wx} {A : Nat → Prop} {cc : ByteArray} {nL : Nat} {own : String} {Ts : List Cond} {R : Room} {ret : Option FieldType} {cells slots : Nat} {K : Heap → List Loc → Prop} {Q : State → Prop} {σ : St} {pc : Nat} {L : Lv} {rest : List Value}
theorem jx_iconst (h : jX X Y A cc nL own Ts R ret) {n : Int} {v : Int32} (hd : decode cc pc = .ok (.iconst n, 1)) (hv : Int32.ofInt n = v) (k : jW l X Y A nL cells slots K Q σ (pc + 1) L (.int v :: rest)) : jW l X Y A nL cells slots K Q σ pc L rest :=
  fun H locs ls hk hP hD hS hl => lv_iconst h.1 h.2.1 hd hv (k H locs ls hk hP hD hS hl)
theorem jx_bipush (h : jX X Y A cc nL own Ts R ret) {n : Int} {v : Int32} (hd : decode cc pc = .ok (.bipush n, 2)) (hv : (Int8.ofInt n).toInt32 = v) (k : jW l X Y A nL cells slots K Q σ (pc + 2) L (.int v :: rest)) : jW l X Y A nL cells slots K Q σ pc L rest :=
  fun H locs ls hk hP hD hS hl => lv_bipush h.1 h.2.1 hd hv (k H locs ls hk hP hD hS hl)
theorem jx_sipush (h : jX X Y A cc nL own Ts R ret) {n : Int} {v : Int32} (hd : decode cc pc = .ok (.sipush n, 3)) (hv : (Int16.ofInt n).toInt32 = v) (k : jW l X Y A nL cells slots K Q σ (pc + 3) L (.int v :: rest)) : jW l X Y A nL cells slots K Q σ pc L rest :=
  fun H locs ls hk hP hD hS hl => lv_sipush h.1 h.2.1 hd hv (k H locs ls hk hP hD hS hl)
theorem jx_iload_n (h : jX X Y A cc nL own Ts R ret) {k : Fin 4} {i : Nat} {x : Int32} (hd : decode cc pc = .ok (.iload_n k, 1)) (hi : (k : Nat) = i) (hv : lget L i = some (.int x)) (kk : jW l X Y A nL cells slots K Q σ (pc + 1) L (.int x :: rest)) : jW l X Y A nL cells slots K Q σ pc L rest :=
  fun H locs ls hk hP hD hS hl => lv_iload_n h.1 h.2.1 hd hi (hl.get hv) (kk H locs ls hk hP hD hS hl)
theorem jx_iload (h : jX X Y A cc nL own Ts R ret) {i : Nat} {x : Int32} (hd : decode cc pc = .ok (.iload i, 2)) (hv : lget L i = some (.int x)) (kk : jW l X Y A nL cells slots K Q σ (pc + 2) L (.int x :: rest)) : jW l X Y A nL cells slots K Q σ pc L rest :=
  fun H locs ls hk hP hD hS hl => lv_iload h.1 h.2.1 hd (hl.get hv) (kk H locs ls hk hP hD hS hl)
theorem jx_aload_n (h : jX X Y A cc nL own Ts R ret) {k : Fin 4} {i : Nat} {x : Nat} (hd : decode cc pc = .ok (.aload_n k, 1)) (hi : (k : Nat) = i) (hv : lget L i = some (.ref x)) (kk : jW l X Y A nL cells slots K Q σ (pc + 1) L (.ref x :: rest)) : jW l X Y A nL cells slots K Q σ pc L rest :=
  fun H locs ls hk hP hD hS hl => lv_aload_n h.1 h.2.1 hd hi (hl.get hv) (kk H locs ls hk hP hD hS hl)
theorem jx_aload (h : jX X Y A cc nL own Ts R ret) {i : Nat} {x : Nat} (hd : decode cc pc = .ok (.aload i, 2)) (hv : lget L i = some (.ref x)) (kk : jW l X Y A nL cells slots K Q σ (pc + 2) L (.ref x :: rest)) : jW l X Y A nL cells slots K Q σ pc L rest :=
  fun H locs ls hk hP hD hS hl => lv_aload h.1 h.2.1 hd (hl.get hv) (kk H locs ls hk hP hD hS hl)
theorem jx_istore_n (h : jX X Y A cc nL own Ts R ret) {k : Fin 4} {i : Nat} {x : Int32} {L' : Lv} (hd : decode cc pc = .ok (.istore_n k, 1)) (hi : (k : Nat) = i) (hn : i < nL) (hL : lput L i (.int x) = L') (kk : jW l X Y A nL cells slots K Q σ (pc + 1) L' rest) : jW l X Y A nL cells slots K Q σ pc L (.int x :: rest) :=
  fun H locs _ hk hP hD hS hl => lv_istore_n h.1 h.2.1 hd hi hl.1 hn rfl (fun ls' h' => kk H locs ls' hk hP hD hS (hL ▸ jL.put hl.2 rfl h'))
theorem jx_istore (h : jX X Y A cc nL own Ts R ret) {i : Nat} {x : Int32} {L' : Lv} (hd : decode cc pc = .ok (.istore i, 2)) (hn : i < nL) (hL : lput L i (.int x) = L') (kk : jW l X Y A nL cells slots K Q σ (pc + 2) L' rest) : jW l X Y A nL cells slots K Q σ pc L (.int x :: rest) :=
  fun H locs _ hk hP hD hS hl => lv_istore h.1 h.2.1 hd hl.1 hn rfl (fun ls' h' => kk H locs ls' hk hP hD hS (hL ▸ jL.put hl.2 rfl h'))
theorem jx_iinc (h : jX X Y A cc nL own Ts R ret) {i : Nat} {n : Int} {x v : Int32} {L' : Lv} (hd : decode cc pc = .ok (.iinc i n, 3)) (hx : lget L i = some (.int x)) (hv : x + Int32.ofInt n = v) (hn : i < nL) (hL : lput L i (.int v) = L') (kk : jW l X Y A nL cells slots K Q σ (pc + 3) L' rest) : jW l X Y A nL cells slots K Q σ pc L rest :=
  fun H locs _ hk hP hD hS hl => by
    obtain ⟨k, hk9⟩ := List.getElem?_of_mem (lget_mem L i _ hx)
    exact lv_iinc h.1 h.2.1 hd hl.1 hk9 hv hn rfl (fun ls' h' => kk H locs ls' hk hP hD hS (hL ▸ jL.put hl.2 rfl h'))
theorem jx_iadd (h : jX X Y A cc nL own Ts R ret) {x y : Int32} (hd : decode cc pc = .ok (.iadd, 1)) (k : jW l X Y A nL cells slots K Q σ (pc + 1) L (.int (x + y) :: rest)) : jW l X Y A nL cells slots K Q σ pc L (.int y :: .int x :: rest) :=
  fun H locs ls hk hP hD hS hl => lv_iadd h.1 h.2.1 hd (k H locs ls hk hP hD hS hl)
theorem jx_isub (h : jX X Y A cc nL own Ts R ret) {x y : Int32} (hd : decode cc pc = .ok (.isub, 1)) (k : jW l X Y A nL cells slots K Q σ (pc + 1) L (.int (x - y) :: rest)) : jW l X Y A nL cells slots K Q σ pc L (.int y :: .int x :: rest) :=
  fun H locs ls hk hP hD hS hl => lv_isub h.1 h.2.1 hd (k H locs ls hk hP hD hS hl)
theorem jx_imul (h : jX X Y A cc nL own Ts R ret) {x y : Int32} (hd : decode cc pc = .ok (.imul, 1)) (k : jW l X Y A nL cells slots K Q σ (pc + 1) L (.int (x * y) :: rest)) : jW l X Y A nL cells slots K Q σ pc L (.int y :: .int x :: rest) :=
  fun H locs ls hk hP hD hS hl => lv_imul h.1 h.2.1 hd (k H locs ls hk hP hD hS hl)
theorem jx_idiv (h : jX X Y A cc nL own Ts R ret) {x y : Int32} (hd : decode cc pc = .ok (.idiv, 1)) (hne : ¬ y = 0) (k : jW l X Y A nL cells slots K Q σ (pc + 1) L (.int (x / y) :: rest)) : jW l X Y A nL cells slots K Q σ pc L (.int y :: .int x :: rest) :=
  fun H locs ls hk hP hD hS hl => lv_idiv h.1 h.2.1 hd hne (k H locs ls hk hP hD hS hl)
theorem jx_irem (h : jX X Y A cc nL own Ts R ret) {x y : Int32} (hd : decode cc pc = .ok (.irem, 1)) (hne : ¬ y = 0) (k : jW l X Y A nL cells slots K Q σ (pc + 1) L (.int (x - x / y * y) :: rest)) : jW l X Y A nL cells slots K Q σ pc L (.int y :: .int x :: rest) :=
  fun H locs ls hk hP hD hS hl => lv_irem h.1 h.2.1 hd hne (k H locs ls hk hP hD hS hl)
theorem jx_dup (h : jX X Y A cc nL own Ts R ret) {va : Value} (hd : decode cc pc = .ok (.dup, 1)) (ha : va.category = 1) (k : jW l X Y A nL cells slots K Q σ (pc + 1) L (va :: va :: rest)) : jW l X Y A nL cells slots K Q σ pc L (va :: rest) :=
  fun H locs ls hk hP hD hS hl => lv_dup h.1 h.2.1 hd ha (k H locs ls hk hP hD hS hl)
theorem jx_dup2 (h : jX X Y A cc nL own Ts R ret) {va vb : Value} (hd : decode cc pc = .ok (.dup2, 1)) (ha : va.category = 1) (hb : vb.category = 1) (k : jW l X Y A nL cells slots K Q σ (pc + 1) L (va :: vb :: va :: vb :: rest)) : jW l X Y A nL cells slots K Q σ pc L (va :: vb :: rest) :=
  fun H locs ls hk hP hD hS hl => lv_dup2_11 h.1 h.2.1 hd ha hb (k H locs ls hk hP hD hS hl)
theorem jx_dup_x1 (h : jX X Y A cc nL own Ts R ret) {va vb : Value} (hd : decode cc pc = .ok (.dup_x1, 1)) (ha : va.category = 1) (hb : vb.category = 1) (k : jW l X Y A nL cells slots K Q σ (pc + 1) L (va :: vb :: va :: rest)) : jW l X Y A nL cells slots K Q σ pc L (va :: vb :: rest) :=
  fun H locs ls hk hP hD hS hl => lv_dup_x1 h.1 h.2.1 hd ha hb (k H locs ls hk hP hD hS hl)
theorem jx_pop (h : jX X Y A cc nL own Ts R ret) {va : Value} (hd : decode cc pc = .ok (.pop, 1)) (ha : va.category = 1) (k : jW l X Y A nL cells slots K Q σ (pc + 1) L rest) : jW l X Y A nL cells slots K Q σ pc L (va :: rest) :=
  fun H locs ls hk hP hD hS hl => lv_pop h.1 h.2.1 hd ha (k H locs ls hk hP hD hS hl)
theorem jx_goto (h : jX X Y A cc nL own Ts R ret) {off : Int} (tgt : Nat) (hd : decode cc pc = .ok (.goto off, 3)) (ht : (pc : Int) + off = (tgt : Int)) (k : jW l X Y A nL cells slots K Q σ tgt L rest) : jW l X Y A nL cells slots K Q σ pc L rest :=
  fun H locs ls hk hP hD hS hl => lv_goto h.1 h.2.1 hd ht (k H locs ls hk hP hD hS hl)
theorem jx_if_eq (h : jX X Y A cc nL own Ts R ret) {x : Int32} {off : Int} (tgt : Nat) (hd : decode cc pc = .ok (.ifCond .eq off, 3)) (ht : (pc : Int) + off = (tgt : Int)) (kt : x = 0 → jW l X Y A nL cells slots K Q σ tgt L rest) (kf : ¬ x = 0 → jW l X Y A nL cells slots K Q σ (pc + 3) L rest) : jW l X Y A nL cells slots K Q σ pc L (.int x :: rest) :=
  fun H locs ls hk hP hD hS hl => lv_if_eq h.1 h.2.1 hd ht (fun q => kt q H locs ls hk hP hD hS hl) (fun q => kf q H locs ls hk hP hD hS hl)
theorem jx_if_ne (h : jX X Y A cc nL own Ts R ret) {x : Int32} {off : Int} (tgt : Nat) (hd : decode cc pc = .ok (.ifCond .ne off, 3)) (ht : (pc : Int) + off = (tgt : Int)) (kt : ¬ x = 0 → jW l X Y A nL cells slots K Q σ tgt L rest) (kf : x = 0 → jW l X Y A nL cells slots K Q σ (pc + 3) L rest) : jW l X Y A nL cells slots K Q σ pc L (.int x :: rest) :=
  fun H locs ls hk hP hD hS hl => lv_if_ne h.1 h.2.1 hd ht (fun q => kt q H locs ls hk hP hD hS hl) (fun q => kf q H locs ls hk hP hD hS hl)
theorem jx_if_lt (h : jX X Y A cc nL own Ts R ret) {x : Int32} {off : Int} (tgt : Nat) (hd : decode cc pc = .ok (.ifCond .lt off, 3)) (ht : (pc : Int) + off = (tgt : Int)) (kt : x < 0 → jW l X Y A nL cells slots K Q σ tgt L rest) (kf : ¬ x < 0 → jW l X Y A nL cells slots K Q σ (pc + 3) L rest) : jW l X Y A nL cells slots K Q σ pc L (.int x :: rest) :=
  fun H locs ls hk hP hD hS hl => lv_if_lt h.1 h.2.1 hd ht (fun q => kt q H locs ls hk hP hD hS hl) (fun q => kf q H locs ls hk hP hD hS hl)
theorem jx_if_ge (h : jX X Y A cc nL own Ts R ret) {x : Int32} {off : Int} (tgt : Nat) (hd : decode cc pc = .ok (.ifCond .ge off, 3)) (ht : (pc : Int) + off = (tgt : Int)) (kt : 0 ≤ x → jW l X Y A nL cells slots K Q σ tgt L rest) (kf : ¬ 0 ≤ x → jW l X Y A nL cells slots K Q σ (pc + 3) L rest) : jW l X Y A nL cells slots K Q σ pc L (.int x :: rest) :=
  fun H locs ls hk hP hD hS hl => lv_if_ge h.1 h.2.1 hd ht (fun q => kt q H locs ls hk hP hD hS hl) (fun q => kf q H locs ls hk hP hD hS hl)
theorem jx_if_gt (h : jX X Y A cc nL own Ts R ret) {x : Int32} {off : Int} (tgt : Nat) (hd : decode cc pc = .ok (.ifCond .gt off, 3)) (ht : (pc : Int) + off = (tgt : Int)) (kt : 0 < x → jW l X Y A nL cells slots K Q σ tgt L rest) (kf : ¬ 0 < x → jW l X Y A nL cells slots K Q σ (pc + 3) L rest) : jW l X Y A nL cells slots K Q σ pc L (.int x :: rest) :=
  fun H locs ls hk hP hD hS hl => lv_if_gt h.1 h.2.1 hd ht (fun q => kt q H locs ls hk hP hD hS hl) (fun q => kf q H locs ls hk hP hD hS hl)
theorem jx_if_le (h : jX X Y A cc nL own Ts R ret) {x : Int32} {off : Int} (tgt : Nat) (hd : decode cc pc = .ok (.ifCond .le off, 3)) (ht : (pc : Int) + off = (tgt : Int)) (kt : x ≤ 0 → jW l X Y A nL cells slots K Q σ tgt L rest) (kf : ¬ x ≤ 0 → jW l X Y A nL cells slots K Q σ (pc + 3) L rest) : jW l X Y A nL cells slots K Q σ pc L (.int x :: rest) :=
  fun H locs ls hk hP hD hS hl => lv_if_le h.1 h.2.1 hd ht (fun q => kt q H locs ls hk hP hD hS hl) (fun q => kf q H locs ls hk hP hD hS hl)
theorem jx_icmp_eq (h : jX X Y A cc nL own Ts R ret) {x y : Int32} {off : Int} (tgt : Nat) (hd : decode cc pc = .ok (.if_icmp .eq off, 3)) (ht : (pc : Int) + off = (tgt : Int)) (kt : x = y → jW l X Y A nL cells slots K Q σ tgt L rest) (kf : ¬ x = y → jW l X Y A nL cells slots K Q σ (pc + 3) L rest) : jW l X Y A nL cells slots K Q σ pc L (.int y :: .int x :: rest) :=
  fun H locs ls hk hP hD hS hl => lv_icmp_eq h.1 h.2.1 hd ht (fun q => kt q H locs ls hk hP hD hS hl) (fun q => kf q H locs ls hk hP hD hS hl)
theorem jx_icmp_ne (h : jX X Y A cc nL own Ts R ret) {x y : Int32} {off : Int} (tgt : Nat) (hd : decode cc pc = .ok (.if_icmp .ne off, 3)) (ht : (pc : Int) + off = (tgt : Int)) (kt : ¬ x = y → jW l X Y A nL cells slots K Q σ tgt L rest) (kf : x = y → jW l X Y A nL cells slots K Q σ (pc + 3) L rest) : jW l X Y A nL cells slots K Q σ pc L (.int y :: .int x :: rest) :=
  fun H locs ls hk hP hD hS hl => lv_icmp_ne h.1 h.2.1 hd ht (fun q => kt q H locs ls hk hP hD hS hl) (fun q => kf q H locs ls hk hP hD hS hl)
theorem jx_icmp_lt (h : jX X Y A cc nL own Ts R ret) {x y : Int32} {off : Int} (tgt : Nat) (hd : decode cc pc = .ok (.if_icmp .lt off, 3)) (ht : (pc : Int) + off = (tgt : Int)) (kt : x < y → jW l X Y A nL cells slots K Q σ tgt L rest) (kf : ¬ x < y → jW l X Y A nL cells slots K Q σ (pc + 3) L rest) : jW l X Y A nL cells slots K Q σ pc L (.int y :: .int x :: rest) :=
  fun H locs ls hk hP hD hS hl => lv_icmp_lt h.1 h.2.1 hd ht (fun q => kt q H locs ls hk hP hD hS hl) (fun q => kf q H locs ls hk hP hD hS hl)
theorem jx_icmp_ge (h : jX X Y A cc nL own Ts R ret) {x y : Int32} {off : Int} (tgt : Nat) (hd : decode cc pc = .ok (.if_icmp .ge off, 3)) (ht : (pc : Int) + off = (tgt : Int)) (kt : y ≤ x → jW l X Y A nL cells slots K Q σ tgt L rest) (kf : ¬ y ≤ x → jW l X Y A nL cells slots K Q σ (pc + 3) L rest) : jW l X Y A nL cells slots K Q σ pc L (.int y :: .int x :: rest) :=
  fun H locs ls hk hP hD hS hl => lv_icmp_ge h.1 h.2.1 hd ht (fun q => kt q H locs ls hk hP hD hS hl) (fun q => kf q H locs ls hk hP hD hS hl)
theorem jx_icmp_gt (h : jX X Y A cc nL own Ts R ret) {x y : Int32} {off : Int} (tgt : Nat) (hd : decode cc pc = .ok (.if_icmp .gt off, 3)) (ht : (pc : Int) + off = (tgt : Int)) (kt : y < x → jW l X Y A nL cells slots K Q σ tgt L rest) (kf : ¬ y < x → jW l X Y A nL cells slots K Q σ (pc + 3) L rest) : jW l X Y A nL cells slots K Q σ pc L (.int y :: .int x :: rest) :=
  fun H locs ls hk hP hD hS hl => lv_icmp_gt h.1 h.2.1 hd ht (fun q => kt q H locs ls hk hP hD hS hl) (fun q => kf q H locs ls hk hP hD hS hl)
theorem jx_icmp_le (h : jX X Y A cc nL own Ts R ret) {x y : Int32} {off : Int} (tgt : Nat) (hd : decode cc pc = .ok (.if_icmp .le off, 3)) (ht : (pc : Int) + off = (tgt : Int)) (kt : x ≤ y → jW l X Y A nL cells slots K Q σ tgt L rest) (kf : ¬ x ≤ y → jW l X Y A nL cells slots K Q σ (pc + 3) L rest) : jW l X Y A nL cells slots K Q σ pc L (.int y :: .int x :: rest) :=
  fun H locs ls hk hP hD hS hl => lv_icmp_le h.1 h.2.1 hd ht (fun q => kt q H locs ls hk hP hD hS hl) (fun q => kf q H locs ls hk hP hD hS hl)
theorem jx_tsIn (h : jX X Y A cc nL own Ts R ret) {dflt lo hi : Int} {offs : Array Int} {len : Nat} {x : Int32} {off : Int} (tgt : Nat) (hd : decode cc pc = .ok (.tableswitch dflt lo hi offs, len)) (h1 : ¬ x.toInt < lo) (h2 : ¬ hi < x.toInt) (ho : offs[(x.toInt - lo).toNat]? = some off) (ht : (pc : Int) + off = (tgt : Int))
    (k : jW l X Y A nL cells slots K Q σ tgt L rest) : jW l X Y A nL cells slots K Q σ pc L (.int x :: rest) :=
  fun H locs ls hk hP hD hS hl => lv_tableIn h.1 h.2.1 hd h1 h2 ho ht (k H locs ls hk hP hD hS hl)
theorem jx_tsOut (h : jX X Y A cc nL own Ts R ret) {dflt lo hi : Int} {offs : Array Int} {len : Nat} {x : Int32} (tgt : Nat) (hd : decode cc pc = .ok (.tableswitch dflt lo hi offs, len)) (h1 : x.toInt < lo ∨ hi < x.toInt) (ht : (pc : Int) + dflt = (tgt : Int))
    (k : jW l X Y A nL cells slots K Q σ tgt L rest) : jW l X Y A nL cells slots K Q σ pc L (.int x :: rest) :=
  fun H locs ls hk hP hD hS hl => lv_tableOut h.1 h.2.1 hd h1 ht (k H locs ls hk hP hD hS hl)
end JPure
section JTop
variable {l : Launch} {X : Cx} {Y : Wx} {A : Nat → Prop} {nL : Nat} {cells slots : Nat} {K : Heap → List Loc → Prop} {Q : State → Prop} {σ : St} {pc : Nat} {L : Lv} {rest : List Value}
theorem jx_kT {st : List Value} (k : jW l X Y A nL cells slots kT Q σ pc L st) : jW l X Y A nL cells slots K Q σ pc L st := fun H locs ls _ hP hD hS hl => k H locs ls trivial hP hD hS hl
theorem jx_top {x y : Int32} (e : x = y) (k : jW l X Y A nL cells slots K Q σ pc L (.int y :: rest)) : jW l X Y A nL cells slots K Q σ pc L (.int x :: rest) := e ▸ k
theorem jx_to {σ' : St} {pc' : Nat} {L' : Lv} {st st' : List Value} (k : jW l X Y A nL cells slots K Q σ' pc' L' st') (e1 : σ = σ') (e2 : pc = pc') (e3 : L = L') (e4 : st = st') : jW l X Y A nL cells slots K Q σ pc L st := by
  subst e1; subst e2; subst e3; subst e4; exact k
end JTop
end
section
/-! one side's world: n arrays of ints (or booleans) at ad 0 .. ad (n-1), then its objects -/
def jWd (n : Nat) (ad : Nat → Nat) (ac : Nat → ClassId) (ln : Nat → Nat) (ob : (Nat → Int32) → va_W) (σ : St) : va_W :=
  (List.range n).map (fun k => (ad k, Sum.inl (ac k, (ln k, Sum.inl (σ.2 k))))) ++ ob σ.1
def jTy (n : Nat) (ac : Nat → ClassId) (ty : Nat → FieldType) : List (ClassId × FieldType) := (List.range n).map (fun k => (ac k, ty k))
def jY (D : va_G) (cl : List vw_C) (n : Nat) (ad : Nat → Nat) (ac : Nat → ClassId) (ln : Nat → Nat) (ty : Nat → FieldType) (ob : (Nat → Int32) → va_W) : Wx := (D, cl, jTy n ac ty, jWd n ad ac ln ob)
theorem jWd_get {n : Nat} {ad : Nat → Nat} {ac : Nat → ClassId} {ln : Nat → Nat} {ob : (Nat → Int32) → va_W} {σ : St} {k : Nat} (hk : k < n) : (jWd n ad ac ln ob σ)[k]? = some (ad k, Sum.inl (ac k, (ln k, Sum.inl (σ.2 k)))) := by
  unfold jWd
  rw [List.getElem?_append_left (by simpa using hk), List.getElem?_map, List.getElem?_range hk]
  rfl
theorem jTy_get {n : Nat} {ac : Nat → ClassId} {ty : Nat → FieldType} {k : Nat} (hk : k < n) : (jTy n ac ty)[k]? = some (ac k, ty k) := by
  unfold jTy
  rw [List.getElem?_map, List.getElem?_range hk]
  rfl
theorem jWd_set {n : Nat} {ad : Nat → Nat} {ac : Nat → ClassId} {ln : Nat → Nat} {ob : (Nat → Int32) → va_W} {σ : St} {k : Nat} {f : Nat → Int32} (hk : k < n) : (jWd n ad ac ln ob σ).set k (ad k, Sum.inl (ac k, (ln k, Sum.inl f))) = jWd n ad ac ln ob (sR σ k f) := by
  unfold jWd
  rw [List.set_append_left _ _ (by simpa using hk)]
  congr 1
  apply List.ext_getElem?
  intro j
  rw [List.getElem?_set]
  by_cases hj : k = j
  · subst hj
    simp [hk, sR, va_up]
  · simp only [hj, if_false, List.getElem?_map]
    by_cases hjn : j < n
    · rw [List.getElem?_range hjn]
      simp [sR, va_up, Ne.symm hj]
    · rw [List.getElem?_eq_none (by simpa using hjn)]
      rfl
section JArr
variable {l : Launch} {X : Cx} {D : va_G} {cl : List vw_C} {n : Nat} {ad : Nat → Nat} {ac : Nat → ClassId} {ln : Nat → Nat} {ty : Nat → FieldType} {ob : (Nat → Int32) → va_W} {A : Nat → Prop} {cc : ByteArray} {nL : Nat} {own : String} {Ts : List Cond} {R : Room} {ret : Option FieldType} {cells slots : Nat} {K : Heap → List Loc → Prop} {Q : State → Prop} {σ : St} {pc : Nat} {L : Lv} {rest : List Value}
theorem jx_iald (h : jX X (jY D cl n ad ac ln ty ob) A cc nL own Ts R ret) {k : Nat} (hk : k < n ∧ ty k = .int ∧ ln k < 2 ^ 31) {i : Int32} (j : Nat) (hi : i = nI j) (hj : j < ln k) (hd : decode cc pc = .ok (.iaload, 1))
    (kk : jW l X (jY D cl n ad ac ln ty ob) A nL cells slots K Q σ (pc + 1) L (.int (σ.2 k j) :: rest)) : jW l X (jY D cl n ad ac ln ty ob) A nL cells slots K Q σ pc L (.int i :: .ref (ad k) :: rest) := by
  intro H locs ls hk9 hP hD hS hl
  subst hi
  obtain ⟨h1, h2, h3⟩ := hk
  have hj2 : j < 2 ^ 31 := Nat.lt_trans hj h3
  refine va_iald h.1 h.2.1 h.2.2.2.2.2.1 hP k k (jWd_get h1) (by rw [← h2]; exact jTy_get h1) (vp_in_nI hj h3) hd ?_
  rw [nI_clamp hj2]
  exact kk H locs ls hk9 hP hD hS hl
theorem jx_zald (h : jX X (jY D cl n ad ac ln ty ob) A cc nL own Ts R ret) {k : Nat} (hk : k < n ∧ ty k = .boolean ∧ ln k < 2 ^ 31) {i : Int32} (j : Nat) (hi : i = nI j) (hj : j < ln k) (hd : decode cc pc = .ok (.baload, 1))
    (kk : jW l X (jY D cl n ad ac ln ty ob) A nL cells slots K Q σ (pc + 1) L (.int (σ.2 k j) :: rest)) : jW l X (jY D cl n ad ac ln ty ob) A nL cells slots K Q σ pc L (.int i :: .ref (ad k) :: rest) := by
  intro H locs ls hk9 hP hD hS hl
  subst hi
  obtain ⟨h1, h2, h3⟩ := hk
  have hj2 : j < 2 ^ 31 := Nat.lt_trans hj h3
  refine va_zald h.1 h.2.1 h.2.2.2.2.2.1 hP k k (jWd_get h1) (by rw [← h2]; exact jTy_get h1) (vp_in_nI hj h3) hd ?_
  rw [nI_clamp hj2]
  exact kk H locs ls hk9 hP hD hS hl
theorem jx_iast (h : jX X (jY D cl n ad ac ln ty ob) A cc nL own Ts R ret) {k : Nat} (hk : k < n ∧ ty k = .int ∧ ln k < 2 ^ 31) {i x : Int32} (j : Nat) (hi : i = nI j) (hj : j < ln k) (hd : decode cc pc = .ok (.iastore, 1))
    (kk : jW l X (jY D cl n ad ac ln ty ob) A nL cells slots kT Q (sA σ k j x) (pc + 1) L rest) : jW l X (jY D cl n ad ac ln ty ob) A nL cells slots K Q σ pc L (.int x :: .int i :: .ref (ad k) :: rest) := by
  intro H locs ls hk9 hP hD hS hl
  subst hi
  obtain ⟨h1, h2, h3⟩ := hk
  have hj2 : j < 2 ^ 31 := Nat.lt_trans hj h3
  refine va_iast h.1 h.2.1 h.2.2.2.2.2.1 hP hD hS k k (jWd_get h1) (by rw [← h2]; exact jTy_get h1) (vp_in_nI hj h3) hd (fun H1 locs1 hP1 hD1 hS1 => ?_)
  rw [nI_clamp hj2] at hP1 hD1
  have e : ((jY D cl n ad ac ln ty ob).sh σ).set k (ad k, Sum.inl (ac k, (ln k, Sum.inl (upd (σ.2 k) j x)))) = (jY D cl n ad ac ln ty ob).sh (sA σ k j x) := jWd_set h1
  exact kk H1 locs1 ls trivial (by rw [← e]; exact hP1) (by rw [← e]; exact hD1) hS1 hl
theorem jx_zast (h : jX X (jY D cl n ad ac ln ty ob) A cc nL own Ts R ret) {k : Nat} (hk : k < n ∧ ty k = .boolean ∧ ln k < 2 ^ 31) {i x : Int32} (j : Nat) (hi : i = nI j) (hj : j < ln k) (hx : vp_nar .boolean x = x) (hd : decode cc pc = .ok (.bastore, 1))
    (kk : jW l X (jY D cl n ad ac ln ty ob) A nL cells slots kT Q (sA σ k j x) (pc + 1) L rest) : jW l X (jY D cl n ad ac ln ty ob) A nL cells slots K Q σ pc L (.int x :: .int i :: .ref (ad k) :: rest) := by
  intro H locs ls hk9 hP hD hS hl
  subst hi
  obtain ⟨h1, h2, h3⟩ := hk
  have hj2 : j < 2 ^ 31 := Nat.lt_trans hj h3
  refine va_zast h.1 h.2.1 h.2.2.2.2.2.1 hP hD hS k k (jWd_get h1) (by rw [← h2]; exact jTy_get h1) (vp_in_nI hj h3) hd (fun H1 locs1 hP1 hD1 hS1 => ?_)
  rw [nI_clamp hj2, hx] at hP1 hD1
  have e : ((jY D cl n ad ac ln ty ob).sh σ).set k (ad k, Sum.inl (ac k, (ln k, Sum.inl (upd (σ.2 k) j x)))) = (jY D cl n ad ac ln ty ob).sh (sA σ k j x) := jWd_set h1
  exact kk H1 locs1 ls trivial (by rw [← e]; exact hP1) (by rw [← e]; exact hD1) hS1 hl
theorem jx_copy (h : jX X (jY D cl n ad ac ln ty ob) A cc nL own Ts R ret) {index : Nat} (hw : Cond.methodLink own index arraycopyName ∈ Ts ∧ Cond.native arraycopyName ∈ Ts ∧ Cond.static arraycopyName ∈ Ts ∧ Cond.initialized "java/lang/System" ∈ Ts)
    {k0 k1 : Nat} (hk0 : k0 < n ∧ ty k0 = .int ∧ ln k0 < 2 ^ 31) (hk1 : k1 < n ∧ ty k1 = .int ∧ ln k1 < 2 ^ 31) {x y z : Int32} (sp dp m : Nat) (hx : x = nI sp) (hy : y = nI dp) (hz : z = nI m) (h4 : sp + m ≤ ln k0) (h5 : dp + m ≤ ln k1)
    (hf : 1 ≤ R.frames) (hlo : (rest.map fun v => v.category).sum + (nativeFrameWords "java/lang/System" "arraycopy" 5 + 11) ≤ R.locals) (hd : decode cc pc = .ok (.invokestatic index, 3))
    (kk : jW l X (jY D cl n ad ac ln ty ob) A nL cells slots kT Q (sR σ k1 (va_cpy (σ.2 k0) (σ.2 k1) sp dp m)) (pc + 3) L rest) : jW l X (jY D cl n ad ac ln ty ob) A nL cells slots K Q σ pc L (.int z :: .int y :: .ref (ad k1) :: .int x :: .ref (ad k0) :: rest) := by
  intro H locs ls hk9 hP hD hS hl
  subst hx; subst hy; subst hz
  obtain ⟨a1, a2, a3⟩ := hk0
  obtain ⟨b1, b2, b3⟩ := hk1
  obtain ⟨hx, hb, hml, hown, hts, hK, hA, hR, hret, hlk⟩ := h
  subst hR
  have c1 : sp < 2 ^ 31 := by omega
  have c2 : dp < 2 ^ 31 := by omega
  have c3 : m < 2 ^ 31 := by omega
  refine va_copyi (ty := .int) hx hb (hml.trans hl.1.1.symm) hown (hts _ hw.1) (hts _ hw.2.1) (hts _ hw.2.2.1) (hts _ hw.2.2.2) hK hP hD hS k0 k1 k0 k1 (jWd_get a1) (jWd_get b1) (by rw [← a2]; exact jTy_get a1) (by rw [← b2]; exact jTy_get b1) rfl
    (nI_pos c1) (nI_pos c2) (nI_pos c3) (by rw [nI_clamp c1, nI_clamp c3]; exact h4) (by rw [nI_clamp c2, nI_clamp c3]; exact h5) (fun _ _ => rfl) hf hlo hd (fun H1 locs1 hP1 hD1 hS1 => ?_)
  rw [nI_clamp c1, nI_clamp c2, nI_clamp c3] at hP1 hD1
  have e : ((jY D cl n ad ac ln ty ob).sh σ).set k1 (ad k1, Sum.inl (ac k1, (ln k1, Sum.inl (va_cpy (σ.2 k0) (σ.2 k1) sp dp m)))) = (jY D cl n ad ac ln ty ob).sh (sR σ k1 (va_cpy (σ.2 k0) (σ.2 k1) sp dp m)) := jWd_set b1
  exact kk H1 locs1 ls trivial (by rw [← e]; exact hP1) (by rw [← e]; exact hD1) hS1 hl
end JArr
section JFld
variable {l : Launch} {X : Cx} {Y : Wx} {A : Nat → Prop} {cc : ByteArray} {nL : Nat} {own : String} {Ts : List Cond} {R : Room} {ret : Option FieldType} {cells slots : Nat} {K : Heap → List Loc → Prop} {Q : State → Prop} {σ : St} {pc : Nat} {L : Lv} {rest : List Value}
/-- what a class's fields ask of the tables, once for a class -/
def jF (Ts : List Cond) (C : String) (T : u_T) (N : Nat) (ty0 : Nat → FieldType) : Prop :=
  (∀ w ∈ u_ws C T N, w ∈ Ts) ∧ (∀ k, k < N → parseFieldDescriptor (T k).2.2.1 = some (ty0 k)) ∧ (∀ a, a < N → ∀ b, b < N → a ≠ b → (T a).2.1 ≠ (T b).2.1) ∧ ∀ k, k < N → (T k).1 = C
theorem jx_get (h : jX X Y A cc nL own Ts R ret) {C : String} {T : u_T} {N ci index a q0 : Nat} {ty0 : Nat → FieldType} {fs : List Value} {v : Value} (hF : jF Ts C T N ty0) (he : (Y.sh σ)[q0]? = some (a, .inr (ci, fs))) (hc : Y.cl[ci]? = some (C, T, N)) (k : Nat) (hk : k < N)
    (hw : Cond.fieldLink own index C (T k).2.1 (T k).2.2.1 ∈ Ts) (hv : fs[k]? = some v) (hd : decode cc pc = .ok (.getfield index, 3))
    (kk : jW l X Y A nL cells slots K Q σ (pc + 3) L (v :: rest)) : jW l X Y A nL cells slots K Q σ pc L (.ref a :: rest) := by
  intro H locs ls hk9 hP hD hS hl
  refine va_get (ref := C) h.1 h.2.1 h.2.2.2.2.1 hF.1 h.2.2.2.1 h.2.2.2.2.2.1 hP q0 he hc k hk (h.2.2.2.2.1 _ hw) (fun x hx => ?_) hv hd (kk H locs ls hk9 hP hD hS hl)
  rw [hF.2.2.2 k hk] at hx
  exact hx
theorem jx_put (h : jX X Y A cc nL own Ts R ret) {C : String} {T : u_T} {N ci index a q0 : Nat} {ty0 : Nat → FieldType} {fs : List Value} {v : Int32} {σ' : St} (hF : jF Ts C T N ty0) (he : (Y.sh σ)[q0]? = some (a, .inr (ci, fs))) (hc : Y.cl[ci]? = some (C, T, N)) (k : Nat) (hk : k < N)
    (hw : Cond.fieldLink own index C (T k).2.1 (T k).2.2.1 ∈ Ts) (hfin : (T k).2.2.2 = false) (hi : parseFieldDescriptor (T k).2.2.1 = some .int) (hl0 : k < fs.length) (hs : (Y.sh σ).set q0 (a, .inr (ci, fs.set k (.int v))) = Y.sh σ') (hd : decode cc pc = .ok (.putfield index, 3))
    (kk : jW l X Y A nL cells slots kT Q σ' (pc + 3) L rest) : jW l X Y A nL cells slots K Q σ pc L (.int v :: .ref a :: rest) := by
  intro H locs ls hk9 hP hD hS hl
  refine va_put (ref := C) h.1 h.2.1 h.2.2.2.2.1 hF.1 ty0 hF.2.1 hF.2.2.1 h.2.2.2.1 h.2.2.2.2.2.1 hP hD hS q0 he hc k hk (h.2.2.2.2.1 _ hw) (fun x hx => ?_) hfin hi rfl rfl hl0 hd (fun H1 locs1 hP1 hD1 hS1 => ?_)
  · rw [hF.2.2.2 k hk] at hx
    exact hx
  · exact kk H1 locs1 ls trivial (by rw [← hs]; exact hP1) (by rw [← hs]; exact hD1) hS1 hl
theorem jx_max (h : jX X Y A cc nL own Ts R ret) {index : Nat} (hw : Cond.methodLink own index Lib.Math.max.name ∈ Ts ∧ Cond.static Lib.Math.max.name ∈ Ts ∧ Cond.initialized "java/lang/Math" ∈ Ts ∧ Cond.code Lib.Math.max.name Lib.Math.max.code 2 (some .int) ∈ Ts)
    (hR : 1 ≤ R.frames ∧ (rest.map fun v => v.category).sum + 13 ≤ R.locals ∧ cells ≤ R.cells ∧ slots ≤ R.slots) {x y : Int32} (hd : decode cc pc = .ok (.invokestatic index, 3))
    (kk : jW l X Y A nL cells slots K Q σ (pc + 3) L (.int (if x < y then y else x) :: rest)) : jW l X Y A nL cells slots K Q σ pc L (.int y :: .int x :: rest) := by
  intro H locs ls hk9 hP hD hS hl
  obtain ⟨hx, hb, hml, hown, hts, hK, hA, hRR, hret, hlk⟩ := h
  subst hRR
  exact va_mmax hx hb (hml.trans hl.1.1.symm) hown (hts _ hw.1) (hts _ hw.2.1) (hts _ hw.2.2.1) (hts _ hw.2.2.2) hR.1 hR.2.1 hR.2.2.1 hR.2.2.2 hd (kk H locs ls hk9 hP hD hS hl)
theorem jx_min (h : jX X Y A cc nL own Ts R ret) {index : Nat} (hw : Cond.methodLink own index Lib.Math.min.name ∈ Ts ∧ Cond.static Lib.Math.min.name ∈ Ts ∧ Cond.initialized "java/lang/Math" ∈ Ts ∧ Cond.code Lib.Math.min.name Lib.Math.min.code 2 (some .int) ∈ Ts)
    (hR : 1 ≤ R.frames ∧ (rest.map fun v => v.category).sum + 13 ≤ R.locals ∧ cells ≤ R.cells ∧ slots ≤ R.slots) {x y : Int32} (hd : decode cc pc = .ok (.invokestatic index, 3))
    (kk : jW l X Y A nL cells slots K Q σ (pc + 3) L (.int (if y < x then y else x) :: rest)) : jW l X Y A nL cells slots K Q σ pc L (.int y :: .int x :: rest) := by
  intro H locs ls hk9 hP hD hS hl
  obtain ⟨hx, hb, hml, hown, hts, hK, hA, hRR, hret, hlk⟩ := h
  subst hRR
  exact va_mmin hx hb (hml.trans hl.1.1.symm) hown (hts _ hw.1) (hts _ hw.2.1) (hts _ hw.2.2.1) (hts _ hw.2.2.2) hR.1 hR.2.1 hR.2.2.1 hR.2.2.2 hd (kk H locs ls hk9 hP hD hS hl)
end JFld
end
section
/-! contracts of the methods of one side: from a state σ, with an answer and a state behind it -/
def jPre (Y : Wx) (av : List Value) (σ : St) (sz : Nat) : Array Value → State → Prop := va_Pc av (fun U => U.heap.size = sz ∧ va_P Y.D Y.cl (Y.sh σ) U.heap ∧ va_K Y.D Y.cl Y.tys U ∧ va_D (fun _ => True) (Y.sh σ))
def jB (Y : Wx) (A : Nat → Prop) : St → State → Prop := fun σ' t => va_P Y.D Y.cl (Y.sh σ') t.heap ∧ va_K Y.D Y.cl Y.tys t ∧ va_D A (Y.sh σ')
def jMi (l : Launch) (Y : Wx) (t : Mt) (TT : List Cond) (rm : Room) (av : List Value) (σ : St) (post : Int32 → St → Prop) : Prop :=
  ∀ sz : Nat, Met l t.y (t.w :: TT) rm (jPre Y av σ sz) (va_Qi post (jB Y (va_A (Y.sh σ) sz)) (va_A (Y.sh σ) sz)) 0 0 (va_A (Y.sh σ) sz)
def jMv (l : Launch) (Y : Wx) (t : Mt) (TT : List Cond) (rm : Room) (av : List Value) (σ : St) (post : St → Prop) : Prop :=
  ∀ sz : Nat, Met l t.y (t.w :: TT) rm (jPre Y av σ sz) (va_Qv post (jB Y (va_A (Y.sh σ) sz)) (va_A (Y.sh σ) sz)) 0 0 (va_A (Y.sh σ) sz)
def jMp (l : Launch) (Y : Wx) (t : Mt) (TT : List Cond) (rm : Room) (av : List Value) (σ : St) (post : Int32 → Prop) : Prop :=
  ∀ sz : Nat, Met l t.y (t.w :: TT) rm (jPre Y av σ sz) (vp_Si post) 0 0 (fun _ => False)
abbrev jQp (X : Cx) (post : Int32 → Prop) : State → Prop := MQ X.below (vp_Si post) X.args X.s 0 0 (fun _ => False)
abbrev jQi (X : Cx) (Y : Wx) (A : Nat → Prop) (post : Int32 → St → Prop) : State → Prop := MQ X.below (va_Qi post (jB Y A) A) X.args X.s 0 0 A
abbrev jQv (X : Cx) (Y : Wx) (A : Nat → Prop) (post : St → Prop) : State → Prop := MQ X.below (va_Qv post (jB Y A) A) X.args X.s 0 0 A
theorem lg_len : ∀ (av : List Value), (∀ v ∈ av, v.category = 1) → (lg_sl av).length = av.length
  | [], _ => rfl
  | v :: t, h => by
    have h1 := h v List.mem_cons_self
    have h2 := lg_len t (fun w hw => h w (List.mem_cons_of_mem _ hw))
    unfold lg_sl at h2 ⊢
    rw [List.flatMap_cons, List.length_append, h2, if_neg (by omega)]
    simp [Nat.add_comm]
theorem lv_args_cat : ∀ (av : List Value) (i : Nat), (∀ v ∈ av, v.category = 1) → ∀ q ∈ lv_args i av, q.2.category = 1
  | [], _, _, q, hq => by cases hq
  | v :: t, i, h, q, hq => by
    unfold lv_args at hq
    rcases List.mem_cons.mp hq with rfl | hq
    · exact h v List.mem_cons_self
    · exact lv_args_cat t _ (fun w hw => h w (List.mem_cons_of_mem _ hw)) q hq
section JMet
variable {l : Launch} {Y : Wx} {TT : List Cond} {rm : Room} {av : List Value} {σ : St}
theorem jMi_of {t : Mt} {post : Int32 → St → Prop} (hy : plainName t.y.cls = true) (hn : av.length ≤ t.n) (hav : ∀ v ∈ av, v.category = 1)
    (body : ∀ (X : Cx) (A : Nat → Prop), jX X Y A t.b t.n t.y.cls (t.w :: TT) rm t.r → jW l X Y A t.n 0 0 kT (jQi X Y A post) σ 0 (lv_args 0 av) []) : jMi l Y t TT rm av σ post := by
  intro sz
  refine Met.ofW (cc := t.b) (maxL := t.n) (ret := t.r) hy rfl ?_
  intro p e s m args below meth c s₁ B hml hv
  obtain ⟨rfl, hsz, hP, hK, hD0⟩ := hv
  have hts := atoms_spec (ws := t.w :: TT) B.pre
  have hown : s.vm.findClass t.y.cls = some m.cls := findClass_of_methodNamed B.named
  subst hsz
  have hD := hD0.self (sz := s.heap.size)
  generalize hAe : va_A (Y.sh σ) s.heap.size = A at hD ⊢
  have hA : ∀ q : Nat, s.heap.size ≤ q → A q := fun q h => by rw [← hAe]; exact Or.inr h
  have hl := lv_entry av (n := t.n) (by rw [lg_len av hav]; exact hn)
  rw [lg_entry_eq]
  exact body (p, e, rm, s, m, av.toArray, below, meth, c) A ⟨B.exec, B.bytes, hml, hown, hts, hK, hA, rfl, B.returns, B.notSynchronized⟩ s.heap [] _ trivial hP hD va_S.rf ⟨hl, lv_args_cat av 0 hav⟩
theorem jMv_of {t : Mt} {post : St → Prop} (hy : plainName t.y.cls = true) (hn : av.length ≤ t.n) (hav : ∀ v ∈ av, v.category = 1)
    (body : ∀ (X : Cx) (A : Nat → Prop), jX X Y A t.b t.n t.y.cls (t.w :: TT) rm t.r → jW l X Y A t.n 0 0 kT (jQv X Y A post) σ 0 (lv_args 0 av) []) : jMv l Y t TT rm av σ post := by
  intro sz
  refine Met.ofW (cc := t.b) (maxL := t.n) (ret := t.r) hy rfl ?_
  intro p e s m args below meth c s₁ B hml hv
  obtain ⟨rfl, hsz, hP, hK, hD0⟩ := hv
  have hts := atoms_spec (ws := t.w :: TT) B.pre
  have hown : s.vm.findClass t.y.cls = some m.cls := findClass_of_methodNamed B.named
  subst hsz
  have hD := hD0.self (sz := s.heap.size)
  generalize hAe : va_A (Y.sh σ) s.heap.size = A at hD ⊢
  have hA : ∀ q : Nat, s.heap.size ≤ q → A q := fun q h => by rw [← hAe]; exact Or.inr h
  have hl := lv_entry av (n := t.n) (by rw [lg_len av hav]; exact hn)
  rw [lg_entry_eq]
  exact body (p, e, rm, s, m, av.toArray, below, meth, c) A ⟨B.exec, B.bytes, hml, hown, hts, hK, hA, rfl, B.returns, B.notSynchronized⟩ s.heap [] _ trivial hP hD va_S.rf ⟨hl, lv_args_cat av 0 hav⟩
theorem jMp_of {t : Mt} {post : Int32 → Prop} (hy : plainName t.y.cls = true) (hn : av.length ≤ t.n) (hav : ∀ v ∈ av, v.category = 1)
    (body : ∀ (X : Cx) (A : Nat → Prop), jX X Y A t.b t.n t.y.cls (t.w :: TT) rm t.r → jW l X Y A t.n 0 0 (k0 X) (jQp X post) σ 0 (lv_args 0 av) []) : jMp l Y t TT rm av σ post := by
  intro sz
  refine Met.ofW (cc := t.b) (maxL := t.n) (ret := t.r) hy rfl ?_
  intro p e s m args below meth c s₁ B hml hv
  obtain ⟨rfl, hsz, hP, hK, hD0⟩ := hv
  have hts := atoms_spec (ws := t.w :: TT) B.pre
  have hown : s.vm.findClass t.y.cls = some m.cls := findClass_of_methodNamed B.named
  subst hsz
  have hD := hD0.self (sz := s.heap.size)
  generalize hAe : va_A (Y.sh σ) s.heap.size = A at hD
  have hA : ∀ q : Nat, s.heap.size ≤ q → A q := fun q h => by rw [← hAe]; exact Or.inr h
  have hl := lv_entry av (n := t.n) (by rw [lg_len av hav]; exact hn)
  rw [lg_entry_eq]
  exact body (p, e, rm, s, m, av.toArray, below, meth, c) A ⟨B.exec, B.bytes, hml, hown, hts, hK, hA, rfl, B.returns, B.notSynchronized⟩ s.heap [] _ ⟨rfl, rfl⟩ hP hD va_S.rf ⟨hl, lv_args_cat av 0 hav⟩
theorem jMi.mono {t : Mt} {post post' : Int32 → St → Prop} (h : jMi l Y t TT rm av σ post) (hp : ∀ r u, post r u → post' r u) : jMi l Y t TT rm av σ post' := by
  intro sz p e ha hc hk s m args below hf happ hP hK
  obtain ⟨n, o, h1, h2, h3, ⟨⟨⟨r, u, e1, e2, e3⟩, hF⟩, hL⟩⟩ := h sz p e ha hc hk s m args below hf happ hP hK
  exact ⟨n, o, h1, h2, h3, ⟨⟨⟨r, u, e1, hp r u e2, e3⟩, hF⟩, hL⟩⟩
theorem jMv.mono {t : Mt} {post post' : St → Prop} (h : jMv l Y t TT rm av σ post) (hp : ∀ u, post u → post' u) : jMv l Y t TT rm av σ post' := by
  intro sz p e ha hc hk s m args below hf happ hP hK
  obtain ⟨n, o, h1, h2, h3, ⟨⟨⟨u, e1, e2, e3⟩, hF⟩, hL⟩⟩ := h sz p e ha hc hk s m args below hf happ hP hK
  exact ⟨n, o, h1, h2, h3, ⟨⟨⟨u, e1, hp u e2, e3⟩, hF⟩, hL⟩⟩
end JMet
section JEnd
variable {l : Launch} {X : Cx} {Y : Wx} {A : Nat → Prop} {cc : ByteArray} {nL : Nat} {own : String} {Ts : List Cond} {R : Room} {K : Heap → List Loc → Prop} {σ : St} {pc : Nat} {L : Lv}
theorem jx_iret {post : Int32 → St → Prop} (h : jX X Y A cc nL own Ts R (some .int)) {v : Int32} (hd : decode cc pc = .ok (.ireturn, 1)) (hp : post v σ) : jW l X Y A nL 0 0 K (jQi X Y A post) σ pc L [.int v] := by
  intro H locs ls hk9 hP hD hS hl
  obtain ⟨hx, hb, hml, hown, hts, hK, hA, hR, hret, hlk⟩ := h
  exact W.iret (v := v) hx hb hret (fun t ht hW => ⟨⟨v, σ, rfl, hp, by rw [ht]; exact hP, va_K.moved hW.alike hK, hD⟩, hS.F ht⟩) hS.2.2 hd hlk
theorem jx_zret {post : Int32 → St → Prop} (h : jX X Y A cc nL own Ts R (some .boolean)) {v : Int32} (hd : decode cc pc = .ok (.ireturn, 1)) (hz : narrow .boolean (.int v) = .int v) (hp : post v σ) : jW l X Y A nL 0 0 K (jQi X Y A post) σ pc L [.int v] := by
  intro H locs ls hk9 hP hD hS hl
  obtain ⟨hx, hb, hml, hown, hts, hK, hA, hR, hret, hlk⟩ := h
  exact W.zret (v := v) hx hb hret hz (fun t ht hW => ⟨⟨v, σ, rfl, hp, by rw [ht]; exact hP, va_K.moved hW.alike hK, hD⟩, hS.F ht⟩) hS.2.2 hd hlk
theorem jx_vret {post : St → Prop} (h : jX X Y A cc nL own Ts R none) (hd : decode cc pc = .ok (.return_, 1)) (hp : post σ) : jW l X Y A nL 0 0 K (jQv X Y A post) σ pc L [] := by
  intro H locs ls hk9 hP hD hS hl
  obtain ⟨hx, hb, hml, hown, hts, hK, hA, hR, hret, hlk⟩ := h
  exact W.vret hx hb hret (fun t ht hW => ⟨⟨σ, rfl, hp, by rw [ht]; exact hP, va_K.moved hW.alike hK, hD⟩, hS.F ht⟩) hS.2.2 hd hlk
theorem jx_iretp {post : Int32 → Prop} (h : jX X Y A cc nL own Ts R (some .int)) {v : Int32} (hd : decode cc pc = .ok (.ireturn, 1)) (hp : post v) : jW l X Y A nL 0 0 (k0 X) (jQp X post) σ pc L [.int v] := by
  intro H locs ls hk hP hD hS hl
  obtain ⟨hx, hb, hml, hown, hts, hK, hA, hR, hret, hlk⟩ := h
  obtain ⟨hk1, hk2⟩ := hk
  subst hk2
  exact W.iret (v := v) hx hb hret (fun t ht hW => ⟨v, rfl, hp, ht.trans hk1⟩) (fun q hq => absurd hq List.not_mem_nil) hd hlk
theorem jx_zretp {post : Int32 → Prop} (h : jX X Y A cc nL own Ts R (some .boolean)) {v : Int32} (hd : decode cc pc = .ok (.ireturn, 1)) (hz : narrow .boolean (.int v) = .int v) (hp : post v) : jW l X Y A nL 0 0 (k0 X) (jQp X post) σ pc L [.int v] := by
  intro H locs ls hk hP hD hS hl
  obtain ⟨hx, hb, hml, hown, hts, hK, hA, hR, hret, hlk⟩ := h
  obtain ⟨hk1, hk2⟩ := hk
  subst hk2
  exact W.zret (v := v) hx hb hret hz (fun t ht hW => ⟨v, rfl, hp, ht.trans hk1⟩) (fun q hq => absurd hq List.not_mem_nil) hd hlk
end JEnd
/-- what a call asks of the tables: of a method of an object, of a static one -/
def jcV (TT : List Cond) (own : String) (index : Nat) (t : Mt) (n : Nat) : Prop :=
  (∀ w ∈ TT, goodWord w = true) ∧ t.w ∈ TT ∧ Cond.methodLink own index t.y ∈ TT ∧ Cond.instanceMethod t.y ∈ TT ∧ Cond.selects t.y.cls t.y t.y ∈ TT ∧ Cond.initialized t.y.cls ∈ TT ∧
    t.y.cls ≠ "java/lang/invoke/MethodHandle" ∧ t.y.cls ≠ "java/lang/invoke/VarHandle" ∧ (parseMethodDescriptor t.y.desc).map (fun d => d.parameters.length) = some n
def jcS (TT : List Cond) (own : String) (index : Nat) (t : Mt) (n : Nat) : Prop :=
  (∀ w ∈ TT, goodWord w = true) ∧ t.w ∈ TT ∧ Cond.methodLink own index t.y ∈ TT ∧ Cond.static t.y ∈ TT ∧ Cond.initialized own ∈ TT ∧
    t.y.cls = own ∧ t.y.cls ≠ "java/lang/invoke/MethodHandle" ∧ t.y.cls ≠ "java/lang/invoke/VarHandle" ∧ (parseMethodDescriptor t.y.desc).map (fun d => d.parameters.length) = some n
theorem jcV.good {TT : List Cond} {own : String} {index n : Nat} {t : Mt} (g : jcV TT own index t n) (w0 : Cond) : GoodIn (w0 :: TT) (wsV own index t.y.cls t.y (t.w :: TT)) := by
  obtain ⟨h0, h1, h2, h3, h4, h5, -⟩ := g
  intro w hw
  have hm : w ∈ TT := by
    unfold wsV at hw
    rcases List.mem_append.mp hw with hw | hw
    · simp only [List.mem_cons, List.not_mem_nil, or_false] at hw
      rcases hw with rfl | rfl | rfl | rfl
      · exact h2
      · exact h3
      · exact h4
      · exact h5
    · rcases List.mem_cons.mp hw with rfl | hw
      · exact h1
      · exact hw
  exact ⟨List.mem_cons_of_mem _ hm, good_of_word (h0 w hm)⟩
theorem jcS.good {TT : List Cond} {own : String} {index n : Nat} {t : Mt} (g : jcS TT own index t n) (w0 : Cond) : GoodIn (w0 :: TT) (wsS own index t.y (t.w :: TT)) := by
  obtain ⟨h0, h1, h2, h3, h4, -⟩ := g
  intro w hw
  have hm : w ∈ TT := by
    unfold wsS at hw
    rcases List.mem_append.mp hw with hw | hw
    · simp only [List.mem_cons, List.not_mem_nil, or_false] at hw
      rcases hw with rfl | rfl | rfl
      · exact h2
      · exact h3
      · exact h4
    · rcases List.mem_cons.mp hw with rfl | hw
      · exact h1
      · exact hw
  exact ⟨List.mem_cons_of_mem _ hm, good_of_word (h0 w hm)⟩
theorem jPre_blind (Y : Wx) (av : List Value) (σ : St) (sz : Nat) : FrameBlind (jPre Y av σ sz) := by
  intro a U g mk q
  obtain ⟨q0, q1, qP, qK, qD⟩ := q
  exact ⟨q0, q1, qP, va_K.moved (u := U) (U := U.calling g mk a) (Vm.Alike.refl U.vm) qK, qD⟩
theorem jA_in {A : Nat → Prop} {ws : va_W} {H0 H : Heap} {locs : List Loc} (hD : va_D A ws) (hS : va_S A H0 H locs) (hA : ∀ q, H0.size ≤ q → A q) : ∀ q, va_A ws H.size q → A q := by
  intro q h
  rcases h with ⟨k, e, hk⟩ | h
  · exact hD.2 k _ hk
  · exact hA q (Nat.le_trans hS.1 h)
/-- the callee's room in the caller's -/
def jRm (rm : Room) (n : Nat) (R : Room) : Prop := rm.cells = 0 ∧ rm.slots = 0 ∧ rm.frames + 1 ≤ R.frames ∧ 8 + (n + 11) + rm.locals ≤ R.locals
section JCall
variable {l : Launch} {X : Cx} {Y : Wx} {A : Nat → Prop} {cc : ByteArray} {nL : Nat} {own : String} {w0 : Cond} {TT : List Cond} {R : Room} {ret : Option FieldType} {cells slots : Nat} {K : Heap → List Loc → Prop} {Q : State → Prop} {σ : St} {pc : Nat} {L : Lv} {rest st As : List Value}
variable {t : Mt} {index n a q0 ci N : Nat} {rm : Room} {fs : List Value} {T : u_T}
theorem jx_callVi {post : Int32 → St → Prop} (h : jX X Y A cc nL own (w0 :: TT) R ret) (g : jcV TT own index t n) (hM : jMi l Y t TT rm (.ref a :: As) σ post) (he : (Y.sh σ)[q0]? = some (a, .inr (ci, fs))) (hc : Y.cl[ci]? = some (t.y.cls, T, N))
    (hR : jRm rm t.n R) (hn : As.length = n) (hst : st = As.reverse ++ .ref a :: rest) (hcat : (rest.map fun v => v.category).sum ≤ 8) (hcs : cells ≤ R.cells ∧ slots ≤ R.slots) (hd : decode cc pc = .ok (.invokevirtual index, 3))
    (kk : ∀ (r : Int32) (σ' : St), post r σ' → jW l X Y A nL cells slots kT Q σ' (pc + 3) L (.int r :: rest)) : jW l X Y A nL cells slots K Q σ pc L st := by
  intro H locs ls hk9 hP hD hS hl
  obtain ⟨hx, hb, hml, hown, hts, hK, hA, hRR, hret, hlk⟩ := h
  subst hRR
  have hF := jA_in hD hS hA
  refine va_calli (va_runV (As := As) (rest := rest) ⟨hx, hb, hml, hown, hts⟩ (hM H.size) (cwV n hts (g.good w0) rfl hR.1 hR.2.1 ⟨rfl, g.2.2.2.2.2.2.1, g.2.2.2.2.2.2.2.1, g.2.2.2.2.2.2.2.2⟩ ⟨hR.2.2.1, hR.2.2.2⟩)
    ⟨jPre_blind _ _ _ _, va_recv hK hP hc he, fun U hU hW => ⟨rfl, by rw [hU], by rw [hU]; exact hP, va_K.moved hW.alike hK, hD.weaken (fun _ _ _ _ => trivial)⟩⟩ rfl hn hl.1.1 hst (lv_room hcat) hd ⟨hcs.1, hcs.2⟩) hS (fun q _ hq => hF q hq) hF ?_
  intro r u t' H1 locs1 ht hvm hp hB hz hk hS1
  exact kk r u hp H1 locs1 ls trivial (by rw [← ht]; exact hB.1) (hB.2.2.weaken (fun _ q _ hq => hF q.1 hq)) hS1 hl
theorem jx_callVv {post : St → Prop} (h : jX X Y A cc nL own (w0 :: TT) R ret) (g : jcV TT own index t n) (hM : jMv l Y t TT rm (.ref a :: As) σ post) (he : (Y.sh σ)[q0]? = some (a, .inr (ci, fs))) (hc : Y.cl[ci]? = some (t.y.cls, T, N))
    (hR : jRm rm t.n R) (hn : As.length = n) (hst : st = As.reverse ++ .ref a :: rest) (hcat : (rest.map fun v => v.category).sum ≤ 8) (hcs : cells ≤ R.cells ∧ slots ≤ R.slots) (hd : decode cc pc = .ok (.invokevirtual index, 3))
    (kk : ∀ (σ' : St), post σ' → jW l X Y A nL cells slots kT Q σ' (pc + 3) L rest) : jW l X Y A nL cells slots K Q σ pc L st := by
  intro H locs ls hk9 hP hD hS hl
  obtain ⟨hx, hb, hml, hown, hts, hK, hA, hRR, hret, hlk⟩ := h
  subst hRR
  have hF := jA_in hD hS hA
  refine va_callv (va_runV (As := As) (rest := rest) ⟨hx, hb, hml, hown, hts⟩ (hM H.size) (cwV n hts (g.good w0) rfl hR.1 hR.2.1 ⟨rfl, g.2.2.2.2.2.2.1, g.2.2.2.2.2.2.2.1, g.2.2.2.2.2.2.2.2⟩ ⟨hR.2.2.1, hR.2.2.2⟩)
    ⟨jPre_blind _ _ _ _, va_recv hK hP hc he, fun U hU hW => ⟨rfl, by rw [hU], by rw [hU]; exact hP, va_K.moved hW.alike hK, hD.weaken (fun _ _ _ _ => trivial)⟩⟩ rfl hn hl.1.1 hst (lv_room hcat) hd ⟨hcs.1, hcs.2⟩) hS (fun q _ hq => hF q hq) hF ?_
  intro u t' H1 locs1 ht hvm hp hB hz hk hS1
  exact kk u hp H1 locs1 ls trivial (by rw [← ht]; exact hB.1) (hB.2.2.weaken (fun _ q _ hq => hF q.1 hq)) hS1 hl
theorem jx_callSi {post : Int32 → St → Prop} (h : jX X Y A cc nL own (w0 :: TT) R ret) (g : jcS TT own index t n) (hM : jMi l Y t TT rm As σ post)
    (hR : jRm rm t.n R) (hn : As.length = n) (hst : st = As.reverse ++ rest) (hcat : (rest.map fun v => v.category).sum ≤ 8) (hcs : cells ≤ R.cells ∧ slots ≤ R.slots) (hd : decode cc pc = .ok (.invokestatic index, 3))
    (kk : ∀ (r : Int32) (σ' : St), post r σ' → jW l X Y A nL cells slots kT Q σ' (pc + 3) L (.int r :: rest)) : jW l X Y A nL cells slots K Q σ pc L st := by
  intro H locs ls hk9 hP hD hS hl
  obtain ⟨hx, hb, hml, hown, hts, hK, hA, hRR, hret, hlk⟩ := h
  subst hRR
  have hF := jA_in hD hS hA
  refine va_calli (va_runS (As := As) (rest := rest) ⟨hx, hb, hml, hown, hts⟩ (hM H.size) (cwS n hts (g.good w0) rfl hR.1 hR.2.1 ⟨g.2.2.2.2.2.1, g.2.2.2.2.2.2.1, g.2.2.2.2.2.2.2.1, g.2.2.2.2.2.2.2.2⟩ ⟨hR.2.2.1, hR.2.2.2⟩)
    ⟨jPre_blind _ _ _ _, fun U hU hW => ⟨rfl, by rw [hU], by rw [hU]; exact hP, va_K.moved hW.alike hK, hD.weaken (fun _ _ _ _ => trivial)⟩⟩ rfl hn hl.1.1 hst (lv_room hcat) hd ⟨hcs.1, hcs.2⟩) hS (fun q _ hq => hF q hq) hF ?_
  intro r u t' H1 locs1 ht hvm hp hB hz hk hS1
  exact kk r u hp H1 locs1 ls trivial (by rw [← ht]; exact hB.1) (hB.2.2.weaken (fun _ q _ hq => hF q.1 hq)) hS1 hl
theorem jx_callVp {post : Int32 → Prop} (h : jX X Y A cc nL own (w0 :: TT) R ret) (g : jcV TT own index t n) (hM : jMp l Y t TT rm (.ref a :: As) σ post) (he : (Y.sh σ)[q0]? = some (a, .inr (ci, fs))) (hc : Y.cl[ci]? = some (t.y.cls, T, N))
    (hR : jRm rm t.n R) (hn : As.length = n) (hst : st = As.reverse ++ .ref a :: rest) (hcat : (rest.map fun v => v.category).sum ≤ 8) (hcs : cells ≤ R.cells ∧ slots ≤ R.slots) (hd : decode cc pc = .ok (.invokevirtual index, 3))
    (kk : ∀ (r : Int32), post r → jW l X Y A nL cells slots K Q σ (pc + 3) L (.int r :: rest)) : jW l X Y A nL cells slots K Q σ pc L st := by
  intro H locs ls hk9 hP hD hS hl
  obtain ⟨hx, hb, hml, hown, hts, hK, hA, hRR, hret, hlk⟩ := h
  subst hRR
  refine vp_callSi (W.runV (As := As) (rest := rest) ⟨hx, hb, hml, hown, hts⟩ (hM H.size) (cwV n hts (g.good w0) rfl hR.1 hR.2.1 ⟨rfl, g.2.2.2.2.2.2.1, g.2.2.2.2.2.2.2.1, g.2.2.2.2.2.2.2.2⟩ ⟨hR.2.2.1, hR.2.2.2⟩)
    ⟨jPre_blind _ _ _ _, va_recv hK hP hc he, fun U hU hW => ⟨rfl, by rw [hU], by rw [hU]; exact hP, va_K.moved hW.alike hK, hD.weaken (fun _ _ _ _ => trivial)⟩⟩ rfl hn hl.1.1 hst (lv_room hcat) hd ⟨hcs.1, hcs.2⟩) ?_
  intro r hp
  exact kk r hp H locs ls hk9 hP hD hS hl
theorem jx_callSp {post : Int32 → Prop} (h : jX X Y A cc nL own (w0 :: TT) R ret) (g : jcS TT own index t n) (hM : jMp l Y t TT rm As σ post)
    (hR : jRm rm t.n R) (hn : As.length = n) (hst : st = As.reverse ++ rest) (hcat : (rest.map fun v => v.category).sum ≤ 8) (hcs : cells ≤ R.cells ∧ slots ≤ R.slots) (hd : decode cc pc = .ok (.invokestatic index, 3))
    (kk : ∀ (r : Int32), post r → jW l X Y A nL cells slots K Q σ (pc + 3) L (.int r :: rest)) : jW l X Y A nL cells slots K Q σ pc L st := by
  intro H locs ls hk9 hP hD hS hl
  obtain ⟨hx, hb, hml, hown, hts, hK, hA, hRR, hret, hlk⟩ := h
  subst hRR
  refine vp_callSi (W.runS (As := As) (rest := rest) ⟨hx, hb, hml, hown, hts⟩ (hM H.size) (cwS n hts (g.good w0) rfl hR.1 hR.2.1 ⟨g.2.2.2.2.2.1, g.2.2.2.2.2.2.1, g.2.2.2.2.2.2.2.1, g.2.2.2.2.2.2.2.2⟩ ⟨hR.2.2.1, hR.2.2.2⟩)
    ⟨jPre_blind _ _ _ _, fun U hU hW => ⟨rfl, by rw [hU], by rw [hU]; exact hP, va_K.moved hW.alike hK, hD.weaken (fun _ _ _ _ => trivial)⟩⟩ rfl hn hl.1.1 hst (lv_room hcat) hd ⟨hcs.1, hcs.2⟩) ?_
  intro r hp
  exact kk r hp H locs ls hk9 hP hD hS hl
end JCall
end
section
/-! the network as a mathematical value -/
abbrev Ms : Type := Nat × Nat × Nat × Nat × (Nat → Nat) × (Nat → Option Nat) × (Nat → Nat) × (Nat → Int32) × (Nat → Nat) × (Nat → Int32) × (Nat → Option Nat) × (Nat → Bool) × (Nat → Nat) × (Nat → Int32) × (Nat → Nat) × (Nat → Bool) × (Nat → Int32) × (Nat → Nat)
abbrev Ms.w (M : Ms) : Nat := M.1
abbrev Ms.ns (M : Ms) : Nat := M.2.1
abbrev Ms.nt (M : Ms) : Nat := M.2.2.1
abbrev Ms.nl (M : Ms) : Nat := M.2.2.2.1
abbrev Ms.wire (M : Ms) : Nat → Nat := M.2.2.2.2.1
abbrev Ms.place (M : Ms) : Nat → Option Nat := M.2.2.2.2.2.1
abbrev Ms.state (M : Ms) : Nat → Nat := M.2.2.2.2.2.2.1
abbrev Ms.passed (M : Ms) : Nat → Int32 := M.2.2.2.2.2.2.2.1
abbrev Ms.nxt (M : Ms) : Nat → Nat := M.2.2.2.2.2.2.2.2.1
abbrev Ms.way (M : Ms) : Nat → Int32 := M.2.2.2.2.2.2.2.2.2.1
abbrev Ms.number (M : Ms) : Nat → Option Nat := M.2.2.2.2.2.2.2.2.2.2.1
abbrev Ms.ordered (M : Ms) : Nat → Bool := M.2.2.2.2.2.2.2.2.2.2.2.1
abbrev Ms.la (M : Ms) : Nat → Nat := M.2.2.2.2.2.2.2.2.2.2.2.2.1
abbrev Ms.lw (M : Ms) : Nat → Int32 := M.2.2.2.2.2.2.2.2.2.2.2.2.2.1
abbrev Ms.lt (M : Ms) : Nat → Nat := M.2.2.2.2.2.2.2.2.2.2.2.2.2.2.1
abbrev Ms.down (M : Ms) : Nat → Bool := M.2.2.2.2.2.2.2.2.2.2.2.2.2.2.2.1
abbrev Ms.had (M : Ms) : Nat → Int32 := M.2.2.2.2.2.2.2.2.2.2.2.2.2.2.2.2.1
abbrev Ms.handed (M : Ms) : Nat → Nat := M.2.2.2.2.2.2.2.2.2.2.2.2.2.2.2.2.2
def Ms.s_down (M : Ms) (x : Nat → Bool) : Ms := (M.w, M.ns, M.nt, M.nl, M.wire, M.place, M.state, M.passed, M.nxt, M.way, M.number, M.ordered, M.la, M.lw, M.lt, x, M.had, M.handed)
def nb (w : Nat) : Nat := if w = 2 then 1 else if w = 4 then 6 else 24
def nc (w : Nat) : Nat := if w = 2 then 1 else if w = 4 then 3 else 6
def tU (w : Nat) : List Nat := if w = 2 then [0] else if w = 4 then [0, 2, 0, 1, 0, 3] else [0, 2, 0, 1, 0, 3, 4, 6, 4, 5, 4, 7, 0, 3, 0, 6, 1, 2, 1, 7, 0, 3, 6, 5]
def tL (w : Nat) : List Nat := if w = 2 then [1] else if w = 4 then [1, 3, 3, 2, 1, 2] else [1, 3, 3, 2, 1, 2, 5, 7, 7, 6, 5, 6, 6, 5, 3, 5, 7, 4, 2, 4, 1, 2, 7, 4]
def tC (w : Nat) : List Nat := if w = 2 then [0] else if w = 4 then [0, 0, 1, 1, 2, 2] else [0, 0, 1, 1, 2, 2, 0, 0, 1, 1, 2, 2, 3, 3, 4, 4, 3, 3, 4, 4, 5, 5, 5, 5]
def tE (w : Nat) : List Nat := if w = 2 then [0, 1] else if w = 4 then [0, 1, 3, 2] else [0, 1, 3, 2, 6, 7, 5, 4]
def tX (w : Nat) : List Nat := if w = 2 then [0, 1] else if w = 4 then [0, 1, 3, 2] else [0, 1, 3, 2, 7, 6, 4, 5]
def uU (w b : Nat) : Nat := (tU w).getD b 0
def uL (w b : Nat) : Nat := (tL w).getD b 0
def uC (w b : Nat) : Nat := (tC w).getD b 0
def uE (w b : Nat) : Nat := (tE w).getD b 0
def uX (w b : Nat) : Nat := (tX w).getD b 0
def Wok (w : Nat) : Prop := w = 2 ∨ w = 4 ∨ w = 8
theorem Wok.le {w : Nat} (h : Wok w) : w ≤ 8 := by rcases h with rfl | rfl | rfl <;> decide
theorem Wok.pos {w : Nat} (h : Wok w) : 2 ≤ w := by rcases h with rfl | rfl | rfl <;> decide
theorem nb_le (w : Nat) : nb w ≤ 24 := by unfold nb; split <;> (try split) <;> omega
theorem uU_lt {w b : Nat} (h : Wok w) (hb : b < nb w) : uU w b < w := by
  rcases h with rfl | rfl | rfl
  · exact (by decide : ∀ b, b < nb 2 → uU 2 b < 2) b hb
  · exact (by decide : ∀ b, b < nb 4 → uU 4 b < 4) b hb
  · exact (by decide : ∀ b, b < nb 8 → uU 8 b < 8) b hb
theorem uL_lt {w b : Nat} (h : Wok w) (hb : b < nb w) : uL w b < w := by
  rcases h with rfl | rfl | rfl
  · exact (by decide : ∀ b, b < nb 2 → uL 2 b < 2) b hb
  · exact (by decide : ∀ b, b < nb 4 → uL 4 b < 4) b hb
  · exact (by decide : ∀ b, b < nb 8 → uL 8 b < 8) b hb
theorem uC_lt {w b : Nat} (h : Wok w) (hb : b < nb w) : uC w b < 6 := by
  rcases h with rfl | rfl | rfl
  · exact (by decide : ∀ b, b < nb 2 → uC 2 b < 6) b hb
  · exact (by decide : ∀ b, b < nb 4 → uC 4 b < 6) b hb
  · exact (by decide : ∀ b, b < nb 8 → uC 8 b < 6) b hb
theorem uX_lt {w i : Nat} (h : Wok w) (hi : i < w) : uX w i < w := by
  rcases h with rfl | rfl | rfl
  · exact (by decide : ∀ b, b < 2 → uX 2 b < 2) i hi
  · exact (by decide : ∀ b, b < 4 → uX 4 b < 4) i hi
  · exact (by decide : ∀ b, b < 8 → uX 8 b < 8) i hi
theorem uE_uX {w i : Nat} (h : Wok w) (hi : i < w) : uE w (uX w i) = i := by
  rcases h with rfl | rfl | rfl
  · exact (by decide : ∀ b, b < 2 → uE 2 (uX 2 b) = b) i hi
  · exact (by decide : ∀ b, b < 4 → uE 4 (uX 4 b) = b) i hi
  · exact (by decide : ∀ b, b < 8 → uE 8 (uX 8 b) = b) i hi
theorem uX_uE {w i : Nat} (h : Wok w) (hi : i < w) : uX w (uE w i) = i := by
  rcases h with rfl | rfl | rfl
  · exact (by decide : ∀ b, b < 2 → uX 2 (uE 2 b) = b) i hi
  · exact (by decide : ∀ b, b < 4 → uX 4 (uE 4 b) = b) i hi
  · exact (by decide : ∀ b, b < 8 → uX 8 (uE 8 b) = b) i hi
theorem uE_lt {w i : Nat} (h : Wok w) (hi : i < w) : uE w i < w := by
  rcases h with rfl | rfl | rfl
  · exact (by decide : ∀ b, b < 2 → uE 2 b < 2) i hi
  · exact (by decide : ∀ b, b < 4 → uE 4 b < 4) i hi
  · exact (by decide : ∀ b, b < 8 → uE 8 b < 8) i hi
def nxF (w wi : Nat) : Nat → Nat → Option Nat
  | 0, _ => none
  | f + 1, b => if uU w b = wi ∨ uL w b = wi then some b else nxF w wi f (b + 1)
def nxB (w wi n : Nat) : Option Nat := nxF w wi (nb w - n) n
theorem nxF_lt {w wi : Nat} : ∀ (f n b : Nat), nxF w wi f n = some b → n ≤ b ∧ b < n + f
  | 0, _, _, h => by cases h
  | f + 1, n, b, h => by
    unfold nxF at h
    split at h
    · cases h; omega
    · have := nxF_lt f (n + 1) b h; omega
theorem nxB_lt {w wi n b : Nat} (h : nxB w wi n = some b) : b < nb w := by
  have := nxF_lt _ _ _ h
  omega
def lefF (st : Nat → Nat) : Nat → Nat
  | 0 => 0
  | n + 1 => lefF st n + (if st n = 2 then 0 else 1)
def Ms.left (M : Ms) : Nat := lefF M.state M.nt
def sumF (h : Nat → Nat) : Nat → Nat
  | 0 => 0
  | n + 1 => sumF h n + h n
def Ms.next (M : Ms) (t : Nat) : Option Nat := nxB M.w (M.wire t) (M.nxt t)
def Ms.ex (M : Ms) (t : Nat) : Nat := uX M.w (M.wire t)
def Ms.stN (M : Ms) (t : Nat) : Nat := match M.next t with
  | none => M.ex t % M.ns
  | some b => uC M.w b % M.ns
def Ms.asleep (M : Ms) (t : Nat) : Bool := match M.place t with
  | none => false
  | some p => M.down p
def Ms.can (M : Ms) (t : Nat) : Bool := !(M.state t == 2) && !M.asleep t && (decide (M.nl < 60) || M.state t == 1 || M.place t == some (M.stN t))
def Ms.post (M : Ms) (t : Nat) (wy : Int32) (s : Nat) : Ms := (M.w, M.ns, M.nt, M.nl + 1, M.wire, M.place, M.state, M.passed, M.nxt, M.way, M.number, M.ordered, va_up M.la M.nl t, va_up M.lw M.nl wy, va_up M.lt M.nl s, M.down, M.had, M.handed)
def Ms.setOut (M : Ms) (t : Nat) : Ms := (M.w, M.ns, M.nt, M.nl, M.wire, M.place, va_up M.state t 1, M.passed, M.nxt, va_up M.way t (M.way t + 1), M.number, M.ordered, M.la, M.lw, M.lt, M.down, M.had, M.handed)
def Ms.go (M : Ms) (t b : Nat) : Ms := (M.w, M.ns, M.nt, M.nl, va_up M.wire t (if M.had b - M.had b / 2 * 2 = 0 then uU M.w b else uL M.w b), M.place, M.state, va_up M.passed t (M.passed t + 1), va_up M.nxt t (b + 1), M.way, M.number, M.ordered, M.la, M.lw, M.lt, M.down, va_up M.had b (M.had b + 1), M.handed)
def Ms.out (M : Ms) (t i : Nat) : Ms := (M.w, M.ns, M.nt, M.nl, M.wire, M.place, va_up M.state t 2, M.passed, M.nxt, M.way, va_up M.number t (some (i + M.w * M.handed i)), M.ordered, M.la, M.lw, M.lt, M.down, M.had, va_up M.handed i (M.handed i + 1))
def Ms.step (M : Ms) (t : Nat) : Nat × Ms :=
  if M.state t = 1 then (3, M)
  else if ¬ M.place t = some (M.stN t) then (2, (M.setOut t).post t (M.way t + 1) (M.stN t))
  else match M.next t with
    | some b => (0, M.go t b)
    | none => (1, M.out t (M.ex t))
def shf {α : Type} (f : Nat → α) (i : Nat) : Nat → α := fun k => if k < i then f k else f (k + 1)
def Ms.take (M : Ms) (i : Nat) : Ms := (M.w, M.ns, M.nt, M.nl - 1, M.wire, M.place, M.state, M.passed, M.nxt, M.way, M.number, M.ordered, shf M.la i, shf M.lw i, shf M.lt i, M.down, M.had, M.handed)
def Ms.arrive (M : Ms) (t s : Nat) : Ms := (M.w, M.ns, M.nt, M.nl, M.wire, va_up M.place t (some s), va_up M.state t 0, M.passed, M.nxt, M.way, M.number, M.ordered, M.la, M.lw, M.lt, M.down, M.had, M.handed)
def Ms.comes (M : Ms) (i : Nat) : Bool := !(M.down (M.lt i)) && M.state (M.la i) == 1 && M.way (M.la i) == M.lw i
def Ms.deliver (M : Ms) (i : Nat) : Ms := if M.comes i = true then (M.take i).arrive (M.la i) (M.lt i) else M.take i
def hasF (la : Nat → Nat) (lw : Nat → Int32) (t : Nat) (wy : Int32) : Nat → Bool
  | 0 => false
  | n + 1 => hasF la lw t wy n || (la n == t && lw n == wy)
def Ms.holds (M : Ms) (t : Nat) : Bool := hasF M.la M.lw t (M.way t) M.nl
def Ms.res1 (M : Ms) (t : Nat) : Ms := if M.state t = 1 ∧ M.holds t = false then M.post t (M.way t) (M.stN t) else M
def Ms.resF : Nat → Nat → Ms → Ms
  | 0, _, M => M
  | f + 1, t, M => if M.nl < 60 then Ms.resF f (t + 1) (M.res1 t) else M
def Ms.resend (M : Ms) : Ms := Ms.resF M.nt 0 M
def Ms.build (M : Ms) (w ns : Nat) : Ms := (w, ns, 0, 0, M.wire, M.place, M.state, M.passed, M.nxt, M.way, M.number, M.ordered, M.la, M.lw, M.lt, fun _ => false, fun _ => 0, fun _ => 0)
def Ms.enter (M : Ms) (wi : Nat) (o : Bool) : Ms := (M.w, M.ns, M.nt + 1, M.nl, va_up M.wire M.nt wi, va_up M.place M.nt none, va_up M.state M.nt 0, va_up M.passed M.nt 0, va_up M.nxt M.nt 0, va_up M.way M.nt 0, va_up M.number M.nt none, va_up M.ordered M.nt o, M.la, M.lw, M.lt, M.down, M.had, M.handed)
def Ms.stepAll : Nat → Nat → Ms → Ms
  | 0, _, M => M
  | f + 1, t, M => Ms.stepAll f (t + 1) (if M.can t = true then (M.step t).2 else M)
def Ms.delAll : Nat → Ms → Ms
  | 0, M => M
  | f + 1, M => Ms.delAll f (M.deliver 0)
def Ms.round (M : Ms) : Ms := let N := Ms.stepAll M.nt 0 M; Ms.delAll N.nl N
def Ms.settle : Nat → Ms → Nat × Ms
  | 0, M => (0, M)
  | f + 1, M => if M.left = 0 then (0, M) else let q := Ms.settle f M.round; (q.1 + 1, q.2)
/-- what holds of every state that is reached -/
def Inv (M : Ms) : Prop :=
  Wok M.w ∧ (1 ≤ M.ns ∧ M.ns ≤ 6) ∧ M.nt ≤ 200 ∧ M.nl ≤ 60 ∧ M.left ≤ 40 ∧
  (∀ t, t < M.nt → M.wire t < M.w ∧ (∀ p, M.place t = some p → p < M.ns) ∧ M.state t ≤ 2 ∧ M.nxt t ≤ nb M.w ∧ (M.state t = 2 ↔ (M.number t).isSome = true) ∧ (∀ q, M.number t = some q → q / M.w < M.handed (q % M.w))) ∧
  (∀ k, k < M.nl → M.la k < M.nt ∧ M.lt k < M.ns) ∧ sumF M.handed M.w + M.left = M.nt
end
section
/-! what the value's steps keep -/
theorem lefF_ne {st : Nat → Nat} {t v : Nat} : ∀ n, n ≤ t → lefF (va_up st t v) n = lefF st n
  | 0, _ => rfl
  | n + 1, h => by
    unfold lefF
    rw [lefF_ne n (by omega), va_up_ne _ _ (by omega)]
theorem lefF_up {st : Nat → Nat} {t v : Nat} : ∀ n, t < n → lefF (va_up st t v) n + (if st t = 2 then 0 else 1) = lefF st n + (if v = 2 then 0 else 1)
  | 0, h => by omega
  | n + 1, h => by
    unfold lefF
    by_cases e : t = n
    · subst e
      rw [lefF_ne t (Nat.le_refl _), va_up_self]
      omega
    · have := lefF_up (st := st) (t := t) (v := v) n (by omega)
      rw [va_up_ne _ _ (by omega)]
      omega
theorem sumF_ne {h : Nat → Nat} {i v : Nat} : ∀ n, n ≤ i → sumF (va_up h i v) n = sumF h n
  | 0, _ => rfl
  | n + 1, q => by
    unfold sumF
    rw [sumF_ne n (by omega), va_up_ne _ _ (by omega)]
theorem sumF_up {h : Nat → Nat} {i v : Nat} : ∀ n, i < n → sumF (va_up h i v) n + h i = sumF h n + v
  | 0, q => by omega
  | n + 1, q => by
    unfold sumF
    by_cases e : i = n
    · subst e
      rw [sumF_ne i (Nat.le_refl _), va_up_self]
      omega
    · have := sumF_up (h := h) (i := i) (v := v) n (by omega)
      rw [va_up_ne _ _ (by omega)]
      omega
theorem sumF_0 : ∀ n, sumF (fun _ => 0) n = 0
  | 0 => rfl
  | n + 1 => by unfold sumF; rw [sumF_0 n]
theorem Ms.stN_lt {M : Ms} (h : 1 ≤ M.ns) (t : Nat) : M.stN t < M.ns := by
  unfold Ms.stN
  split
  · exact Nat.mod_lt _ h
  · exact Nat.mod_lt _ h
theorem Inv.setOut {M : Ms} (h : Inv M) {t : Nat} (ht : t < M.nt) (hs : ¬ M.state t = 2) : Inv (M.setOut t) := by
  obtain ⟨h1, h2, h3, h4, h5, h6, h7, h8⟩ := h
  have e : (M.setOut t).left = M.left := by
    have := lefF_up (st := M.state) (t := t) (v := 1) M.nt ht
    rw [if_neg hs, if_neg (by decide)] at this
    show lefF (va_up M.state t 1) M.nt = lefF M.state M.nt
    omega
  refine ⟨h1, h2, h3, h4, by rw [e]; exact h5, fun u hu => ?_, h7, by rw [e]; exact h8⟩
  obtain ⟨a1, a2, a3, a4, a5, a6⟩ := h6 u hu
  refine ⟨a1, a2, ?_, a4, ?_, a6⟩
  · show va_up M.state t 1 u ≤ 2
    unfold va_up; split
    · omega
    · exact a3
  · show va_up M.state t 1 u = 2 ↔ _
    by_cases e2 : u = t
    · subst e2
      rw [va_up_self]
      exact ⟨fun q => (by cases q), fun q => absurd (a5.mpr q) hs⟩
    · rw [va_up_ne _ _ e2]; exact a5
theorem Inv.post {M : Ms} (h : Inv M) {t s : Nat} {wy : Int32} (ht : t < M.nt) (hs : s < M.ns) (hl : M.nl < 60) : Inv (M.post t wy s) := by
  obtain ⟨h1, h2, h3, h4, h5, h6, h7, h8⟩ := h
  refine ⟨h1, h2, h3, hl, h5, h6, fun k hk => ?_, h8⟩
  have hk : k < M.nl + 1 := hk
  show va_up M.la M.nl t k < M.nt ∧ va_up M.lt M.nl s k < M.ns
  by_cases e : k = M.nl
  · subst e; rw [va_up_self, va_up_self]; exact ⟨ht, hs⟩
  · rw [va_up_ne _ _ e, va_up_ne _ _ e]; exact h7 k (by omega)
theorem Inv.go {M : Ms} (h : Inv M) {t b : Nat} (ht : t < M.nt) (hb : b < nb M.w) : Inv (M.go t b) := by
  obtain ⟨h1, h2, h3, h4, h5, h6, h7, h8⟩ := h
  refine ⟨h1, h2, h3, h4, h5, fun u hu => ?_, h7, h8⟩
  obtain ⟨a1, a2, a3, a4, a5, a6⟩ := h6 u hu
  refine ⟨?_, a2, a3, ?_, a5, a6⟩
  · show va_up M.wire t _ u < M.w
    by_cases e : u = t
    · subst e; rw [va_up_self]; split
      · exact uU_lt h1 hb
      · exact uL_lt h1 hb
    · rw [va_up_ne _ _ e]; exact a1
  · show va_up M.nxt t (b + 1) u ≤ nb M.w
    by_cases e : u = t
    · subst e; rw [va_up_self]; exact hb
    · rw [va_up_ne _ _ e]; exact a4
theorem Inv.out {M : Ms} (h : Inv M) {t i : Nat} (ht : t < M.nt) (hs : ¬ M.state t = 2) (hi : i < M.w) : Inv (M.out t i) := by
  obtain ⟨h1, h2, h3, h4, h5, h6, h7, h8⟩ := h
  have e : (M.out t i).left + 1 = M.left := by
    have := lefF_up (st := M.state) (t := t) (v := 2) M.nt ht
    rw [if_neg hs, if_pos rfl] at this
    show lefF (va_up M.state t 2) M.nt + 1 = lefF M.state M.nt
    omega
  have e2 : sumF (M.out t i).handed M.w = sumF M.handed M.w + 1 := by
    have := sumF_up (h := M.handed) (i := i) (v := M.handed i + 1) M.w hi
    show sumF (va_up M.handed i (M.handed i + 1)) M.w = sumF M.handed M.w + 1
    omega
  refine ⟨h1, h2, h3, h4, by omega, fun u hu => ?_, h7, ?_⟩
  · obtain ⟨a1, a2, a3, a4, a5, a6⟩ := h6 u hu
    have mono : ∀ j, M.handed j ≤ va_up M.handed i (M.handed i + 1) j := by
      intro j
      by_cases e : j = i
      · subst e; rw [va_up_self]; omega
      · rw [va_up_ne _ _ e]; exact Nat.le_refl _
    refine ⟨a1, a2, ?_, a4, ?_, ?_⟩
    · show va_up M.state t 2 u ≤ 2
      unfold va_up; split
      · omega
      · exact a3
    · show va_up M.state t 2 u = 2 ↔ (va_up M.number t (some (i + M.w * M.handed i)) u).isSome = true
      by_cases e : u = t
      · subst e; rw [va_up_self, va_up_self]; exact ⟨fun _ => rfl, fun _ => rfl⟩
      · rw [va_up_ne _ _ e, va_up_ne _ _ e]; exact a5
    · show ∀ q, va_up M.number t (some (i + M.w * M.handed i)) u = some q → q / M.w < va_up M.handed i (M.handed i + 1) (q % M.w)
      intro q hq
      by_cases e : u = t
      · subst e; rw [va_up_self] at hq
        cases hq
        have hw : 0 < M.w := by have := h1.pos; omega
        rw [Nat.add_mul_mod_self_left, Nat.mod_eq_of_lt hi, va_up_self, Nat.add_mul_div_left _ _ hw, Nat.div_eq_of_lt hi]
        omega
      · rw [va_up_ne _ _ e] at hq
        exact Nat.lt_of_lt_of_le (a6 q hq) (mono _)
  · show sumF (M.out t i).handed M.w + (M.out t i).left = M.nt
    omega
theorem Inv.take {M : Ms} (h : Inv M) {i : Nat} (hi : i < M.nl) : Inv (M.take i) := by
  obtain ⟨h1, h2, h3, h4, h5, h6, h7, h8⟩ := h
  refine ⟨h1, h2, h3, ?_, h5, h6, fun k hk => ?_, h8⟩
  · show M.nl - 1 ≤ 60
    omega
  · have hk : k < M.nl - 1 := hk
    show shf M.la i k < M.nt ∧ shf M.lt i k < M.ns
    unfold shf
    split
    · exact h7 k (by omega)
    · exact h7 (k + 1) (by omega)
theorem Inv.arrive {M : Ms} (h : Inv M) {t s : Nat} (ht : t < M.nt) (hs : M.state t = 1) (h0 : s < M.ns) : Inv (M.arrive t s) := by
  obtain ⟨h1, h2, h3, h4, h5, h6, h7, h8⟩ := h
  have e : (M.arrive t s).left = M.left := by
    have := lefF_up (st := M.state) (t := t) (v := 0) M.nt ht
    rw [if_neg (by rw [hs]; decide), if_neg (by decide)] at this
    show lefF (va_up M.state t 0) M.nt = lefF M.state M.nt
    omega
  refine ⟨h1, h2, h3, h4, by rw [e]; exact h5, fun u hu => ?_, h7, by rw [e]; exact h8⟩
  obtain ⟨a1, a2, a3, a4, a5, a6⟩ := h6 u hu
  refine ⟨a1, ?_, ?_, a4, ?_, a6⟩
  · show ∀ p, va_up M.place t (some s) u = some p → p < M.ns
    intro p hp
    by_cases e : u = t
    · subst e; rw [va_up_self] at hp; cases hp; exact h0
    · rw [va_up_ne _ _ e] at hp; exact a2 p hp
  · show va_up M.state t 0 u ≤ 2
    unfold va_up; split
    · omega
    · exact a3
  · show va_up M.state t 0 u = 2 ↔ _
    by_cases e2 : u = t
    · subst e2
      rw [va_up_self]
      refine ⟨fun q => (by cases q), fun q => ?_⟩
      have := a5.mpr q
      omega
    · rw [va_up_ne _ _ e2]; exact a5
theorem Inv.enter {M : Ms} (h : Inv M) {wi : Nat} {o : Bool} (hw : wi < M.w) (h9 : M.nt < 200) (hl : M.left < 40) : Inv (M.enter wi o) := by
  obtain ⟨h1, h2, h3, h4, h5, h6, h7, h8⟩ := h
  have e : (M.enter wi o).left = M.left + 1 := by
    show lefF (va_up M.state M.nt 0) M.nt + (if va_up M.state M.nt 0 M.nt = 2 then 0 else 1) = lefF M.state M.nt + 1
    rw [lefF_ne M.nt (Nat.le_refl _), va_up_self, if_neg (by decide)]
  refine ⟨h1, h2, h9, h4, by omega, fun u hu => ?_, fun k hk => ?_, ?_⟩
  · have hu : u < M.nt + 1 := hu
    show va_up M.wire M.nt wi u < M.w ∧ (∀ p, va_up M.place M.nt none u = some p → p < M.ns) ∧ va_up M.state M.nt 0 u ≤ 2 ∧ va_up M.nxt M.nt 0 u ≤ nb M.w ∧ (va_up M.state M.nt 0 u = 2 ↔ (va_up M.number M.nt none u).isSome = true) ∧ (∀ q, va_up M.number M.nt none u = some q → q / M.w < M.handed (q % M.w))
    by_cases e : u = M.nt
    · subst e
      simp only [va_up_self]
      exact ⟨hw, fun p hp => (by cases hp), by omega, by omega, ⟨fun q => (by cases q), fun q => (by cases q)⟩, fun q hq => (by cases hq)⟩
    · simp only [va_up_ne _ _ e]
      exact h6 u (by omega)
  · have := h7 k hk
    exact ⟨Nat.lt_succ_of_lt this.1, this.2⟩
  · show sumF M.handed M.w + (M.enter wi o).left = M.nt + 1
    omega
theorem Inv.build {M : Ms} {w ns : Nat} (hw : Wok w) (hs : 1 ≤ ns ∧ ns ≤ 6) : Inv (M.build w ns) :=
  ⟨hw, hs, Nat.zero_le _, Nat.zero_le _, Nat.zero_le _, fun t ht => absurd ht (Nat.not_lt_zero t), fun t ht => absurd ht (Nat.not_lt_zero t), by show sumF (fun _ => 0) w + 0 = 0; rw [sumF_0]⟩
theorem Inv.station {M : Ms} (h : Inv M) (f : Nat → Bool) : Inv (M.s_down f) := h
theorem Ms.can_spec {M : Ms} {t : Nat} (h : M.can t = true) : ¬ M.state t = 2 ∧ M.asleep t = false ∧ (M.nl < 60 ∨ M.state t = 1 ∨ M.place t = some (M.stN t)) := by
  unfold Ms.can at h
  simp only [Bool.and_eq_true, Bool.or_eq_true, Bool.not_eq_true', beq_iff_eq, beq_eq_false_iff_ne, decide_eq_true_eq, ne_eq] at h
  obtain ⟨⟨h1, h2⟩, h3⟩ := h
  refine ⟨h1, h2, ?_⟩
  rcases h3 with (h3 | h3) | h3
  · exact Or.inl h3
  · exact Or.inr (Or.inl h3)
  · exact Or.inr (Or.inr h3)
theorem Inv.step {M : Ms} (h : Inv M) {t : Nat} (ht : t < M.nt) (hc : M.can t = true) : Inv (M.step t).2 := by
  obtain ⟨c1, c2, c3⟩ := Ms.can_spec hc
  have hw := h.1
  have hn := h.2.1.1
  unfold Ms.step
  split
  · exact h
  · rename_i n1
    split
    · rename_i n2
      refine (h.setOut ht c1).post ht (Ms.stN_lt hn t) ?_
      rcases c3 with c3 | c3 | c3
      · exact c3
      · exact absurd c3 n1
      · exact absurd c3 n2
    · split
      · rename_i b hb
        exact h.go ht (nxB_lt hb)
      · exact h.out ht c1 (uX_lt hw (h.2.2.2.2.2.1 t ht).1)
theorem Ms.step_nt (M : Ms) (t : Nat) : (M.step t).2.nt = M.nt := by
  unfold Ms.step
  split
  · rfl
  · split
    · rfl
    · split <;> rfl
theorem Ms.comes_spec {M : Ms} {i : Nat} (h : M.comes i = true) : M.down (M.lt i) = false ∧ M.state (M.la i) = 1 ∧ M.way (M.la i) = M.lw i := by
  unfold Ms.comes at h
  simp only [Bool.and_eq_true, Bool.not_eq_true', beq_iff_eq] at h
  exact ⟨h.1.1, h.1.2, h.2⟩
theorem Inv.deliver {M : Ms} (h : Inv M) {i : Nat} (hi : i < M.nl) : Inv (M.deliver i) := by
  unfold Ms.deliver
  split
  · rename_i hc
    obtain ⟨c1, c2, c3⟩ := Ms.comes_spec hc
    have := h.2.2.2.2.2.2.1 i hi
    exact (h.take hi).arrive this.1 c2 this.2
  · exact h.take hi
theorem Ms.deliver_nl (M : Ms) (i : Nat) : (M.deliver i).nl = M.nl - 1 := by
  unfold Ms.deliver
  split <;> rfl
theorem Inv.res1 {M : Ms} (h : Inv M) {t : Nat} (ht : t < M.nt) (hl : M.nl < 60) : Inv (M.res1 t) := by
  unfold Ms.res1
  split
  · exact h.post ht (Ms.stN_lt h.2.1.1 t) hl
  · exact h
theorem Ms.res1_nt (M : Ms) (t : Nat) : (M.res1 t).nt = M.nt := by unfold Ms.res1; split <;> rfl
theorem Inv.stepAll : ∀ (f t : Nat) (M : Ms), Inv M → t + f ≤ M.nt → Inv (Ms.stepAll f t M) ∧ (Ms.stepAll f t M).nt = M.nt
  | 0, _, M, h, _ => ⟨h, rfl⟩
  | f + 1, t, M, h, hf => by
    unfold Ms.stepAll
    split
    · rename_i hc
      have := Inv.stepAll f (t + 1) _ (h.step (by omega) hc) (by rw [Ms.step_nt]; omega)
      exact ⟨this.1, this.2.trans (Ms.step_nt M t)⟩
    · exact Inv.stepAll f (t + 1) M h (by omega)
theorem Inv.delAll : ∀ (f : Nat) (M : Ms), Inv M → f ≤ M.nl → Inv (Ms.delAll f M)
  | 0, _, h, _ => h
  | f + 1, M, h, hf => by
    unfold Ms.delAll
    exact Inv.delAll f _ (h.deliver (by omega)) (by rw [Ms.deliver_nl]; omega)
theorem Inv.round {M : Ms} (h : Inv M) : Inv M.round := by
  unfold Ms.round
  exact Inv.delAll _ _ (Inv.stepAll _ _ M h (by omega)).1 (Nat.le_refl _)
theorem Inv.resF : ∀ (f t : Nat) (M : Ms), Inv M → t + f ≤ M.nt → Inv (Ms.resF f t M)
  | 0, _, _, h, _ => h
  | f + 1, t, M, h, hf => by
    unfold Ms.resF
    split
    · rename_i hl
      exact Inv.resF f (t + 1) _ (h.res1 (by omega) hl) (by rw [Ms.res1_nt]; omega)
    · exact h
theorem Inv.settle : ∀ (f : Nat) (M : Ms), Inv M → Inv (Ms.settle f M).2
  | 0, _, h => h
  | f + 1, M, h => by
    unfold Ms.settle
    split
    · exact h
    · exact Inv.settle f _ h.round
end
section
/-! the value, written in ints: both sides' fields and rows -/
def eO : Option Nat → Int32
  | none => -1
  | some p => nI p
def eB : Bool → Int32
  | false => 0
  | true => 1
def eI (x : Int32) : Int32 := x
def eP (n : Nat) : Int32 := nI n - 1
def AR {α : Type} (n : Nat) (enc : α → Int32) (f : Nat → Int32) (g : Nat → α) : Prop := ∀ t, t < n → f t = enc (g t)
theorem AR.up {α : Type} {n : Nat} {enc : α → Int32} {f : Nat → Int32} {g : Nat → α} (h : AR n enc f g) {x : Int32} {y : α} (i : Nat) (e : x = enc y) : AR n enc (upd f i x) (va_up g i y) := by
  intro t ht
  by_cases q : t = i
  · subst q; rw [pk_us, va_up_self]; exact e
  · rw [pk_un q, va_up_ne _ _ q]; exact h t ht
theorem AR.push {α : Type} {n : Nat} {enc : α → Int32} {f : Nat → Int32} {g : Nat → α} (h : AR n enc f g) {x : Int32} {y : α} (e : x = enc y) : AR (n + 1) enc (upd f n x) (va_up g n y) := by
  intro t ht
  by_cases q : t = n
  · subst q; rw [pk_us, va_up_self]; exact e
  · rw [pk_un q, va_up_ne _ _ q]; exact h t (by omega)
theorem AR.cut {α : Type} {n : Nat} {enc : α → Int32} {f : Nat → Int32} {g : Nat → α} (h : AR n enc f g) {i : Nat} (hi : i < n) : AR (n - 1) enc (va_cpy f f (i + 1) i (n - i - 1)) (shf g i) := by
  intro t ht
  unfold shf
  by_cases q : t < i
  · rw [pk_cpy_out (Or.inl q), if_pos q]; exact h t (by omega)
  · rw [pk_cpy_in (by omega) (by omega), if_neg q, show i + 1 + (t - i) = t + 1 by omega]; exact h (t + 1) (by omega)
theorem AR.of {α : Type} {n : Nat} {enc : α → Int32} {f f' : Nat → Int32} {g : Nat → α} (h : AR n enc f g) (e : ∀ t, t < n → f' t = f t) : AR n enc f' g := fun t ht => (e t ht).trans (h t ht)
def rep (x0 x1 x2 x3 : Int32) (a0 a1 a2 a3 a4 a5 a6 a7 a8 a9 a10 a11 a12 a13 : Nat → Int32) (M : Ms) : Prop :=
  (x0 = nI M.w ∧ x1 = nI M.ns ∧ x2 = nI M.nt ∧ x3 = nI M.nl) ∧ AR M.nt nI a0 M.wire ∧ AR M.nt eO a1 M.place ∧ AR M.nt nI a2 M.state ∧ AR M.nt eI a3 M.passed ∧ AR M.nt eP a4 M.nxt ∧ AR M.nt eI a5 M.way ∧ AR M.nt eO a6 M.number ∧ AR M.nt eB a7 M.ordered ∧
  AR M.nl nI a8 M.la ∧ AR M.nl eI a9 M.lw ∧ AR M.nl nI a10 M.lt ∧ AR 6 eB a11 M.down ∧ AR (nb M.w) eI a12 M.had ∧ AR M.w nI a13 M.handed
section Rep
variable {x0 x1 x2 x3 : Int32} {a0 a1 a2 a3 a4 a5 a6 a7 a8 a9 a10 a11 a12 a13 : Nat → Int32} {M : Ms}
theorem rep.setOut (h : rep x0 x1 x2 x3 a0 a1 a2 a3 a4 a5 a6 a7 a8 a9 a10 a11 a12 a13 M) {t : Nat} (ht : t < M.nt) : rep x0 x1 x2 x3 a0 a1 (upd a2 t 1) a3 a4 (upd a5 t (a5 t + 1)) a6 a7 a8 a9 a10 a11 a12 a13 (M.setOut t) := by
  obtain ⟨s, h0, h1, h2, h3, h4, h5, h6, h7, h8, h9, h10, h11, h12, h13⟩ := h
  exact ⟨s, h0, h1, h2.up t (by decide), h3, h4, h5.up t (by rw [h5 t ht]; rfl), h6, h7, h8, h9, h10, h11, h12, h13⟩
theorem rep.post (h : rep x0 x1 x2 x3 a0 a1 a2 a3 a4 a5 a6 a7 a8 a9 a10 a11 a12 a13 M) {t s : Nat} {y wy z : Int32} (ey : y = nI t) (ez : z = nI s) : rep x0 x1 x2 (x3 + 1) a0 a1 a2 a3 a4 a5 a6 a7 (upd a8 M.nl y) (upd a9 M.nl wy) (upd a10 M.nl z) a11 a12 a13 (M.post t wy s) := by
  obtain ⟨⟨s0, s1, s2, s3⟩, h0, h1, h2, h3, h4, h5, h6, h7, h8, h9, h10, h11, h12, h13⟩ := h
  exact ⟨⟨s0, s1, s2, by rw [s3, nI_1]; rfl⟩, h0, h1, h2, h3, h4, h5, h6, h7, h8.push ey, h9.push rfl, h10.push ez, h11, h12, h13⟩
theorem rep.go (h : rep x0 x1 x2 x3 a0 a1 a2 a3 a4 a5 a6 a7 a8 a9 a10 a11 a12 a13 M) {t b : Nat} (ht : t < M.nt) (hb : b < nb M.w) {v y : Int32} (ev : v = nI (if M.had b - M.had b / 2 * 2 = 0 then uU M.w b else uL M.w b)) (ey : y = nI b) :
    rep x0 x1 x2 x3 (upd a0 t v) a1 a2 (upd a3 t (a3 t + 1)) (upd a4 t y) a5 a6 a7 a8 a9 a10 a11 (upd a12 b (a12 b + 1)) a13 (M.go t b) := by
  obtain ⟨s, h0, h1, h2, h3, h4, h5, h6, h7, h8, h9, h10, h11, h12, h13⟩ := h
  exact ⟨s, h0.up t ev, h1, h2, h3.up t (by rw [h3 t ht]; rfl), h4.up t (by rw [ey]; unfold eP; rw [nI_pred]), h5, h6, h7, h8, h9, h10, h11, h12.up b (by rw [h12 b hb]; rfl), h13⟩
theorem rep.out (h : rep x0 x1 x2 x3 a0 a1 a2 a3 a4 a5 a6 a7 a8 a9 a10 a11 a12 a13 M) {t i : Nat} (hi : i < M.w) {v : Int32} (ev : v = nI (i + M.w * M.handed i)) :
    rep x0 x1 x2 x3 a0 a1 (upd a2 t 2) a3 a4 a5 (upd a6 t v) a7 a8 a9 a10 a11 a12 (upd a13 i (a13 i + 1)) (M.out t i) := by
  obtain ⟨s, h0, h1, h2, h3, h4, h5, h6, h7, h8, h9, h10, h11, h12, h13⟩ := h
  exact ⟨s, h0, h1, h2.up t (by decide), h3, h4, h5, h6.up t ev, h7, h8, h9, h10, h11, h12, h13.up i (by rw [h13 i hi, nI_1])⟩
theorem rep.take (h : rep x0 x1 x2 x3 a0 a1 a2 a3 a4 a5 a6 a7 a8 a9 a10 a11 a12 a13 M) {i : Nat} (hi : i < M.nl) {b8 b9 b10 : Nat → Int32} (e8 : AR (M.nl - 1) nI b8 (shf M.la i)) (e9 : AR (M.nl - 1) eI b9 (shf M.lw i)) (e10 : AR (M.nl - 1) nI b10 (shf M.lt i)) :
    rep x0 x1 x2 (x3 - 1) a0 a1 a2 a3 a4 a5 a6 a7 b8 b9 b10 a11 a12 a13 (M.take i) := by
  obtain ⟨⟨s0, s1, s2, s3⟩, h0, h1, h2, h3, h4, h5, h6, h7, h8, h9, h10, h11, h12, h13⟩ := h
  refine ⟨⟨s0, s1, s2, ?_⟩, h0, h1, h2, h3, h4, h5, h6, h7, e8, e9, e10, h11, h12, h13⟩
  rw [s3]
  obtain ⟨n, hn⟩ : ∃ n, M.nl = n + 1 := ⟨M.nl - 1, by omega⟩
  show nI M.nl - 1 = nI (M.nl - 1)
  rw [hn, nI_pred]
  rfl
theorem rep.arrive (h : rep x0 x1 x2 x3 a0 a1 a2 a3 a4 a5 a6 a7 a8 a9 a10 a11 a12 a13 M) {t s : Nat} {v : Int32} (ev : v = nI s) : rep x0 x1 x2 x3 a0 (upd a1 t v) (upd a2 t 0) a3 a4 a5 a6 a7 a8 a9 a10 a11 a12 a13 (M.arrive t s) := by
  obtain ⟨s, h0, h1, h2, h3, h4, h5, h6, h7, h8, h9, h10, h11, h12, h13⟩ := h
  exact ⟨s, h0, h1.up t ev, h2.up t (by decide), h3, h4, h5, h6, h7, h8, h9, h10, h11, h12, h13⟩
theorem rep.enter (h : rep x0 x1 x2 x3 a0 a1 a2 a3 a4 a5 a6 a7 a8 a9 a10 a11 a12 a13 M) {wi : Nat} {o : Bool} {v z : Int32} (ev : v = nI wi) (ez : z = eB o) :
    rep x0 x1 (x2 + 1) x3 (upd a0 M.nt v) (upd a1 M.nt (-1)) (upd a2 M.nt 0) (upd a3 M.nt 0) (upd a4 M.nt (-1)) (upd a5 M.nt 0) (upd a6 M.nt (-1)) (upd a7 M.nt z) a8 a9 a10 a11 a12 a13 (M.enter wi o) := by
  obtain ⟨⟨s0, s1, s2, s3⟩, h0, h1, h2, h3, h4, h5, h6, h7, h8, h9, h10, h11, h12, h13⟩ := h
  exact ⟨⟨s0, s1, by rw [s2, nI_1]; rfl, s3⟩, h0.push ev, h1.push rfl, h2.push (by decide), h3.push rfl, h4.push (by decide), h5.push rfl, h6.push rfl, h7.push ez, h8, h9, h10, h11, h12, h13⟩
theorem rep.build {w ns : Nat} (e0 : x0 = nI w) (e1 : x1 = nI ns) (e2 : x2 = 0) (e3 : x3 = 0) (h11 : ∀ t, t < 6 → a11 t = 0) (h12 : ∀ t, t < nb w → a12 t = 0) (h13 : ∀ t, t < w → a13 t = 0) : rep x0 x1 x2 x3 a0 a1 a2 a3 a4 a5 a6 a7 a8 a9 a10 a11 a12 a13 (M.build w ns) := by
  refine ⟨⟨e0, e1, e2.trans nI_0.symm, e3.trans nI_0.symm⟩, ?_, ?_, ?_, ?_, ?_, ?_, ?_, ?_, ?_, ?_, ?_, h11, h12, fun t ht => (h13 t ht).trans nI_0.symm⟩
  all_goals (intro t ht; exact absurd ht (Nat.not_lt_zero t))
theorem rep.station (h : rep x0 x1 x2 x3 a0 a1 a2 a3 a4 a5 a6 a7 a8 a9 a10 a11 a12 a13 M) {s : Nat} {o : Bool} {z : Int32} (ez : z = eB o) : rep x0 x1 x2 x3 a0 a1 a2 a3 a4 a5 a6 a7 a8 a9 a10 (upd a11 s z) a12 a13 (M.s_down (va_up M.down s o)) := by
  obtain ⟨s, h0, h1, h2, h3, h4, h5, h6, h7, h8, h9, h10, h11, h12, h13⟩ := h
  exact ⟨s, h0, h1, h2, h3, h4, h5, h6, h7, h8, h9, h10, h11.up _ ez, h12, h13⟩
end Rep
end
section
/-! counting: which numbers are handed out -/
def minF (h : Nat → Nat) (w : Nat) : Nat → Nat
  | 0 => w * h 0
  | n + 1 => min (minF h w n) (n + 1 + w * h (n + 1))
theorem minF_le {h : Nat → Nat} {w : Nat} : ∀ (n i : Nat), i ≤ n → minF h w n ≤ i + w * h i
  | 0, i, hi => by
    have : i = 0 := by omega
    subst this; unfold minF; omega
  | n + 1, i, hi => by
    unfold minF
    by_cases e : i = n + 1
    · subst e; omega
    · have := minF_le (h := h) (w := w) n i (by omega); omega
theorem le_minF {h : Nat → Nat} {w q : Nat} : ∀ (n : Nat), (∀ i, i ≤ n → q ≤ i + w * h i) → q ≤ minF h w n
  | 0, a => by have := a 0 (Nat.le_refl _); unfold minF; omega
  | n + 1, a => by
    unfold minF
    have h1 := le_minF n (fun i hi => a i (by omega))
    have h2 := a (n + 1) (Nat.le_refl _)
    omega
theorem least_iff {h : Nat → Nat} {w q : Nat} (hw : 0 < w) : (∀ n, n < q → n / w < h (n % w)) ↔ q ≤ minF h w (w - 1) := by
  constructor
  · intro a
    refine le_minF _ (fun i hi => ?_)
    rcases Nat.lt_or_ge (i + w * h i) q with hlt | hge
    · have := a _ hlt
      rw [Nat.add_mul_mod_self_left, Nat.mod_eq_of_lt (by omega), Nat.add_mul_div_left _ _ hw, Nat.div_eq_of_lt (by omega)] at this
      omega
    · exact hge
  · intro a n hn
    have hm : n % w < w := Nat.mod_lt _ hw
    have h1 := minF_le (h := h) (w := w) (w - 1) (n % w) (by omega)
    have h2 := Nat.mod_add_div n w
    have h3 : w * (n / w) < w * h (n % w) := by omega
    exact Nat.lt_of_mul_lt_mul_left h3
def hi1 (h : Nat → Nat) (w : Nat) : Nat → Nat
  | 0 => 0
  | n + 1 => max (hi1 h w n) (if h n = 0 then 0 else n + w * (h n - 1) + 1)
theorem hi1_ge {h : Nat → Nat} {w : Nat} : ∀ (n i : Nat), i < n → h i ≠ 0 → i + w * (h i - 1) + 1 ≤ hi1 h w n
  | 0, _, hi, _ => by omega
  | n + 1, i, hi, h0 => by
    unfold hi1
    by_cases e : i = n
    · subst e; rw [if_neg h0]; omega
    · have := hi1_ge (h := h) (w := w) n i (by omega) h0; omega
theorem hi1_at {h : Nat → Nat} {w : Nat} : ∀ (n : Nat), hi1 h w n = 0 ∨ ∃ i, i < n ∧ h i ≠ 0 ∧ hi1 h w n = i + w * (h i - 1) + 1
  | 0 => Or.inl rfl
  | n + 1 => by
    unfold hi1
    by_cases e : h n = 0
    · rw [if_pos e]
      rcases hi1_at (h := h) (w := w) n with a | ⟨i, a, b, c⟩
      · exact Or.inl (by omega)
      · exact Or.inr ⟨i, by omega, b, by omega⟩
    · rw [if_neg e]
      rcases Nat.le_total (hi1 h w n) (n + w * (h n - 1) + 1) with q | q
      · exact Or.inr ⟨n, by omega, e, by omega⟩
      · rcases hi1_at (h := h) (w := w) n with a | ⟨i, a, b, c⟩
        · omega
        · exact Or.inr ⟨i, by omega, b, by omega⟩
def cnF (h : Nat → Nat) (w : Nat) : Nat → Nat
  | 0 => 0
  | m + 1 => cnF h w m + (if m / w < h (m % w) then 1 else 0)
def gaF (h : Nat → Nat) (w : Nat) : Nat → Nat
  | 0 => 0
  | m + 1 => gaF h w m + (if m / w < h (m % w) then 0 else 1)
theorem cn_ga {h : Nat → Nat} {w : Nat} : ∀ m, cnF h w m + gaF h w m = m
  | 0 => rfl
  | m + 1 => by
    unfold cnF gaF
    have := cn_ga (h := h) (w := w) m
    split <;> omega
def miF (h : Nat → Nat) (m : Nat) : Nat → Nat
  | 0 => 0
  | n + 1 => miF h m n + min m (h n)
theorem cn_blk {h : Nat → Nat} {w m : Nat} (hw : 0 < w) : ∀ n, n ≤ w → cnF h w (w * m + n) + miF h m n = cnF h w (w * m) + miF h (m + 1) n
  | 0, _ => rfl
  | n + 1, hn => by
    have ih := cn_blk (h := h) (m := m) hw n (by omega)
    show cnF h w (w * m + n) + (if (w * m + n) / w < h ((w * m + n) % w) then 1 else 0) + (miF h m n + min m (h n)) = cnF h w (w * m) + (miF h (m + 1) n + min (m + 1) (h n))
    have e1 : (w * m + n) / w = m := by rw [Nat.add_comm, Nat.add_mul_div_left _ _ hw, Nat.div_eq_of_lt (by omega), Nat.zero_add]
    have e2 : (w * m + n) % w = n := by rw [Nat.add_comm, Nat.add_mul_mod_self_left, Nat.mod_eq_of_lt (by omega)]
    rw [e1, e2]
    split <;> omega
theorem miF_0 {h : Nat → Nat} : ∀ n, miF h 0 n = 0
  | 0 => rfl
  | n + 1 => by unfold miF; rw [miF_0 n]; omega
theorem cn_mul {h : Nat → Nat} {w : Nat} (hw : 0 < w) : ∀ m, cnF h w (w * m) = miF h m w
  | 0 => by rw [Nat.mul_zero, miF_0]; rfl
  | m + 1 => by
    have h1 := cn_blk (h := h) (m := m) hw w (Nat.le_refl _)
    have h2 := cn_mul (h := h) hw m
    rw [Nat.mul_succ]
    omega
theorem miF_big {h : Nat → Nat} {m : Nat} : ∀ n, (∀ i, i < n → h i ≤ m) → miF h m n = sumF h n
  | 0, _ => rfl
  | n + 1, a => by
    unfold miF sumF
    rw [miF_big n (fun i hi => a i (by omega))]
    have := a n (by omega)
    omega
theorem cn_past {h : Nat → Nat} {w a : Nat} : ∀ d, (∀ k, a ≤ k → ¬ k / w < h (k % w)) → cnF h w (a + d) = cnF h w a
  | 0, _ => rfl
  | d + 1, q => by
    show cnF h w (a + d) + (if (a + d) / w < h ((a + d) % w) then 1 else 0) = cnF h w a
    rw [if_neg (q (a + d) (by omega)), cn_past d q, Nat.add_zero]
theorem le_sumF {h : Nat → Nat} : ∀ (n i : Nat), i < n → h i ≤ sumF h n
  | 0, _, hi => by omega
  | n + 1, i, hi => by
    unfold sumF
    by_cases e : i = n
    · subst e; omega
    · have := le_sumF (h := h) n i (by omega); omega
theorem past_hi {h : Nat → Nat} {w k : Nat} (hw : 0 < w) (hk : hi1 h w w ≤ k) : ¬ k / w < h (k % w) := by
  intro a
  have hm : k % w < w := Nat.mod_lt _ hw
  have h1 := hi1_ge (h := h) (w := w) w (k % w) hm (fun h0 => by rw [h0] at a; exact Nat.not_lt_zero _ a)
  have h2 := Nat.mod_add_div k w
  have h3 : w * (k / w) ≤ w * (h (k % w) - 1) := Nat.mul_le_mul_left _ (Nat.le_sub_one_of_lt a)
  generalize w * (k / w) = x1 at h2 h3
  generalize w * (h (k % w) - 1) = x2 at h1 h3
  generalize k % w = x3 at h1 h2
  omega
theorem cn_hi {h : Nat → Nat} {w : Nat} (hw : 0 < w) : cnF h w (hi1 h w w) = sumF h w := by
  have hb : hi1 h w w ≤ w * (hi1 h w w + sumF h w) := by
    have : 1 * (hi1 h w w + sumF h w) ≤ w * (hi1 h w w + sumF h w) := Nat.mul_le_mul_right _ hw
    omega
  have h1 := cn_mul (h := h) hw (hi1 h w w + sumF h w)
  rw [miF_big w (fun i hi => Nat.le_trans (le_sumF w i hi) (by omega))] at h1
  have h2 := cn_past (h := h) (w := w) (a := hi1 h w w) (w * (hi1 h w w + sumF h w) - hi1 h w w) (fun k hk => past_hi hw hk)
  rw [show hi1 h w w + (w * (hi1 h w w + sumF h w) - hi1 h w w) = w * (hi1 h w w + sumF h w) by omega] at h2
  exact h2.symm.trans h1
/-- the gaps below the highest number -/
theorem ga_hi {h : Nat → Nat} {w : Nat} (hw : 0 < w) : gaF h w (hi1 h w w - 1) + sumF h w = hi1 h w w := by
  have h1 := cn_hi (h := h) hw
  have h2 := cn_ga (h := h) (w := w) (hi1 h w w)
  rcases hi1_at (h := h) (w := w) w with e | ⟨i, a, b, e⟩
  · rw [e] at h1 h2 ⊢
    show 0 + _ = _
    have : cnF h w 0 = 0 := rfl
    omega
  · have h3 : hi1 h w w = (i + w * (h i - 1)) + 1 := e
    rw [h3] at h1 h2 ⊢
    rw [Nat.add_sub_cancel]
    have h4 : gaF h w (i + w * (h i - 1) + 1) = gaF h w (i + w * (h i - 1)) + (if (i + w * (h i - 1)) / w < h ((i + w * (h i - 1)) % w) then 0 else 1) := rfl
    rw [h4] at h2
    have e1 : (i + w * (h i - 1)) / w = h i - 1 := by rw [Nat.add_mul_div_left _ _ hw, Nat.div_eq_of_lt a, Nat.zero_add]
    have e2 : (i + w * (h i - 1)) % w = i := by rw [Nat.add_mul_mod_self_left, Nat.mod_eq_of_lt a]
    rw [e1, e2, if_pos (by omega)] at h2
    omega
end
section
/-! how the network is laid, on the class's side: the row, the columns on each wire, the spare row, what is laid, how many columns -/
abbrev Pl : Type := (Nat → Nat) × (Nat → Nat) × (Nat → Nat) × List (Nat × Nat × Nat) × Nat
abbrev Pl.r (P : Pl) : Nat → Nat := P.1
abbrev Pl.c (P : Pl) : Nat → Nat := P.2.1
abbrev Pl.s (P : Pl) : Nat → Nat := P.2.2.1
abbrev Pl.l (P : Pl) : List (Nat × Nat × Nat) := P.2.2.2.1
abbrev Pl.k (P : Pl) : Nat := P.2.2.2.2
def Pl.lay (P : Pl) (a b : Nat) : Pl := (P.r, va_up (va_up P.c a (max (P.c a) (P.c b) + 1)) b (max (P.c a) (P.c b) + 1), P.s, P.l ++ [(a, b, max (P.c a) (P.c b))], max P.k (max (P.c a) (P.c b) + 1))
def Pl.jn1 (P : Pl) (fr hf i : Nat) : Pl := Pl.lay (P.r, P.c, va_up (va_up P.s (2 * i) (P.r (fr + i))) (2 * i + 1) (P.r (fr + hf + i)), P.l, P.k) (P.r (fr + i)) (P.r (fr + hf + i))
def Pl.jnL (fr hf : Nat) : Nat → Pl → Pl
  | 0, P => P
  | i + 1, P => (Pl.jnL fr hf i P).jn1 fr hf i
def Pl.back (P : Pl) (fr hf : Nat) : Pl := (va_cpy P.s P.r 0 fr (2 * hf), P.c, P.s, P.l, P.k)
def Pl.join (P : Pl) (fr hf : Nat) : Pl := (Pl.jnL fr hf hf P).back fr hf
def Pl.so1 (P : Pl) (fr hf i : Nat) : Pl := (P.r, P.c, va_up (va_up P.s ((if i % 2 = 0 then 0 else hf) + i / 2) (P.r (fr + i))) ((if i % 2 = 0 then hf else 0) + hf / 2 + i / 2) (P.r (fr + hf + i)), P.l, P.k)
def Pl.soL (fr hf : Nat) : Nat → Pl → Pl
  | 0, P => P
  | i + 1, P => (Pl.soL fr hf i P).so1 fr hf i
def Pl.sort (P : Pl) (fr hf : Nat) : Pl := (Pl.soL fr hf hf P).back fr hf
/-- merge of a stretch of 2 ^ (d + 1) -/
def Pl.merge : Nat → Nat → Pl → Pl
  | 0, fr, P => P.lay (P.r fr) (P.r (fr + 1))
  | d + 1, fr, P => (Pl.merge d (fr + 2 ^ (d + 1)) (Pl.merge d fr (P.sort fr (2 ^ (d + 1))))).join fr (2 ^ (d + 1))
/-- the laying out of a stretch of 2 ^ d -/
def Pl.layOut : Nat → Nat → Pl → Pl
  | 0, _, P => P
  | d + 1, fr, P => Pl.merge d fr (Pl.layOut d (fr + 2 ^ d) (Pl.layOut d fr P))
def Pl.draw (P : Pl) (d : Nat) : Pl := Pl.layOut d 0 (fun j => if j < 2 ^ d then j else P.r j, fun j => if j < 2 ^ d then 0 else P.c j, P.s, [], 0)
def tab (w : Nat) : List (Nat × Nat × Nat) := (List.range (nb w)).map (fun b => (uU w b, uL w b, uC w b))
theorem draw_1 (P : Pl) : (P.draw 1).l = tab 2 ∧ (P.draw 1).k = nc 2 ∧ ∀ i, i < 2 → (P.draw 1).r i = uE 2 i := by
  refine ⟨rfl, rfl, fun i hi => ?_⟩
  rcases (show i = 0 ∨ i = 1 by omega) with rfl | rfl <;> rfl
theorem draw_2 (P : Pl) : (P.draw 2).l = tab 4 ∧ (P.draw 2).k = nc 4 ∧ ∀ i, i < 4 → (P.draw 2).r i = uE 4 i := by
  refine ⟨rfl, rfl, fun i hi => ?_⟩
  rcases (show i = 0 ∨ i = 1 ∨ i = 2 ∨ i = 3 by omega) with rfl | rfl | rfl | rfl <;> rfl
set_option maxRecDepth 20000 in
theorem draw_3 (P : Pl) : (P.draw 3).l = tab 8 ∧ (P.draw 3).k = nc 8 ∧ ∀ i, i < 8 → (P.draw 3).r i = uE 8 i := by
  refine ⟨rfl, rfl, fun i hi => ?_⟩
  rcases (show i = 0 ∨ i = 1 ∨ i = 2 ∨ i = 3 ∨ i = 4 ∨ i = 5 ∨ i = 6 ∨ i = 7 by omega) with rfl | rfl | rfl | rfl | rfl | rfl | rfl | rfl <;> rfl
/-! and on the reference's side: the rows, what is laid -/
abbrev Ql : Type := (Nat → Nat) × List (Nat × Nat × Nat)
def colF (a b : Nat) : List (Nat × Nat × Nat) → Nat → Nat
  | [], c => c
  | q :: t, c => colF a b t (if (q.1 = a ∨ q.2.1 = a ∨ q.1 = b ∨ q.2.1 = b) ∧ c < q.2.2 + 1 then q.2.2 + 1 else c)
def Ql.lay (P : Ql) (a b : Nat) : Ql := (P.1, P.2 ++ [(a, b, colF a b P.2 0)])
def Ql.ones (P : Ql) (a b to : Nat) : Ql := (va_up (va_up P.1 to a) (to + 1) b, (P.lay a b).2)
def Ql.jnA (p q : Nat) : Nat → Ql → Ql
  | 0, P => P
  | i + 1, P => let Q := Ql.jnA p q i P; Q.lay (Q.1 (p + i)) (Q.1 (q + i))
def Ql.jnB (p q to : Nat) : Nat → Ql → Ql
  | 0, P => P
  | i + 1, P => let Q := Ql.jnB p q to i P; let r := va_up Q.1 (to + 2 * i) (Q.1 (p + i)); (va_up r (to + 2 * i + 1) (r (q + i)), Q.2)
def Ql.join (P : Ql) (p q n to : Nat) : Ql := Ql.jnB p q to n (Ql.jnA p q n P)
def Ql.twos (P : Ql) (x y to : Nat) : Ql :=
  let P1 := P.ones (P.1 x) (P.1 (y + 1)) (to + 4)
  let P2 := P1.ones (P1.1 (x + 1)) (P1.1 y) (to + 6)
  P2.join (to + 4) (to + 6) 2 to
def Ql.pick (P : Ql) (x y to k : Nat) : Nat → Ql
  | 0 => P
  | i + 1 => let Q := Ql.pick P x y to k i; let r := va_up Q.1 (to + 8 + i) (Q.1 (x + 2 * i + k)); (va_up r (to + 10 + i) (r (y + 2 * i + 1 - k)), Q.2)
def Ql.fours (P : Ql) (x y to : Nat) : Ql :=
  let P1 := (P.pick x y to 0 2).twos (to + 8) (to + 10) (to + 16 + 8 * 0)
  let P2 := (P1.pick x y to 1 2).twos (to + 8) (to + 10) (to + 16 + 8 * 1)
  P2.join (to + 16) (to + 24) 4 to
def Ql.four (P : Ql) (f to : Nat) : Ql := ((P.ones f (f + 1) (to + 16)).ones (f + 2) (f + 3) (to + 18)).twos (to + 16) (to + 18) to
def Ql.make (P : Ql) (w : Nat) : Ql := let P0 : Ql := (P.1, []); if w = 2 then P0.ones 0 1 0 else if w = 4 then P0.four 0 0 else ((P0.four 0 40).four 4 48).fours 40 48 0
theorem make_2 (P : Ql) : (P.make 2).2 = tab 2 ∧ ∀ i, i < 2 → (P.make 2).1 i = uE 2 i := by
  refine ⟨rfl, fun i hi => ?_⟩
  rcases (show i = 0 ∨ i = 1 by omega) with rfl | rfl <;> rfl
theorem make_4 (P : Ql) : (P.make 4).2 = tab 4 ∧ ∀ i, i < 4 → (P.make 4).1 i = uE 4 i := by
  refine ⟨rfl, fun i hi => ?_⟩
  rcases (show i = 0 ∨ i = 1 ∨ i = 2 ∨ i = 3 by omega) with rfl | rfl | rfl | rfl <;> rfl
set_option maxRecDepth 20000 in
theorem make_8 (P : Ql) : (P.make 8).2 = tab 8 ∧ ∀ i, i < 8 → (P.make 8).1 i = uE 8 i := by
  refine ⟨rfl, fun i hi => ?_⟩
  rcases (show i = 0 ∨ i = 1 ∨ i = 2 ∨ i = 3 ∨ i = 4 ∨ i = 5 ∨ i = 6 ∨ i = 7 by omega) with rfl | rfl | rfl | rfl | rfl | rfl | rfl | rfl <;> rfl
end
