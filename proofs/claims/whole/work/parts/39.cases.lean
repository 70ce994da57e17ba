/-! the law's fourteen cases -/
theorem q_0 : Cond.initialized "CountingNetworkLaw" ∈ TT := TT_mem (List.mem_of_getElem? (i := 45) (by decide +kernel)) rfl
theorem q_199 : Cond.methodLink "CountingNetworkLaw" (100 : Nat) ({ cls := "CountingNetwork", name := "resend", desc := "()I" } : MethodName) ∈ TT := TT_mem (List.mem_of_getElem? (i := 244) (by decide +kernel)) rfl
theorem q_200 : Cond.instanceMethod ({ cls := "CountingNetwork", name := "resend", desc := "()I" } : MethodName) ∈ TT := TT_mem (List.mem_of_getElem? (i := 245) (by decide +kernel)) rfl
theorem q_201 : Cond.selects "CountingNetwork" ({ cls := "CountingNetwork", name := "resend", desc := "()I" } : MethodName) ({ cls := "CountingNetwork", name := "resend", desc := "()I" } : MethodName) ∈ TT := TT_mem (List.mem_of_getElem? (i := 246) (by decide +kernel)) rfl
theorem q_202 : Cond.code ({ cls := "CountingNetwork", name := "resend", desc := "()I" } : MethodName) prog_1_method_11_code (3 : Nat) (Option.some FieldType.int) ∈ TT := TT_mem (List.mem_of_getElem? (i := 247) (by decide +kernel)) rfl
theorem q_239 : Cond.methodLink "CountingNetworkLaw" (63 : Nat) ({ cls := "CountingNetworkLaw", name := "build", desc := "(LCountingNetwork;II[J)I" } : MethodName) ∈ TT := TT_mem (List.mem_of_getElem? (i := 284) (by decide +kernel)) rfl
theorem q_240 : Cond.static ({ cls := "CountingNetworkLaw", name := "build", desc := "(LCountingNetwork;II[J)I" } : MethodName) ∈ TT := TT_mem (List.mem_of_getElem? (i := 285) (by decide +kernel)) rfl
theorem q_241 : Cond.codeWith ({ cls := "CountingNetworkLaw", name := "build", desc := "(LCountingNetwork;II[J)I" } : MethodName) method_3_code (5 : Nat) (Option.some FieldType.int) [((0 : Nat), (10 : Nat), (13 : Nat), (13 : Nat))] ∈ TT := TT_mem (List.mem_of_getElem? (i := 286) (by decide +kernel)) rfl
theorem q_316 : Cond.methodLink "CountingNetworkLaw" (73 : Nat) ({ cls := "CountingNetworkLaw", name := "balancer", desc := "(LCountingNetwork;II[J)I" } : MethodName) ∈ TT := TT_mem (List.mem_of_getElem? (i := 361) (by decide +kernel)) rfl
theorem q_317 : Cond.static ({ cls := "CountingNetworkLaw", name := "balancer", desc := "(LCountingNetwork;II[J)I" } : MethodName) ∈ TT := TT_mem (List.mem_of_getElem? (i := 362) (by decide +kernel)) rfl
theorem q_318 : Cond.codeWith ({ cls := "CountingNetworkLaw", name := "balancer", desc := "(LCountingNetwork;II[J)I" } : MethodName) method_4_code (5 : Nat) (Option.some FieldType.int) [((0 : Nat), (10 : Nat), (13 : Nat), (18 : Nat)), ((0 : Nat), (10 : Nat), (17 : Nat), (13 : Nat))] ∈ TT := TT_mem (List.mem_of_getElem? (i := 363) (by decide +kernel)) rfl
theorem q_341 : Cond.methodLink "CountingNetworkLaw" (76 : Nat) ({ cls := "CountingNetworkLaw", name := "exit", desc := "(LCountingNetwork;II[J)I" } : MethodName) ∈ TT := TT_mem (List.mem_of_getElem? (i := 386) (by decide +kernel)) rfl
theorem q_342 : Cond.static ({ cls := "CountingNetworkLaw", name := "exit", desc := "(LCountingNetwork;II[J)I" } : MethodName) ∈ TT := TT_mem (List.mem_of_getElem? (i := 387) (by decide +kernel)) rfl
theorem q_343 : Cond.codeWith ({ cls := "CountingNetworkLaw", name := "exit", desc := "(LCountingNetwork;II[J)I" } : MethodName) method_5_code (5 : Nat) (Option.some FieldType.int) [((0 : Nat), (10 : Nat), (13 : Nat), (18 : Nat)), ((0 : Nat), (10 : Nat), (17 : Nat), (13 : Nat))] ∈ TT := TT_mem (List.mem_of_getElem? (i := 388) (by decide +kernel)) rfl
theorem q_349 : Cond.methodLink "CountingNetworkLaw" (79 : Nat) ({ cls := "CountingNetworkLaw", name := "enter", desc := "(LCountingNetwork;IZ[J)I" } : MethodName) ∈ TT := TT_mem (List.mem_of_getElem? (i := 394) (by decide +kernel)) rfl
theorem q_350 : Cond.static ({ cls := "CountingNetworkLaw", name := "enter", desc := "(LCountingNetwork;IZ[J)I" } : MethodName) ∈ TT := TT_mem (List.mem_of_getElem? (i := 395) (by decide +kernel)) rfl
theorem q_351 : Cond.codeWith ({ cls := "CountingNetworkLaw", name := "enter", desc := "(LCountingNetwork;IZ[J)I" } : MethodName) method_6_code (5 : Nat) (Option.some FieldType.int) [((0 : Nat), (10 : Nat), (13 : Nat), (13 : Nat)), ((0 : Nat), (10 : Nat), (17 : Nat), (27 : Nat))] ∈ TT := TT_mem (List.mem_of_getElem? (i := 396) (by decide +kernel)) rfl
theorem q_378 : Cond.methodLink "CountingNetworkLaw" (83 : Nat) ({ cls := "CountingNetworkLaw", name := "move", desc := "(LCountingNetwork;I[J)I" } : MethodName) ∈ TT := TT_mem (List.mem_of_getElem? (i := 423) (by decide +kernel)) rfl
theorem q_379 : Cond.static ({ cls := "CountingNetworkLaw", name := "move", desc := "(LCountingNetwork;I[J)I" } : MethodName) ∈ TT := TT_mem (List.mem_of_getElem? (i := 424) (by decide +kernel)) rfl
theorem q_380 : Cond.codeWith ({ cls := "CountingNetworkLaw", name := "move", desc := "(LCountingNetwork;I[J)I" } : MethodName) method_7_code (4 : Nat) (Option.some FieldType.int) [((0 : Nat), (9 : Nat), (12 : Nat), (13 : Nat)), ((0 : Nat), (9 : Nat), (15 : Nat), (27 : Nat))] ∈ TT := TT_mem (List.mem_of_getElem? (i := 425) (by decide +kernel)) rfl
theorem q_427 : Cond.methodLink "CountingNetworkLaw" (87 : Nat) ({ cls := "CountingNetworkLaw", name := "deliver", desc := "(LCountingNetwork;I[J)I" } : MethodName) ∈ TT := TT_mem (List.mem_of_getElem? (i := 472) (by decide +kernel)) rfl
theorem q_428 : Cond.static ({ cls := "CountingNetworkLaw", name := "deliver", desc := "(LCountingNetwork;I[J)I" } : MethodName) ∈ TT := TT_mem (List.mem_of_getElem? (i := 473) (by decide +kernel)) rfl
theorem q_429 : Cond.codeWith ({ cls := "CountingNetworkLaw", name := "deliver", desc := "(LCountingNetwork;I[J)I" } : MethodName) method_8_code (4 : Nat) (Option.some FieldType.int) [((0 : Nat), (9 : Nat), (12 : Nat), (18 : Nat))] ∈ TT := TT_mem (List.mem_of_getElem? (i := 474) (by decide +kernel)) rfl
theorem q_452 : Cond.methodLink "CountingNetworkLaw" (90 : Nat) ({ cls := "CountingNetworkLaw", name := "lose", desc := "(LCountingNetwork;I)I" } : MethodName) ∈ TT := TT_mem (List.mem_of_getElem? (i := 497) (by decide +kernel)) rfl
theorem q_453 : Cond.static ({ cls := "CountingNetworkLaw", name := "lose", desc := "(LCountingNetwork;I)I" } : MethodName) ∈ TT := TT_mem (List.mem_of_getElem? (i := 498) (by decide +kernel)) rfl
theorem q_454 : Cond.codeWith ({ cls := "CountingNetworkLaw", name := "lose", desc := "(LCountingNetwork;I)I" } : MethodName) method_9_code (3 : Nat) (Option.some FieldType.int) [((0 : Nat), (5 : Nat), (8 : Nat), (18 : Nat))] ∈ TT := TT_mem (List.mem_of_getElem? (i := 499) (by decide +kernel)) rfl
theorem q_459 : Cond.methodLink "CountingNetworkLaw" (94 : Nat) ({ cls := "CountingNetworkLaw", name := "twin", desc := "(LCountingNetwork;I)I" } : MethodName) ∈ TT := TT_mem (List.mem_of_getElem? (i := 504) (by decide +kernel)) rfl
theorem q_460 : Cond.static ({ cls := "CountingNetworkLaw", name := "twin", desc := "(LCountingNetwork;I)I" } : MethodName) ∈ TT := TT_mem (List.mem_of_getElem? (i := 505) (by decide +kernel)) rfl
theorem q_461 : Cond.codeWith ({ cls := "CountingNetworkLaw", name := "twin", desc := "(LCountingNetwork;I)I" } : MethodName) method_10_code (3 : Nat) (Option.some FieldType.int) [((0 : Nat), (5 : Nat), (8 : Nat), (18 : Nat)), ((0 : Nat), (5 : Nat), (11 : Nat), (27 : Nat))] ∈ TT := TT_mem (List.mem_of_getElem? (i := 506) (by decide +kernel)) rfl
theorem q_467 : Cond.methodLink "CountingNetworkLaw" (97 : Nat) ({ cls := "CountingNetworkLaw", name := "letter", desc := "(LCountingNetwork;II[J)I" } : MethodName) ∈ TT := TT_mem (List.mem_of_getElem? (i := 512) (by decide +kernel)) rfl
theorem q_468 : Cond.static ({ cls := "CountingNetworkLaw", name := "letter", desc := "(LCountingNetwork;II[J)I" } : MethodName) ∈ TT := TT_mem (List.mem_of_getElem? (i := 513) (by decide +kernel)) rfl
theorem q_469 : Cond.codeWith ({ cls := "CountingNetworkLaw", name := "letter", desc := "(LCountingNetwork;II[J)I" } : MethodName) method_11_code (5 : Nat) (Option.some FieldType.int) [((0 : Nat), (10 : Nat), (13 : Nat), (18 : Nat)), ((0 : Nat), (10 : Nat), (17 : Nat), (13 : Nat))] ∈ TT := TT_mem (List.mem_of_getElem? (i := 514) (by decide +kernel)) rfl
theorem q_474 : Cond.methodLink "CountingNetworkLaw" (104 : Nat) ({ cls := "CountingNetworkLaw", name := "station", desc := "(LCountingNetwork;IZ)I" } : MethodName) ∈ TT := TT_mem (List.mem_of_getElem? (i := 519) (by decide +kernel)) rfl
theorem q_475 : Cond.static ({ cls := "CountingNetworkLaw", name := "station", desc := "(LCountingNetwork;IZ)I" } : MethodName) ∈ TT := TT_mem (List.mem_of_getElem? (i := 520) (by decide +kernel)) rfl
theorem q_476 : Cond.codeWith ({ cls := "CountingNetworkLaw", name := "station", desc := "(LCountingNetwork;IZ)I" } : MethodName) method_12_code (4 : Nat) (Option.some FieldType.int) [((0 : Nat), (6 : Nat), (9 : Nat), (13 : Nat))] ∈ TT := TT_mem (List.mem_of_getElem? (i := 521) (by decide +kernel)) rfl
theorem q_482 : Cond.methodLink "CountingNetworkLaw" (108 : Nat) ({ cls := "CountingNetworkLaw", name := "token", desc := "(LCountingNetwork;II[J)I" } : MethodName) ∈ TT := TT_mem (List.mem_of_getElem? (i := 527) (by decide +kernel)) rfl
theorem q_483 : Cond.static ({ cls := "CountingNetworkLaw", name := "token", desc := "(LCountingNetwork;II[J)I" } : MethodName) ∈ TT := TT_mem (List.mem_of_getElem? (i := 528) (by decide +kernel)) rfl
theorem q_484 : Cond.codeWith ({ cls := "CountingNetworkLaw", name := "token", desc := "(LCountingNetwork;II[J)I" } : MethodName) method_13_code (5 : Nat) (Option.some FieldType.int) [((0 : Nat), (10 : Nat), (13 : Nat), (13 : Nat))] ∈ TT := TT_mem (List.mem_of_getElem? (i := 529) (by decide +kernel)) rfl
theorem q_500 : Cond.methodLink "CountingNetworkLaw" (111 : Nat) ({ cls := "CountingNetworkLaw", name := "about", desc := "(LCountingNetwork;I[J)I" } : MethodName) ∈ TT := TT_mem (List.mem_of_getElem? (i := 545) (by decide +kernel)) rfl
theorem q_501 : Cond.static ({ cls := "CountingNetworkLaw", name := "about", desc := "(LCountingNetwork;I[J)I" } : MethodName) ∈ TT := TT_mem (List.mem_of_getElem? (i := 546) (by decide +kernel)) rfl
theorem q_502 : Cond.codeWith ({ cls := "CountingNetworkLaw", name := "about", desc := "(LCountingNetwork;I[J)I" } : MethodName) method_14_code (4 : Nat) (Option.some FieldType.int) [((0 : Nat), (9 : Nat), (12 : Nat), (13 : Nat))] ∈ TT := TT_mem (List.mem_of_getElem? (i := 547) (by decide +kernel)) rfl
theorem q_516 : Cond.methodLink "CountingNetworkLaw" (114 : Nat) ({ cls := "CountingNetworkLaw", name := "settle", desc := "(LCountingNetwork;I[J)I" } : MethodName) ∈ TT := TT_mem (List.mem_of_getElem? (i := 561) (by decide +kernel)) rfl
theorem q_517 : Cond.static ({ cls := "CountingNetworkLaw", name := "settle", desc := "(LCountingNetwork;I[J)I" } : MethodName) ∈ TT := TT_mem (List.mem_of_getElem? (i := 562) (by decide +kernel)) rfl
theorem q_518 : Cond.codeWith ({ cls := "CountingNetworkLaw", name := "settle", desc := "(LCountingNetwork;I[J)I" } : MethodName) method_15_code (4 : Nat) (Option.some FieldType.int) [((0 : Nat), (9 : Nat), (12 : Nat), (13 : Nat))] ∈ TT := TT_mem (List.mem_of_getElem? (i := 563) (by decide +kernel)) rfl
theorem q_642 : Cond.methodLink "CountingNetworkLaw" (69 : Nat) ({ cls := "CountingNetworkModel", name := "thrown", desc := "()I" } : MethodName) ∈ TT := TT_mem (List.mem_of_getElem? (i := 687) (by decide +kernel)) rfl
theorem q_643 : Cond.instanceMethod ({ cls := "CountingNetworkModel", name := "thrown", desc := "()I" } : MethodName) ∈ TT := TT_mem (List.mem_of_getElem? (i := 688) (by decide +kernel)) rfl
theorem q_644 : Cond.selects "CountingNetworkModel" ({ cls := "CountingNetworkModel", name := "thrown", desc := "()I" } : MethodName) ({ cls := "CountingNetworkModel", name := "thrown", desc := "()I" } : MethodName) ∈ TT := TT_mem (List.mem_of_getElem? (i := 689) (by decide +kernel)) rfl
theorem q_645 : Cond.code ({ cls := "CountingNetworkModel", name := "thrown", desc := "()I" } : MethodName) prog_6_method_2_code (1 : Nat) (Option.some FieldType.int) ∈ TT := TT_mem (List.mem_of_getElem? (i := 690) (by decide +kernel)) rfl
theorem q_646 : Cond.methodLink "CountingNetworkLaw" (68 : Nat) ({ cls := "CountingNetworkModel", name := "build", desc := "(II)I" } : MethodName) ∈ TT := TT_mem (List.mem_of_getElem? (i := 691) (by decide +kernel)) rfl
theorem q_647 : Cond.instanceMethod ({ cls := "CountingNetworkModel", name := "build", desc := "(II)I" } : MethodName) ∈ TT := TT_mem (List.mem_of_getElem? (i := 692) (by decide +kernel)) rfl
theorem q_648 : Cond.selects "CountingNetworkModel" ({ cls := "CountingNetworkModel", name := "build", desc := "(II)I" } : MethodName) ({ cls := "CountingNetworkModel", name := "build", desc := "(II)I" } : MethodName) ∈ TT := TT_mem (List.mem_of_getElem? (i := 693) (by decide +kernel)) rfl
theorem q_649 : Cond.code ({ cls := "CountingNetworkModel", name := "build", desc := "(II)I" } : MethodName) prog_6_method_12_code (3 : Nat) (Option.some FieldType.int) ∈ TT := TT_mem (List.mem_of_getElem? (i := 694) (by decide +kernel)) rfl
theorem q_657 : Cond.methodLink "CountingNetworkLaw" (75 : Nat) ({ cls := "CountingNetworkModel", name := "balancer", desc := "(II)I" } : MethodName) ∈ TT := TT_mem (List.mem_of_getElem? (i := 702) (by decide +kernel)) rfl
theorem q_658 : Cond.instanceMethod ({ cls := "CountingNetworkModel", name := "balancer", desc := "(II)I" } : MethodName) ∈ TT := TT_mem (List.mem_of_getElem? (i := 703) (by decide +kernel)) rfl
theorem q_659 : Cond.selects "CountingNetworkModel" ({ cls := "CountingNetworkModel", name := "balancer", desc := "(II)I" } : MethodName) ({ cls := "CountingNetworkModel", name := "balancer", desc := "(II)I" } : MethodName) ∈ TT := TT_mem (List.mem_of_getElem? (i := 704) (by decide +kernel)) rfl
theorem q_660 : Cond.code ({ cls := "CountingNetworkModel", name := "balancer", desc := "(II)I" } : MethodName) prog_6_method_13_code (4 : Nat) (Option.some FieldType.int) ∈ TT := TT_mem (List.mem_of_getElem? (i := 705) (by decide +kernel)) rfl
theorem q_661 : Cond.methodLink "CountingNetworkLaw" (78 : Nat) ({ cls := "CountingNetworkModel", name := "exit", desc := "(II)I" } : MethodName) ∈ TT := TT_mem (List.mem_of_getElem? (i := 706) (by decide +kernel)) rfl
theorem q_662 : Cond.instanceMethod ({ cls := "CountingNetworkModel", name := "exit", desc := "(II)I" } : MethodName) ∈ TT := TT_mem (List.mem_of_getElem? (i := 707) (by decide +kernel)) rfl
theorem q_663 : Cond.selects "CountingNetworkModel" ({ cls := "CountingNetworkModel", name := "exit", desc := "(II)I" } : MethodName) ({ cls := "CountingNetworkModel", name := "exit", desc := "(II)I" } : MethodName) ∈ TT := TT_mem (List.mem_of_getElem? (i := 708) (by decide +kernel)) rfl
theorem q_664 : Cond.code ({ cls := "CountingNetworkModel", name := "exit", desc := "(II)I" } : MethodName) prog_6_method_14_code (4 : Nat) (Option.some FieldType.int) ∈ TT := TT_mem (List.mem_of_getElem? (i := 709) (by decide +kernel)) rfl
theorem q_665 : Cond.methodLink "CountingNetworkLaw" (82 : Nat) ({ cls := "CountingNetworkModel", name := "enter", desc := "(IZ)I" } : MethodName) ∈ TT := TT_mem (List.mem_of_getElem? (i := 710) (by decide +kernel)) rfl
theorem q_666 : Cond.instanceMethod ({ cls := "CountingNetworkModel", name := "enter", desc := "(IZ)I" } : MethodName) ∈ TT := TT_mem (List.mem_of_getElem? (i := 711) (by decide +kernel)) rfl
theorem q_667 : Cond.selects "CountingNetworkModel" ({ cls := "CountingNetworkModel", name := "enter", desc := "(IZ)I" } : MethodName) ({ cls := "CountingNetworkModel", name := "enter", desc := "(IZ)I" } : MethodName) ∈ TT := TT_mem (List.mem_of_getElem? (i := 712) (by decide +kernel)) rfl
theorem q_668 : Cond.code ({ cls := "CountingNetworkModel", name := "enter", desc := "(IZ)I" } : MethodName) prog_6_method_16_code (4 : Nat) (Option.some FieldType.int) ∈ TT := TT_mem (List.mem_of_getElem? (i := 713) (by decide +kernel)) rfl
theorem q_673 : Cond.methodLink "CountingNetworkLaw" (86 : Nat) ({ cls := "CountingNetworkModel", name := "move", desc := "(I)I" } : MethodName) ∈ TT := TT_mem (List.mem_of_getElem? (i := 718) (by decide +kernel)) rfl
theorem q_674 : Cond.instanceMethod ({ cls := "CountingNetworkModel", name := "move", desc := "(I)I" } : MethodName) ∈ TT := TT_mem (List.mem_of_getElem? (i := 719) (by decide +kernel)) rfl
theorem q_675 : Cond.selects "CountingNetworkModel" ({ cls := "CountingNetworkModel", name := "move", desc := "(I)I" } : MethodName) ({ cls := "CountingNetworkModel", name := "move", desc := "(I)I" } : MethodName) ∈ TT := TT_mem (List.mem_of_getElem? (i := 720) (by decide +kernel)) rfl
theorem q_676 : Cond.code ({ cls := "CountingNetworkModel", name := "move", desc := "(I)I" } : MethodName) prog_6_method_23_code (3 : Nat) (Option.some FieldType.int) ∈ TT := TT_mem (List.mem_of_getElem? (i := 721) (by decide +kernel)) rfl
theorem q_701 : Cond.methodLink "CountingNetworkLaw" (89 : Nat) ({ cls := "CountingNetworkModel", name := "deliver", desc := "(I)I" } : MethodName) ∈ TT := TT_mem (List.mem_of_getElem? (i := 746) (by decide +kernel)) rfl
theorem q_709 : Cond.methodLink "CountingNetworkLaw" (93 : Nat) ({ cls := "CountingNetworkModel", name := "lose", desc := "(I)V" } : MethodName) ∈ TT := TT_mem (List.mem_of_getElem? (i := 754) (by decide +kernel)) rfl
theorem q_710 : Cond.instanceMethod ({ cls := "CountingNetworkModel", name := "lose", desc := "(I)V" } : MethodName) ∈ TT := TT_mem (List.mem_of_getElem? (i := 755) (by decide +kernel)) rfl
theorem q_711 : Cond.selects "CountingNetworkModel" ({ cls := "CountingNetworkModel", name := "lose", desc := "(I)V" } : MethodName) ({ cls := "CountingNetworkModel", name := "lose", desc := "(I)V" } : MethodName) ∈ TT := TT_mem (List.mem_of_getElem? (i := 756) (by decide +kernel)) rfl
theorem q_712 : Cond.code ({ cls := "CountingNetworkModel", name := "lose", desc := "(I)V" } : MethodName) prog_6_method_26_code (2 : Nat) (Option.none : Option Jvm.ClassFile.FieldType) ∈ TT := TT_mem (List.mem_of_getElem? (i := 757) (by decide +kernel)) rfl
theorem q_713 : Cond.methodLink "CountingNetworkLaw" (96 : Nat) ({ cls := "CountingNetworkModel", name := "twin", desc := "(I)V" } : MethodName) ∈ TT := TT_mem (List.mem_of_getElem? (i := 758) (by decide +kernel)) rfl
theorem q_714 : Cond.instanceMethod ({ cls := "CountingNetworkModel", name := "twin", desc := "(I)V" } : MethodName) ∈ TT := TT_mem (List.mem_of_getElem? (i := 759) (by decide +kernel)) rfl
theorem q_715 : Cond.selects "CountingNetworkModel" ({ cls := "CountingNetworkModel", name := "twin", desc := "(I)V" } : MethodName) ({ cls := "CountingNetworkModel", name := "twin", desc := "(I)V" } : MethodName) ∈ TT := TT_mem (List.mem_of_getElem? (i := 760) (by decide +kernel)) rfl
theorem q_716 : Cond.code ({ cls := "CountingNetworkModel", name := "twin", desc := "(I)V" } : MethodName) prog_6_method_27_code (3 : Nat) (Option.none : Option Jvm.ClassFile.FieldType) ∈ TT := TT_mem (List.mem_of_getElem? (i := 761) (by decide +kernel)) rfl
theorem q_717 : Cond.methodLink "CountingNetworkLaw" (99 : Nat) ({ cls := "CountingNetworkModel", name := "letter", desc := "(II)I" } : MethodName) ∈ TT := TT_mem (List.mem_of_getElem? (i := 762) (by decide +kernel)) rfl
theorem q_718 : Cond.instanceMethod ({ cls := "CountingNetworkModel", name := "letter", desc := "(II)I" } : MethodName) ∈ TT := TT_mem (List.mem_of_getElem? (i := 763) (by decide +kernel)) rfl
theorem q_719 : Cond.selects "CountingNetworkModel" ({ cls := "CountingNetworkModel", name := "letter", desc := "(II)I" } : MethodName) ({ cls := "CountingNetworkModel", name := "letter", desc := "(II)I" } : MethodName) ∈ TT := TT_mem (List.mem_of_getElem? (i := 764) (by decide +kernel)) rfl
theorem q_720 : Cond.code ({ cls := "CountingNetworkModel", name := "letter", desc := "(II)I" } : MethodName) prog_6_method_28_code (4 : Nat) (Option.some FieldType.int) ∈ TT := TT_mem (List.mem_of_getElem? (i := 765) (by decide +kernel)) rfl
theorem q_721 : Cond.methodLink "CountingNetworkLaw" (103 : Nat) ({ cls := "CountingNetworkModel", name := "resend", desc := "()I" } : MethodName) ∈ TT := TT_mem (List.mem_of_getElem? (i := 766) (by decide +kernel)) rfl
theorem q_722 : Cond.instanceMethod ({ cls := "CountingNetworkModel", name := "resend", desc := "()I" } : MethodName) ∈ TT := TT_mem (List.mem_of_getElem? (i := 767) (by decide +kernel)) rfl
theorem q_723 : Cond.selects "CountingNetworkModel" ({ cls := "CountingNetworkModel", name := "resend", desc := "()I" } : MethodName) ({ cls := "CountingNetworkModel", name := "resend", desc := "()I" } : MethodName) ∈ TT := TT_mem (List.mem_of_getElem? (i := 768) (by decide +kernel)) rfl
theorem q_724 : Cond.code ({ cls := "CountingNetworkModel", name := "resend", desc := "()I" } : MethodName) prog_6_method_30_code (3 : Nat) (Option.some FieldType.int) ∈ TT := TT_mem (List.mem_of_getElem? (i := 769) (by decide +kernel)) rfl
theorem q_729 : Cond.methodLink "CountingNetworkLaw" (107 : Nat) ({ cls := "CountingNetworkModel", name := "station", desc := "(IZ)V" } : MethodName) ∈ TT := TT_mem (List.mem_of_getElem? (i := 774) (by decide +kernel)) rfl
theorem q_730 : Cond.instanceMethod ({ cls := "CountingNetworkModel", name := "station", desc := "(IZ)V" } : MethodName) ∈ TT := TT_mem (List.mem_of_getElem? (i := 775) (by decide +kernel)) rfl
theorem q_731 : Cond.selects "CountingNetworkModel" ({ cls := "CountingNetworkModel", name := "station", desc := "(IZ)V" } : MethodName) ({ cls := "CountingNetworkModel", name := "station", desc := "(IZ)V" } : MethodName) ∈ TT := TT_mem (List.mem_of_getElem? (i := 776) (by decide +kernel)) rfl
theorem q_732 : Cond.code ({ cls := "CountingNetworkModel", name := "station", desc := "(IZ)V" } : MethodName) prog_6_method_31_code (3 : Nat) (Option.none : Option Jvm.ClassFile.FieldType) ∈ TT := TT_mem (List.mem_of_getElem? (i := 777) (by decide +kernel)) rfl
theorem q_733 : Cond.methodLink "CountingNetworkLaw" (110 : Nat) ({ cls := "CountingNetworkModel", name := "token", desc := "(II)I" } : MethodName) ∈ TT := TT_mem (List.mem_of_getElem? (i := 778) (by decide +kernel)) rfl
theorem q_734 : Cond.instanceMethod ({ cls := "CountingNetworkModel", name := "token", desc := "(II)I" } : MethodName) ∈ TT := TT_mem (List.mem_of_getElem? (i := 779) (by decide +kernel)) rfl
theorem q_735 : Cond.selects "CountingNetworkModel" ({ cls := "CountingNetworkModel", name := "token", desc := "(II)I" } : MethodName) ({ cls := "CountingNetworkModel", name := "token", desc := "(II)I" } : MethodName) ∈ TT := TT_mem (List.mem_of_getElem? (i := 780) (by decide +kernel)) rfl
theorem q_736 : Cond.code ({ cls := "CountingNetworkModel", name := "token", desc := "(II)I" } : MethodName) prog_6_method_34_code (3 : Nat) (Option.some FieldType.int) ∈ TT := TT_mem (List.mem_of_getElem? (i := 781) (by decide +kernel)) rfl
theorem q_745 : Cond.methodLink "CountingNetworkLaw" (113 : Nat) ({ cls := "CountingNetworkModel", name := "about", desc := "(I)I" } : MethodName) ∈ TT := TT_mem (List.mem_of_getElem? (i := 790) (by decide +kernel)) rfl
theorem q_746 : Cond.instanceMethod ({ cls := "CountingNetworkModel", name := "about", desc := "(I)I" } : MethodName) ∈ TT := TT_mem (List.mem_of_getElem? (i := 791) (by decide +kernel)) rfl
theorem q_747 : Cond.selects "CountingNetworkModel" ({ cls := "CountingNetworkModel", name := "about", desc := "(I)I" } : MethodName) ({ cls := "CountingNetworkModel", name := "about", desc := "(I)I" } : MethodName) ∈ TT := TT_mem (List.mem_of_getElem? (i := 792) (by decide +kernel)) rfl
theorem q_748 : Cond.code ({ cls := "CountingNetworkModel", name := "about", desc := "(I)I" } : MethodName) prog_6_method_37_code (2 : Nat) (Option.some FieldType.int) ∈ TT := TT_mem (List.mem_of_getElem? (i := 793) (by decide +kernel)) rfl
theorem q_757 : Cond.methodLink "CountingNetworkLaw" (116 : Nat) ({ cls := "CountingNetworkModel", name := "settle", desc := "(I)I" } : MethodName) ∈ TT := TT_mem (List.mem_of_getElem? (i := 802) (by decide +kernel)) rfl
theorem q_758 : Cond.instanceMethod ({ cls := "CountingNetworkModel", name := "settle", desc := "(I)I" } : MethodName) ∈ TT := TT_mem (List.mem_of_getElem? (i := 803) (by decide +kernel)) rfl
theorem q_759 : Cond.selects "CountingNetworkModel" ({ cls := "CountingNetworkModel", name := "settle", desc := "(I)I" } : MethodName) ({ cls := "CountingNetworkModel", name := "settle", desc := "(I)I" } : MethodName) ∈ TT := TT_mem (List.mem_of_getElem? (i := 804) (by decide +kernel)) rfl
theorem q_760 : Cond.code ({ cls := "CountingNetworkModel", name := "settle", desc := "(I)I" } : MethodName) prog_6_method_38_code (4 : Nat) (Option.some FieldType.int) ∈ TT := TT_mem (List.mem_of_getElem? (i := 805) (by decide +kernel)) rfl
theorem cs_build : jcSW RL 63 mt_L_build hh_build 4 := ⟨q_241, q_239, q_240, q_0, by decide, by decide, by decide +kernel⟩
theorem cs_balancer : jcSW RL 73 mt_L_balancer hh_balancer 4 := ⟨q_318, q_316, q_317, q_0, by decide, by decide, by decide +kernel⟩
theorem cs_exit : jcSW RL 76 mt_L_exit hh_exit 4 := ⟨q_343, q_341, q_342, q_0, by decide, by decide, by decide +kernel⟩
theorem cs_enter : jcSW RL 79 mt_L_enter hh_enter 4 := ⟨q_351, q_349, q_350, q_0, by decide, by decide, by decide +kernel⟩
theorem cs_move : jcSW RL 83 mt_L_move hh_move 3 := ⟨q_380, q_378, q_379, q_0, by decide, by decide, by decide +kernel⟩
theorem cs_deliver : jcSW RL 87 mt_L_deliver hh_deliver 3 := ⟨q_429, q_427, q_428, q_0, by decide, by decide, by decide +kernel⟩
theorem cs_lose : jcSW RL 90 mt_L_lose hh_lose 2 := ⟨q_454, q_452, q_453, q_0, by decide, by decide, by decide +kernel⟩
theorem cs_twin : jcSW RL 94 mt_L_twin hh_twin 2 := ⟨q_461, q_459, q_460, q_0, by decide, by decide, by decide +kernel⟩
theorem cs_letter : jcSW RL 97 mt_L_letter hh_letter 4 := ⟨q_469, q_467, q_468, q_0, by decide, by decide, by decide +kernel⟩
theorem cs_station : jcSW RL 104 mt_L_station hh_station 3 := ⟨q_476, q_474, q_475, q_0, by decide, by decide, by decide +kernel⟩
theorem cs_token : jcSW RL 108 mt_L_token hh_token 4 := ⟨q_484, q_482, q_483, q_0, by decide, by decide, by decide +kernel⟩
theorem cs_about : jcSW RL 111 mt_L_about hh_about 3 := ⟨q_502, q_500, q_501, q_0, by decide, by decide, by decide +kernel⟩
theorem cs_settle : jcSW RL 114 mt_L_settle hh_settle 3 := ⟨q_518, q_516, q_517, q_0, by decide, by decide, by decide +kernel⟩
theorem cl_M_build : jcV TT RL 68 mt_M_build 2 := ⟨TT_good, q_649, q_646, q_647, q_648, q_7, by decide, by decide, by decide +kernel⟩
theorem cl_M_balancer : jcV TT RL 75 mt_M_balancer 2 := ⟨TT_good, q_660, q_657, q_658, q_659, q_7, by decide, by decide, by decide +kernel⟩
theorem cl_M_exit : jcV TT RL 78 mt_M_exit 2 := ⟨TT_good, q_664, q_661, q_662, q_663, q_7, by decide, by decide, by decide +kernel⟩
theorem cl_M_enter : jcV TT RL 82 mt_M_enter 2 := ⟨TT_good, q_668, q_665, q_666, q_667, q_7, by decide, by decide, by decide +kernel⟩
theorem cl_M_move : jcV TT RL 86 mt_M_move 1 := ⟨TT_good, q_676, q_673, q_674, q_675, q_7, by decide, by decide, by decide +kernel⟩
theorem cl_M_deliver : jcV TT RL 89 mt_M_deliver 1 := ⟨TT_good, q_704, q_701, q_702, q_703, q_7, by decide, by decide, by decide +kernel⟩
theorem cl_M_lose : jcV TT RL 93 mt_M_lose 1 := ⟨TT_good, q_712, q_709, q_710, q_711, q_7, by decide, by decide, by decide +kernel⟩
theorem cl_M_twin : jcV TT RL 96 mt_M_twin 1 := ⟨TT_good, q_716, q_713, q_714, q_715, q_7, by decide, by decide, by decide +kernel⟩
theorem cl_M_letter : jcV TT RL 99 mt_M_letter 2 := ⟨TT_good, q_720, q_717, q_718, q_719, q_7, by decide, by decide, by decide +kernel⟩
theorem cl_M_resend : jcV TT RL 103 mt_M_resend 0 := ⟨TT_good, q_724, q_721, q_722, q_723, q_7, by decide, by decide, by decide +kernel⟩
theorem cl_M_station : jcV TT RL 107 mt_M_station 2 := ⟨TT_good, q_732, q_729, q_730, q_731, q_7, by decide, by decide, by decide +kernel⟩
theorem cl_M_token : jcV TT RL 110 mt_M_token 2 := ⟨TT_good, q_736, q_733, q_734, q_735, q_7, by decide, by decide, by decide +kernel⟩
theorem cl_M_about : jcV TT RL 113 mt_M_about 1 := ⟨TT_good, q_748, q_745, q_746, q_747, q_7, by decide, by decide, by decide +kernel⟩
theorem cl_M_settle : jcV TT RL 116 mt_M_settle 1 := ⟨TT_good, q_760, q_757, q_758, q_759, q_7, by decide, by decide, by decide +kernel⟩
theorem cl_M_thrown : jcV TT RL 69 mt_M_thrown 0 := ⟨TT_good, q_645, q_642, q_643, q_644, q_7, by decide, by decide, by decide +kernel⟩
theorem cl_N_resend : jcV TT RL 100 mt_N_resend 0 := ⟨TT_good, q_202, q_199, q_200, q_201, q_1, by decide, by decide, by decide +kernel⟩
def lawC (X : Cx) (A : Nat → Prop) (b LL : Nat) (xs : Nat → Int32) : Prop := oxW X.s X.s.heap (fun _ => False) ∧ nCast X.s ∧ (∀ q, q < X.s.heap.size → ¬ A q) ∧ va_X b LL xs X.s X.s.heap ∧ b < X.s.heap.size ∧ LL ≤ 1536
theorem inv_build {M : Ms} (h : Inv M) (x y : Int32) : Inv (o_build M x y).2.2 := by
  unfold o_build
  split
  · rename_i w s hw hs
    have h1 := (inR_some (by decide) hs).1
    exact Inv.build (widthOf_some hw).1 ⟨by omega, by omega⟩
  · exact h
theorem inv_balancer {M : Ms} (h : Inv M) (x y : Int32) : Inv (o_balancer M x y).2.2 := by
  unfold o_balancer
  split <;> exact h
theorem inv_exit {M : Ms} (h : Inv M) (x y : Int32) : Inv (o_exit M x y).2.2 := by
  unfold o_exit
  split <;> exact h
theorem inv_enter {M : Ms} (h : Inv M) (x : Int32) (b : Bool) : Inv (o_enter M x b).2.2 := by
  unfold o_enter
  split
  · exact h
  · rename_i wi hx
    split
    · exact h
    · rename_i hn
      have h1 := (inR_some (by have := h.1.le; omega) hx).1
      have h2 := h.2.2.1
      have h3 : M.left ≤ 40 := h.2.2.2.2.1
      exact h.enter h1 (by have : ¬ M.nt = 200 := fun q => hn (Or.inl q); omega) (by have : ¬ M.left = 40 := fun q => hn (Or.inr q); omega)
theorem inv_move {M : Ms} (h : Inv M) (x : Int32) : Inv (o_move M x).2.2 := by
  unfold o_move
  split
  · exact h
  · rename_i t hx
    split
    · rename_i hc
      exact h.step (inR_some (by have := h.2.2.1; omega) hx).1 hc
    · exact h
theorem inv_deliver {M : Ms} (h : Inv M) (x : Int32) : Inv (o_deliver M x).2.2 := by
  unfold o_deliver
  split
  · exact h
  · rename_i i hx
    exact h.deliver (inR_some (by have := h.2.2.2.1; omega) hx).1
theorem inv_lose {M : Ms} (h : Inv M) (x : Int32) : Inv (o_lose M x).2.2 := by
  unfold o_lose
  split
  · exact h
  · rename_i i hx
    exact h.take (inR_some (by have := h.2.2.2.1; omega) hx).1
theorem inv_twin {M : Ms} (h : Inv M) (x : Int32) : Inv (o_twin M x).2.2 := by
  unfold o_twin
  split
  · exact h
  · rename_i i hx
    split
    · exact h
    · rename_i hn
      have h1 := (inR_some (by have := h.2.2.2.1; omega) hx).1
      obtain ⟨k1, k2⟩ := h.2.2.2.2.2.2.1 i h1
      exact h.post k1 (by first | exact k2 | exact k2.1 | exact k2.2 | omega) (by have := h.2.2.2.1; omega)
theorem inv_letter {M : Ms} (h : Inv M) (x y : Int32) : Inv (o_letter M x y).2.2 := by
  unfold o_letter
  split
  · exact h
  · split <;> exact h
theorem inv_station {M : Ms} (h : Inv M) (x : Int32) (b : Bool) : Inv (o_station M x b).2.2 := by
  unfold o_station
  split
  · exact h
  · exact h.station _
theorem inv_token {M : Ms} (h : Inv M) (x y : Int32) : Inv (o_token M x y).2.2 := by
  unfold o_token
  split <;> exact h
theorem inv_about {M : Ms} (h : Inv M) (y : Int32) : Inv (o_about M y).2.2 := by
  unfold o_about
  split <;> exact h
theorem inv_settle {M : Ms} (h : Inv M) (y : Int32) : Inv (o_settle M y).2.2 := by
  unfold o_settle
  split
  · exact h
  · exact Inv.settle _ _ h
theorem inv_resend {M : Ms} (h : Inv M) : Inv M.resend := Inv.resF _ _ _ h (by omega)
theorem nI_2 (a : Nat) : nI a + 2 = nI (a + 2) := nI_add a 2
theorem nI_3 (a : Nat) : nI a + Int32.ofInt 3 = nI (a + 3) := nI_add a 3
set_option maxRecDepth 100000 in
set_option maxHeartbeats 4000000 in
theorem lawc_build {l : Launch} (htr : l.stackTraces = false) {X : Cx} {D : va_G} {ad bd : Nat → Nat} {ac bc : Nat → ClassId} {o : Nat} {cO : ClassId} {τ : St} {gg : Nat → Int64} {A : Nat → Prop} {w0 : Cond} {Q : State → Prop} {b LL : Nat} {xs : Nat → Int32} (hX : jX X (yL D ad ac bd bc o cO τ gg) A code 7 RL (w0 :: TT) room_1 (some .boolean)) (C : lawC X A b LL xs) {σ : St} {M : Ms} (hI : Inv M) (hC : repC σ M) (hM : repM τ M) {k cells slots : Nat} (hk : k + 3 ≤ LL) (hcl : cells ≤ 100 + k) (hsl : slots ≤ 20000 + 6 * k) (next : ∀ (c2 s2 : Nat) (σ2 τ2 : St) (g2 : Nat → Int64) (M2 : Ms), c2 ≤ 100 + (k + 3) → s2 ≤ 20000 + 6 * (k + 3) → Inv M2 → repC σ2 M2 → repM τ2 M2 → jW l X (yL D ad ac bd bc o cO τ2 g2) A 7 c2 s2 kT Q σ2 905 [(0, .ref b), (1, .ref (ad 20)), (2, .ref (bd 19)), (3, .ref o), (4, .int (nI k))] []) : jW l X (yL D ad ac bd bc o cO τ gg) A 7 cells slots kT Q σ 108 [(0, .ref b), (1, .ref (ad 20)), (2, .ref (bd 19)), (3, .ref o), (4, .int (nI k))] [] := by
  obtain ⟨ho, hnc, hAo, hXs, hbl, hLL⟩ := C
  refine jx_aload_n (pc := 108) hX d_L_law_108 rfl rfl ?_
  refine jx_aload_n (pc := 109) hX d_L_law_109 rfl rfl ?_
  refine jx_iload (pc := 110) hX d_L_law_110 rfl ?_
  refine jx_iconst (pc := 112) hX (v := 1) d_L_law_112 rfl ?_
  refine jx_iadd (pc := 113) hX d_L_law_113 ?_
  refine jx_sld (pc := 114) hX hXs hbl (hAo b hbl) (by omega) (k + 1) (nI_1 k) (by omega) d_L_law_114 ?_
  refine jx_aload_n (pc := 115) hX d_L_law_115 rfl rfl ?_
  refine jx_iload (pc := 116) hX d_L_law_116 rfl ?_
  refine jx_iconst (pc := 118) hX (v := 2) d_L_law_118 rfl ?_
  refine jx_iadd (pc := 119) hX d_L_law_119 ?_
  refine jx_sld (pc := 120) hX hXs hbl (hAo b hbl) (by omega) (k + 2) (nI_2 k) (by omega) d_L_law_120 ?_
  refine jx_aload_n (pc := 121) hX d_L_law_121 rfl rfl ?_
  refine jx_callH (pc := 122) hX ho hnc hAo cs_build (t_L_build htr σ M hI hC (xs (k + 1)) (xs (k + 2))) ⟨rfl, rfl, (Nat.le_of_ble_eq_true rfl), (Nat.le_of_ble_eq_true rfl)⟩ ⟨by show _ ≤ 601024; omega, by show _ ≤ 7293034; omega⟩ rfl rfl (Nat.le_of_ble_eq_true rfl) d_L_law_122 (fun u hu hX => ?_)
  refine jx_istore (pc := 125) hX d_L_law_125 (by decide) (L' := [(0, _), (1, _), (2, _), (3, _), (4, _), (5, _)]) rfl ?_
  refine jx_aload_n (pc := 127) hX d_L_law_127 rfl rfl ?_
  refine jx_aload_n (pc := 128) hX d_L_law_128 rfl rfl ?_
  refine jx_iload (pc := 129) hX d_L_law_129 rfl ?_
  refine jx_iconst (pc := 131) hX (v := 1) d_L_law_131 rfl ?_
  refine jx_iadd (pc := 132) hX d_L_law_132 ?_
  refine jx_sld (pc := 133) hX hXs hbl (hAo b hbl) (by omega) (k + 1) (nI_1 k) (by omega) d_L_law_133 ?_
  refine jx_aload_n (pc := 134) hX d_L_law_134 rfl rfl ?_
  refine jx_iload (pc := 135) hX d_L_law_135 rfl ?_
  refine jx_iconst (pc := 137) hX (v := 2) d_L_law_137 rfl ?_
  refine jx_iadd (pc := 138) hX d_L_law_138 ?_
  refine jx_sld (pc := 139) hX hXs hbl (hAo b hbl) (by omega) (k + 2) (nI_2 k) (by omega) d_L_law_139 ?_
  refine jx_cMi (pc := 140) hX cl_M_build rfl (t_M_build τ M hI hM (xs (k + 1)) (xs (k + 2))) ⟨rfl, rfl, (Nat.le_of_ble_eq_true rfl), (Nat.le_of_ble_eq_true rfl)⟩ ⟨by show _ ≤ 601024; omega, by show _ ≤ 7293034; omega⟩ rfl rfl (Nat.le_of_ble_eq_true rfl) d_L_law_140 (fun r τ1 hr hX => ?_)
  refine jx_istore (pc := 143) hX d_L_law_143 (by decide) (L' := [(0, _), (1, _), (2, _), (3, _), (4, _), (5, _), (6, _)]) rfl ?_
  refine jx_aload_n (pc := 145) hX d_L_law_145 rfl rfl ?_
  refine jx_cMp (pc := 146) hX cl_M_thrown rfl (t_M_thrown τ1) ⟨rfl, rfl, (Nat.le_of_ble_eq_true rfl), (Nat.le_of_ble_eq_true rfl)⟩ ⟨by show _ ≤ 601024; omega, by show _ ≤ 7293034; omega⟩ rfl rfl (Nat.le_of_ble_eq_true rfl) d_L_law_146 (fun r1 hr1 => ?_)
  have hr1 : r1 = (o_build M (xs (k + 1)) (xs (k + 2))).1 := hr1.trans hr.1
  subst hr1
  refine jx_iload (pc := 149) hX d_L_law_149 rfl ?_
  refine jx_icmp_eq (pc := 151) hX 156 d_L_law_151 rfl (fun _ => ?_) (fun hh => absurd rfl hh)
  refine jx_iload (pc := 156) hX d_L_law_156 rfl ?_
  refine jx_if_ne (pc := 158) hX 173 d_L_law_158 rfl (fun h0 => ?_) (fun h0 => ?_)
  · refine jx_goto (pc := 173) hX 905 d_L_law_173 rfl ?_
    refine jx_take 5 ?_
    exact next _ _ u.1 τ1 u.2 _ (by omega) (by omega) (inv_build hI (xs (k + 1)) (xs (k + 2))) hu.2.2 hr.2.2
  · refine jx_aload_n (pc := 161) hX d_L_law_161 rfl rfl ?_
    refine jx_iconst (pc := 162) hX (v := 0) d_L_law_162 rfl ?_
    refine jx_lald (pc := 163) hX d_L_law_163 ?_
    refine jx_iload (pc := 164) hX d_L_law_164 rfl ?_
    refine jx_i2l (pc := 166) hX d_L_law_166 ?_
    refine jx_lcmp (pc := 167) hX d_L_law_167 ?_
    refine jx_if_eq (pc := 168) hX 173 d_L_law_168 rfl (fun _ => ?_) (fun hh => absurd (by rw [hu.2.1 h0 rfl, hr.2.1 h0]; exact lg_cmp_self _) hh)
    refine jx_goto (pc := 173) hX 905 d_L_law_173 rfl ?_
    refine jx_take 5 ?_
    exact next _ _ u.1 τ1 u.2 _ (by omega) (by omega) (inv_build hI (xs (k + 1)) (xs (k + 2))) hu.2.2 hr.2.2
set_option maxRecDepth 100000 in
set_option maxHeartbeats 4000000 in
theorem lawc_balancer {l : Launch} (htr : l.stackTraces = false) {X : Cx} {D : va_G} {ad bd : Nat → Nat} {ac bc : Nat → ClassId} {o : Nat} {cO : ClassId} {τ : St} {gg : Nat → Int64} {A : Nat → Prop} {w0 : Cond} {Q : State → Prop} {b LL : Nat} {xs : Nat → Int32} (hX : jX X (yL D ad ac bd bc o cO τ gg) A code 7 RL (w0 :: TT) room_1 (some .boolean)) (C : lawC X A b LL xs) {σ : St} {M : Ms} (hI : Inv M) (hC : repC σ M) (hM : repM τ M) {k cells slots : Nat} (hk : k + 3 ≤ LL) (hcl : cells ≤ 100 + k) (hsl : slots ≤ 20000 + 6 * k) (next : ∀ (c2 s2 : Nat) (σ2 τ2 : St) (g2 : Nat → Int64) (M2 : Ms), c2 ≤ 100 + (k + 3) → s2 ≤ 20000 + 6 * (k + 3) → Inv M2 → repC σ2 M2 → repM τ2 M2 → jW l X (yL D ad ac bd bc o cO τ2 g2) A 7 c2 s2 kT Q σ2 905 [(0, .ref b), (1, .ref (ad 20)), (2, .ref (bd 19)), (3, .ref o), (4, .int (nI k))] []) : jW l X (yL D ad ac bd bc o cO τ gg) A 7 cells slots kT Q σ 176 [(0, .ref b), (1, .ref (ad 20)), (2, .ref (bd 19)), (3, .ref o), (4, .int (nI k))] [] := by
  obtain ⟨ho, hnc, hAo, hXs, hbl, hLL⟩ := C
  refine jx_aload_n (pc := 176) hX d_L_law_176 rfl rfl ?_
  refine jx_aload_n (pc := 177) hX d_L_law_177 rfl rfl ?_
  refine jx_iload (pc := 178) hX d_L_law_178 rfl ?_
  refine jx_iconst (pc := 180) hX (v := 1) d_L_law_180 rfl ?_
  refine jx_iadd (pc := 181) hX d_L_law_181 ?_
  refine jx_sld (pc := 182) hX hXs hbl (hAo b hbl) (by omega) (k + 1) (nI_1 k) (by omega) d_L_law_182 ?_
  refine jx_aload_n (pc := 183) hX d_L_law_183 rfl rfl ?_
  refine jx_iload (pc := 184) hX d_L_law_184 rfl ?_
  refine jx_iconst (pc := 186) hX (v := 2) d_L_law_186 rfl ?_
  refine jx_iadd (pc := 187) hX d_L_law_187 ?_
  refine jx_sld (pc := 188) hX hXs hbl (hAo b hbl) (by omega) (k + 2) (nI_2 k) (by omega) d_L_law_188 ?_
  refine jx_aload_n (pc := 189) hX d_L_law_189 rfl rfl ?_
  refine jx_callH (pc := 190) hX ho hnc hAo cs_balancer (t_L_balancer htr σ M hI hC (xs (k + 1)) (xs (k + 2))) ⟨rfl, rfl, (Nat.le_of_ble_eq_true rfl), (Nat.le_of_ble_eq_true rfl)⟩ ⟨by show _ ≤ 601024; omega, by show _ ≤ 7293034; omega⟩ rfl rfl (Nat.le_of_ble_eq_true rfl) d_L_law_190 (fun u hu hX => ?_)
  refine jx_istore (pc := 193) hX d_L_law_193 (by decide) (L' := [(0, _), (1, _), (2, _), (3, _), (4, _), (5, _)]) rfl ?_
  refine jx_aload_n (pc := 195) hX d_L_law_195 rfl rfl ?_
  refine jx_aload_n (pc := 196) hX d_L_law_196 rfl rfl ?_
  refine jx_iload (pc := 197) hX d_L_law_197 rfl ?_
  refine jx_iconst (pc := 199) hX (v := 1) d_L_law_199 rfl ?_
  refine jx_iadd (pc := 200) hX d_L_law_200 ?_
  refine jx_sld (pc := 201) hX hXs hbl (hAo b hbl) (by omega) (k + 1) (nI_1 k) (by omega) d_L_law_201 ?_
  refine jx_aload_n (pc := 202) hX d_L_law_202 rfl rfl ?_
  refine jx_iload (pc := 203) hX d_L_law_203 rfl ?_
  refine jx_iconst (pc := 205) hX (v := 2) d_L_law_205 rfl ?_
  refine jx_iadd (pc := 206) hX d_L_law_206 ?_
  refine jx_sld (pc := 207) hX hXs hbl (hAo b hbl) (by omega) (k + 2) (nI_2 k) (by omega) d_L_law_207 ?_
  refine jx_cMi (pc := 208) hX cl_M_balancer rfl (t_M_balancer τ M hI hM (xs (k + 1)) (xs (k + 2))) ⟨rfl, rfl, (Nat.le_of_ble_eq_true rfl), (Nat.le_of_ble_eq_true rfl)⟩ ⟨by show _ ≤ 601024; omega, by show _ ≤ 7293034; omega⟩ rfl rfl (Nat.le_of_ble_eq_true rfl) d_L_law_208 (fun r τ1 hr hX => ?_)
  refine jx_istore (pc := 211) hX d_L_law_211 (by decide) (L' := [(0, _), (1, _), (2, _), (3, _), (4, _), (5, _), (6, _)]) rfl ?_
  refine jx_aload_n (pc := 213) hX d_L_law_213 rfl rfl ?_
  refine jx_cMp (pc := 214) hX cl_M_thrown rfl (t_M_thrown τ1) ⟨rfl, rfl, (Nat.le_of_ble_eq_true rfl), (Nat.le_of_ble_eq_true rfl)⟩ ⟨by show _ ≤ 601024; omega, by show _ ≤ 7293034; omega⟩ rfl rfl (Nat.le_of_ble_eq_true rfl) d_L_law_214 (fun r1 hr1 => ?_)
  have hr1 : r1 = (o_balancer M (xs (k + 1)) (xs (k + 2))).1 := hr1.trans hr.1
  subst hr1
  refine jx_iload (pc := 217) hX d_L_law_217 rfl ?_
  refine jx_icmp_eq (pc := 219) hX 224 d_L_law_219 rfl (fun _ => ?_) (fun hh => absurd rfl hh)
  refine jx_iload (pc := 224) hX d_L_law_224 rfl ?_
  refine jx_if_ne (pc := 226) hX 241 d_L_law_226 rfl (fun h0 => ?_) (fun h0 => ?_)
  · refine jx_goto (pc := 241) hX 905 d_L_law_241 rfl ?_
    refine jx_take 5 ?_
    exact next _ _ u.1 τ1 u.2 _ (by omega) (by omega) (inv_balancer hI (xs (k + 1)) (xs (k + 2))) hu.2.2 hr.2.2
  · refine jx_aload_n (pc := 229) hX d_L_law_229 rfl rfl ?_
    refine jx_iconst (pc := 230) hX (v := 0) d_L_law_230 rfl ?_
    refine jx_lald (pc := 231) hX d_L_law_231 ?_
    refine jx_iload (pc := 232) hX d_L_law_232 rfl ?_
    refine jx_i2l (pc := 234) hX d_L_law_234 ?_
    refine jx_lcmp (pc := 235) hX d_L_law_235 ?_
    refine jx_if_eq (pc := 236) hX 241 d_L_law_236 rfl (fun _ => ?_) (fun hh => absurd (by rw [hu.2.1 h0 rfl, hr.2.1 h0]; exact lg_cmp_self _) hh)
    refine jx_goto (pc := 241) hX 905 d_L_law_241 rfl ?_
    refine jx_take 5 ?_
    exact next _ _ u.1 τ1 u.2 _ (by omega) (by omega) (inv_balancer hI (xs (k + 1)) (xs (k + 2))) hu.2.2 hr.2.2
set_option maxRecDepth 100000 in
set_option maxHeartbeats 4000000 in
theorem lawc_exit {l : Launch} (htr : l.stackTraces = false) {X : Cx} {D : va_G} {ad bd : Nat → Nat} {ac bc : Nat → ClassId} {o : Nat} {cO : ClassId} {τ : St} {gg : Nat → Int64} {A : Nat → Prop} {w0 : Cond} {Q : State → Prop} {b LL : Nat} {xs : Nat → Int32} (hX : jX X (yL D ad ac bd bc o cO τ gg) A code 7 RL (w0 :: TT) room_1 (some .boolean)) (C : lawC X A b LL xs) {σ : St} {M : Ms} (hI : Inv M) (hC : repC σ M) (hM : repM τ M) {k cells slots : Nat} (hk : k + 3 ≤ LL) (hcl : cells ≤ 100 + k) (hsl : slots ≤ 20000 + 6 * k) (next : ∀ (c2 s2 : Nat) (σ2 τ2 : St) (g2 : Nat → Int64) (M2 : Ms), c2 ≤ 100 + (k + 3) → s2 ≤ 20000 + 6 * (k + 3) → Inv M2 → repC σ2 M2 → repM τ2 M2 → jW l X (yL D ad ac bd bc o cO τ2 g2) A 7 c2 s2 kT Q σ2 905 [(0, .ref b), (1, .ref (ad 20)), (2, .ref (bd 19)), (3, .ref o), (4, .int (nI k))] []) : jW l X (yL D ad ac bd bc o cO τ gg) A 7 cells slots kT Q σ 244 [(0, .ref b), (1, .ref (ad 20)), (2, .ref (bd 19)), (3, .ref o), (4, .int (nI k))] [] := by
  obtain ⟨ho, hnc, hAo, hXs, hbl, hLL⟩ := C
  refine jx_aload_n (pc := 244) hX d_L_law_244 rfl rfl ?_
  refine jx_aload_n (pc := 245) hX d_L_law_245 rfl rfl ?_
  refine jx_iload (pc := 246) hX d_L_law_246 rfl ?_
  refine jx_iconst (pc := 248) hX (v := 1) d_L_law_248 rfl ?_
  refine jx_iadd (pc := 249) hX d_L_law_249 ?_
  refine jx_sld (pc := 250) hX hXs hbl (hAo b hbl) (by omega) (k + 1) (nI_1 k) (by omega) d_L_law_250 ?_
  refine jx_aload_n (pc := 251) hX d_L_law_251 rfl rfl ?_
  refine jx_iload (pc := 252) hX d_L_law_252 rfl ?_
  refine jx_iconst (pc := 254) hX (v := 2) d_L_law_254 rfl ?_
  refine jx_iadd (pc := 255) hX d_L_law_255 ?_
  refine jx_sld (pc := 256) hX hXs hbl (hAo b hbl) (by omega) (k + 2) (nI_2 k) (by omega) d_L_law_256 ?_
  refine jx_aload_n (pc := 257) hX d_L_law_257 rfl rfl ?_
  refine jx_callH (pc := 258) hX ho hnc hAo cs_exit (t_L_exit htr σ M hI hC (xs (k + 1)) (xs (k + 2))) ⟨rfl, rfl, (Nat.le_of_ble_eq_true rfl), (Nat.le_of_ble_eq_true rfl)⟩ ⟨by show _ ≤ 601024; omega, by show _ ≤ 7293034; omega⟩ rfl rfl (Nat.le_of_ble_eq_true rfl) d_L_law_258 (fun u hu hX => ?_)
  refine jx_istore (pc := 261) hX d_L_law_261 (by decide) (L' := [(0, _), (1, _), (2, _), (3, _), (4, _), (5, _)]) rfl ?_
  refine jx_aload_n (pc := 263) hX d_L_law_263 rfl rfl ?_
  refine jx_aload_n (pc := 264) hX d_L_law_264 rfl rfl ?_
  refine jx_iload (pc := 265) hX d_L_law_265 rfl ?_
  refine jx_iconst (pc := 267) hX (v := 1) d_L_law_267 rfl ?_
  refine jx_iadd (pc := 268) hX d_L_law_268 ?_
  refine jx_sld (pc := 269) hX hXs hbl (hAo b hbl) (by omega) (k + 1) (nI_1 k) (by omega) d_L_law_269 ?_
  refine jx_aload_n (pc := 270) hX d_L_law_270 rfl rfl ?_
  refine jx_iload (pc := 271) hX d_L_law_271 rfl ?_
  refine jx_iconst (pc := 273) hX (v := 2) d_L_law_273 rfl ?_
  refine jx_iadd (pc := 274) hX d_L_law_274 ?_
  refine jx_sld (pc := 275) hX hXs hbl (hAo b hbl) (by omega) (k + 2) (nI_2 k) (by omega) d_L_law_275 ?_
  refine jx_cMi (pc := 276) hX cl_M_exit rfl (t_M_exit τ M hI hM (xs (k + 1)) (xs (k + 2))) ⟨rfl, rfl, (Nat.le_of_ble_eq_true rfl), (Nat.le_of_ble_eq_true rfl)⟩ ⟨by show _ ≤ 601024; omega, by show _ ≤ 7293034; omega⟩ rfl rfl (Nat.le_of_ble_eq_true rfl) d_L_law_276 (fun r τ1 hr hX => ?_)
  refine jx_istore (pc := 279) hX d_L_law_279 (by decide) (L' := [(0, _), (1, _), (2, _), (3, _), (4, _), (5, _), (6, _)]) rfl ?_
  refine jx_aload_n (pc := 281) hX d_L_law_281 rfl rfl ?_
  refine jx_cMp (pc := 282) hX cl_M_thrown rfl (t_M_thrown τ1) ⟨rfl, rfl, (Nat.le_of_ble_eq_true rfl), (Nat.le_of_ble_eq_true rfl)⟩ ⟨by show _ ≤ 601024; omega, by show _ ≤ 7293034; omega⟩ rfl rfl (Nat.le_of_ble_eq_true rfl) d_L_law_282 (fun r1 hr1 => ?_)
  have hr1 : r1 = (o_exit M (xs (k + 1)) (xs (k + 2))).1 := hr1.trans hr.1
  subst hr1
  refine jx_iload (pc := 285) hX d_L_law_285 rfl ?_
  refine jx_icmp_eq (pc := 287) hX 292 d_L_law_287 rfl (fun _ => ?_) (fun hh => absurd rfl hh)
  refine jx_iload (pc := 292) hX d_L_law_292 rfl ?_
  refine jx_if_ne (pc := 294) hX 309 d_L_law_294 rfl (fun h0 => ?_) (fun h0 => ?_)
  · refine jx_goto (pc := 309) hX 905 d_L_law_309 rfl ?_
    refine jx_take 5 ?_
    exact next _ _ u.1 τ1 u.2 _ (by omega) (by omega) (inv_exit hI (xs (k + 1)) (xs (k + 2))) hu.2.2 hr.2.2
  · refine jx_aload_n (pc := 297) hX d_L_law_297 rfl rfl ?_
    refine jx_iconst (pc := 298) hX (v := 0) d_L_law_298 rfl ?_
    refine jx_lald (pc := 299) hX d_L_law_299 ?_
    refine jx_iload (pc := 300) hX d_L_law_300 rfl ?_
    refine jx_i2l (pc := 302) hX d_L_law_302 ?_
    refine jx_lcmp (pc := 303) hX d_L_law_303 ?_
    refine jx_if_eq (pc := 304) hX 309 d_L_law_304 rfl (fun _ => ?_) (fun hh => absurd (by rw [hu.2.1 h0 rfl, hr.2.1 h0]; exact lg_cmp_self _) hh)
    refine jx_goto (pc := 309) hX 905 d_L_law_309 rfl ?_
    refine jx_take 5 ?_
    exact next _ _ u.1 τ1 u.2 _ (by omega) (by omega) (inv_exit hI (xs (k + 1)) (xs (k + 2))) hu.2.2 hr.2.2
set_option maxRecDepth 100000 in
set_option maxHeartbeats 4000000 in
theorem lawc_enterz {l : Launch} (htr : l.stackTraces = false) {X : Cx} {D : va_G} {ad bd : Nat → Nat} {ac bc : Nat → ClassId} {o : Nat} {cO : ClassId} {τ : St} {gg : Nat → Int64} {A : Nat → Prop} {w0 : Cond} {Q : State → Prop} {b LL : Nat} {xs : Nat → Int32} (hX : jX X (yL D ad ac bd bc o cO τ gg) A code 7 RL (w0 :: TT) room_1 (some .boolean)) (C : lawC X A b LL xs) {σ : St} {M : Ms} (hI : Inv M) (hC : repC σ M) (hM : repM τ M) {k cells slots : Nat} (hk : k + 3 ≤ LL) (hcl : cells ≤ 100 + k) (hsl : slots ≤ 20000 + 6 * k) (hb : xs (k + 2) = 0) (next : ∀ (c2 s2 : Nat) (σ2 τ2 : St) (g2 : Nat → Int64) (M2 : Ms), c2 ≤ 100 + (k + 3) → s2 ≤ 20000 + 6 * (k + 3) → Inv M2 → repC σ2 M2 → repM τ2 M2 → jW l X (yL D ad ac bd bc o cO τ2 g2) A 7 c2 s2 kT Q σ2 905 [(0, .ref b), (1, .ref (ad 20)), (2, .ref (bd 19)), (3, .ref o), (4, .int (nI k))] []) : jW l X (yL D ad ac bd bc o cO τ gg) A 7 cells slots kT Q σ 312 [(0, .ref b), (1, .ref (ad 20)), (2, .ref (bd 19)), (3, .ref o), (4, .int (nI k))] [] := by
  obtain ⟨ho, hnc, hAo, hXs, hbl, hLL⟩ := C
  refine jx_aload_n (pc := 312) hX d_L_law_312 rfl rfl ?_
  refine jx_aload_n (pc := 313) hX d_L_law_313 rfl rfl ?_
  refine jx_iload (pc := 314) hX d_L_law_314 rfl ?_
  refine jx_iconst (pc := 316) hX (v := 1) d_L_law_316 rfl ?_
  refine jx_iadd (pc := 317) hX d_L_law_317 ?_
  refine jx_sld (pc := 318) hX hXs hbl (hAo b hbl) (by omega) (k + 1) (nI_1 k) (by omega) d_L_law_318 ?_
  refine jx_aload_n (pc := 319) hX d_L_law_319 rfl rfl ?_
  refine jx_iload (pc := 320) hX d_L_law_320 rfl ?_
  refine jx_iconst (pc := 322) hX (v := 2) d_L_law_322 rfl ?_
  refine jx_iadd (pc := 323) hX d_L_law_323 ?_
  refine jx_sld (pc := 324) hX hXs hbl (hAo b hbl) (by omega) (k + 2) (nI_2 k) (by omega) d_L_law_324 ?_
  refine jx_if_eq (pc := 325) hX 332 d_L_law_325 rfl (fun _ => ?_) (fun hh => absurd hb hh)
  refine jx_iconst (pc := 332) hX (v := 0) d_L_law_332 rfl ?_
  refine jx_aload_n (pc := 333) hX d_L_law_333 rfl rfl ?_
  refine jx_callH (pc := 334) hX ho hnc hAo cs_enter (t_L_enter htr σ M hI hC (xs (k + 1)) false) ⟨rfl, rfl, (Nat.le_of_ble_eq_true rfl), (Nat.le_of_ble_eq_true rfl)⟩ ⟨by show _ ≤ 601024; omega, by show _ ≤ 7293034; omega⟩ rfl rfl (Nat.le_of_ble_eq_true rfl) d_L_law_334 (fun u hu hX => ?_)
  refine jx_istore (pc := 337) hX d_L_law_337 (by decide) (L' := [(0, _), (1, _), (2, _), (3, _), (4, _), (5, _)]) rfl ?_
  refine jx_aload_n (pc := 339) hX d_L_law_339 rfl rfl ?_
  refine jx_aload_n (pc := 340) hX d_L_law_340 rfl rfl ?_
  refine jx_iload (pc := 341) hX d_L_law_341 rfl ?_
  refine jx_iconst (pc := 343) hX (v := 1) d_L_law_343 rfl ?_
  refine jx_iadd (pc := 344) hX d_L_law_344 ?_
  refine jx_sld (pc := 345) hX hXs hbl (hAo b hbl) (by omega) (k + 1) (nI_1 k) (by omega) d_L_law_345 ?_
  refine jx_aload_n (pc := 346) hX d_L_law_346 rfl rfl ?_
  refine jx_iload (pc := 347) hX d_L_law_347 rfl ?_
  refine jx_iconst (pc := 349) hX (v := 2) d_L_law_349 rfl ?_
  refine jx_iadd (pc := 350) hX d_L_law_350 ?_
  refine jx_sld (pc := 351) hX hXs hbl (hAo b hbl) (by omega) (k + 2) (nI_2 k) (by omega) d_L_law_351 ?_
  refine jx_if_eq (pc := 352) hX 359 d_L_law_352 rfl (fun _ => ?_) (fun hh => absurd hb hh)
  refine jx_iconst (pc := 359) hX (v := 0) d_L_law_359 rfl ?_
  refine jx_cMi (pc := 360) hX cl_M_enter rfl (t_M_enter τ M hI hM (xs (k + 1)) false) ⟨rfl, rfl, (Nat.le_of_ble_eq_true rfl), (Nat.le_of_ble_eq_true rfl)⟩ ⟨by show _ ≤ 601024; omega, by show _ ≤ 7293034; omega⟩ rfl rfl (Nat.le_of_ble_eq_true rfl) d_L_law_360 (fun r τ1 hr hX => ?_)
  refine jx_istore (pc := 363) hX d_L_law_363 (by decide) (L' := [(0, _), (1, _), (2, _), (3, _), (4, _), (5, _), (6, _)]) rfl ?_
  refine jx_aload_n (pc := 365) hX d_L_law_365 rfl rfl ?_
  refine jx_cMp (pc := 366) hX cl_M_thrown rfl (t_M_thrown τ1) ⟨rfl, rfl, (Nat.le_of_ble_eq_true rfl), (Nat.le_of_ble_eq_true rfl)⟩ ⟨by show _ ≤ 601024; omega, by show _ ≤ 7293034; omega⟩ rfl rfl (Nat.le_of_ble_eq_true rfl) d_L_law_366 (fun r1 hr1 => ?_)
  have hr1 : r1 = (o_enter M (xs (k + 1)) false).1 := hr1.trans hr.1
  subst hr1
  refine jx_iload (pc := 369) hX d_L_law_369 rfl ?_
  refine jx_icmp_eq (pc := 371) hX 376 d_L_law_371 rfl (fun _ => ?_) (fun hh => absurd rfl hh)
  refine jx_iload (pc := 376) hX d_L_law_376 rfl ?_
  refine jx_if_ne (pc := 378) hX 393 d_L_law_378 rfl (fun h0 => ?_) (fun h0 => ?_)
  · refine jx_goto (pc := 393) hX 905 d_L_law_393 rfl ?_
    refine jx_take 5 ?_
    exact next _ _ u.1 τ1 u.2 _ (by omega) (by omega) (inv_enter hI (xs (k + 1)) false) hu.2.2 hr.2.2
  · refine jx_aload_n (pc := 381) hX d_L_law_381 rfl rfl ?_
    refine jx_iconst (pc := 382) hX (v := 0) d_L_law_382 rfl ?_
    refine jx_lald (pc := 383) hX d_L_law_383 ?_
    refine jx_iload (pc := 384) hX d_L_law_384 rfl ?_
    refine jx_i2l (pc := 386) hX d_L_law_386 ?_
    refine jx_lcmp (pc := 387) hX d_L_law_387 ?_
    refine jx_if_eq (pc := 388) hX 393 d_L_law_388 rfl (fun _ => ?_) (fun hh => absurd (by rw [hu.2.1 h0 rfl, hr.2.1 h0]; exact lg_cmp_self _) hh)
    refine jx_goto (pc := 393) hX 905 d_L_law_393 rfl ?_
    refine jx_take 5 ?_
    exact next _ _ u.1 τ1 u.2 _ (by omega) (by omega) (inv_enter hI (xs (k + 1)) false) hu.2.2 hr.2.2
set_option maxRecDepth 100000 in
set_option maxHeartbeats 4000000 in
theorem lawc_entern {l : Launch} (htr : l.stackTraces = false) {X : Cx} {D : va_G} {ad bd : Nat → Nat} {ac bc : Nat → ClassId} {o : Nat} {cO : ClassId} {τ : St} {gg : Nat → Int64} {A : Nat → Prop} {w0 : Cond} {Q : State → Prop} {b LL : Nat} {xs : Nat → Int32} (hX : jX X (yL D ad ac bd bc o cO τ gg) A code 7 RL (w0 :: TT) room_1 (some .boolean)) (C : lawC X A b LL xs) {σ : St} {M : Ms} (hI : Inv M) (hC : repC σ M) (hM : repM τ M) {k cells slots : Nat} (hk : k + 3 ≤ LL) (hcl : cells ≤ 100 + k) (hsl : slots ≤ 20000 + 6 * k) (hb : ¬ xs (k + 2) = 0) (next : ∀ (c2 s2 : Nat) (σ2 τ2 : St) (g2 : Nat → Int64) (M2 : Ms), c2 ≤ 100 + (k + 3) → s2 ≤ 20000 + 6 * (k + 3) → Inv M2 → repC σ2 M2 → repM τ2 M2 → jW l X (yL D ad ac bd bc o cO τ2 g2) A 7 c2 s2 kT Q σ2 905 [(0, .ref b), (1, .ref (ad 20)), (2, .ref (bd 19)), (3, .ref o), (4, .int (nI k))] []) : jW l X (yL D ad ac bd bc o cO τ gg) A 7 cells slots kT Q σ 312 [(0, .ref b), (1, .ref (ad 20)), (2, .ref (bd 19)), (3, .ref o), (4, .int (nI k))] [] := by
  obtain ⟨ho, hnc, hAo, hXs, hbl, hLL⟩ := C
  refine jx_aload_n (pc := 312) hX d_L_law_312 rfl rfl ?_
  refine jx_aload_n (pc := 313) hX d_L_law_313 rfl rfl ?_
  refine jx_iload (pc := 314) hX d_L_law_314 rfl ?_
  refine jx_iconst (pc := 316) hX (v := 1) d_L_law_316 rfl ?_
  refine jx_iadd (pc := 317) hX d_L_law_317 ?_
  refine jx_sld (pc := 318) hX hXs hbl (hAo b hbl) (by omega) (k + 1) (nI_1 k) (by omega) d_L_law_318 ?_
  refine jx_aload_n (pc := 319) hX d_L_law_319 rfl rfl ?_
  refine jx_iload (pc := 320) hX d_L_law_320 rfl ?_
  refine jx_iconst (pc := 322) hX (v := 2) d_L_law_322 rfl ?_
  refine jx_iadd (pc := 323) hX d_L_law_323 ?_
  refine jx_sld (pc := 324) hX hXs hbl (hAo b hbl) (by omega) (k + 2) (nI_2 k) (by omega) d_L_law_324 ?_
  refine jx_if_eq (pc := 325) hX 332 d_L_law_325 rfl (fun hh => absurd hh hb) (fun _ => ?_)
  refine jx_iconst (pc := 328) hX (v := 1) d_L_law_328 rfl ?_
  refine jx_goto (pc := 329) hX 333 d_L_law_329 rfl ?_
  refine jx_aload_n (pc := 333) hX d_L_law_333 rfl rfl ?_
  refine jx_callH (pc := 334) hX ho hnc hAo cs_enter (t_L_enter htr σ M hI hC (xs (k + 1)) true) ⟨rfl, rfl, (Nat.le_of_ble_eq_true rfl), (Nat.le_of_ble_eq_true rfl)⟩ ⟨by show _ ≤ 601024; omega, by show _ ≤ 7293034; omega⟩ rfl rfl (Nat.le_of_ble_eq_true rfl) d_L_law_334 (fun u hu hX => ?_)
  refine jx_istore (pc := 337) hX d_L_law_337 (by decide) (L' := [(0, _), (1, _), (2, _), (3, _), (4, _), (5, _)]) rfl ?_
  refine jx_aload_n (pc := 339) hX d_L_law_339 rfl rfl ?_
  refine jx_aload_n (pc := 340) hX d_L_law_340 rfl rfl ?_
  refine jx_iload (pc := 341) hX d_L_law_341 rfl ?_
  refine jx_iconst (pc := 343) hX (v := 1) d_L_law_343 rfl ?_
  refine jx_iadd (pc := 344) hX d_L_law_344 ?_
  refine jx_sld (pc := 345) hX hXs hbl (hAo b hbl) (by omega) (k + 1) (nI_1 k) (by omega) d_L_law_345 ?_
  refine jx_aload_n (pc := 346) hX d_L_law_346 rfl rfl ?_
  refine jx_iload (pc := 347) hX d_L_law_347 rfl ?_
  refine jx_iconst (pc := 349) hX (v := 2) d_L_law_349 rfl ?_
  refine jx_iadd (pc := 350) hX d_L_law_350 ?_
  refine jx_sld (pc := 351) hX hXs hbl (hAo b hbl) (by omega) (k + 2) (nI_2 k) (by omega) d_L_law_351 ?_
  refine jx_if_eq (pc := 352) hX 359 d_L_law_352 rfl (fun hh => absurd hh hb) (fun _ => ?_)
  refine jx_iconst (pc := 355) hX (v := 1) d_L_law_355 rfl ?_
  refine jx_goto (pc := 356) hX 360 d_L_law_356 rfl ?_
  refine jx_cMi (pc := 360) hX cl_M_enter rfl (t_M_enter τ M hI hM (xs (k + 1)) true) ⟨rfl, rfl, (Nat.le_of_ble_eq_true rfl), (Nat.le_of_ble_eq_true rfl)⟩ ⟨by show _ ≤ 601024; omega, by show _ ≤ 7293034; omega⟩ rfl rfl (Nat.le_of_ble_eq_true rfl) d_L_law_360 (fun r τ1 hr hX => ?_)
  refine jx_istore (pc := 363) hX d_L_law_363 (by decide) (L' := [(0, _), (1, _), (2, _), (3, _), (4, _), (5, _), (6, _)]) rfl ?_
  refine jx_aload_n (pc := 365) hX d_L_law_365 rfl rfl ?_
  refine jx_cMp (pc := 366) hX cl_M_thrown rfl (t_M_thrown τ1) ⟨rfl, rfl, (Nat.le_of_ble_eq_true rfl), (Nat.le_of_ble_eq_true rfl)⟩ ⟨by show _ ≤ 601024; omega, by show _ ≤ 7293034; omega⟩ rfl rfl (Nat.le_of_ble_eq_true rfl) d_L_law_366 (fun r1 hr1 => ?_)
  have hr1 : r1 = (o_enter M (xs (k + 1)) true).1 := hr1.trans hr.1
  subst hr1
  refine jx_iload (pc := 369) hX d_L_law_369 rfl ?_
  refine jx_icmp_eq (pc := 371) hX 376 d_L_law_371 rfl (fun _ => ?_) (fun hh => absurd rfl hh)
  refine jx_iload (pc := 376) hX d_L_law_376 rfl ?_
  refine jx_if_ne (pc := 378) hX 393 d_L_law_378 rfl (fun h0 => ?_) (fun h0 => ?_)
  · refine jx_goto (pc := 393) hX 905 d_L_law_393 rfl ?_
    refine jx_take 5 ?_
    exact next _ _ u.1 τ1 u.2 _ (by omega) (by omega) (inv_enter hI (xs (k + 1)) true) hu.2.2 hr.2.2
  · refine jx_aload_n (pc := 381) hX d_L_law_381 rfl rfl ?_
    refine jx_iconst (pc := 382) hX (v := 0) d_L_law_382 rfl ?_
    refine jx_lald (pc := 383) hX d_L_law_383 ?_
    refine jx_iload (pc := 384) hX d_L_law_384 rfl ?_
    refine jx_i2l (pc := 386) hX d_L_law_386 ?_
    refine jx_lcmp (pc := 387) hX d_L_law_387 ?_
    refine jx_if_eq (pc := 388) hX 393 d_L_law_388 rfl (fun _ => ?_) (fun hh => absurd (by rw [hu.2.1 h0 rfl, hr.2.1 h0]; exact lg_cmp_self _) hh)
    refine jx_goto (pc := 393) hX 905 d_L_law_393 rfl ?_
    refine jx_take 5 ?_
    exact next _ _ u.1 τ1 u.2 _ (by omega) (by omega) (inv_enter hI (xs (k + 1)) true) hu.2.2 hr.2.2
set_option maxRecDepth 100000 in
set_option maxHeartbeats 4000000 in
theorem lawc_move {l : Launch} (htr : l.stackTraces = false) {X : Cx} {D : va_G} {ad bd : Nat → Nat} {ac bc : Nat → ClassId} {o : Nat} {cO : ClassId} {τ : St} {gg : Nat → Int64} {A : Nat → Prop} {w0 : Cond} {Q : State → Prop} {b LL : Nat} {xs : Nat → Int32} (hX : jX X (yL D ad ac bd bc o cO τ gg) A code 7 RL (w0 :: TT) room_1 (some .boolean)) (C : lawC X A b LL xs) {σ : St} {M : Ms} (hI : Inv M) (hC : repC σ M) (hM : repM τ M) {k cells slots : Nat} (hk : k + 3 ≤ LL) (hcl : cells ≤ 100 + k) (hsl : slots ≤ 20000 + 6 * k) (next : ∀ (c2 s2 : Nat) (σ2 τ2 : St) (g2 : Nat → Int64) (M2 : Ms), c2 ≤ 100 + (k + 3) → s2 ≤ 20000 + 6 * (k + 3) → Inv M2 → repC σ2 M2 → repM τ2 M2 → jW l X (yL D ad ac bd bc o cO τ2 g2) A 7 c2 s2 kT Q σ2 905 [(0, .ref b), (1, .ref (ad 20)), (2, .ref (bd 19)), (3, .ref o), (4, .int (nI k))] []) : jW l X (yL D ad ac bd bc o cO τ gg) A 7 cells slots kT Q σ 396 [(0, .ref b), (1, .ref (ad 20)), (2, .ref (bd 19)), (3, .ref o), (4, .int (nI k))] [] := by
  obtain ⟨ho, hnc, hAo, hXs, hbl, hLL⟩ := C
  refine jx_aload_n (pc := 396) hX d_L_law_396 rfl rfl ?_
  refine jx_aload_n (pc := 397) hX d_L_law_397 rfl rfl ?_
  refine jx_iload (pc := 398) hX d_L_law_398 rfl ?_
  refine jx_iconst (pc := 400) hX (v := 1) d_L_law_400 rfl ?_
  refine jx_iadd (pc := 401) hX d_L_law_401 ?_
  refine jx_sld (pc := 402) hX hXs hbl (hAo b hbl) (by omega) (k + 1) (nI_1 k) (by omega) d_L_law_402 ?_
  refine jx_aload_n (pc := 403) hX d_L_law_403 rfl rfl ?_
  refine jx_callH (pc := 404) hX ho hnc hAo cs_move (t_L_move htr σ M hI hC (xs (k + 1))) ⟨rfl, rfl, (Nat.le_of_ble_eq_true rfl), (Nat.le_of_ble_eq_true rfl)⟩ ⟨by show _ ≤ 601024; omega, by show _ ≤ 7293034; omega⟩ rfl rfl (Nat.le_of_ble_eq_true rfl) d_L_law_404 (fun u hu hX => ?_)
  refine jx_istore (pc := 407) hX d_L_law_407 (by decide) (L' := [(0, _), (1, _), (2, _), (3, _), (4, _), (5, _)]) rfl ?_
  refine jx_aload_n (pc := 409) hX d_L_law_409 rfl rfl ?_
  refine jx_aload_n (pc := 410) hX d_L_law_410 rfl rfl ?_
  refine jx_iload (pc := 411) hX d_L_law_411 rfl ?_
  refine jx_iconst (pc := 413) hX (v := 1) d_L_law_413 rfl ?_
  refine jx_iadd (pc := 414) hX d_L_law_414 ?_
  refine jx_sld (pc := 415) hX hXs hbl (hAo b hbl) (by omega) (k + 1) (nI_1 k) (by omega) d_L_law_415 ?_
  refine jx_cMi (pc := 416) hX cl_M_move rfl (t_M_move τ M hI hM (xs (k + 1))) ⟨rfl, rfl, (Nat.le_of_ble_eq_true rfl), (Nat.le_of_ble_eq_true rfl)⟩ ⟨by show _ ≤ 601024; omega, by show _ ≤ 7293034; omega⟩ rfl rfl (Nat.le_of_ble_eq_true rfl) d_L_law_416 (fun r τ1 hr hX => ?_)
  refine jx_istore (pc := 419) hX d_L_law_419 (by decide) (L' := [(0, _), (1, _), (2, _), (3, _), (4, _), (5, _), (6, _)]) rfl ?_
  refine jx_aload_n (pc := 421) hX d_L_law_421 rfl rfl ?_
  refine jx_cMp (pc := 422) hX cl_M_thrown rfl (t_M_thrown τ1) ⟨rfl, rfl, (Nat.le_of_ble_eq_true rfl), (Nat.le_of_ble_eq_true rfl)⟩ ⟨by show _ ≤ 601024; omega, by show _ ≤ 7293034; omega⟩ rfl rfl (Nat.le_of_ble_eq_true rfl) d_L_law_422 (fun r1 hr1 => ?_)
  have hr1 : r1 = (o_move M (xs (k + 1))).1 := hr1.trans hr.1
  subst hr1
  refine jx_iload (pc := 425) hX d_L_law_425 rfl ?_
  refine jx_icmp_eq (pc := 427) hX 432 d_L_law_427 rfl (fun _ => ?_) (fun hh => absurd rfl hh)
  refine jx_iload (pc := 432) hX d_L_law_432 rfl ?_
  refine jx_if_ne (pc := 434) hX 449 d_L_law_434 rfl (fun h0 => ?_) (fun h0 => ?_)
  · refine jx_goto (pc := 449) hX 905 d_L_law_449 rfl ?_
    refine jx_take 5 ?_
    exact next _ _ u.1 τ1 u.2 _ (by omega) (by omega) (inv_move hI (xs (k + 1))) hu.2.2 hr.2.2
  · refine jx_aload_n (pc := 437) hX d_L_law_437 rfl rfl ?_
    refine jx_iconst (pc := 438) hX (v := 0) d_L_law_438 rfl ?_
    refine jx_lald (pc := 439) hX d_L_law_439 ?_
    refine jx_iload (pc := 440) hX d_L_law_440 rfl ?_
    refine jx_i2l (pc := 442) hX d_L_law_442 ?_
    refine jx_lcmp (pc := 443) hX d_L_law_443 ?_
    refine jx_if_eq (pc := 444) hX 449 d_L_law_444 rfl (fun _ => ?_) (fun hh => absurd (by rw [hu.2.1 h0 rfl, hr.2.1 h0]; exact lg_cmp_self _) hh)
    refine jx_goto (pc := 449) hX 905 d_L_law_449 rfl ?_
    refine jx_take 5 ?_
    exact next _ _ u.1 τ1 u.2 _ (by omega) (by omega) (inv_move hI (xs (k + 1))) hu.2.2 hr.2.2
set_option maxRecDepth 100000 in
set_option maxHeartbeats 4000000 in
theorem lawc_deliver {l : Launch} (htr : l.stackTraces = false) {X : Cx} {D : va_G} {ad bd : Nat → Nat} {ac bc : Nat → ClassId} {o : Nat} {cO : ClassId} {τ : St} {gg : Nat → Int64} {A : Nat → Prop} {w0 : Cond} {Q : State → Prop} {b LL : Nat} {xs : Nat → Int32} (hX : jX X (yL D ad ac bd bc o cO τ gg) A code 7 RL (w0 :: TT) room_1 (some .boolean)) (C : lawC X A b LL xs) {σ : St} {M : Ms} (hI : Inv M) (hC : repC σ M) (hM : repM τ M) {k cells slots : Nat} (hk : k + 3 ≤ LL) (hcl : cells ≤ 100 + k) (hsl : slots ≤ 20000 + 6 * k) (next : ∀ (c2 s2 : Nat) (σ2 τ2 : St) (g2 : Nat → Int64) (M2 : Ms), c2 ≤ 100 + (k + 3) → s2 ≤ 20000 + 6 * (k + 3) → Inv M2 → repC σ2 M2 → repM τ2 M2 → jW l X (yL D ad ac bd bc o cO τ2 g2) A 7 c2 s2 kT Q σ2 905 [(0, .ref b), (1, .ref (ad 20)), (2, .ref (bd 19)), (3, .ref o), (4, .int (nI k))] []) : jW l X (yL D ad ac bd bc o cO τ gg) A 7 cells slots kT Q σ 452 [(0, .ref b), (1, .ref (ad 20)), (2, .ref (bd 19)), (3, .ref o), (4, .int (nI k))] [] := by
  obtain ⟨ho, hnc, hAo, hXs, hbl, hLL⟩ := C
  refine jx_aload_n (pc := 452) hX d_L_law_452 rfl rfl ?_
  refine jx_aload_n (pc := 453) hX d_L_law_453 rfl rfl ?_
  refine jx_iload (pc := 454) hX d_L_law_454 rfl ?_
  refine jx_iconst (pc := 456) hX (v := 1) d_L_law_456 rfl ?_
  refine jx_iadd (pc := 457) hX d_L_law_457 ?_
  refine jx_sld (pc := 458) hX hXs hbl (hAo b hbl) (by omega) (k + 1) (nI_1 k) (by omega) d_L_law_458 ?_
  refine jx_aload_n (pc := 459) hX d_L_law_459 rfl rfl ?_
  refine jx_callH (pc := 460) hX ho hnc hAo cs_deliver (t_L_deliver htr σ M hI hC (xs (k + 1))) ⟨rfl, rfl, (Nat.le_of_ble_eq_true rfl), (Nat.le_of_ble_eq_true rfl)⟩ ⟨by show _ ≤ 601024; omega, by show _ ≤ 7293034; omega⟩ rfl rfl (Nat.le_of_ble_eq_true rfl) d_L_law_460 (fun u hu hX => ?_)
  refine jx_istore (pc := 463) hX d_L_law_463 (by decide) (L' := [(0, _), (1, _), (2, _), (3, _), (4, _), (5, _)]) rfl ?_
  refine jx_aload_n (pc := 465) hX d_L_law_465 rfl rfl ?_
  refine jx_aload_n (pc := 466) hX d_L_law_466 rfl rfl ?_
  refine jx_iload (pc := 467) hX d_L_law_467 rfl ?_
  refine jx_iconst (pc := 469) hX (v := 1) d_L_law_469 rfl ?_
  refine jx_iadd (pc := 470) hX d_L_law_470 ?_
  refine jx_sld (pc := 471) hX hXs hbl (hAo b hbl) (by omega) (k + 1) (nI_1 k) (by omega) d_L_law_471 ?_
  refine jx_cMi (pc := 472) hX cl_M_deliver rfl (t_M_deliver τ M hI hM (xs (k + 1))) ⟨rfl, rfl, (Nat.le_of_ble_eq_true rfl), (Nat.le_of_ble_eq_true rfl)⟩ ⟨by show _ ≤ 601024; omega, by show _ ≤ 7293034; omega⟩ rfl rfl (Nat.le_of_ble_eq_true rfl) d_L_law_472 (fun r τ1 hr hX => ?_)
  refine jx_istore (pc := 475) hX d_L_law_475 (by decide) (L' := [(0, _), (1, _), (2, _), (3, _), (4, _), (5, _), (6, _)]) rfl ?_
  refine jx_aload_n (pc := 477) hX d_L_law_477 rfl rfl ?_
  refine jx_cMp (pc := 478) hX cl_M_thrown rfl (t_M_thrown τ1) ⟨rfl, rfl, (Nat.le_of_ble_eq_true rfl), (Nat.le_of_ble_eq_true rfl)⟩ ⟨by show _ ≤ 601024; omega, by show _ ≤ 7293034; omega⟩ rfl rfl (Nat.le_of_ble_eq_true rfl) d_L_law_478 (fun r1 hr1 => ?_)
  have hr1 : r1 = (o_deliver M (xs (k + 1))).1 := hr1.trans hr.1
  subst hr1
  refine jx_iload (pc := 481) hX d_L_law_481 rfl ?_
  refine jx_icmp_eq (pc := 483) hX 488 d_L_law_483 rfl (fun _ => ?_) (fun hh => absurd rfl hh)
  refine jx_iload (pc := 488) hX d_L_law_488 rfl ?_
  refine jx_if_ne (pc := 490) hX 505 d_L_law_490 rfl (fun h0 => ?_) (fun h0 => ?_)
  · refine jx_goto (pc := 505) hX 905 d_L_law_505 rfl ?_
    refine jx_take 5 ?_
    exact next _ _ u.1 τ1 u.2 _ (by omega) (by omega) (inv_deliver hI (xs (k + 1))) hu.2.2 hr.2.2
  · refine jx_aload_n (pc := 493) hX d_L_law_493 rfl rfl ?_
    refine jx_iconst (pc := 494) hX (v := 0) d_L_law_494 rfl ?_
    refine jx_lald (pc := 495) hX d_L_law_495 ?_
    refine jx_iload (pc := 496) hX d_L_law_496 rfl ?_
    refine jx_i2l (pc := 498) hX d_L_law_498 ?_
    refine jx_lcmp (pc := 499) hX d_L_law_499 ?_
    refine jx_if_eq (pc := 500) hX 505 d_L_law_500 rfl (fun _ => ?_) (fun hh => absurd (by rw [hu.2.1 h0 rfl, hr.2.1 h0]; exact lg_cmp_self _) hh)
    refine jx_goto (pc := 505) hX 905 d_L_law_505 rfl ?_
    refine jx_take 5 ?_
    exact next _ _ u.1 τ1 u.2 _ (by omega) (by omega) (inv_deliver hI (xs (k + 1))) hu.2.2 hr.2.2
set_option maxRecDepth 100000 in
set_option maxHeartbeats 4000000 in
theorem lawc_lose {l : Launch} (htr : l.stackTraces = false) {X : Cx} {D : va_G} {ad bd : Nat → Nat} {ac bc : Nat → ClassId} {o : Nat} {cO : ClassId} {τ : St} {gg : Nat → Int64} {A : Nat → Prop} {w0 : Cond} {Q : State → Prop} {b LL : Nat} {xs : Nat → Int32} (hX : jX X (yL D ad ac bd bc o cO τ gg) A code 7 RL (w0 :: TT) room_1 (some .boolean)) (C : lawC X A b LL xs) {σ : St} {M : Ms} (hI : Inv M) (hC : repC σ M) (hM : repM τ M) {k cells slots : Nat} (hk : k + 3 ≤ LL) (hcl : cells ≤ 100 + k) (hsl : slots ≤ 20000 + 6 * k) (next : ∀ (c2 s2 : Nat) (σ2 τ2 : St) (g2 : Nat → Int64) (M2 : Ms), c2 ≤ 100 + (k + 3) → s2 ≤ 20000 + 6 * (k + 3) → Inv M2 → repC σ2 M2 → repM τ2 M2 → jW l X (yL D ad ac bd bc o cO τ2 g2) A 7 c2 s2 kT Q σ2 905 [(0, .ref b), (1, .ref (ad 20)), (2, .ref (bd 19)), (3, .ref o), (4, .int (nI k))] []) : jW l X (yL D ad ac bd bc o cO τ gg) A 7 cells slots kT Q σ 508 [(0, .ref b), (1, .ref (ad 20)), (2, .ref (bd 19)), (3, .ref o), (4, .int (nI k))] [] := by
  obtain ⟨ho, hnc, hAo, hXs, hbl, hLL⟩ := C
  refine jx_aload_n (pc := 508) hX d_L_law_508 rfl rfl ?_
  refine jx_aload_n (pc := 509) hX d_L_law_509 rfl rfl ?_
  refine jx_iload (pc := 510) hX d_L_law_510 rfl ?_
  refine jx_iconst (pc := 512) hX (v := 1) d_L_law_512 rfl ?_
  refine jx_iadd (pc := 513) hX d_L_law_513 ?_
  refine jx_sld (pc := 514) hX hXs hbl (hAo b hbl) (by omega) (k + 1) (nI_1 k) (by omega) d_L_law_514 ?_
  refine jx_callH (pc := 515) hX ho hnc hAo cs_lose (t_L_lose htr σ M hI hC (xs (k + 1))) ⟨rfl, rfl, (Nat.le_of_ble_eq_true rfl), (Nat.le_of_ble_eq_true rfl)⟩ ⟨by show _ ≤ 601024; omega, by show _ ≤ 7293034; omega⟩ rfl rfl (Nat.le_of_ble_eq_true rfl) d_L_law_515 (fun u hu hX => ?_)
  refine jx_istore (pc := 518) hX d_L_law_518 (by decide) (L' := [(0, _), (1, _), (2, _), (3, _), (4, _), (5, _)]) rfl ?_
  refine jx_aload_n (pc := 520) hX d_L_law_520 rfl rfl ?_
  refine jx_aload_n (pc := 521) hX d_L_law_521 rfl rfl ?_
  refine jx_iload (pc := 522) hX d_L_law_522 rfl ?_
  refine jx_iconst (pc := 524) hX (v := 1) d_L_law_524 rfl ?_
  refine jx_iadd (pc := 525) hX d_L_law_525 ?_
  refine jx_sld (pc := 526) hX hXs hbl (hAo b hbl) (by omega) (k + 1) (nI_1 k) (by omega) d_L_law_526 ?_
  refine jx_cMv (pc := 527) hX cl_M_lose rfl (t_M_lose τ M hI hM (xs (k + 1))) ⟨rfl, rfl, (Nat.le_of_ble_eq_true rfl), (Nat.le_of_ble_eq_true rfl)⟩ ⟨by show _ ≤ 601024; omega, by show _ ≤ 7293034; omega⟩ rfl rfl (Nat.le_of_ble_eq_true rfl) d_L_law_527 (fun τ1 hr hX => ?_)
  refine jx_aload_n (pc := 530) hX d_L_law_530 rfl rfl ?_
  refine jx_cMp (pc := 531) hX cl_M_thrown rfl (t_M_thrown τ1) ⟨rfl, rfl, (Nat.le_of_ble_eq_true rfl), (Nat.le_of_ble_eq_true rfl)⟩ ⟨by show _ ≤ 601024; omega, by show _ ≤ 7293034; omega⟩ rfl rfl (Nat.le_of_ble_eq_true rfl) d_L_law_531 (fun r1 hr1 => ?_)
  have hr1 : r1 = (o_lose M (xs (k + 1))).1 := hr1.trans hr.1
  subst hr1
  refine jx_iload (pc := 534) hX d_L_law_534 rfl ?_
  refine jx_icmp_eq (pc := 536) hX 541 d_L_law_536 rfl (fun _ => ?_) (fun hh => absurd rfl hh)
  refine jx_goto (pc := 541) hX 905 d_L_law_541 rfl ?_
  refine jx_take 5 ?_
  exact next _ _ u.1 τ1 u.2 _ (by omega) (by omega) (inv_lose hI (xs (k + 1))) hu.2.2 hr.2
set_option maxRecDepth 100000 in
set_option maxHeartbeats 4000000 in
theorem lawc_twin {l : Launch} (htr : l.stackTraces = false) {X : Cx} {D : va_G} {ad bd : Nat → Nat} {ac bc : Nat → ClassId} {o : Nat} {cO : ClassId} {τ : St} {gg : Nat → Int64} {A : Nat → Prop} {w0 : Cond} {Q : State → Prop} {b LL : Nat} {xs : Nat → Int32} (hX : jX X (yL D ad ac bd bc o cO τ gg) A code 7 RL (w0 :: TT) room_1 (some .boolean)) (C : lawC X A b LL xs) {σ : St} {M : Ms} (hI : Inv M) (hC : repC σ M) (hM : repM τ M) {k cells slots : Nat} (hk : k + 3 ≤ LL) (hcl : cells ≤ 100 + k) (hsl : slots ≤ 20000 + 6 * k) (next : ∀ (c2 s2 : Nat) (σ2 τ2 : St) (g2 : Nat → Int64) (M2 : Ms), c2 ≤ 100 + (k + 3) → s2 ≤ 20000 + 6 * (k + 3) → Inv M2 → repC σ2 M2 → repM τ2 M2 → jW l X (yL D ad ac bd bc o cO τ2 g2) A 7 c2 s2 kT Q σ2 905 [(0, .ref b), (1, .ref (ad 20)), (2, .ref (bd 19)), (3, .ref o), (4, .int (nI k))] []) : jW l X (yL D ad ac bd bc o cO τ gg) A 7 cells slots kT Q σ 544 [(0, .ref b), (1, .ref (ad 20)), (2, .ref (bd 19)), (3, .ref o), (4, .int (nI k))] [] := by
  obtain ⟨ho, hnc, hAo, hXs, hbl, hLL⟩ := C
  refine jx_aload_n (pc := 544) hX d_L_law_544 rfl rfl ?_
  refine jx_aload_n (pc := 545) hX d_L_law_545 rfl rfl ?_
  refine jx_iload (pc := 546) hX d_L_law_546 rfl ?_
  refine jx_iconst (pc := 548) hX (v := 1) d_L_law_548 rfl ?_
  refine jx_iadd (pc := 549) hX d_L_law_549 ?_
  refine jx_sld (pc := 550) hX hXs hbl (hAo b hbl) (by omega) (k + 1) (nI_1 k) (by omega) d_L_law_550 ?_
  refine jx_callH (pc := 551) hX ho hnc hAo cs_twin (t_L_twin htr σ M hI hC (xs (k + 1))) ⟨rfl, rfl, (Nat.le_of_ble_eq_true rfl), (Nat.le_of_ble_eq_true rfl)⟩ ⟨by show _ ≤ 601024; omega, by show _ ≤ 7293034; omega⟩ rfl rfl (Nat.le_of_ble_eq_true rfl) d_L_law_551 (fun u hu hX => ?_)
  refine jx_istore (pc := 554) hX d_L_law_554 (by decide) (L' := [(0, _), (1, _), (2, _), (3, _), (4, _), (5, _)]) rfl ?_
  refine jx_aload_n (pc := 556) hX d_L_law_556 rfl rfl ?_
  refine jx_aload_n (pc := 557) hX d_L_law_557 rfl rfl ?_
  refine jx_iload (pc := 558) hX d_L_law_558 rfl ?_
  refine jx_iconst (pc := 560) hX (v := 1) d_L_law_560 rfl ?_
  refine jx_iadd (pc := 561) hX d_L_law_561 ?_
  refine jx_sld (pc := 562) hX hXs hbl (hAo b hbl) (by omega) (k + 1) (nI_1 k) (by omega) d_L_law_562 ?_
  refine jx_cMv (pc := 563) hX cl_M_twin rfl (t_M_twin τ M hI hM (xs (k + 1))) ⟨rfl, rfl, (Nat.le_of_ble_eq_true rfl), (Nat.le_of_ble_eq_true rfl)⟩ ⟨by show _ ≤ 601024; omega, by show _ ≤ 7293034; omega⟩ rfl rfl (Nat.le_of_ble_eq_true rfl) d_L_law_563 (fun τ1 hr hX => ?_)
  refine jx_aload_n (pc := 566) hX d_L_law_566 rfl rfl ?_
  refine jx_cMp (pc := 567) hX cl_M_thrown rfl (t_M_thrown τ1) ⟨rfl, rfl, (Nat.le_of_ble_eq_true rfl), (Nat.le_of_ble_eq_true rfl)⟩ ⟨by show _ ≤ 601024; omega, by show _ ≤ 7293034; omega⟩ rfl rfl (Nat.le_of_ble_eq_true rfl) d_L_law_567 (fun r1 hr1 => ?_)
  have hr1 : r1 = (o_twin M (xs (k + 1))).1 := hr1.trans hr.1
  subst hr1
  refine jx_iload (pc := 570) hX d_L_law_570 rfl ?_
  refine jx_icmp_eq (pc := 572) hX 577 d_L_law_572 rfl (fun _ => ?_) (fun hh => absurd rfl hh)
  refine jx_goto (pc := 577) hX 905 d_L_law_577 rfl ?_
  refine jx_take 5 ?_
  exact next _ _ u.1 τ1 u.2 _ (by omega) (by omega) (inv_twin hI (xs (k + 1))) hu.2.2 hr.2
set_option maxRecDepth 100000 in
set_option maxHeartbeats 4000000 in
theorem lawc_letter {l : Launch} (htr : l.stackTraces = false) {X : Cx} {D : va_G} {ad bd : Nat → Nat} {ac bc : Nat → ClassId} {o : Nat} {cO : ClassId} {τ : St} {gg : Nat → Int64} {A : Nat → Prop} {w0 : Cond} {Q : State → Prop} {b LL : Nat} {xs : Nat → Int32} (hX : jX X (yL D ad ac bd bc o cO τ gg) A code 7 RL (w0 :: TT) room_1 (some .boolean)) (C : lawC X A b LL xs) {σ : St} {M : Ms} (hI : Inv M) (hC : repC σ M) (hM : repM τ M) {k cells slots : Nat} (hk : k + 3 ≤ LL) (hcl : cells ≤ 100 + k) (hsl : slots ≤ 20000 + 6 * k) (next : ∀ (c2 s2 : Nat) (σ2 τ2 : St) (g2 : Nat → Int64) (M2 : Ms), c2 ≤ 100 + (k + 3) → s2 ≤ 20000 + 6 * (k + 3) → Inv M2 → repC σ2 M2 → repM τ2 M2 → jW l X (yL D ad ac bd bc o cO τ2 g2) A 7 c2 s2 kT Q σ2 905 [(0, .ref b), (1, .ref (ad 20)), (2, .ref (bd 19)), (3, .ref o), (4, .int (nI k))] []) : jW l X (yL D ad ac bd bc o cO τ gg) A 7 cells slots kT Q σ 580 [(0, .ref b), (1, .ref (ad 20)), (2, .ref (bd 19)), (3, .ref o), (4, .int (nI k))] [] := by
  obtain ⟨ho, hnc, hAo, hXs, hbl, hLL⟩ := C
  refine jx_aload_n (pc := 580) hX d_L_law_580 rfl rfl ?_
  refine jx_aload_n (pc := 581) hX d_L_law_581 rfl rfl ?_
  refine jx_iload (pc := 582) hX d_L_law_582 rfl ?_
  refine jx_iconst (pc := 584) hX (v := 1) d_L_law_584 rfl ?_
  refine jx_iadd (pc := 585) hX d_L_law_585 ?_
  refine jx_sld (pc := 586) hX hXs hbl (hAo b hbl) (by omega) (k + 1) (nI_1 k) (by omega) d_L_law_586 ?_
  refine jx_aload_n (pc := 587) hX d_L_law_587 rfl rfl ?_
  refine jx_iload (pc := 588) hX d_L_law_588 rfl ?_
  refine jx_iconst (pc := 590) hX (v := 2) d_L_law_590 rfl ?_
  refine jx_iadd (pc := 591) hX d_L_law_591 ?_
  refine jx_sld (pc := 592) hX hXs hbl (hAo b hbl) (by omega) (k + 2) (nI_2 k) (by omega) d_L_law_592 ?_
  refine jx_aload_n (pc := 593) hX d_L_law_593 rfl rfl ?_
  refine jx_callH (pc := 594) hX ho hnc hAo cs_letter (t_L_letter htr σ M hI hC (xs (k + 1)) (xs (k + 2))) ⟨rfl, rfl, (Nat.le_of_ble_eq_true rfl), (Nat.le_of_ble_eq_true rfl)⟩ ⟨by show _ ≤ 601024; omega, by show _ ≤ 7293034; omega⟩ rfl rfl (Nat.le_of_ble_eq_true rfl) d_L_law_594 (fun u hu hX => ?_)
  refine jx_istore (pc := 597) hX d_L_law_597 (by decide) (L' := [(0, _), (1, _), (2, _), (3, _), (4, _), (5, _)]) rfl ?_
  refine jx_aload_n (pc := 599) hX d_L_law_599 rfl rfl ?_
  refine jx_aload_n (pc := 600) hX d_L_law_600 rfl rfl ?_
  refine jx_iload (pc := 601) hX d_L_law_601 rfl ?_
  refine jx_iconst (pc := 603) hX (v := 1) d_L_law_603 rfl ?_
  refine jx_iadd (pc := 604) hX d_L_law_604 ?_
  refine jx_sld (pc := 605) hX hXs hbl (hAo b hbl) (by omega) (k + 1) (nI_1 k) (by omega) d_L_law_605 ?_
  refine jx_aload_n (pc := 606) hX d_L_law_606 rfl rfl ?_
  refine jx_iload (pc := 607) hX d_L_law_607 rfl ?_
  refine jx_iconst (pc := 609) hX (v := 2) d_L_law_609 rfl ?_
  refine jx_iadd (pc := 610) hX d_L_law_610 ?_
  refine jx_sld (pc := 611) hX hXs hbl (hAo b hbl) (by omega) (k + 2) (nI_2 k) (by omega) d_L_law_611 ?_
  refine jx_cMi (pc := 612) hX cl_M_letter rfl (t_M_letter τ M hI hM (xs (k + 1)) (xs (k + 2))) ⟨rfl, rfl, (Nat.le_of_ble_eq_true rfl), (Nat.le_of_ble_eq_true rfl)⟩ ⟨by show _ ≤ 601024; omega, by show _ ≤ 7293034; omega⟩ rfl rfl (Nat.le_of_ble_eq_true rfl) d_L_law_612 (fun r τ1 hr hX => ?_)
  refine jx_istore (pc := 615) hX d_L_law_615 (by decide) (L' := [(0, _), (1, _), (2, _), (3, _), (4, _), (5, _), (6, _)]) rfl ?_
  refine jx_aload_n (pc := 617) hX d_L_law_617 rfl rfl ?_
  refine jx_cMp (pc := 618) hX cl_M_thrown rfl (t_M_thrown τ1) ⟨rfl, rfl, (Nat.le_of_ble_eq_true rfl), (Nat.le_of_ble_eq_true rfl)⟩ ⟨by show _ ≤ 601024; omega, by show _ ≤ 7293034; omega⟩ rfl rfl (Nat.le_of_ble_eq_true rfl) d_L_law_618 (fun r1 hr1 => ?_)
  have hr1 : r1 = (o_letter M (xs (k + 1)) (xs (k + 2))).1 := hr1.trans hr.1
  subst hr1
  refine jx_iload (pc := 621) hX d_L_law_621 rfl ?_
  refine jx_icmp_eq (pc := 623) hX 628 d_L_law_623 rfl (fun _ => ?_) (fun hh => absurd rfl hh)
  refine jx_iload (pc := 628) hX d_L_law_628 rfl ?_
  refine jx_if_ne (pc := 630) hX 645 d_L_law_630 rfl (fun h0 => ?_) (fun h0 => ?_)
  · refine jx_goto (pc := 645) hX 905 d_L_law_645 rfl ?_
    refine jx_take 5 ?_
    exact next _ _ u.1 τ1 u.2 _ (by omega) (by omega) (inv_letter hI (xs (k + 1)) (xs (k + 2))) hu.2.2 hr.2.2
  · refine jx_aload_n (pc := 633) hX d_L_law_633 rfl rfl ?_
    refine jx_iconst (pc := 634) hX (v := 0) d_L_law_634 rfl ?_
    refine jx_lald (pc := 635) hX d_L_law_635 ?_
    refine jx_iload (pc := 636) hX d_L_law_636 rfl ?_
    refine jx_i2l (pc := 638) hX d_L_law_638 ?_
    refine jx_lcmp (pc := 639) hX d_L_law_639 ?_
    refine jx_if_eq (pc := 640) hX 645 d_L_law_640 rfl (fun _ => ?_) (fun hh => absurd (by rw [hu.2.1 h0 rfl, hr.2.1 h0]; exact lg_cmp_self _) hh)
    refine jx_goto (pc := 645) hX 905 d_L_law_645 rfl ?_
    refine jx_take 5 ?_
    exact next _ _ u.1 τ1 u.2 _ (by omega) (by omega) (inv_letter hI (xs (k + 1)) (xs (k + 2))) hu.2.2 hr.2.2
set_option maxRecDepth 100000 in
set_option maxHeartbeats 4000000 in
theorem lawc_resend {l : Launch} (htr : l.stackTraces = false) {X : Cx} {D : va_G} {ad bd : Nat → Nat} {ac bc : Nat → ClassId} {o : Nat} {cO : ClassId} {τ : St} {gg : Nat → Int64} {A : Nat → Prop} {w0 : Cond} {Q : State → Prop} {b LL : Nat} {xs : Nat → Int32} (hX : jX X (yL D ad ac bd bc o cO τ gg) A code 7 RL (w0 :: TT) room_1 (some .boolean)) (C : lawC X A b LL xs) {σ : St} {M : Ms} (hI : Inv M) (hC : repC σ M) (hM : repM τ M) {k cells slots : Nat} (hk : k + 3 ≤ LL) (hcl : cells ≤ 100 + k) (hsl : slots ≤ 20000 + 6 * k) (next : ∀ (c2 s2 : Nat) (σ2 τ2 : St) (g2 : Nat → Int64) (M2 : Ms), c2 ≤ 100 + (k + 3) → s2 ≤ 20000 + 6 * (k + 3) → Inv M2 → repC σ2 M2 → repM τ2 M2 → jW l X (yL D ad ac bd bc o cO τ2 g2) A 7 c2 s2 kT Q σ2 905 [(0, .ref b), (1, .ref (ad 20)), (2, .ref (bd 19)), (3, .ref o), (4, .int (nI k))] []) : jW l X (yL D ad ac bd bc o cO τ gg) A 7 cells slots kT Q σ 648 [(0, .ref b), (1, .ref (ad 20)), (2, .ref (bd 19)), (3, .ref o), (4, .int (nI k))] [] := by
  obtain ⟨ho, hnc, hAo, hXs, hbl, hLL⟩ := C
  refine jx_aload_n (pc := 648) hX d_L_law_648 rfl rfl ?_
  refine jx_cCi (pc := 649) hX cl_N_resend rfl (t_N_resend σ M hI hC) ⟨rfl, rfl, (Nat.le_of_ble_eq_true rfl), (Nat.le_of_ble_eq_true rfl)⟩ ⟨by show _ ≤ 601024; omega, by show _ ≤ 7293034; omega⟩ rfl rfl (Nat.le_of_ble_eq_true rfl) d_L_law_649 (fun r u hu hX => ?_)
  obtain ⟨rfl, hu⟩ := hu
  refine jx_aload_n (pc := 652) hX d_L_law_652 rfl rfl ?_
  refine jx_cMi (pc := 653) hX cl_M_resend rfl (t_M_resend τ M hI hM) ⟨rfl, rfl, (Nat.le_of_ble_eq_true rfl), (Nat.le_of_ble_eq_true rfl)⟩ ⟨by show _ ≤ 601024; omega, by show _ ≤ 7293034; omega⟩ rfl rfl (Nat.le_of_ble_eq_true rfl) d_L_law_653 (fun r τ1 hr hX => ?_)
  obtain ⟨rfl, hr⟩ := hr
  refine jx_icmp_eq (pc := 656) hX 905 d_L_law_656 rfl (fun _ => ?_) (fun hh => absurd rfl hh)
  exact next _ _ u τ1 gg _ (by omega) (by omega) (inv_resend hI) hu hr
set_option maxRecDepth 100000 in
set_option maxHeartbeats 4000000 in
theorem lawc_stationz {l : Launch} (htr : l.stackTraces = false) {X : Cx} {D : va_G} {ad bd : Nat → Nat} {ac bc : Nat → ClassId} {o : Nat} {cO : ClassId} {τ : St} {gg : Nat → Int64} {A : Nat → Prop} {w0 : Cond} {Q : State → Prop} {b LL : Nat} {xs : Nat → Int32} (hX : jX X (yL D ad ac bd bc o cO τ gg) A code 7 RL (w0 :: TT) room_1 (some .boolean)) (C : lawC X A b LL xs) {σ : St} {M : Ms} (hI : Inv M) (hC : repC σ M) (hM : repM τ M) {k cells slots : Nat} (hk : k + 3 ≤ LL) (hcl : cells ≤ 100 + k) (hsl : slots ≤ 20000 + 6 * k) (hb : xs (k + 2) = 0) (next : ∀ (c2 s2 : Nat) (σ2 τ2 : St) (g2 : Nat → Int64) (M2 : Ms), c2 ≤ 100 + (k + 3) → s2 ≤ 20000 + 6 * (k + 3) → Inv M2 → repC σ2 M2 → repM τ2 M2 → jW l X (yL D ad ac bd bc o cO τ2 g2) A 7 c2 s2 kT Q σ2 905 [(0, .ref b), (1, .ref (ad 20)), (2, .ref (bd 19)), (3, .ref o), (4, .int (nI k))] []) : jW l X (yL D ad ac bd bc o cO τ gg) A 7 cells slots kT Q σ 661 [(0, .ref b), (1, .ref (ad 20)), (2, .ref (bd 19)), (3, .ref o), (4, .int (nI k))] [] := by
  obtain ⟨ho, hnc, hAo, hXs, hbl, hLL⟩ := C
  refine jx_aload_n (pc := 661) hX d_L_law_661 rfl rfl ?_
  refine jx_aload_n (pc := 662) hX d_L_law_662 rfl rfl ?_
  refine jx_iload (pc := 663) hX d_L_law_663 rfl ?_
  refine jx_iconst (pc := 665) hX (v := 1) d_L_law_665 rfl ?_
  refine jx_iadd (pc := 666) hX d_L_law_666 ?_
  refine jx_sld (pc := 667) hX hXs hbl (hAo b hbl) (by omega) (k + 1) (nI_1 k) (by omega) d_L_law_667 ?_
  refine jx_aload_n (pc := 668) hX d_L_law_668 rfl rfl ?_
  refine jx_iload (pc := 669) hX d_L_law_669 rfl ?_
  refine jx_iconst (pc := 671) hX (v := 2) d_L_law_671 rfl ?_
  refine jx_iadd (pc := 672) hX d_L_law_672 ?_
  refine jx_sld (pc := 673) hX hXs hbl (hAo b hbl) (by omega) (k + 2) (nI_2 k) (by omega) d_L_law_673 ?_
  refine jx_if_eq (pc := 674) hX 681 d_L_law_674 rfl (fun _ => ?_) (fun hh => absurd hb hh)
  refine jx_iconst (pc := 681) hX (v := 0) d_L_law_681 rfl ?_
  refine jx_callH (pc := 682) hX ho hnc hAo cs_station (t_L_station htr σ M hI hC (xs (k + 1)) false) ⟨rfl, rfl, (Nat.le_of_ble_eq_true rfl), (Nat.le_of_ble_eq_true rfl)⟩ ⟨by show _ ≤ 601024; omega, by show _ ≤ 7293034; omega⟩ rfl rfl (Nat.le_of_ble_eq_true rfl) d_L_law_682 (fun u hu hX => ?_)
  refine jx_istore (pc := 685) hX d_L_law_685 (by decide) (L' := [(0, _), (1, _), (2, _), (3, _), (4, _), (5, _)]) rfl ?_
  refine jx_aload_n (pc := 687) hX d_L_law_687 rfl rfl ?_
  refine jx_aload_n (pc := 688) hX d_L_law_688 rfl rfl ?_
  refine jx_iload (pc := 689) hX d_L_law_689 rfl ?_
  refine jx_iconst (pc := 691) hX (v := 1) d_L_law_691 rfl ?_
  refine jx_iadd (pc := 692) hX d_L_law_692 ?_
  refine jx_sld (pc := 693) hX hXs hbl (hAo b hbl) (by omega) (k + 1) (nI_1 k) (by omega) d_L_law_693 ?_
  refine jx_aload_n (pc := 694) hX d_L_law_694 rfl rfl ?_
  refine jx_iload (pc := 695) hX d_L_law_695 rfl ?_
  refine jx_iconst (pc := 697) hX (v := 2) d_L_law_697 rfl ?_
  refine jx_iadd (pc := 698) hX d_L_law_698 ?_
  refine jx_sld (pc := 699) hX hXs hbl (hAo b hbl) (by omega) (k + 2) (nI_2 k) (by omega) d_L_law_699 ?_
  refine jx_if_eq (pc := 700) hX 707 d_L_law_700 rfl (fun _ => ?_) (fun hh => absurd hb hh)
  refine jx_iconst (pc := 707) hX (v := 0) d_L_law_707 rfl ?_
  refine jx_cMv (pc := 708) hX cl_M_station rfl (t_M_station τ M hI hM (xs (k + 1)) false) ⟨rfl, rfl, (Nat.le_of_ble_eq_true rfl), (Nat.le_of_ble_eq_true rfl)⟩ ⟨by show _ ≤ 601024; omega, by show _ ≤ 7293034; omega⟩ rfl rfl (Nat.le_of_ble_eq_true rfl) d_L_law_708 (fun τ1 hr hX => ?_)
  refine jx_aload_n (pc := 711) hX d_L_law_711 rfl rfl ?_
  refine jx_cMp (pc := 712) hX cl_M_thrown rfl (t_M_thrown τ1) ⟨rfl, rfl, (Nat.le_of_ble_eq_true rfl), (Nat.le_of_ble_eq_true rfl)⟩ ⟨by show _ ≤ 601024; omega, by show _ ≤ 7293034; omega⟩ rfl rfl (Nat.le_of_ble_eq_true rfl) d_L_law_712 (fun r1 hr1 => ?_)
  have hr1 : r1 = (o_station M (xs (k + 1)) false).1 := hr1.trans hr.1
  subst hr1
  refine jx_iload (pc := 715) hX d_L_law_715 rfl ?_
  refine jx_icmp_eq (pc := 717) hX 722 d_L_law_717 rfl (fun _ => ?_) (fun hh => absurd rfl hh)
  refine jx_goto (pc := 722) hX 905 d_L_law_722 rfl ?_
  refine jx_take 5 ?_
  exact next _ _ u.1 τ1 u.2 _ (by omega) (by omega) (inv_station hI (xs (k + 1)) false) hu.2.2 hr.2
set_option maxRecDepth 100000 in
set_option maxHeartbeats 4000000 in
theorem lawc_stationn {l : Launch} (htr : l.stackTraces = false) {X : Cx} {D : va_G} {ad bd : Nat → Nat} {ac bc : Nat → ClassId} {o : Nat} {cO : ClassId} {τ : St} {gg : Nat → Int64} {A : Nat → Prop} {w0 : Cond} {Q : State → Prop} {b LL : Nat} {xs : Nat → Int32} (hX : jX X (yL D ad ac bd bc o cO τ gg) A code 7 RL (w0 :: TT) room_1 (some .boolean)) (C : lawC X A b LL xs) {σ : St} {M : Ms} (hI : Inv M) (hC : repC σ M) (hM : repM τ M) {k cells slots : Nat} (hk : k + 3 ≤ LL) (hcl : cells ≤ 100 + k) (hsl : slots ≤ 20000 + 6 * k) (hb : ¬ xs (k + 2) = 0) (next : ∀ (c2 s2 : Nat) (σ2 τ2 : St) (g2 : Nat → Int64) (M2 : Ms), c2 ≤ 100 + (k + 3) → s2 ≤ 20000 + 6 * (k + 3) → Inv M2 → repC σ2 M2 → repM τ2 M2 → jW l X (yL D ad ac bd bc o cO τ2 g2) A 7 c2 s2 kT Q σ2 905 [(0, .ref b), (1, .ref (ad 20)), (2, .ref (bd 19)), (3, .ref o), (4, .int (nI k))] []) : jW l X (yL D ad ac bd bc o cO τ gg) A 7 cells slots kT Q σ 661 [(0, .ref b), (1, .ref (ad 20)), (2, .ref (bd 19)), (3, .ref o), (4, .int (nI k))] [] := by
  obtain ⟨ho, hnc, hAo, hXs, hbl, hLL⟩ := C
  refine jx_aload_n (pc := 661) hX d_L_law_661 rfl rfl ?_
  refine jx_aload_n (pc := 662) hX d_L_law_662 rfl rfl ?_
  refine jx_iload (pc := 663) hX d_L_law_663 rfl ?_
  refine jx_iconst (pc := 665) hX (v := 1) d_L_law_665 rfl ?_
  refine jx_iadd (pc := 666) hX d_L_law_666 ?_
  refine jx_sld (pc := 667) hX hXs hbl (hAo b hbl) (by omega) (k + 1) (nI_1 k) (by omega) d_L_law_667 ?_
  refine jx_aload_n (pc := 668) hX d_L_law_668 rfl rfl ?_
  refine jx_iload (pc := 669) hX d_L_law_669 rfl ?_
  refine jx_iconst (pc := 671) hX (v := 2) d_L_law_671 rfl ?_
  refine jx_iadd (pc := 672) hX d_L_law_672 ?_
  refine jx_sld (pc := 673) hX hXs hbl (hAo b hbl) (by omega) (k + 2) (nI_2 k) (by omega) d_L_law_673 ?_
  refine jx_if_eq (pc := 674) hX 681 d_L_law_674 rfl (fun hh => absurd hh hb) (fun _ => ?_)
  refine jx_iconst (pc := 677) hX (v := 1) d_L_law_677 rfl ?_
  refine jx_goto (pc := 678) hX 682 d_L_law_678 rfl ?_
  refine jx_callH (pc := 682) hX ho hnc hAo cs_station (t_L_station htr σ M hI hC (xs (k + 1)) true) ⟨rfl, rfl, (Nat.le_of_ble_eq_true rfl), (Nat.le_of_ble_eq_true rfl)⟩ ⟨by show _ ≤ 601024; omega, by show _ ≤ 7293034; omega⟩ rfl rfl (Nat.le_of_ble_eq_true rfl) d_L_law_682 (fun u hu hX => ?_)
  refine jx_istore (pc := 685) hX d_L_law_685 (by decide) (L' := [(0, _), (1, _), (2, _), (3, _), (4, _), (5, _)]) rfl ?_
  refine jx_aload_n (pc := 687) hX d_L_law_687 rfl rfl ?_
  refine jx_aload_n (pc := 688) hX d_L_law_688 rfl rfl ?_
  refine jx_iload (pc := 689) hX d_L_law_689 rfl ?_
  refine jx_iconst (pc := 691) hX (v := 1) d_L_law_691 rfl ?_
  refine jx_iadd (pc := 692) hX d_L_law_692 ?_
  refine jx_sld (pc := 693) hX hXs hbl (hAo b hbl) (by omega) (k + 1) (nI_1 k) (by omega) d_L_law_693 ?_
  refine jx_aload_n (pc := 694) hX d_L_law_694 rfl rfl ?_
  refine jx_iload (pc := 695) hX d_L_law_695 rfl ?_
  refine jx_iconst (pc := 697) hX (v := 2) d_L_law_697 rfl ?_
  refine jx_iadd (pc := 698) hX d_L_law_698 ?_
  refine jx_sld (pc := 699) hX hXs hbl (hAo b hbl) (by omega) (k + 2) (nI_2 k) (by omega) d_L_law_699 ?_
  refine jx_if_eq (pc := 700) hX 707 d_L_law_700 rfl (fun hh => absurd hh hb) (fun _ => ?_)
  refine jx_iconst (pc := 703) hX (v := 1) d_L_law_703 rfl ?_
  refine jx_goto (pc := 704) hX 708 d_L_law_704 rfl ?_
  refine jx_cMv (pc := 708) hX cl_M_station rfl (t_M_station τ M hI hM (xs (k + 1)) true) ⟨rfl, rfl, (Nat.le_of_ble_eq_true rfl), (Nat.le_of_ble_eq_true rfl)⟩ ⟨by show _ ≤ 601024; omega, by show _ ≤ 7293034; omega⟩ rfl rfl (Nat.le_of_ble_eq_true rfl) d_L_law_708 (fun τ1 hr hX => ?_)
  refine jx_aload_n (pc := 711) hX d_L_law_711 rfl rfl ?_
  refine jx_cMp (pc := 712) hX cl_M_thrown rfl (t_M_thrown τ1) ⟨rfl, rfl, (Nat.le_of_ble_eq_true rfl), (Nat.le_of_ble_eq_true rfl)⟩ ⟨by show _ ≤ 601024; omega, by show _ ≤ 7293034; omega⟩ rfl rfl (Nat.le_of_ble_eq_true rfl) d_L_law_712 (fun r1 hr1 => ?_)
  have hr1 : r1 = (o_station M (xs (k + 1)) true).1 := hr1.trans hr.1
  subst hr1
  refine jx_iload (pc := 715) hX d_L_law_715 rfl ?_
  refine jx_icmp_eq (pc := 717) hX 722 d_L_law_717 rfl (fun _ => ?_) (fun hh => absurd rfl hh)
  refine jx_goto (pc := 722) hX 905 d_L_law_722 rfl ?_
  refine jx_take 5 ?_
  exact next _ _ u.1 τ1 u.2 _ (by omega) (by omega) (inv_station hI (xs (k + 1)) true) hu.2.2 hr.2
set_option maxRecDepth 100000 in
set_option maxHeartbeats 4000000 in
theorem lawc_token {l : Launch} (htr : l.stackTraces = false) {X : Cx} {D : va_G} {ad bd : Nat → Nat} {ac bc : Nat → ClassId} {o : Nat} {cO : ClassId} {τ : St} {gg : Nat → Int64} {A : Nat → Prop} {w0 : Cond} {Q : State → Prop} {b LL : Nat} {xs : Nat → Int32} (hX : jX X (yL D ad ac bd bc o cO τ gg) A code 7 RL (w0 :: TT) room_1 (some .boolean)) (C : lawC X A b LL xs) {σ : St} {M : Ms} (hI : Inv M) (hC : repC σ M) (hM : repM τ M) {k cells slots : Nat} (hk : k + 3 ≤ LL) (hcl : cells ≤ 100 + k) (hsl : slots ≤ 20000 + 6 * k) (next : ∀ (c2 s2 : Nat) (σ2 τ2 : St) (g2 : Nat → Int64) (M2 : Ms), c2 ≤ 100 + (k + 3) → s2 ≤ 20000 + 6 * (k + 3) → Inv M2 → repC σ2 M2 → repM τ2 M2 → jW l X (yL D ad ac bd bc o cO τ2 g2) A 7 c2 s2 kT Q σ2 905 [(0, .ref b), (1, .ref (ad 20)), (2, .ref (bd 19)), (3, .ref o), (4, .int (nI k))] []) : jW l X (yL D ad ac bd bc o cO τ gg) A 7 cells slots kT Q σ 725 [(0, .ref b), (1, .ref (ad 20)), (2, .ref (bd 19)), (3, .ref o), (4, .int (nI k))] [] := by
  obtain ⟨ho, hnc, hAo, hXs, hbl, hLL⟩ := C
  refine jx_aload_n (pc := 725) hX d_L_law_725 rfl rfl ?_
  refine jx_aload_n (pc := 726) hX d_L_law_726 rfl rfl ?_
  refine jx_iload (pc := 727) hX d_L_law_727 rfl ?_
  refine jx_iconst (pc := 729) hX (v := 1) d_L_law_729 rfl ?_
  refine jx_iadd (pc := 730) hX d_L_law_730 ?_
  refine jx_sld (pc := 731) hX hXs hbl (hAo b hbl) (by omega) (k + 1) (nI_1 k) (by omega) d_L_law_731 ?_
  refine jx_aload_n (pc := 732) hX d_L_law_732 rfl rfl ?_
  refine jx_iload (pc := 733) hX d_L_law_733 rfl ?_
  refine jx_iconst (pc := 735) hX (v := 2) d_L_law_735 rfl ?_
  refine jx_iadd (pc := 736) hX d_L_law_736 ?_
  refine jx_sld (pc := 737) hX hXs hbl (hAo b hbl) (by omega) (k + 2) (nI_2 k) (by omega) d_L_law_737 ?_
  refine jx_aload_n (pc := 738) hX d_L_law_738 rfl rfl ?_
  refine jx_callH (pc := 739) hX ho hnc hAo cs_token (t_L_token htr σ M hI hC (xs (k + 1)) (xs (k + 2))) ⟨rfl, rfl, (Nat.le_of_ble_eq_true rfl), (Nat.le_of_ble_eq_true rfl)⟩ ⟨by show _ ≤ 601024; omega, by show _ ≤ 7293034; omega⟩ rfl rfl (Nat.le_of_ble_eq_true rfl) d_L_law_739 (fun u hu hX => ?_)
  refine jx_istore (pc := 742) hX d_L_law_742 (by decide) (L' := [(0, _), (1, _), (2, _), (3, _), (4, _), (5, _)]) rfl ?_
  refine jx_aload_n (pc := 744) hX d_L_law_744 rfl rfl ?_
  refine jx_aload_n (pc := 745) hX d_L_law_745 rfl rfl ?_
  refine jx_iload (pc := 746) hX d_L_law_746 rfl ?_
  refine jx_iconst (pc := 748) hX (v := 1) d_L_law_748 rfl ?_
  refine jx_iadd (pc := 749) hX d_L_law_749 ?_
  refine jx_sld (pc := 750) hX hXs hbl (hAo b hbl) (by omega) (k + 1) (nI_1 k) (by omega) d_L_law_750 ?_
  refine jx_aload_n (pc := 751) hX d_L_law_751 rfl rfl ?_
  refine jx_iload (pc := 752) hX d_L_law_752 rfl ?_
  refine jx_iconst (pc := 754) hX (v := 2) d_L_law_754 rfl ?_
  refine jx_iadd (pc := 755) hX d_L_law_755 ?_
  refine jx_sld (pc := 756) hX hXs hbl (hAo b hbl) (by omega) (k + 2) (nI_2 k) (by omega) d_L_law_756 ?_
  refine jx_cMi (pc := 757) hX cl_M_token rfl (t_M_token τ M hI hM (xs (k + 1)) (xs (k + 2))) ⟨rfl, rfl, (Nat.le_of_ble_eq_true rfl), (Nat.le_of_ble_eq_true rfl)⟩ ⟨by show _ ≤ 601024; omega, by show _ ≤ 7293034; omega⟩ rfl rfl (Nat.le_of_ble_eq_true rfl) d_L_law_757 (fun r τ1 hr hX => ?_)
  refine jx_istore (pc := 760) hX d_L_law_760 (by decide) (L' := [(0, _), (1, _), (2, _), (3, _), (4, _), (5, _), (6, _)]) rfl ?_
  refine jx_aload_n (pc := 762) hX d_L_law_762 rfl rfl ?_
  refine jx_cMp (pc := 763) hX cl_M_thrown rfl (t_M_thrown τ1) ⟨rfl, rfl, (Nat.le_of_ble_eq_true rfl), (Nat.le_of_ble_eq_true rfl)⟩ ⟨by show _ ≤ 601024; omega, by show _ ≤ 7293034; omega⟩ rfl rfl (Nat.le_of_ble_eq_true rfl) d_L_law_763 (fun r1 hr1 => ?_)
  have hr1 : r1 = (o_token M (xs (k + 1)) (xs (k + 2))).1 := hr1.trans hr.1
  subst hr1
  refine jx_iload (pc := 766) hX d_L_law_766 rfl ?_
  refine jx_icmp_eq (pc := 768) hX 773 d_L_law_768 rfl (fun _ => ?_) (fun hh => absurd rfl hh)
  refine jx_iload (pc := 773) hX d_L_law_773 rfl ?_
  refine jx_if_ne (pc := 775) hX 790 d_L_law_775 rfl (fun h0 => ?_) (fun h0 => ?_)
  · refine jx_goto (pc := 790) hX 905 d_L_law_790 rfl ?_
    refine jx_take 5 ?_
    exact next _ _ u.1 τ1 u.2 _ (by omega) (by omega) (inv_token hI (xs (k + 1)) (xs (k + 2))) hu.2.2 hr.2.2
  · refine jx_aload_n (pc := 778) hX d_L_law_778 rfl rfl ?_
    refine jx_iconst (pc := 779) hX (v := 0) d_L_law_779 rfl ?_
    refine jx_lald (pc := 780) hX d_L_law_780 ?_
    refine jx_iload (pc := 781) hX d_L_law_781 rfl ?_
    refine jx_i2l (pc := 783) hX d_L_law_783 ?_
    refine jx_lcmp (pc := 784) hX d_L_law_784 ?_
    refine jx_if_eq (pc := 785) hX 790 d_L_law_785 rfl (fun _ => ?_) (fun hh => absurd (by rw [hu.2.1 h0 rfl, hr.2.1 h0]; exact lg_cmp_self _) hh)
    refine jx_goto (pc := 790) hX 905 d_L_law_790 rfl ?_
    refine jx_take 5 ?_
    exact next _ _ u.1 τ1 u.2 _ (by omega) (by omega) (inv_token hI (xs (k + 1)) (xs (k + 2))) hu.2.2 hr.2.2
set_option maxRecDepth 100000 in
set_option maxHeartbeats 4000000 in
theorem lawc_about {l : Launch} (htr : l.stackTraces = false) {X : Cx} {D : va_G} {ad bd : Nat → Nat} {ac bc : Nat → ClassId} {o : Nat} {cO : ClassId} {τ : St} {gg : Nat → Int64} {A : Nat → Prop} {w0 : Cond} {Q : State → Prop} {b LL : Nat} {xs : Nat → Int32} (hX : jX X (yL D ad ac bd bc o cO τ gg) A code 7 RL (w0 :: TT) room_1 (some .boolean)) (C : lawC X A b LL xs) {σ : St} {M : Ms} (hI : Inv M) (hC : repC σ M) (hM : repM τ M) {k cells slots : Nat} (hk : k + 3 ≤ LL) (hcl : cells ≤ 100 + k) (hsl : slots ≤ 20000 + 6 * k) (next : ∀ (c2 s2 : Nat) (σ2 τ2 : St) (g2 : Nat → Int64) (M2 : Ms), c2 ≤ 100 + (k + 3) → s2 ≤ 20000 + 6 * (k + 3) → Inv M2 → repC σ2 M2 → repM τ2 M2 → jW l X (yL D ad ac bd bc o cO τ2 g2) A 7 c2 s2 kT Q σ2 905 [(0, .ref b), (1, .ref (ad 20)), (2, .ref (bd 19)), (3, .ref o), (4, .int (nI k))] []) : jW l X (yL D ad ac bd bc o cO τ gg) A 7 cells slots kT Q σ 793 [(0, .ref b), (1, .ref (ad 20)), (2, .ref (bd 19)), (3, .ref o), (4, .int (nI k))] [] := by
  obtain ⟨ho, hnc, hAo, hXs, hbl, hLL⟩ := C
  refine jx_aload_n (pc := 793) hX d_L_law_793 rfl rfl ?_
  refine jx_aload_n (pc := 794) hX d_L_law_794 rfl rfl ?_
  refine jx_iload (pc := 795) hX d_L_law_795 rfl ?_
  refine jx_iconst (pc := 797) hX (v := 1) d_L_law_797 rfl ?_
  refine jx_iadd (pc := 798) hX d_L_law_798 ?_
  refine jx_sld (pc := 799) hX hXs hbl (hAo b hbl) (by omega) (k + 1) (nI_1 k) (by omega) d_L_law_799 ?_
  refine jx_aload_n (pc := 800) hX d_L_law_800 rfl rfl ?_
  refine jx_callH (pc := 801) hX ho hnc hAo cs_about (t_L_about htr σ M hI hC (xs (k + 1))) ⟨rfl, rfl, (Nat.le_of_ble_eq_true rfl), (Nat.le_of_ble_eq_true rfl)⟩ ⟨by show _ ≤ 601024; omega, by show _ ≤ 7293034; omega⟩ rfl rfl (Nat.le_of_ble_eq_true rfl) d_L_law_801 (fun u hu hX => ?_)
  refine jx_istore (pc := 804) hX d_L_law_804 (by decide) (L' := [(0, _), (1, _), (2, _), (3, _), (4, _), (5, _)]) rfl ?_
  refine jx_aload_n (pc := 806) hX d_L_law_806 rfl rfl ?_
  refine jx_aload_n (pc := 807) hX d_L_law_807 rfl rfl ?_
  refine jx_iload (pc := 808) hX d_L_law_808 rfl ?_
  refine jx_iconst (pc := 810) hX (v := 1) d_L_law_810 rfl ?_
  refine jx_iadd (pc := 811) hX d_L_law_811 ?_
  refine jx_sld (pc := 812) hX hXs hbl (hAo b hbl) (by omega) (k + 1) (nI_1 k) (by omega) d_L_law_812 ?_
  refine jx_cMi (pc := 813) hX cl_M_about rfl (t_M_about τ M hI hM (xs (k + 1))) ⟨rfl, rfl, (Nat.le_of_ble_eq_true rfl), (Nat.le_of_ble_eq_true rfl)⟩ ⟨by show _ ≤ 601024; omega, by show _ ≤ 7293034; omega⟩ rfl rfl (Nat.le_of_ble_eq_true rfl) d_L_law_813 (fun r τ1 hr hX => ?_)
  refine jx_istore (pc := 816) hX d_L_law_816 (by decide) (L' := [(0, _), (1, _), (2, _), (3, _), (4, _), (5, _), (6, _)]) rfl ?_
  refine jx_aload_n (pc := 818) hX d_L_law_818 rfl rfl ?_
  refine jx_cMp (pc := 819) hX cl_M_thrown rfl (t_M_thrown τ1) ⟨rfl, rfl, (Nat.le_of_ble_eq_true rfl), (Nat.le_of_ble_eq_true rfl)⟩ ⟨by show _ ≤ 601024; omega, by show _ ≤ 7293034; omega⟩ rfl rfl (Nat.le_of_ble_eq_true rfl) d_L_law_819 (fun r1 hr1 => ?_)
  have hr1 : r1 = (o_about M (xs (k + 1))).1 := hr1.trans hr.1
  subst hr1
  refine jx_iload (pc := 822) hX d_L_law_822 rfl ?_
  refine jx_icmp_eq (pc := 824) hX 829 d_L_law_824 rfl (fun _ => ?_) (fun hh => absurd rfl hh)
  refine jx_iload (pc := 829) hX d_L_law_829 rfl ?_
  refine jx_if_ne (pc := 831) hX 846 d_L_law_831 rfl (fun h0 => ?_) (fun h0 => ?_)
  · refine jx_goto (pc := 846) hX 905 d_L_law_846 rfl ?_
    refine jx_take 5 ?_
    exact next _ _ u.1 τ1 u.2 _ (by omega) (by omega) (inv_about hI (xs (k + 1))) hu.2.2 hr.2.2
  · refine jx_aload_n (pc := 834) hX d_L_law_834 rfl rfl ?_
    refine jx_iconst (pc := 835) hX (v := 0) d_L_law_835 rfl ?_
    refine jx_lald (pc := 836) hX d_L_law_836 ?_
    refine jx_iload (pc := 837) hX d_L_law_837 rfl ?_
    refine jx_i2l (pc := 839) hX d_L_law_839 ?_
    refine jx_lcmp (pc := 840) hX d_L_law_840 ?_
    refine jx_if_eq (pc := 841) hX 846 d_L_law_841 rfl (fun _ => ?_) (fun hh => absurd (by rw [hu.2.1 h0 rfl, hr.2.1 h0]; exact lg_cmp_self _) hh)
    refine jx_goto (pc := 846) hX 905 d_L_law_846 rfl ?_
    refine jx_take 5 ?_
    exact next _ _ u.1 τ1 u.2 _ (by omega) (by omega) (inv_about hI (xs (k + 1))) hu.2.2 hr.2.2
set_option maxRecDepth 100000 in
set_option maxHeartbeats 4000000 in
theorem lawc_settle {l : Launch} (htr : l.stackTraces = false) {X : Cx} {D : va_G} {ad bd : Nat → Nat} {ac bc : Nat → ClassId} {o : Nat} {cO : ClassId} {τ : St} {gg : Nat → Int64} {A : Nat → Prop} {w0 : Cond} {Q : State → Prop} {b LL : Nat} {xs : Nat → Int32} (hX : jX X (yL D ad ac bd bc o cO τ gg) A code 7 RL (w0 :: TT) room_1 (some .boolean)) (C : lawC X A b LL xs) {σ : St} {M : Ms} (hI : Inv M) (hC : repC σ M) (hM : repM τ M) {k cells slots : Nat} (hk : k + 3 ≤ LL) (hcl : cells ≤ 100 + k) (hsl : slots ≤ 20000 + 6 * k) (next : ∀ (c2 s2 : Nat) (σ2 τ2 : St) (g2 : Nat → Int64) (M2 : Ms), c2 ≤ 100 + (k + 3) → s2 ≤ 20000 + 6 * (k + 3) → Inv M2 → repC σ2 M2 → repM τ2 M2 → jW l X (yL D ad ac bd bc o cO τ2 g2) A 7 c2 s2 kT Q σ2 905 [(0, .ref b), (1, .ref (ad 20)), (2, .ref (bd 19)), (3, .ref o), (4, .int (nI k))] []) : jW l X (yL D ad ac bd bc o cO τ gg) A 7 cells slots kT Q σ 849 [(0, .ref b), (1, .ref (ad 20)), (2, .ref (bd 19)), (3, .ref o), (4, .int (nI k))] [] := by
  obtain ⟨ho, hnc, hAo, hXs, hbl, hLL⟩ := C
  refine jx_aload_n (pc := 849) hX d_L_law_849 rfl rfl ?_
  refine jx_aload_n (pc := 850) hX d_L_law_850 rfl rfl ?_
  refine jx_iload (pc := 851) hX d_L_law_851 rfl ?_
  refine jx_iconst (pc := 853) hX (v := 1) d_L_law_853 rfl ?_
  refine jx_iadd (pc := 854) hX d_L_law_854 ?_
  refine jx_sld (pc := 855) hX hXs hbl (hAo b hbl) (by omega) (k + 1) (nI_1 k) (by omega) d_L_law_855 ?_
  refine jx_aload_n (pc := 856) hX d_L_law_856 rfl rfl ?_
  refine jx_callH (pc := 857) hX ho hnc hAo cs_settle (t_L_settle htr σ M hI hC (xs (k + 1))) ⟨rfl, rfl, (Nat.le_of_ble_eq_true rfl), (Nat.le_of_ble_eq_true rfl)⟩ ⟨by show _ ≤ 601024; omega, by show _ ≤ 7293034; omega⟩ rfl rfl (Nat.le_of_ble_eq_true rfl) d_L_law_857 (fun u hu hX => ?_)
  refine jx_istore (pc := 860) hX d_L_law_860 (by decide) (L' := [(0, _), (1, _), (2, _), (3, _), (4, _), (5, _)]) rfl ?_
  refine jx_aload_n (pc := 862) hX d_L_law_862 rfl rfl ?_
  refine jx_aload_n (pc := 863) hX d_L_law_863 rfl rfl ?_
  refine jx_iload (pc := 864) hX d_L_law_864 rfl ?_
  refine jx_iconst (pc := 866) hX (v := 1) d_L_law_866 rfl ?_
  refine jx_iadd (pc := 867) hX d_L_law_867 ?_
  refine jx_sld (pc := 868) hX hXs hbl (hAo b hbl) (by omega) (k + 1) (nI_1 k) (by omega) d_L_law_868 ?_
  refine jx_cMi (pc := 869) hX cl_M_settle rfl (t_M_settle τ M hI hM (xs (k + 1))) ⟨rfl, rfl, (Nat.le_of_ble_eq_true rfl), (Nat.le_of_ble_eq_true rfl)⟩ ⟨by show _ ≤ 601024; omega, by show _ ≤ 7293034; omega⟩ rfl rfl (Nat.le_of_ble_eq_true rfl) d_L_law_869 (fun r τ1 hr hX => ?_)
  refine jx_istore (pc := 872) hX d_L_law_872 (by decide) (L' := [(0, _), (1, _), (2, _), (3, _), (4, _), (5, _), (6, _)]) rfl ?_
  refine jx_aload_n (pc := 874) hX d_L_law_874 rfl rfl ?_
  refine jx_cMp (pc := 875) hX cl_M_thrown rfl (t_M_thrown τ1) ⟨rfl, rfl, (Nat.le_of_ble_eq_true rfl), (Nat.le_of_ble_eq_true rfl)⟩ ⟨by show _ ≤ 601024; omega, by show _ ≤ 7293034; omega⟩ rfl rfl (Nat.le_of_ble_eq_true rfl) d_L_law_875 (fun r1 hr1 => ?_)
  have hr1 : r1 = (o_settle M (xs (k + 1))).1 := hr1.trans hr.1
  subst hr1
  refine jx_iload (pc := 878) hX d_L_law_878 rfl ?_
  refine jx_icmp_eq (pc := 880) hX 885 d_L_law_880 rfl (fun _ => ?_) (fun hh => absurd rfl hh)
  refine jx_iload (pc := 885) hX d_L_law_885 rfl ?_
  refine jx_if_ne (pc := 887) hX 902 d_L_law_887 rfl (fun h0 => ?_) (fun h0 => ?_)
  · refine jx_goto (pc := 902) hX 905 d_L_law_902 rfl ?_
    refine jx_take 5 ?_
    exact next _ _ u.1 τ1 u.2 _ (by omega) (by omega) (inv_settle hI (xs (k + 1))) hu.2.2 hr.2.2
  · refine jx_aload_n (pc := 890) hX d_L_law_890 rfl rfl ?_
    refine jx_iconst (pc := 891) hX (v := 0) d_L_law_891 rfl ?_
    refine jx_lald (pc := 892) hX d_L_law_892 ?_
    refine jx_iload (pc := 893) hX d_L_law_893 rfl ?_
    refine jx_i2l (pc := 895) hX d_L_law_895 ?_
    refine jx_lcmp (pc := 896) hX d_L_law_896 ?_
    refine jx_if_eq (pc := 897) hX 902 d_L_law_897 rfl (fun _ => ?_) (fun hh => absurd (by rw [hu.2.1 h0 rfl, hr.2.1 h0]; exact lg_cmp_self _) hh)
    refine jx_goto (pc := 902) hX 905 d_L_law_902 rfl ?_
    refine jx_take 5 ?_
    exact next _ _ u.1 τ1 u.2 _ (by omega) (by omega) (inv_settle hI (xs (k + 1))) hu.2.2 hr.2.2
