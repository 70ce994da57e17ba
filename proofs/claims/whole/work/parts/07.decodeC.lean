/-! rows that decode each instruction (by program) -/
theorem d_N_init_0 : decode b_N_init 0 = .ok (.aload_n 0, 1) := by decide +kernel
theorem d_N_init_1 : decode b_N_init 1 = .ok (.invokespecial 1, 3) := by decide +kernel
theorem d_N_init_4 : decode b_N_init 4 = .ok (.aload_n 0, 1) := by decide +kernel
theorem d_N_init_5 : decode b_N_init 5 = .ok (.new 7, 3) := by decide +kernel
theorem d_N_init_8 : decode b_N_init 8 = .ok (.dup, 1) := by decide +kernel
theorem d_N_init_9 : decode b_N_init 9 = .ok (.invokespecial 9, 3) := by decide +kernel
theorem d_N_init_12 : decode b_N_init 12 = .ok (.putfield 10, 3) := by decide +kernel
theorem d_N_init_15 : decode b_N_init 15 = .ok (.aload_n 0, 1) := by decide +kernel
theorem d_N_init_16 : decode b_N_init 16 = .ok (.new 16, 3) := by decide +kernel
theorem d_N_init_19 : decode b_N_init 19 = .ok (.dup, 1) := by decide +kernel
theorem d_N_init_20 : decode b_N_init 20 = .ok (.invokespecial 18, 3) := by decide +kernel
theorem d_N_init_23 : decode b_N_init 23 = .ok (.putfield 19, 3) := by decide +kernel
theorem d_N_init_26 : decode b_N_init 26 = .ok (.aload_n 0, 1) := by decide +kernel
theorem d_N_init_27 : decode b_N_init 27 = .ok (.new 23, 3) := by decide +kernel
theorem d_N_init_30 : decode b_N_init 30 = .ok (.dup, 1) := by decide +kernel
theorem d_N_init_31 : decode b_N_init 31 = .ok (.invokespecial 25, 3) := by decide +kernel
theorem d_N_init_34 : decode b_N_init 34 = .ok (.putfield 26, 3) := by decide +kernel
theorem d_N_init_37 : decode b_N_init 37 = .ok (.aload_n 0, 1) := by decide +kernel
theorem d_N_init_38 : decode b_N_init 38 = .ok (.bipush 24, 2) := by decide +kernel
theorem d_N_init_40 : decode b_N_init 40 = .ok (.newarray .int, 2) := by decide +kernel
theorem d_N_init_42 : decode b_N_init 42 = .ok (.putfield 30, 3) := by decide +kernel
theorem d_N_init_45 : decode b_N_init 45 = .ok (.aload_n 0, 1) := by decide +kernel
theorem d_N_init_46 : decode b_N_init 46 = .ok (.bipush 8, 2) := by decide +kernel
theorem d_N_init_48 : decode b_N_init 48 = .ok (.newarray .int, 2) := by decide +kernel
theorem d_N_init_50 : decode b_N_init 50 = .ok (.putfield 34, 3) := by decide +kernel
theorem d_N_init_53 : decode b_N_init 53 = .ok (.aload_n 0, 1) := by decide +kernel
theorem d_N_init_54 : decode b_N_init 54 = .ok (.bipush 6, 2) := by decide +kernel
theorem d_N_init_56 : decode b_N_init 56 = .ok (.newarray .boolean, 2) := by decide +kernel
theorem d_N_init_58 : decode b_N_init 58 = .ok (.putfield 37, 3) := by decide +kernel
theorem d_N_init_61 : decode b_N_init 61 = .ok (.aload_n 0, 1) := by decide +kernel
theorem d_N_init_62 : decode b_N_init 62 = .ok (.iconst 2, 1) := by decide +kernel
theorem d_N_init_63 : decode b_N_init 63 = .ok (.iconst 1, 1) := by decide +kernel
theorem d_N_init_64 : decode b_N_init 64 = .ok (.invokevirtual 41, 3) := by decide +kernel
theorem d_N_init_67 : decode b_N_init 67 = .ok (.return_, 1) := by decide +kernel
theorem d_N_build_0 : decode b_N_build 0 = .ok (.iload_n 1, 1) := by decide +kernel
theorem d_N_build_1 : decode b_N_build 1 = .ok (.iconst 2, 1) := by decide +kernel
theorem d_N_build_2 : decode b_N_build 2 = .ok (.if_icmp .eq 24, 3) := by decide +kernel
theorem d_N_build_5 : decode b_N_build 5 = .ok (.iload_n 1, 1) := by decide +kernel
theorem d_N_build_6 : decode b_N_build 6 = .ok (.iconst 4, 1) := by decide +kernel
theorem d_N_build_7 : decode b_N_build 7 = .ok (.if_icmp .eq 19, 3) := by decide +kernel
theorem d_N_build_10 : decode b_N_build 10 = .ok (.iload_n 1, 1) := by decide +kernel
theorem d_N_build_11 : decode b_N_build 11 = .ok (.bipush 8, 2) := by decide +kernel
theorem d_N_build_13 : decode b_N_build 13 = .ok (.if_icmp .eq 13, 3) := by decide +kernel
theorem d_N_build_16 : decode b_N_build 16 = .ok (.new 45, 3) := by decide +kernel
theorem d_N_build_19 : decode b_N_build 19 = .ok (.dup, 1) := by decide +kernel
theorem d_N_build_20 : decode b_N_build 20 = .ok (.ldc 47, 2) := by decide +kernel
theorem d_N_build_22 : decode b_N_build 22 = .ok (.invokespecial 49, 3) := by decide +kernel
theorem d_N_build_25 : decode b_N_build 25 = .ok (.athrow, 1) := by decide +kernel
theorem d_N_build_26 : decode b_N_build 26 = .ok (.iload_n 2, 1) := by decide +kernel
theorem d_N_build_27 : decode b_N_build 27 = .ok (.iconst 1, 1) := by decide +kernel
theorem d_N_build_28 : decode b_N_build 28 = .ok (.if_icmp .lt 9, 3) := by decide +kernel
theorem d_N_build_31 : decode b_N_build 31 = .ok (.iload_n 2, 1) := by decide +kernel
theorem d_N_build_32 : decode b_N_build 32 = .ok (.bipush 6, 2) := by decide +kernel
theorem d_N_build_34 : decode b_N_build 34 = .ok (.if_icmp .le 13, 3) := by decide +kernel
theorem d_N_build_37 : decode b_N_build 37 = .ok (.new 45, 3) := by decide +kernel
theorem d_N_build_40 : decode b_N_build 40 = .ok (.dup, 1) := by decide +kernel
theorem d_N_build_41 : decode b_N_build 41 = .ok (.ldc 52, 2) := by decide +kernel
theorem d_N_build_43 : decode b_N_build 43 = .ok (.invokespecial 49, 3) := by decide +kernel
theorem d_N_build_46 : decode b_N_build 46 = .ok (.athrow, 1) := by decide +kernel
theorem d_N_build_47 : decode b_N_build 47 = .ok (.aload_n 0, 1) := by decide +kernel
theorem d_N_build_48 : decode b_N_build 48 = .ok (.iload_n 1, 1) := by decide +kernel
theorem d_N_build_49 : decode b_N_build 49 = .ok (.iload_n 2, 1) := by decide +kernel
theorem d_N_build_50 : decode b_N_build 50 = .ok (.invokevirtual 41, 3) := by decide +kernel
theorem d_N_build_53 : decode b_N_build 53 = .ok (.aload_n 0, 1) := by decide +kernel
theorem d_N_build_54 : decode b_N_build 54 = .ok (.getfield 10, 3) := by decide +kernel
theorem d_N_build_57 : decode b_N_build 57 = .ok (.getfield 54, 3) := by decide +kernel
theorem d_N_build_60 : decode b_N_build 60 = .ok (.ireturn, 1) := by decide +kernel
theorem d_N_balancer_0 : decode b_N_balancer 0 = .ok (.iload_n 1, 1) := by decide +kernel
theorem d_N_balancer_1 : decode b_N_balancer 1 = .ok (.ifCond .lt 14, 3) := by decide +kernel
theorem d_N_balancer_4 : decode b_N_balancer 4 = .ok (.iload_n 1, 1) := by decide +kernel
theorem d_N_balancer_5 : decode b_N_balancer 5 = .ok (.aload_n 0, 1) := by decide +kernel
theorem d_N_balancer_6 : decode b_N_balancer 6 = .ok (.getfield 10, 3) := by decide +kernel
theorem d_N_balancer_9 : decode b_N_balancer 9 = .ok (.getfield 54, 3) := by decide +kernel
theorem d_N_balancer_12 : decode b_N_balancer 12 = .ok (.if_icmp .lt 13, 3) := by decide +kernel
theorem d_N_balancer_15 : decode b_N_balancer 15 = .ok (.new 58, 3) := by decide +kernel
theorem d_N_balancer_18 : decode b_N_balancer 18 = .ok (.dup, 1) := by decide +kernel
theorem d_N_balancer_19 : decode b_N_balancer 19 = .ok (.ldc 60, 2) := by decide +kernel
theorem d_N_balancer_21 : decode b_N_balancer 21 = .ok (.invokespecial 62, 3) := by decide +kernel
theorem d_N_balancer_24 : decode b_N_balancer 24 = .ok (.athrow, 1) := by decide +kernel
theorem d_N_balancer_25 : decode b_N_balancer 25 = .ok (.iload_n 2, 1) := by decide +kernel
theorem d_N_balancer_26 : decode b_N_balancer 26 = .ok (.tableswitch 77 0 4 #[34, 44, 54, 64, 70], 34) := by decide +kernel
theorem d_N_balancer_60 : decode b_N_balancer 60 = .ok (.aload_n 0, 1) := by decide +kernel
theorem d_N_balancer_61 : decode b_N_balancer 61 = .ok (.getfield 10, 3) := by decide +kernel
theorem d_N_balancer_64 : decode b_N_balancer 64 = .ok (.getfield 63, 3) := by decide +kernel
theorem d_N_balancer_67 : decode b_N_balancer 67 = .ok (.iload_n 1, 1) := by decide +kernel
theorem d_N_balancer_68 : decode b_N_balancer 68 = .ok (.iaload, 1) := by decide +kernel
theorem d_N_balancer_69 : decode b_N_balancer 69 = .ok (.ireturn, 1) := by decide +kernel
theorem d_N_balancer_70 : decode b_N_balancer 70 = .ok (.aload_n 0, 1) := by decide +kernel
theorem d_N_balancer_71 : decode b_N_balancer 71 = .ok (.getfield 10, 3) := by decide +kernel
theorem d_N_balancer_74 : decode b_N_balancer 74 = .ok (.getfield 66, 3) := by decide +kernel
theorem d_N_balancer_77 : decode b_N_balancer 77 = .ok (.iload_n 1, 1) := by decide +kernel
theorem d_N_balancer_78 : decode b_N_balancer 78 = .ok (.iaload, 1) := by decide +kernel
theorem d_N_balancer_79 : decode b_N_balancer 79 = .ok (.ireturn, 1) := by decide +kernel
theorem d_N_balancer_80 : decode b_N_balancer 80 = .ok (.aload_n 0, 1) := by decide +kernel
theorem d_N_balancer_81 : decode b_N_balancer 81 = .ok (.getfield 10, 3) := by decide +kernel
theorem d_N_balancer_84 : decode b_N_balancer 84 = .ok (.getfield 69, 3) := by decide +kernel
theorem d_N_balancer_87 : decode b_N_balancer 87 = .ok (.iload_n 1, 1) := by decide +kernel
theorem d_N_balancer_88 : decode b_N_balancer 88 = .ok (.iaload, 1) := by decide +kernel
theorem d_N_balancer_89 : decode b_N_balancer 89 = .ok (.ireturn, 1) := by decide +kernel
theorem d_N_balancer_90 : decode b_N_balancer 90 = .ok (.aload_n 0, 1) := by decide +kernel
theorem d_N_balancer_91 : decode b_N_balancer 91 = .ok (.iload_n 1, 1) := by decide +kernel
theorem d_N_balancer_92 : decode b_N_balancer 92 = .ok (.invokevirtual 72, 3) := by decide +kernel
theorem d_N_balancer_95 : decode b_N_balancer 95 = .ok (.ireturn, 1) := by decide +kernel
theorem d_N_balancer_96 : decode b_N_balancer 96 = .ok (.aload_n 0, 1) := by decide +kernel
theorem d_N_balancer_97 : decode b_N_balancer 97 = .ok (.getfield 30, 3) := by decide +kernel
theorem d_N_balancer_100 : decode b_N_balancer 100 = .ok (.iload_n 1, 1) := by decide +kernel
theorem d_N_balancer_101 : decode b_N_balancer 101 = .ok (.iaload, 1) := by decide +kernel
theorem d_N_balancer_102 : decode b_N_balancer 102 = .ok (.ireturn, 1) := by decide +kernel
theorem d_N_balancer_103 : decode b_N_balancer 103 = .ok (.new 45, 3) := by decide +kernel
theorem d_N_balancer_106 : decode b_N_balancer 106 = .ok (.dup, 1) := by decide +kernel
theorem d_N_balancer_107 : decode b_N_balancer 107 = .ok (.ldc 76, 2) := by decide +kernel
theorem d_N_balancer_109 : decode b_N_balancer 109 = .ok (.invokespecial 49, 3) := by decide +kernel
theorem d_N_balancer_112 : decode b_N_balancer 112 = .ok (.athrow, 1) := by decide +kernel
theorem d_N_exit_0 : decode b_N_exit 0 = .ok (.iload_n 1, 1) := by decide +kernel
theorem d_N_exit_1 : decode b_N_exit 1 = .ok (.ifCond .lt 14, 3) := by decide +kernel
theorem d_N_exit_4 : decode b_N_exit 4 = .ok (.iload_n 1, 1) := by decide +kernel
theorem d_N_exit_5 : decode b_N_exit 5 = .ok (.aload_n 0, 1) := by decide +kernel
theorem d_N_exit_6 : decode b_N_exit 6 = .ok (.getfield 10, 3) := by decide +kernel
theorem d_N_exit_9 : decode b_N_exit 9 = .ok (.getfield 78, 3) := by decide +kernel
theorem d_N_exit_12 : decode b_N_exit 12 = .ok (.if_icmp .lt 13, 3) := by decide +kernel
theorem d_N_exit_15 : decode b_N_exit 15 = .ok (.new 58, 3) := by decide +kernel
theorem d_N_exit_18 : decode b_N_exit 18 = .ok (.dup, 1) := by decide +kernel
theorem d_N_exit_19 : decode b_N_exit 19 = .ok (.ldc 80, 2) := by decide +kernel
theorem d_N_exit_21 : decode b_N_exit 21 = .ok (.invokespecial 62, 3) := by decide +kernel
theorem d_N_exit_24 : decode b_N_exit 24 = .ok (.athrow, 1) := by decide +kernel
theorem d_N_exit_25 : decode b_N_exit 25 = .ok (.iload_n 2, 1) := by decide +kernel
theorem d_N_exit_26 : decode b_N_exit 26 = .ok (.tableswitch 49 0 2 #[26, 36, 42], 26) := by decide +kernel
theorem d_N_exit_52 : decode b_N_exit 52 = .ok (.aload_n 0, 1) := by decide +kernel
theorem d_N_exit_53 : decode b_N_exit 53 = .ok (.getfield 10, 3) := by decide +kernel
theorem d_N_exit_56 : decode b_N_exit 56 = .ok (.getfield 82, 3) := by decide +kernel
theorem d_N_exit_59 : decode b_N_exit 59 = .ok (.iload_n 1, 1) := by decide +kernel
theorem d_N_exit_60 : decode b_N_exit 60 = .ok (.iaload, 1) := by decide +kernel
theorem d_N_exit_61 : decode b_N_exit 61 = .ok (.ireturn, 1) := by decide +kernel
theorem d_N_exit_62 : decode b_N_exit 62 = .ok (.aload_n 0, 1) := by decide +kernel
theorem d_N_exit_63 : decode b_N_exit 63 = .ok (.iload_n 1, 1) := by decide +kernel
theorem d_N_exit_64 : decode b_N_exit 64 = .ok (.invokevirtual 85, 3) := by decide +kernel
theorem d_N_exit_67 : decode b_N_exit 67 = .ok (.ireturn, 1) := by decide +kernel
theorem d_N_exit_68 : decode b_N_exit 68 = .ok (.aload_n 0, 1) := by decide +kernel
theorem d_N_exit_69 : decode b_N_exit 69 = .ok (.getfield 34, 3) := by decide +kernel
theorem d_N_exit_72 : decode b_N_exit 72 = .ok (.iload_n 1, 1) := by decide +kernel
theorem d_N_exit_73 : decode b_N_exit 73 = .ok (.iaload, 1) := by decide +kernel
theorem d_N_exit_74 : decode b_N_exit 74 = .ok (.ireturn, 1) := by decide +kernel
theorem d_N_exit_75 : decode b_N_exit 75 = .ok (.new 45, 3) := by decide +kernel
theorem d_N_exit_78 : decode b_N_exit 78 = .ok (.dup, 1) := by decide +kernel
theorem d_N_exit_79 : decode b_N_exit 79 = .ok (.ldc 76, 2) := by decide +kernel
theorem d_N_exit_81 : decode b_N_exit 81 = .ok (.invokespecial 49, 3) := by decide +kernel
theorem d_N_exit_84 : decode b_N_exit 84 = .ok (.athrow, 1) := by decide +kernel
theorem d_N_enter_0 : decode b_N_enter 0 = .ok (.iload_n 1, 1) := by decide +kernel
theorem d_N_enter_1 : decode b_N_enter 1 = .ok (.ifCond .lt 14, 3) := by decide +kernel
theorem d_N_enter_4 : decode b_N_enter 4 = .ok (.iload_n 1, 1) := by decide +kernel
theorem d_N_enter_5 : decode b_N_enter 5 = .ok (.aload_n 0, 1) := by decide +kernel
theorem d_N_enter_6 : decode b_N_enter 6 = .ok (.getfield 10, 3) := by decide +kernel
theorem d_N_enter_9 : decode b_N_enter 9 = .ok (.getfield 78, 3) := by decide +kernel
theorem d_N_enter_12 : decode b_N_enter 12 = .ok (.if_icmp .lt 13, 3) := by decide +kernel
theorem d_N_enter_15 : decode b_N_enter 15 = .ok (.new 45, 3) := by decide +kernel
theorem d_N_enter_18 : decode b_N_enter 18 = .ok (.dup, 1) := by decide +kernel
theorem d_N_enter_19 : decode b_N_enter 19 = .ok (.ldc 88, 2) := by decide +kernel
theorem d_N_enter_21 : decode b_N_enter 21 = .ok (.invokespecial 49, 3) := by decide +kernel
theorem d_N_enter_24 : decode b_N_enter 24 = .ok (.athrow, 1) := by decide +kernel
theorem d_N_enter_25 : decode b_N_enter 25 = .ok (.aload_n 0, 1) := by decide +kernel
theorem d_N_enter_26 : decode b_N_enter 26 = .ok (.getfield 19, 3) := by decide +kernel
theorem d_N_enter_29 : decode b_N_enter 29 = .ok (.getfield 90, 3) := by decide +kernel
theorem d_N_enter_32 : decode b_N_enter 32 = .ok (.sipush 200, 3) := by decide +kernel
theorem d_N_enter_35 : decode b_N_enter 35 = .ok (.if_icmp .ge 15, 3) := by decide +kernel
theorem d_N_enter_38 : decode b_N_enter 38 = .ok (.aload_n 0, 1) := by decide +kernel
theorem d_N_enter_39 : decode b_N_enter 39 = .ok (.getfield 19, 3) := by decide +kernel
theorem d_N_enter_42 : decode b_N_enter 42 = .ok (.getfield 93, 3) := by decide +kernel
theorem d_N_enter_45 : decode b_N_enter 45 = .ok (.bipush 40, 2) := by decide +kernel
theorem d_N_enter_47 : decode b_N_enter 47 = .ok (.if_icmp .lt 13, 3) := by decide +kernel
theorem d_N_enter_50 : decode b_N_enter 50 = .ok (.new 96, 3) := by decide +kernel
theorem d_N_enter_53 : decode b_N_enter 53 = .ok (.dup, 1) := by decide +kernel
theorem d_N_enter_54 : decode b_N_enter 54 = .ok (.ldc 98, 2) := by decide +kernel
theorem d_N_enter_56 : decode b_N_enter 56 = .ok (.invokespecial 100, 3) := by decide +kernel
theorem d_N_enter_59 : decode b_N_enter 59 = .ok (.athrow, 1) := by decide +kernel
theorem d_N_enter_60 : decode b_N_enter 60 = .ok (.aload_n 0, 1) := by decide +kernel
theorem d_N_enter_61 : decode b_N_enter 61 = .ok (.getfield 19, 3) := by decide +kernel
theorem d_N_enter_64 : decode b_N_enter 64 = .ok (.iload_n 1, 1) := by decide +kernel
theorem d_N_enter_65 : decode b_N_enter 65 = .ok (.iload_n 2, 1) := by decide +kernel
theorem d_N_enter_66 : decode b_N_enter 66 = .ok (.invokevirtual 101, 3) := by decide +kernel
theorem d_N_enter_69 : decode b_N_enter 69 = .ok (.ireturn, 1) := by decide +kernel
theorem d_N_move_0 : decode b_N_move 0 = .ok (.aload_n 0, 1) := by decide +kernel
theorem d_N_move_1 : decode b_N_move 1 = .ok (.getfield 19, 3) := by decide +kernel
theorem d_N_move_4 : decode b_N_move 4 = .ok (.iload_n 1, 1) := by decide +kernel
theorem d_N_move_5 : decode b_N_move 5 = .ok (.invokevirtual 105, 3) := by decide +kernel
theorem d_N_move_8 : decode b_N_move 8 = .ok (.ifCond .ne 13, 3) := by decide +kernel
theorem d_N_move_11 : decode b_N_move 11 = .ok (.new 45, 3) := by decide +kernel
theorem d_N_move_14 : decode b_N_move 14 = .ok (.dup, 1) := by decide +kernel
theorem d_N_move_15 : decode b_N_move 15 = .ok (.ldc 109, 2) := by decide +kernel
theorem d_N_move_17 : decode b_N_move 17 = .ok (.invokespecial 49, 3) := by decide +kernel
theorem d_N_move_20 : decode b_N_move 20 = .ok (.athrow, 1) := by decide +kernel
theorem d_N_move_21 : decode b_N_move 21 = .ok (.aload_n 0, 1) := by decide +kernel
theorem d_N_move_22 : decode b_N_move 22 = .ok (.iload_n 1, 1) := by decide +kernel
theorem d_N_move_23 : decode b_N_move 23 = .ok (.invokevirtual 111, 3) := by decide +kernel
theorem d_N_move_26 : decode b_N_move 26 = .ok (.ifCond .ne 13, 3) := by decide +kernel
theorem d_N_move_29 : decode b_N_move 29 = .ok (.new 96, 3) := by decide +kernel
theorem d_N_move_32 : decode b_N_move 32 = .ok (.dup, 1) := by decide +kernel
theorem d_N_move_33 : decode b_N_move 33 = .ok (.ldc 114, 2) := by decide +kernel
theorem d_N_move_35 : decode b_N_move 35 = .ok (.invokespecial 100, 3) := by decide +kernel
theorem d_N_move_38 : decode b_N_move 38 = .ok (.athrow, 1) := by decide +kernel
theorem d_N_move_39 : decode b_N_move 39 = .ok (.aload_n 0, 1) := by decide +kernel
theorem d_N_move_40 : decode b_N_move 40 = .ok (.iload_n 1, 1) := by decide +kernel
theorem d_N_move_41 : decode b_N_move 41 = .ok (.invokevirtual 116, 3) := by decide +kernel
theorem d_N_move_44 : decode b_N_move 44 = .ok (.ireturn, 1) := by decide +kernel
theorem d_N_deliver_0 : decode b_N_deliver 0 = .ok (.aload_n 0, 1) := by decide +kernel
theorem d_N_deliver_1 : decode b_N_deliver 1 = .ok (.getfield 26, 3) := by decide +kernel
theorem d_N_deliver_4 : decode b_N_deliver 4 = .ok (.iload_n 1, 1) := by decide +kernel
theorem d_N_deliver_5 : decode b_N_deliver 5 = .ok (.invokevirtual 119, 3) := by decide +kernel
theorem d_N_deliver_8 : decode b_N_deliver 8 = .ok (.ifCond .ne 13, 3) := by decide +kernel
theorem d_N_deliver_11 : decode b_N_deliver 11 = .ok (.new 58, 3) := by decide +kernel
theorem d_N_deliver_14 : decode b_N_deliver 14 = .ok (.dup, 1) := by decide +kernel
theorem d_N_deliver_15 : decode b_N_deliver 15 = .ok (.ldc 120, 2) := by decide +kernel
theorem d_N_deliver_17 : decode b_N_deliver 17 = .ok (.invokespecial 62, 3) := by decide +kernel
theorem d_N_deliver_20 : decode b_N_deliver 20 = .ok (.athrow, 1) := by decide +kernel
theorem d_N_deliver_21 : decode b_N_deliver 21 = .ok (.aload_n 0, 1) := by decide +kernel
theorem d_N_deliver_22 : decode b_N_deliver 22 = .ok (.iload_n 1, 1) := by decide +kernel
theorem d_N_deliver_23 : decode b_N_deliver 23 = .ok (.invokevirtual 122, 3) := by decide +kernel
theorem d_N_deliver_26 : decode b_N_deliver 26 = .ok (.ifCond .eq 7, 3) := by decide +kernel
theorem d_N_deliver_29 : decode b_N_deliver 29 = .ok (.iconst 1, 1) := by decide +kernel
theorem d_N_deliver_30 : decode b_N_deliver 30 = .ok (.goto 4, 3) := by decide +kernel
theorem d_N_deliver_33 : decode b_N_deliver 33 = .ok (.iconst 0, 1) := by decide +kernel
theorem d_N_deliver_34 : decode b_N_deliver 34 = .ok (.ireturn, 1) := by decide +kernel
theorem d_N_lose_0 : decode b_N_lose 0 = .ok (.aload_n 0, 1) := by decide +kernel
theorem d_N_lose_1 : decode b_N_lose 1 = .ok (.getfield 26, 3) := by decide +kernel
theorem d_N_lose_4 : decode b_N_lose 4 = .ok (.iload_n 1, 1) := by decide +kernel
theorem d_N_lose_5 : decode b_N_lose 5 = .ok (.invokevirtual 119, 3) := by decide +kernel
theorem d_N_lose_8 : decode b_N_lose 8 = .ok (.ifCond .ne 13, 3) := by decide +kernel
theorem d_N_lose_11 : decode b_N_lose 11 = .ok (.new 58, 3) := by decide +kernel
theorem d_N_lose_14 : decode b_N_lose 14 = .ok (.dup, 1) := by decide +kernel
theorem d_N_lose_15 : decode b_N_lose 15 = .ok (.ldc 120, 2) := by decide +kernel
theorem d_N_lose_17 : decode b_N_lose 17 = .ok (.invokespecial 62, 3) := by decide +kernel
theorem d_N_lose_20 : decode b_N_lose 20 = .ok (.athrow, 1) := by decide +kernel
theorem d_N_lose_21 : decode b_N_lose 21 = .ok (.aload_n 0, 1) := by decide +kernel
theorem d_N_lose_22 : decode b_N_lose 22 = .ok (.getfield 26, 3) := by decide +kernel
theorem d_N_lose_25 : decode b_N_lose 25 = .ok (.iload_n 1, 1) := by decide +kernel
theorem d_N_lose_26 : decode b_N_lose 26 = .ok (.invokevirtual 125, 3) := by decide +kernel
theorem d_N_lose_29 : decode b_N_lose 29 = .ok (.return_, 1) := by decide +kernel
theorem d_N_twin_0 : decode b_N_twin 0 = .ok (.aload_n 0, 1) := by decide +kernel
theorem d_N_twin_1 : decode b_N_twin 1 = .ok (.getfield 26, 3) := by decide +kernel
theorem d_N_twin_4 : decode b_N_twin 4 = .ok (.iload_n 1, 1) := by decide +kernel
theorem d_N_twin_5 : decode b_N_twin 5 = .ok (.invokevirtual 119, 3) := by decide +kernel
theorem d_N_twin_8 : decode b_N_twin 8 = .ok (.ifCond .ne 13, 3) := by decide +kernel
theorem d_N_twin_11 : decode b_N_twin 11 = .ok (.new 58, 3) := by decide +kernel
theorem d_N_twin_14 : decode b_N_twin 14 = .ok (.dup, 1) := by decide +kernel
theorem d_N_twin_15 : decode b_N_twin 15 = .ok (.ldc 120, 2) := by decide +kernel
theorem d_N_twin_17 : decode b_N_twin 17 = .ok (.invokespecial 62, 3) := by decide +kernel
theorem d_N_twin_20 : decode b_N_twin 20 = .ok (.athrow, 1) := by decide +kernel
theorem d_N_twin_21 : decode b_N_twin 21 = .ok (.aload_n 0, 1) := by decide +kernel
theorem d_N_twin_22 : decode b_N_twin 22 = .ok (.getfield 26, 3) := by decide +kernel
theorem d_N_twin_25 : decode b_N_twin 25 = .ok (.invokevirtual 129, 3) := by decide +kernel
theorem d_N_twin_28 : decode b_N_twin 28 = .ok (.ifCond .ne 13, 3) := by decide +kernel
theorem d_N_twin_31 : decode b_N_twin 31 = .ok (.new 96, 3) := by decide +kernel
theorem d_N_twin_34 : decode b_N_twin 34 = .ok (.dup, 1) := by decide +kernel
theorem d_N_twin_35 : decode b_N_twin 35 = .ok (.ldc 133, 2) := by decide +kernel
theorem d_N_twin_37 : decode b_N_twin 37 = .ok (.invokespecial 100, 3) := by decide +kernel
theorem d_N_twin_40 : decode b_N_twin 40 = .ok (.athrow, 1) := by decide +kernel
theorem d_N_twin_41 : decode b_N_twin 41 = .ok (.aload_n 0, 1) := by decide +kernel
theorem d_N_twin_42 : decode b_N_twin 42 = .ok (.getfield 26, 3) := by decide +kernel
theorem d_N_twin_45 : decode b_N_twin 45 = .ok (.aload_n 0, 1) := by decide +kernel
theorem d_N_twin_46 : decode b_N_twin 46 = .ok (.getfield 26, 3) := by decide +kernel
theorem d_N_twin_49 : decode b_N_twin 49 = .ok (.getfield 135, 3) := by decide +kernel
theorem d_N_twin_52 : decode b_N_twin 52 = .ok (.iload_n 1, 1) := by decide +kernel
theorem d_N_twin_53 : decode b_N_twin 53 = .ok (.iaload, 1) := by decide +kernel
theorem d_N_twin_54 : decode b_N_twin 54 = .ok (.aload_n 0, 1) := by decide +kernel
theorem d_N_twin_55 : decode b_N_twin 55 = .ok (.getfield 26, 3) := by decide +kernel
theorem d_N_twin_58 : decode b_N_twin 58 = .ok (.getfield 138, 3) := by decide +kernel
theorem d_N_twin_61 : decode b_N_twin 61 = .ok (.iload_n 1, 1) := by decide +kernel
theorem d_N_twin_62 : decode b_N_twin 62 = .ok (.iaload, 1) := by decide +kernel
theorem d_N_twin_63 : decode b_N_twin 63 = .ok (.aload_n 0, 1) := by decide +kernel
theorem d_N_twin_64 : decode b_N_twin 64 = .ok (.getfield 26, 3) := by decide +kernel
theorem d_N_twin_67 : decode b_N_twin 67 = .ok (.getfield 141, 3) := by decide +kernel
theorem d_N_twin_70 : decode b_N_twin 70 = .ok (.iload_n 1, 1) := by decide +kernel
theorem d_N_twin_71 : decode b_N_twin 71 = .ok (.iaload, 1) := by decide +kernel
theorem d_N_twin_72 : decode b_N_twin 72 = .ok (.invokevirtual 144, 3) := by decide +kernel
theorem d_N_twin_75 : decode b_N_twin 75 = .ok (.return_, 1) := by decide +kernel
theorem d_N_letter_0 : decode b_N_letter 0 = .ok (.iload_n 1, 1) := by decide +kernel
theorem d_N_letter_1 : decode b_N_letter 1 = .ok (.iconst (-1), 1) := by decide +kernel
theorem d_N_letter_2 : decode b_N_letter 2 = .ok (.if_icmp .ne 11, 3) := by decide +kernel
theorem d_N_letter_5 : decode b_N_letter 5 = .ok (.aload_n 0, 1) := by decide +kernel
theorem d_N_letter_6 : decode b_N_letter 6 = .ok (.getfield 26, 3) := by decide +kernel
theorem d_N_letter_9 : decode b_N_letter 9 = .ok (.getfield 148, 3) := by decide +kernel
theorem d_N_letter_12 : decode b_N_letter 12 = .ok (.ireturn, 1) := by decide +kernel
theorem d_N_letter_13 : decode b_N_letter 13 = .ok (.aload_n 0, 1) := by decide +kernel
theorem d_N_letter_14 : decode b_N_letter 14 = .ok (.getfield 26, 3) := by decide +kernel
theorem d_N_letter_17 : decode b_N_letter 17 = .ok (.iload_n 1, 1) := by decide +kernel
theorem d_N_letter_18 : decode b_N_letter 18 = .ok (.invokevirtual 119, 3) := by decide +kernel
theorem d_N_letter_21 : decode b_N_letter 21 = .ok (.ifCond .ne 13, 3) := by decide +kernel
theorem d_N_letter_24 : decode b_N_letter 24 = .ok (.new 58, 3) := by decide +kernel
theorem d_N_letter_27 : decode b_N_letter 27 = .ok (.dup, 1) := by decide +kernel
theorem d_N_letter_28 : decode b_N_letter 28 = .ok (.ldc 120, 2) := by decide +kernel
theorem d_N_letter_30 : decode b_N_letter 30 = .ok (.invokespecial 62, 3) := by decide +kernel
theorem d_N_letter_33 : decode b_N_letter 33 = .ok (.athrow, 1) := by decide +kernel
theorem d_N_letter_34 : decode b_N_letter 34 = .ok (.iload_n 2, 1) := by decide +kernel
theorem d_N_letter_35 : decode b_N_letter 35 = .ok (.lookupswitch 45 #[(0, 25), (1, 35)], 25) := by decide +kernel
theorem d_N_letter_60 : decode b_N_letter 60 = .ok (.aload_n 0, 1) := by decide +kernel
theorem d_N_letter_61 : decode b_N_letter 61 = .ok (.getfield 26, 3) := by decide +kernel
theorem d_N_letter_64 : decode b_N_letter 64 = .ok (.getfield 135, 3) := by decide +kernel
theorem d_N_letter_67 : decode b_N_letter 67 = .ok (.iload_n 1, 1) := by decide +kernel
theorem d_N_letter_68 : decode b_N_letter 68 = .ok (.iaload, 1) := by decide +kernel
theorem d_N_letter_69 : decode b_N_letter 69 = .ok (.ireturn, 1) := by decide +kernel
theorem d_N_letter_70 : decode b_N_letter 70 = .ok (.aload_n 0, 1) := by decide +kernel
theorem d_N_letter_71 : decode b_N_letter 71 = .ok (.getfield 26, 3) := by decide +kernel
theorem d_N_letter_74 : decode b_N_letter 74 = .ok (.getfield 141, 3) := by decide +kernel
theorem d_N_letter_77 : decode b_N_letter 77 = .ok (.iload_n 1, 1) := by decide +kernel
theorem d_N_letter_78 : decode b_N_letter 78 = .ok (.iaload, 1) := by decide +kernel
theorem d_N_letter_79 : decode b_N_letter 79 = .ok (.ireturn, 1) := by decide +kernel
theorem d_N_letter_80 : decode b_N_letter 80 = .ok (.new 45, 3) := by decide +kernel
theorem d_N_letter_83 : decode b_N_letter 83 = .ok (.dup, 1) := by decide +kernel
theorem d_N_letter_84 : decode b_N_letter 84 = .ok (.ldc 76, 2) := by decide +kernel
theorem d_N_letter_86 : decode b_N_letter 86 = .ok (.invokespecial 49, 3) := by decide +kernel
theorem d_N_letter_89 : decode b_N_letter 89 = .ok (.athrow, 1) := by decide +kernel
theorem d_N_resend_0 : decode b_N_resend 0 = .ok (.aload_n 0, 1) := by decide +kernel
theorem d_N_resend_1 : decode b_N_resend 1 = .ok (.getfield 26, 3) := by decide +kernel
theorem d_N_resend_4 : decode b_N_resend 4 = .ok (.getfield 148, 3) := by decide +kernel
theorem d_N_resend_7 : decode b_N_resend 7 = .ok (.istore_n 1, 1) := by decide +kernel
theorem d_N_resend_8 : decode b_N_resend 8 = .ok (.iconst 0, 1) := by decide +kernel
theorem d_N_resend_9 : decode b_N_resend 9 = .ok (.istore_n 2, 1) := by decide +kernel
theorem d_N_resend_10 : decode b_N_resend 10 = .ok (.iload_n 2, 1) := by decide +kernel
theorem d_N_resend_11 : decode b_N_resend 11 = .ok (.aload_n 0, 1) := by decide +kernel
theorem d_N_resend_12 : decode b_N_resend 12 = .ok (.getfield 19, 3) := by decide +kernel
theorem d_N_resend_15 : decode b_N_resend 15 = .ok (.getfield 90, 3) := by decide +kernel
theorem d_N_resend_18 : decode b_N_resend 18 = .ok (.if_icmp .ge 74, 3) := by decide +kernel
theorem d_N_resend_21 : decode b_N_resend 21 = .ok (.aload_n 0, 1) := by decide +kernel
theorem d_N_resend_22 : decode b_N_resend 22 = .ok (.getfield 26, 3) := by decide +kernel
theorem d_N_resend_25 : decode b_N_resend 25 = .ok (.invokevirtual 129, 3) := by decide +kernel
theorem d_N_resend_28 : decode b_N_resend 28 = .ok (.ifCond .eq 64, 3) := by decide +kernel
theorem d_N_resend_31 : decode b_N_resend 31 = .ok (.aload_n 0, 1) := by decide +kernel
theorem d_N_resend_32 : decode b_N_resend 32 = .ok (.getfield 19, 3) := by decide +kernel
theorem d_N_resend_35 : decode b_N_resend 35 = .ok (.getfield 151, 3) := by decide +kernel
theorem d_N_resend_38 : decode b_N_resend 38 = .ok (.iload_n 2, 1) := by decide +kernel
theorem d_N_resend_39 : decode b_N_resend 39 = .ok (.iaload, 1) := by decide +kernel
theorem d_N_resend_40 : decode b_N_resend 40 = .ok (.iconst 1, 1) := by decide +kernel
theorem d_N_resend_41 : decode b_N_resend 41 = .ok (.if_icmp .ne 45, 3) := by decide +kernel
theorem d_N_resend_44 : decode b_N_resend 44 = .ok (.aload_n 0, 1) := by decide +kernel
theorem d_N_resend_45 : decode b_N_resend 45 = .ok (.getfield 26, 3) := by decide +kernel
theorem d_N_resend_48 : decode b_N_resend 48 = .ok (.iload_n 2, 1) := by decide +kernel
theorem d_N_resend_49 : decode b_N_resend 49 = .ok (.aload_n 0, 1) := by decide +kernel
theorem d_N_resend_50 : decode b_N_resend 50 = .ok (.getfield 19, 3) := by decide +kernel
theorem d_N_resend_53 : decode b_N_resend 53 = .ok (.getfield 154, 3) := by decide +kernel
theorem d_N_resend_56 : decode b_N_resend 56 = .ok (.iload_n 2, 1) := by decide +kernel
theorem d_N_resend_57 : decode b_N_resend 57 = .ok (.iaload, 1) := by decide +kernel
theorem d_N_resend_58 : decode b_N_resend 58 = .ok (.invokevirtual 155, 3) := by decide +kernel
theorem d_N_resend_61 : decode b_N_resend 61 = .ok (.ifCond .ne 25, 3) := by decide +kernel
theorem d_N_resend_64 : decode b_N_resend 64 = .ok (.aload_n 0, 1) := by decide +kernel
theorem d_N_resend_65 : decode b_N_resend 65 = .ok (.getfield 26, 3) := by decide +kernel
theorem d_N_resend_68 : decode b_N_resend 68 = .ok (.iload_n 2, 1) := by decide +kernel
theorem d_N_resend_69 : decode b_N_resend 69 = .ok (.aload_n 0, 1) := by decide +kernel
theorem d_N_resend_70 : decode b_N_resend 70 = .ok (.getfield 19, 3) := by decide +kernel
theorem d_N_resend_73 : decode b_N_resend 73 = .ok (.getfield 154, 3) := by decide +kernel
theorem d_N_resend_76 : decode b_N_resend 76 = .ok (.iload_n 2, 1) := by decide +kernel
theorem d_N_resend_77 : decode b_N_resend 77 = .ok (.iaload, 1) := by decide +kernel
theorem d_N_resend_78 : decode b_N_resend 78 = .ok (.aload_n 0, 1) := by decide +kernel
theorem d_N_resend_79 : decode b_N_resend 79 = .ok (.iload_n 2, 1) := by decide +kernel
theorem d_N_resend_80 : decode b_N_resend 80 = .ok (.invokevirtual 159, 3) := by decide +kernel
theorem d_N_resend_83 : decode b_N_resend 83 = .ok (.invokevirtual 144, 3) := by decide +kernel
theorem d_N_resend_86 : decode b_N_resend 86 = .ok (.iinc 2 1, 3) := by decide +kernel
theorem d_N_resend_89 : decode b_N_resend 89 = .ok (.goto (-79), 3) := by decide +kernel
theorem d_N_resend_92 : decode b_N_resend 92 = .ok (.aload_n 0, 1) := by decide +kernel
theorem d_N_resend_93 : decode b_N_resend 93 = .ok (.getfield 26, 3) := by decide +kernel
theorem d_N_resend_96 : decode b_N_resend 96 = .ok (.getfield 148, 3) := by decide +kernel
theorem d_N_resend_99 : decode b_N_resend 99 = .ok (.iload_n 1, 1) := by decide +kernel
theorem d_N_resend_100 : decode b_N_resend 100 = .ok (.isub, 1) := by decide +kernel
theorem d_N_resend_101 : decode b_N_resend 101 = .ok (.ireturn, 1) := by decide +kernel
theorem d_N_station_0 : decode b_N_station 0 = .ok (.iload_n 1, 1) := by decide +kernel
theorem d_N_station_1 : decode b_N_station 1 = .ok (.ifCond .lt 11, 3) := by decide +kernel
theorem d_N_station_4 : decode b_N_station 4 = .ok (.iload_n 1, 1) := by decide +kernel
theorem d_N_station_5 : decode b_N_station 5 = .ok (.aload_n 0, 1) := by decide +kernel
theorem d_N_station_6 : decode b_N_station 6 = .ok (.getfield 162, 3) := by decide +kernel
theorem d_N_station_9 : decode b_N_station 9 = .ok (.if_icmp .lt 13, 3) := by decide +kernel
theorem d_N_station_12 : decode b_N_station 12 = .ok (.new 45, 3) := by decide +kernel
theorem d_N_station_15 : decode b_N_station 15 = .ok (.dup, 1) := by decide +kernel
theorem d_N_station_16 : decode b_N_station 16 = .ok (.ldc 164, 2) := by decide +kernel
theorem d_N_station_18 : decode b_N_station 18 = .ok (.invokespecial 49, 3) := by decide +kernel
theorem d_N_station_21 : decode b_N_station 21 = .ok (.athrow, 1) := by decide +kernel
theorem d_N_station_22 : decode b_N_station 22 = .ok (.aload_n 0, 1) := by decide +kernel
theorem d_N_station_23 : decode b_N_station 23 = .ok (.getfield 37, 3) := by decide +kernel
theorem d_N_station_26 : decode b_N_station 26 = .ok (.iload_n 1, 1) := by decide +kernel
theorem d_N_station_27 : decode b_N_station 27 = .ok (.iload_n 2, 1) := by decide +kernel
theorem d_N_station_28 : decode b_N_station 28 = .ok (.bastore, 1) := by decide +kernel
theorem d_N_station_29 : decode b_N_station 29 = .ok (.return_, 1) := by decide +kernel
theorem d_N_token_0 : decode b_N_token 0 = .ok (.aload_n 0, 1) := by decide +kernel
theorem d_N_token_1 : decode b_N_token 1 = .ok (.getfield 19, 3) := by decide +kernel
theorem d_N_token_4 : decode b_N_token 4 = .ok (.iload_n 1, 1) := by decide +kernel
theorem d_N_token_5 : decode b_N_token 5 = .ok (.invokevirtual 105, 3) := by decide +kernel
theorem d_N_token_8 : decode b_N_token 8 = .ok (.ifCond .ne 13, 3) := by decide +kernel
theorem d_N_token_11 : decode b_N_token 11 = .ok (.new 45, 3) := by decide +kernel
theorem d_N_token_14 : decode b_N_token 14 = .ok (.dup, 1) := by decide +kernel
theorem d_N_token_15 : decode b_N_token 15 = .ok (.ldc 109, 2) := by decide +kernel
theorem d_N_token_17 : decode b_N_token 17 = .ok (.invokespecial 49, 3) := by decide +kernel
theorem d_N_token_20 : decode b_N_token 20 = .ok (.athrow, 1) := by decide +kernel
theorem d_N_token_21 : decode b_N_token 21 = .ok (.iload_n 2, 1) := by decide +kernel
theorem d_N_token_22 : decode b_N_token 22 = .ok (.tableswitch 80 0 4 #[34, 44, 54, 64, 74], 34) := by decide +kernel
theorem d_N_token_56 : decode b_N_token 56 = .ok (.aload_n 0, 1) := by decide +kernel
theorem d_N_token_57 : decode b_N_token 57 = .ok (.getfield 19, 3) := by decide +kernel
theorem d_N_token_60 : decode b_N_token 60 = .ok (.getfield 166, 3) := by decide +kernel
theorem d_N_token_63 : decode b_N_token 63 = .ok (.iload_n 1, 1) := by decide +kernel
theorem d_N_token_64 : decode b_N_token 64 = .ok (.iaload, 1) := by decide +kernel
theorem d_N_token_65 : decode b_N_token 65 = .ok (.ireturn, 1) := by decide +kernel
theorem d_N_token_66 : decode b_N_token 66 = .ok (.aload_n 0, 1) := by decide +kernel
theorem d_N_token_67 : decode b_N_token 67 = .ok (.getfield 19, 3) := by decide +kernel
theorem d_N_token_70 : decode b_N_token 70 = .ok (.getfield 168, 3) := by decide +kernel
theorem d_N_token_73 : decode b_N_token 73 = .ok (.iload_n 1, 1) := by decide +kernel
theorem d_N_token_74 : decode b_N_token 74 = .ok (.iaload, 1) := by decide +kernel
theorem d_N_token_75 : decode b_N_token 75 = .ok (.ireturn, 1) := by decide +kernel
theorem d_N_token_76 : decode b_N_token 76 = .ok (.aload_n 0, 1) := by decide +kernel
theorem d_N_token_77 : decode b_N_token 77 = .ok (.getfield 19, 3) := by decide +kernel
theorem d_N_token_80 : decode b_N_token 80 = .ok (.getfield 151, 3) := by decide +kernel
theorem d_N_token_83 : decode b_N_token 83 = .ok (.iload_n 1, 1) := by decide +kernel
theorem d_N_token_84 : decode b_N_token 84 = .ok (.iaload, 1) := by decide +kernel
theorem d_N_token_85 : decode b_N_token 85 = .ok (.ireturn, 1) := by decide +kernel
theorem d_N_token_86 : decode b_N_token 86 = .ok (.aload_n 0, 1) := by decide +kernel
theorem d_N_token_87 : decode b_N_token 87 = .ok (.getfield 19, 3) := by decide +kernel
theorem d_N_token_90 : decode b_N_token 90 = .ok (.getfield 171, 3) := by decide +kernel
theorem d_N_token_93 : decode b_N_token 93 = .ok (.iload_n 1, 1) := by decide +kernel
theorem d_N_token_94 : decode b_N_token 94 = .ok (.iaload, 1) := by decide +kernel
theorem d_N_token_95 : decode b_N_token 95 = .ok (.ireturn, 1) := by decide +kernel
theorem d_N_token_96 : decode b_N_token 96 = .ok (.aload_n 0, 1) := by decide +kernel
theorem d_N_token_97 : decode b_N_token 97 = .ok (.iload_n 1, 1) := by decide +kernel
theorem d_N_token_98 : decode b_N_token 98 = .ok (.invokevirtual 174, 3) := by decide +kernel
theorem d_N_token_101 : decode b_N_token 101 = .ok (.ireturn, 1) := by decide +kernel
theorem d_N_token_102 : decode b_N_token 102 = .ok (.new 45, 3) := by decide +kernel
theorem d_N_token_105 : decode b_N_token 105 = .ok (.dup, 1) := by decide +kernel
theorem d_N_token_106 : decode b_N_token 106 = .ok (.ldc 76, 2) := by decide +kernel
theorem d_N_token_108 : decode b_N_token 108 = .ok (.invokespecial 49, 3) := by decide +kernel
theorem d_N_token_111 : decode b_N_token 111 = .ok (.athrow, 1) := by decide +kernel
theorem d_N_about_0 : decode b_N_about 0 = .ok (.iload_n 1, 1) := by decide +kernel
theorem d_N_about_1 : decode b_N_about 1 = .ok (.tableswitch 81 0 5 #[39, 47, 55, 63, 68, 73], 39) := by decide +kernel
theorem d_N_about_40 : decode b_N_about 40 = .ok (.aload_n 0, 1) := by decide +kernel
theorem d_N_about_41 : decode b_N_about 41 = .ok (.getfield 10, 3) := by decide +kernel
theorem d_N_about_44 : decode b_N_about 44 = .ok (.getfield 78, 3) := by decide +kernel
theorem d_N_about_47 : decode b_N_about 47 = .ok (.ireturn, 1) := by decide +kernel
theorem d_N_about_48 : decode b_N_about 48 = .ok (.aload_n 0, 1) := by decide +kernel
theorem d_N_about_49 : decode b_N_about 49 = .ok (.getfield 19, 3) := by decide +kernel
theorem d_N_about_52 : decode b_N_about 52 = .ok (.getfield 90, 3) := by decide +kernel
theorem d_N_about_55 : decode b_N_about 55 = .ok (.ireturn, 1) := by decide +kernel
theorem d_N_about_56 : decode b_N_about 56 = .ok (.aload_n 0, 1) := by decide +kernel
theorem d_N_about_57 : decode b_N_about 57 = .ok (.getfield 19, 3) := by decide +kernel
theorem d_N_about_60 : decode b_N_about 60 = .ok (.getfield 93, 3) := by decide +kernel
theorem d_N_about_63 : decode b_N_about 63 = .ok (.ireturn, 1) := by decide +kernel
theorem d_N_about_64 : decode b_N_about 64 = .ok (.aload_n 0, 1) := by decide +kernel
theorem d_N_about_65 : decode b_N_about 65 = .ok (.invokevirtual 177, 3) := by decide +kernel
theorem d_N_about_68 : decode b_N_about 68 = .ok (.ireturn, 1) := by decide +kernel
theorem d_N_about_69 : decode b_N_about 69 = .ok (.aload_n 0, 1) := by decide +kernel
theorem d_N_about_70 : decode b_N_about 70 = .ok (.invokevirtual 181, 3) := by decide +kernel
theorem d_N_about_73 : decode b_N_about 73 = .ok (.ireturn, 1) := by decide +kernel
theorem d_N_about_74 : decode b_N_about 74 = .ok (.aload_n 0, 1) := by decide +kernel
theorem d_N_about_75 : decode b_N_about 75 = .ok (.getfield 10, 3) := by decide +kernel
theorem d_N_about_78 : decode b_N_about 78 = .ok (.getfield 184, 3) := by decide +kernel
theorem d_N_about_81 : decode b_N_about 81 = .ok (.ireturn, 1) := by decide +kernel
theorem d_N_about_82 : decode b_N_about 82 = .ok (.new 45, 3) := by decide +kernel
theorem d_N_about_85 : decode b_N_about 85 = .ok (.dup, 1) := by decide +kernel
theorem d_N_about_86 : decode b_N_about 86 = .ok (.ldc 76, 2) := by decide +kernel
theorem d_N_about_88 : decode b_N_about 88 = .ok (.invokespecial 49, 3) := by decide +kernel
theorem d_N_about_91 : decode b_N_about 91 = .ok (.athrow, 1) := by decide +kernel
theorem d_N_settle_0 : decode b_N_settle 0 = .ok (.iload_n 1, 1) := by decide +kernel
theorem d_N_settle_1 : decode b_N_settle 1 = .ok (.ifCond .lt 9, 3) := by decide +kernel
theorem d_N_settle_4 : decode b_N_settle 4 = .ok (.iload_n 1, 1) := by decide +kernel
theorem d_N_settle_5 : decode b_N_settle 5 = .ok (.bipush 100, 2) := by decide +kernel
theorem d_N_settle_7 : decode b_N_settle 7 = .ok (.if_icmp .le 13, 3) := by decide +kernel
theorem d_N_settle_10 : decode b_N_settle 10 = .ok (.new 45, 3) := by decide +kernel
theorem d_N_settle_13 : decode b_N_settle 13 = .ok (.dup, 1) := by decide +kernel
theorem d_N_settle_14 : decode b_N_settle 14 = .ok (.ldc 187, 2) := by decide +kernel
theorem d_N_settle_16 : decode b_N_settle 16 = .ok (.invokespecial 49, 3) := by decide +kernel
theorem d_N_settle_19 : decode b_N_settle 19 = .ok (.athrow, 1) := by decide +kernel
theorem d_N_settle_20 : decode b_N_settle 20 = .ok (.iconst 0, 1) := by decide +kernel
theorem d_N_settle_21 : decode b_N_settle 21 = .ok (.istore_n 2, 1) := by decide +kernel
theorem d_N_settle_22 : decode b_N_settle 22 = .ok (.iload_n 2, 1) := by decide +kernel
theorem d_N_settle_23 : decode b_N_settle 23 = .ok (.iload_n 1, 1) := by decide +kernel
theorem d_N_settle_24 : decode b_N_settle 24 = .ok (.if_icmp .ge 27, 3) := by decide +kernel
theorem d_N_settle_27 : decode b_N_settle 27 = .ok (.aload_n 0, 1) := by decide +kernel
theorem d_N_settle_28 : decode b_N_settle 28 = .ok (.getfield 19, 3) := by decide +kernel
theorem d_N_settle_31 : decode b_N_settle 31 = .ok (.getfield 93, 3) := by decide +kernel
theorem d_N_settle_34 : decode b_N_settle 34 = .ok (.ifCond .le 17, 3) := by decide +kernel
theorem d_N_settle_37 : decode b_N_settle 37 = .ok (.aload_n 0, 1) := by decide +kernel
theorem d_N_settle_38 : decode b_N_settle 38 = .ok (.invokevirtual 189, 3) := by decide +kernel
theorem d_N_settle_41 : decode b_N_settle 41 = .ok (.aload_n 0, 1) := by decide +kernel
theorem d_N_settle_42 : decode b_N_settle 42 = .ok (.invokevirtual 192, 3) := by decide +kernel
theorem d_N_settle_45 : decode b_N_settle 45 = .ok (.iinc 2 1, 3) := by decide +kernel
theorem d_N_settle_48 : decode b_N_settle 48 = .ok (.goto (-26), 3) := by decide +kernel
theorem d_N_settle_51 : decode b_N_settle 51 = .ok (.iload_n 2, 1) := by decide +kernel
theorem d_N_settle_52 : decode b_N_settle 52 = .ok (.ireturn, 1) := by decide +kernel
theorem d_N_startAnew_0 : decode b_N_startAnew 0 = .ok (.aload_n 0, 1) := by decide +kernel
theorem d_N_startAnew_1 : decode b_N_startAnew 1 = .ok (.getfield 10, 3) := by decide +kernel
theorem d_N_startAnew_4 : decode b_N_startAnew 4 = .ok (.iload_n 1, 1) := by decide +kernel
theorem d_N_startAnew_5 : decode b_N_startAnew 5 = .ok (.invokevirtual 195, 3) := by decide +kernel
theorem d_N_startAnew_8 : decode b_N_startAnew 8 = .ok (.aload_n 0, 1) := by decide +kernel
theorem d_N_startAnew_9 : decode b_N_startAnew 9 = .ok (.getfield 19, 3) := by decide +kernel
theorem d_N_startAnew_12 : decode b_N_startAnew 12 = .ok (.invokevirtual 198, 3) := by decide +kernel
theorem d_N_startAnew_15 : decode b_N_startAnew 15 = .ok (.aload_n 0, 1) := by decide +kernel
theorem d_N_startAnew_16 : decode b_N_startAnew 16 = .ok (.getfield 26, 3) := by decide +kernel
theorem d_N_startAnew_19 : decode b_N_startAnew 19 = .ok (.invokevirtual 201, 3) := by decide +kernel
theorem d_N_startAnew_22 : decode b_N_startAnew 22 = .ok (.aload_n 0, 1) := by decide +kernel
theorem d_N_startAnew_23 : decode b_N_startAnew 23 = .ok (.iload_n 2, 1) := by decide +kernel
theorem d_N_startAnew_24 : decode b_N_startAnew 24 = .ok (.putfield 162, 3) := by decide +kernel
theorem d_N_startAnew_27 : decode b_N_startAnew 27 = .ok (.iconst 0, 1) := by decide +kernel
theorem d_N_startAnew_28 : decode b_N_startAnew 28 = .ok (.istore_n 3, 1) := by decide +kernel
theorem d_N_startAnew_29 : decode b_N_startAnew 29 = .ok (.iload_n 3, 1) := by decide +kernel
theorem d_N_startAnew_30 : decode b_N_startAnew 30 = .ok (.bipush 24, 2) := by decide +kernel
theorem d_N_startAnew_32 : decode b_N_startAnew 32 = .ok (.if_icmp .ge 16, 3) := by decide +kernel
theorem d_N_startAnew_35 : decode b_N_startAnew 35 = .ok (.aload_n 0, 1) := by decide +kernel
theorem d_N_startAnew_36 : decode b_N_startAnew 36 = .ok (.getfield 30, 3) := by decide +kernel
theorem d_N_startAnew_39 : decode b_N_startAnew 39 = .ok (.iload_n 3, 1) := by decide +kernel
theorem d_N_startAnew_40 : decode b_N_startAnew 40 = .ok (.iconst 0, 1) := by decide +kernel
theorem d_N_startAnew_41 : decode b_N_startAnew 41 = .ok (.iastore, 1) := by decide +kernel
theorem d_N_startAnew_42 : decode b_N_startAnew 42 = .ok (.iinc 3 1, 3) := by decide +kernel
theorem d_N_startAnew_45 : decode b_N_startAnew 45 = .ok (.goto (-16), 3) := by decide +kernel
theorem d_N_startAnew_48 : decode b_N_startAnew 48 = .ok (.iconst 0, 1) := by decide +kernel
theorem d_N_startAnew_49 : decode b_N_startAnew 49 = .ok (.istore_n 3, 1) := by decide +kernel
theorem d_N_startAnew_50 : decode b_N_startAnew 50 = .ok (.iload_n 3, 1) := by decide +kernel
theorem d_N_startAnew_51 : decode b_N_startAnew 51 = .ok (.bipush 8, 2) := by decide +kernel
theorem d_N_startAnew_53 : decode b_N_startAnew 53 = .ok (.if_icmp .ge 16, 3) := by decide +kernel
theorem d_N_startAnew_56 : decode b_N_startAnew 56 = .ok (.aload_n 0, 1) := by decide +kernel
theorem d_N_startAnew_57 : decode b_N_startAnew 57 = .ok (.getfield 34, 3) := by decide +kernel
theorem d_N_startAnew_60 : decode b_N_startAnew 60 = .ok (.iload_n 3, 1) := by decide +kernel
theorem d_N_startAnew_61 : decode b_N_startAnew 61 = .ok (.iconst 0, 1) := by decide +kernel
theorem d_N_startAnew_62 : decode b_N_startAnew 62 = .ok (.iastore, 1) := by decide +kernel
theorem d_N_startAnew_63 : decode b_N_startAnew 63 = .ok (.iinc 3 1, 3) := by decide +kernel
theorem d_N_startAnew_66 : decode b_N_startAnew 66 = .ok (.goto (-16), 3) := by decide +kernel
theorem d_N_startAnew_69 : decode b_N_startAnew 69 = .ok (.iconst 0, 1) := by decide +kernel
theorem d_N_startAnew_70 : decode b_N_startAnew 70 = .ok (.istore_n 3, 1) := by decide +kernel
theorem d_N_startAnew_71 : decode b_N_startAnew 71 = .ok (.iload_n 3, 1) := by decide +kernel
theorem d_N_startAnew_72 : decode b_N_startAnew 72 = .ok (.bipush 6, 2) := by decide +kernel
theorem d_N_startAnew_74 : decode b_N_startAnew 74 = .ok (.if_icmp .ge 16, 3) := by decide +kernel
theorem d_N_startAnew_77 : decode b_N_startAnew 77 = .ok (.aload_n 0, 1) := by decide +kernel
theorem d_N_startAnew_78 : decode b_N_startAnew 78 = .ok (.getfield 37, 3) := by decide +kernel
theorem d_N_startAnew_81 : decode b_N_startAnew 81 = .ok (.iload_n 3, 1) := by decide +kernel
theorem d_N_startAnew_82 : decode b_N_startAnew 82 = .ok (.iconst 0, 1) := by decide +kernel
theorem d_N_startAnew_83 : decode b_N_startAnew 83 = .ok (.bastore, 1) := by decide +kernel
theorem d_N_startAnew_84 : decode b_N_startAnew 84 = .ok (.iinc 3 1, 3) := by decide +kernel
theorem d_N_startAnew_87 : decode b_N_startAnew 87 = .ok (.goto (-16), 3) := by decide +kernel
theorem d_N_startAnew_90 : decode b_N_startAnew 90 = .ok (.return_, 1) := by decide +kernel
theorem d_N_stationOfBalancer_0 : decode b_N_stationOfBalancer 0 = .ok (.aload_n 0, 1) := by decide +kernel
theorem d_N_stationOfBalancer_1 : decode b_N_stationOfBalancer 1 = .ok (.getfield 10, 3) := by decide +kernel
theorem d_N_stationOfBalancer_4 : decode b_N_stationOfBalancer 4 = .ok (.getfield 69, 3) := by decide +kernel
theorem d_N_stationOfBalancer_7 : decode b_N_stationOfBalancer 7 = .ok (.iload_n 1, 1) := by decide +kernel
theorem d_N_stationOfBalancer_8 : decode b_N_stationOfBalancer 8 = .ok (.iaload, 1) := by decide +kernel
theorem d_N_stationOfBalancer_9 : decode b_N_stationOfBalancer 9 = .ok (.aload_n 0, 1) := by decide +kernel
theorem d_N_stationOfBalancer_10 : decode b_N_stationOfBalancer 10 = .ok (.getfield 162, 3) := by decide +kernel
theorem d_N_stationOfBalancer_13 : decode b_N_stationOfBalancer 13 = .ok (.irem, 1) := by decide +kernel
theorem d_N_stationOfBalancer_14 : decode b_N_stationOfBalancer 14 = .ok (.ireturn, 1) := by decide +kernel
theorem d_N_stationOfExit_0 : decode b_N_stationOfExit 0 = .ok (.iload_n 1, 1) := by decide +kernel
theorem d_N_stationOfExit_1 : decode b_N_stationOfExit 1 = .ok (.aload_n 0, 1) := by decide +kernel
theorem d_N_stationOfExit_2 : decode b_N_stationOfExit 2 = .ok (.getfield 162, 3) := by decide +kernel
theorem d_N_stationOfExit_5 : decode b_N_stationOfExit 5 = .ok (.irem, 1) := by decide +kernel
theorem d_N_stationOfExit_6 : decode b_N_stationOfExit 6 = .ok (.ireturn, 1) := by decide +kernel
theorem d_N_nextBalancer_0 : decode b_N_nextBalancer 0 = .ok (.aload_n 0, 1) := by decide +kernel
theorem d_N_nextBalancer_1 : decode b_N_nextBalancer 1 = .ok (.getfield 10, 3) := by decide +kernel
theorem d_N_nextBalancer_4 : decode b_N_nextBalancer 4 = .ok (.aload_n 0, 1) := by decide +kernel
theorem d_N_nextBalancer_5 : decode b_N_nextBalancer 5 = .ok (.getfield 19, 3) := by decide +kernel
theorem d_N_nextBalancer_8 : decode b_N_nextBalancer 8 = .ok (.getfield 166, 3) := by decide +kernel
theorem d_N_nextBalancer_11 : decode b_N_nextBalancer 11 = .ok (.iload_n 1, 1) := by decide +kernel
theorem d_N_nextBalancer_12 : decode b_N_nextBalancer 12 = .ok (.iaload, 1) := by decide +kernel
theorem d_N_nextBalancer_13 : decode b_N_nextBalancer 13 = .ok (.aload_n 0, 1) := by decide +kernel
theorem d_N_nextBalancer_14 : decode b_N_nextBalancer 14 = .ok (.getfield 19, 3) := by decide +kernel
theorem d_N_nextBalancer_17 : decode b_N_nextBalancer 17 = .ok (.getfield 202, 3) := by decide +kernel
theorem d_N_nextBalancer_20 : decode b_N_nextBalancer 20 = .ok (.iload_n 1, 1) := by decide +kernel
theorem d_N_nextBalancer_21 : decode b_N_nextBalancer 21 = .ok (.iaload, 1) := by decide +kernel
theorem d_N_nextBalancer_22 : decode b_N_nextBalancer 22 = .ok (.invokevirtual 205, 3) := by decide +kernel
theorem d_N_nextBalancer_25 : decode b_N_nextBalancer 25 = .ok (.ireturn, 1) := by decide +kernel
theorem d_N_stationOfNext_0 : decode b_N_stationOfNext 0 = .ok (.aload_n 0, 1) := by decide +kernel
theorem d_N_stationOfNext_1 : decode b_N_stationOfNext 1 = .ok (.iload_n 1, 1) := by decide +kernel
theorem d_N_stationOfNext_2 : decode b_N_stationOfNext 2 = .ok (.invokevirtual 209, 3) := by decide +kernel
theorem d_N_stationOfNext_5 : decode b_N_stationOfNext 5 = .ok (.istore_n 2, 1) := by decide +kernel
theorem d_N_stationOfNext_6 : decode b_N_stationOfNext 6 = .ok (.iload_n 2, 1) := by decide +kernel
theorem d_N_stationOfNext_7 : decode b_N_stationOfNext 7 = .ok (.iconst (-1), 1) := by decide +kernel
theorem d_N_stationOfNext_8 : decode b_N_stationOfNext 8 = .ok (.if_icmp .ne 26, 3) := by decide +kernel
theorem d_N_stationOfNext_11 : decode b_N_stationOfNext 11 = .ok (.aload_n 0, 1) := by decide +kernel
theorem d_N_stationOfNext_12 : decode b_N_stationOfNext 12 = .ok (.aload_n 0, 1) := by decide +kernel
theorem d_N_stationOfNext_13 : decode b_N_stationOfNext 13 = .ok (.getfield 10, 3) := by decide +kernel
theorem d_N_stationOfNext_16 : decode b_N_stationOfNext 16 = .ok (.aload_n 0, 1) := by decide +kernel
theorem d_N_stationOfNext_17 : decode b_N_stationOfNext 17 = .ok (.getfield 19, 3) := by decide +kernel
theorem d_N_stationOfNext_20 : decode b_N_stationOfNext 20 = .ok (.getfield 166, 3) := by decide +kernel
theorem d_N_stationOfNext_23 : decode b_N_stationOfNext 23 = .ok (.iload_n 1, 1) := by decide +kernel
theorem d_N_stationOfNext_24 : decode b_N_stationOfNext 24 = .ok (.iaload, 1) := by decide +kernel
theorem d_N_stationOfNext_25 : decode b_N_stationOfNext 25 = .ok (.invokevirtual 212, 3) := by decide +kernel
theorem d_N_stationOfNext_28 : decode b_N_stationOfNext 28 = .ok (.invokevirtual 85, 3) := by decide +kernel
theorem d_N_stationOfNext_31 : decode b_N_stationOfNext 31 = .ok (.goto 8, 3) := by decide +kernel
theorem d_N_stationOfNext_34 : decode b_N_stationOfNext 34 = .ok (.aload_n 0, 1) := by decide +kernel
theorem d_N_stationOfNext_35 : decode b_N_stationOfNext 35 = .ok (.iload_n 2, 1) := by decide +kernel
theorem d_N_stationOfNext_36 : decode b_N_stationOfNext 36 = .ok (.invokevirtual 72, 3) := by decide +kernel
theorem d_N_stationOfNext_39 : decode b_N_stationOfNext 39 = .ok (.ireturn, 1) := by decide +kernel
theorem d_N_canStep_0 : decode b_N_canStep 0 = .ok (.aload_n 0, 1) := by decide +kernel
theorem d_N_canStep_1 : decode b_N_canStep 1 = .ok (.getfield 19, 3) := by decide +kernel
theorem d_N_canStep_4 : decode b_N_canStep 4 = .ok (.getfield 151, 3) := by decide +kernel
theorem d_N_canStep_7 : decode b_N_canStep 7 = .ok (.iload_n 1, 1) := by decide +kernel
theorem d_N_canStep_8 : decode b_N_canStep 8 = .ok (.iaload, 1) := by decide +kernel
theorem d_N_canStep_9 : decode b_N_canStep 9 = .ok (.iconst 2, 1) := by decide +kernel
theorem d_N_canStep_10 : decode b_N_canStep 10 = .ok (.if_icmp .eq 19, 3) := by decide +kernel
theorem d_N_canStep_13 : decode b_N_canStep 13 = .ok (.aload_n 0, 1) := by decide +kernel
theorem d_N_canStep_14 : decode b_N_canStep 14 = .ok (.aload_n 0, 1) := by decide +kernel
theorem d_N_canStep_15 : decode b_N_canStep 15 = .ok (.getfield 19, 3) := by decide +kernel
theorem d_N_canStep_18 : decode b_N_canStep 18 = .ok (.getfield 168, 3) := by decide +kernel
theorem d_N_canStep_21 : decode b_N_canStep 21 = .ok (.iload_n 1, 1) := by decide +kernel
theorem d_N_canStep_22 : decode b_N_canStep 22 = .ok (.iaload, 1) := by decide +kernel
theorem d_N_canStep_23 : decode b_N_canStep 23 = .ok (.invokevirtual 215, 3) := by decide +kernel
theorem d_N_canStep_26 : decode b_N_canStep 26 = .ok (.ifCond .eq 5, 3) := by decide +kernel
theorem d_N_canStep_29 : decode b_N_canStep 29 = .ok (.iconst 0, 1) := by decide +kernel
theorem d_N_canStep_30 : decode b_N_canStep 30 = .ok (.ireturn, 1) := by decide +kernel
theorem d_N_canStep_31 : decode b_N_canStep 31 = .ok (.aload_n 0, 1) := by decide +kernel
theorem d_N_canStep_32 : decode b_N_canStep 32 = .ok (.getfield 26, 3) := by decide +kernel
theorem d_N_canStep_35 : decode b_N_canStep 35 = .ok (.invokevirtual 129, 3) := by decide +kernel
theorem d_N_canStep_38 : decode b_N_canStep 38 = .ok (.ifCond .ne 33, 3) := by decide +kernel
theorem d_N_canStep_41 : decode b_N_canStep 41 = .ok (.aload_n 0, 1) := by decide +kernel
theorem d_N_canStep_42 : decode b_N_canStep 42 = .ok (.getfield 19, 3) := by decide +kernel
theorem d_N_canStep_45 : decode b_N_canStep 45 = .ok (.getfield 151, 3) := by decide +kernel
theorem d_N_canStep_48 : decode b_N_canStep 48 = .ok (.iload_n 1, 1) := by decide +kernel
theorem d_N_canStep_49 : decode b_N_canStep 49 = .ok (.iaload, 1) := by decide +kernel
theorem d_N_canStep_50 : decode b_N_canStep 50 = .ok (.iconst 1, 1) := by decide +kernel
theorem d_N_canStep_51 : decode b_N_canStep 51 = .ok (.if_icmp .eq 20, 3) := by decide +kernel
theorem d_N_canStep_54 : decode b_N_canStep 54 = .ok (.aload_n 0, 1) := by decide +kernel
theorem d_N_canStep_55 : decode b_N_canStep 55 = .ok (.getfield 19, 3) := by decide +kernel
theorem d_N_canStep_58 : decode b_N_canStep 58 = .ok (.getfield 168, 3) := by decide +kernel
theorem d_N_canStep_61 : decode b_N_canStep 61 = .ok (.iload_n 1, 1) := by decide +kernel
theorem d_N_canStep_62 : decode b_N_canStep 62 = .ok (.iaload, 1) := by decide +kernel
theorem d_N_canStep_63 : decode b_N_canStep 63 = .ok (.aload_n 0, 1) := by decide +kernel
theorem d_N_canStep_64 : decode b_N_canStep 64 = .ok (.iload_n 1, 1) := by decide +kernel
theorem d_N_canStep_65 : decode b_N_canStep 65 = .ok (.invokevirtual 159, 3) := by decide +kernel
theorem d_N_canStep_68 : decode b_N_canStep 68 = .ok (.if_icmp .ne 7, 3) := by decide +kernel
theorem d_N_canStep_71 : decode b_N_canStep 71 = .ok (.iconst 1, 1) := by decide +kernel
theorem d_N_canStep_72 : decode b_N_canStep 72 = .ok (.goto 4, 3) := by decide +kernel
theorem d_N_canStep_75 : decode b_N_canStep 75 = .ok (.iconst 0, 1) := by decide +kernel
theorem d_N_canStep_76 : decode b_N_canStep 76 = .ok (.ireturn, 1) := by decide +kernel
theorem d_N_isDown_0 : decode b_N_isDown 0 = .ok (.iload_n 1, 1) := by decide +kernel
theorem d_N_isDown_1 : decode b_N_isDown 1 = .ok (.iconst (-1), 1) := by decide +kernel
theorem d_N_isDown_2 : decode b_N_isDown 2 = .ok (.if_icmp .eq 16, 3) := by decide +kernel
theorem d_N_isDown_5 : decode b_N_isDown 5 = .ok (.aload_n 0, 1) := by decide +kernel
theorem d_N_isDown_6 : decode b_N_isDown 6 = .ok (.getfield 37, 3) := by decide +kernel
theorem d_N_isDown_9 : decode b_N_isDown 9 = .ok (.iload_n 1, 1) := by decide +kernel
theorem d_N_isDown_10 : decode b_N_isDown 10 = .ok (.baload, 1) := by decide +kernel
theorem d_N_isDown_11 : decode b_N_isDown 11 = .ok (.ifCond .eq 7, 3) := by decide +kernel
theorem d_N_isDown_14 : decode b_N_isDown 14 = .ok (.iconst 1, 1) := by decide +kernel
theorem d_N_isDown_15 : decode b_N_isDown 15 = .ok (.goto 4, 3) := by decide +kernel
theorem d_N_isDown_18 : decode b_N_isDown 18 = .ok (.iconst 0, 1) := by decide +kernel
theorem d_N_isDown_19 : decode b_N_isDown 19 = .ok (.ireturn, 1) := by decide +kernel
theorem d_N_step_0 : decode b_N_step 0 = .ok (.aload_n 0, 1) := by decide +kernel
theorem d_N_step_1 : decode b_N_step 1 = .ok (.getfield 19, 3) := by decide +kernel
theorem d_N_step_4 : decode b_N_step 4 = .ok (.getfield 151, 3) := by decide +kernel
theorem d_N_step_7 : decode b_N_step 7 = .ok (.iload_n 1, 1) := by decide +kernel
theorem d_N_step_8 : decode b_N_step 8 = .ok (.iaload, 1) := by decide +kernel
theorem d_N_step_9 : decode b_N_step 9 = .ok (.iconst 1, 1) := by decide +kernel
theorem d_N_step_10 : decode b_N_step 10 = .ok (.if_icmp .ne 5, 3) := by decide +kernel
theorem d_N_step_13 : decode b_N_step 13 = .ok (.iconst 3, 1) := by decide +kernel
theorem d_N_step_14 : decode b_N_step 14 = .ok (.ireturn, 1) := by decide +kernel
theorem d_N_step_15 : decode b_N_step 15 = .ok (.aload_n 0, 1) := by decide +kernel
theorem d_N_step_16 : decode b_N_step 16 = .ok (.iload_n 1, 1) := by decide +kernel
theorem d_N_step_17 : decode b_N_step 17 = .ok (.invokevirtual 159, 3) := by decide +kernel
theorem d_N_step_20 : decode b_N_step 20 = .ok (.istore_n 2, 1) := by decide +kernel
theorem d_N_step_21 : decode b_N_step 21 = .ok (.aload_n 0, 1) := by decide +kernel
theorem d_N_step_22 : decode b_N_step 22 = .ok (.getfield 19, 3) := by decide +kernel
theorem d_N_step_25 : decode b_N_step 25 = .ok (.getfield 168, 3) := by decide +kernel
theorem d_N_step_28 : decode b_N_step 28 = .ok (.iload_n 1, 1) := by decide +kernel
theorem d_N_step_29 : decode b_N_step 29 = .ok (.iaload, 1) := by decide +kernel
theorem d_N_step_30 : decode b_N_step 30 = .ok (.iload_n 2, 1) := by decide +kernel
theorem d_N_step_31 : decode b_N_step 31 = .ok (.if_icmp .eq 31, 3) := by decide +kernel
theorem d_N_step_34 : decode b_N_step 34 = .ok (.aload_n 0, 1) := by decide +kernel
theorem d_N_step_35 : decode b_N_step 35 = .ok (.getfield 19, 3) := by decide +kernel
theorem d_N_step_38 : decode b_N_step 38 = .ok (.iload_n 1, 1) := by decide +kernel
theorem d_N_step_39 : decode b_N_step 39 = .ok (.invokevirtual 218, 3) := by decide +kernel
theorem d_N_step_42 : decode b_N_step 42 = .ok (.aload_n 0, 1) := by decide +kernel
theorem d_N_step_43 : decode b_N_step 43 = .ok (.getfield 26, 3) := by decide +kernel
theorem d_N_step_46 : decode b_N_step 46 = .ok (.iload_n 1, 1) := by decide +kernel
theorem d_N_step_47 : decode b_N_step 47 = .ok (.aload_n 0, 1) := by decide +kernel
theorem d_N_step_48 : decode b_N_step 48 = .ok (.getfield 19, 3) := by decide +kernel
theorem d_N_step_51 : decode b_N_step 51 = .ok (.getfield 154, 3) := by decide +kernel
theorem d_N_step_54 : decode b_N_step 54 = .ok (.iload_n 1, 1) := by decide +kernel
theorem d_N_step_55 : decode b_N_step 55 = .ok (.iaload, 1) := by decide +kernel
theorem d_N_step_56 : decode b_N_step 56 = .ok (.iload_n 2, 1) := by decide +kernel
theorem d_N_step_57 : decode b_N_step 57 = .ok (.invokevirtual 144, 3) := by decide +kernel
theorem d_N_step_60 : decode b_N_step 60 = .ok (.iconst 2, 1) := by decide +kernel
theorem d_N_step_61 : decode b_N_step 61 = .ok (.ireturn, 1) := by decide +kernel
theorem d_N_step_62 : decode b_N_step 62 = .ok (.aload_n 0, 1) := by decide +kernel
theorem d_N_step_63 : decode b_N_step 63 = .ok (.iload_n 1, 1) := by decide +kernel
theorem d_N_step_64 : decode b_N_step 64 = .ok (.invokevirtual 209, 3) := by decide +kernel
theorem d_N_step_67 : decode b_N_step 67 = .ok (.istore_n 3, 1) := by decide +kernel
theorem d_N_step_68 : decode b_N_step 68 = .ok (.iload_n 3, 1) := by decide +kernel
theorem d_N_step_69 : decode b_N_step 69 = .ok (.iconst (-1), 1) := by decide +kernel
theorem d_N_step_70 : decode b_N_step 70 = .ok (.if_icmp .ne 26, 3) := by decide +kernel
theorem d_N_step_73 : decode b_N_step 73 = .ok (.aload_n 0, 1) := by decide +kernel
theorem d_N_step_74 : decode b_N_step 74 = .ok (.iload_n 1, 1) := by decide +kernel
theorem d_N_step_75 : decode b_N_step 75 = .ok (.aload_n 0, 1) := by decide +kernel
theorem d_N_step_76 : decode b_N_step 76 = .ok (.getfield 10, 3) := by decide +kernel
theorem d_N_step_79 : decode b_N_step 79 = .ok (.aload_n 0, 1) := by decide +kernel
theorem d_N_step_80 : decode b_N_step 80 = .ok (.getfield 19, 3) := by decide +kernel
theorem d_N_step_83 : decode b_N_step 83 = .ok (.getfield 166, 3) := by decide +kernel
theorem d_N_step_86 : decode b_N_step 86 = .ok (.iload_n 1, 1) := by decide +kernel
theorem d_N_step_87 : decode b_N_step 87 = .ok (.iaload, 1) := by decide +kernel
theorem d_N_step_88 : decode b_N_step 88 = .ok (.invokevirtual 212, 3) := by decide +kernel
theorem d_N_step_91 : decode b_N_step 91 = .ok (.invokevirtual 221, 3) := by decide +kernel
theorem d_N_step_94 : decode b_N_step 94 = .ok (.iconst 1, 1) := by decide +kernel
theorem d_N_step_95 : decode b_N_step 95 = .ok (.ireturn, 1) := by decide +kernel
theorem d_N_step_96 : decode b_N_step 96 = .ok (.aload_n 0, 1) := by decide +kernel
theorem d_N_step_97 : decode b_N_step 97 = .ok (.iload_n 1, 1) := by decide +kernel
theorem d_N_step_98 : decode b_N_step 98 = .ok (.iload_n 3, 1) := by decide +kernel
theorem d_N_step_99 : decode b_N_step 99 = .ok (.invokevirtual 224, 3) := by decide +kernel
theorem d_N_step_102 : decode b_N_step 102 = .ok (.iconst 0, 1) := by decide +kernel
theorem d_N_step_103 : decode b_N_step 103 = .ok (.ireturn, 1) := by decide +kernel
theorem d_N_goThrough_0 : decode b_N_goThrough 0 = .ok (.aload_n 0, 1) := by decide +kernel
theorem d_N_goThrough_1 : decode b_N_goThrough 1 = .ok (.getfield 30, 3) := by decide +kernel
theorem d_N_goThrough_4 : decode b_N_goThrough 4 = .ok (.iload_n 2, 1) := by decide +kernel
theorem d_N_goThrough_5 : decode b_N_goThrough 5 = .ok (.iaload, 1) := by decide +kernel
theorem d_N_goThrough_6 : decode b_N_goThrough 6 = .ok (.iconst 2, 1) := by decide +kernel
theorem d_N_goThrough_7 : decode b_N_goThrough 7 = .ok (.irem, 1) := by decide +kernel
theorem d_N_goThrough_8 : decode b_N_goThrough 8 = .ok (.ifCond .ne 15, 3) := by decide +kernel
theorem d_N_goThrough_11 : decode b_N_goThrough 11 = .ok (.aload_n 0, 1) := by decide +kernel
theorem d_N_goThrough_12 : decode b_N_goThrough 12 = .ok (.getfield 10, 3) := by decide +kernel
theorem d_N_goThrough_15 : decode b_N_goThrough 15 = .ok (.getfield 63, 3) := by decide +kernel
theorem d_N_goThrough_18 : decode b_N_goThrough 18 = .ok (.iload_n 2, 1) := by decide +kernel
theorem d_N_goThrough_19 : decode b_N_goThrough 19 = .ok (.iaload, 1) := by decide +kernel
theorem d_N_goThrough_20 : decode b_N_goThrough 20 = .ok (.goto 12, 3) := by decide +kernel
theorem d_N_goThrough_23 : decode b_N_goThrough 23 = .ok (.aload_n 0, 1) := by decide +kernel
theorem d_N_goThrough_24 : decode b_N_goThrough 24 = .ok (.getfield 10, 3) := by decide +kernel
theorem d_N_goThrough_27 : decode b_N_goThrough 27 = .ok (.getfield 66, 3) := by decide +kernel
theorem d_N_goThrough_30 : decode b_N_goThrough 30 = .ok (.iload_n 2, 1) := by decide +kernel
theorem d_N_goThrough_31 : decode b_N_goThrough 31 = .ok (.iaload, 1) := by decide +kernel
theorem d_N_goThrough_32 : decode b_N_goThrough 32 = .ok (.istore_n 3, 1) := by decide +kernel
theorem d_N_goThrough_33 : decode b_N_goThrough 33 = .ok (.aload_n 0, 1) := by decide +kernel
theorem d_N_goThrough_34 : decode b_N_goThrough 34 = .ok (.getfield 30, 3) := by decide +kernel
theorem d_N_goThrough_37 : decode b_N_goThrough 37 = .ok (.iload_n 2, 1) := by decide +kernel
theorem d_N_goThrough_38 : decode b_N_goThrough 38 = .ok (.dup2, 1) := by decide +kernel
theorem d_N_goThrough_39 : decode b_N_goThrough 39 = .ok (.iaload, 1) := by decide +kernel
theorem d_N_goThrough_40 : decode b_N_goThrough 40 = .ok (.iconst 1, 1) := by decide +kernel
theorem d_N_goThrough_41 : decode b_N_goThrough 41 = .ok (.iadd, 1) := by decide +kernel
theorem d_N_goThrough_42 : decode b_N_goThrough 42 = .ok (.iastore, 1) := by decide +kernel
theorem d_N_goThrough_43 : decode b_N_goThrough 43 = .ok (.aload_n 0, 1) := by decide +kernel
theorem d_N_goThrough_44 : decode b_N_goThrough 44 = .ok (.getfield 19, 3) := by decide +kernel
theorem d_N_goThrough_47 : decode b_N_goThrough 47 = .ok (.iload_n 1, 1) := by decide +kernel
theorem d_N_goThrough_48 : decode b_N_goThrough 48 = .ok (.iload_n 2, 1) := by decide +kernel
theorem d_N_goThrough_49 : decode b_N_goThrough 49 = .ok (.iload_n 3, 1) := by decide +kernel
theorem d_N_goThrough_50 : decode b_N_goThrough 50 = .ok (.invokevirtual 227, 3) := by decide +kernel
theorem d_N_goThrough_53 : decode b_N_goThrough 53 = .ok (.return_, 1) := by decide +kernel
theorem d_N_comeOut_0 : decode b_N_comeOut 0 = .ok (.aload_n 0, 1) := by decide +kernel
theorem d_N_comeOut_1 : decode b_N_comeOut 1 = .ok (.getfield 19, 3) := by decide +kernel
theorem d_N_comeOut_4 : decode b_N_comeOut 4 = .ok (.iload_n 1, 1) := by decide +kernel
theorem d_N_comeOut_5 : decode b_N_comeOut 5 = .ok (.aload_n 0, 1) := by decide +kernel
theorem d_N_comeOut_6 : decode b_N_comeOut 6 = .ok (.iload_n 2, 1) := by decide +kernel
theorem d_N_comeOut_7 : decode b_N_comeOut 7 = .ok (.invokevirtual 230, 3) := by decide +kernel
theorem d_N_comeOut_10 : decode b_N_comeOut 10 = .ok (.invokevirtual 233, 3) := by decide +kernel
theorem d_N_comeOut_13 : decode b_N_comeOut 13 = .ok (.aload_n 0, 1) := by decide +kernel
theorem d_N_comeOut_14 : decode b_N_comeOut 14 = .ok (.getfield 34, 3) := by decide +kernel
theorem d_N_comeOut_17 : decode b_N_comeOut 17 = .ok (.iload_n 2, 1) := by decide +kernel
theorem d_N_comeOut_18 : decode b_N_comeOut 18 = .ok (.dup2, 1) := by decide +kernel
theorem d_N_comeOut_19 : decode b_N_comeOut 19 = .ok (.iaload, 1) := by decide +kernel
theorem d_N_comeOut_20 : decode b_N_comeOut 20 = .ok (.iconst 1, 1) := by decide +kernel
theorem d_N_comeOut_21 : decode b_N_comeOut 21 = .ok (.iadd, 1) := by decide +kernel
theorem d_N_comeOut_22 : decode b_N_comeOut 22 = .ok (.iastore, 1) := by decide +kernel
theorem d_N_comeOut_23 : decode b_N_comeOut 23 = .ok (.return_, 1) := by decide +kernel
theorem d_N_nextNumberAt_0 : decode b_N_nextNumberAt 0 = .ok (.iload_n 1, 1) := by decide +kernel
theorem d_N_nextNumberAt_1 : decode b_N_nextNumberAt 1 = .ok (.aload_n 0, 1) := by decide +kernel
theorem d_N_nextNumberAt_2 : decode b_N_nextNumberAt 2 = .ok (.getfield 10, 3) := by decide +kernel
theorem d_N_nextNumberAt_5 : decode b_N_nextNumberAt 5 = .ok (.getfield 78, 3) := by decide +kernel
theorem d_N_nextNumberAt_8 : decode b_N_nextNumberAt 8 = .ok (.aload_n 0, 1) := by decide +kernel
theorem d_N_nextNumberAt_9 : decode b_N_nextNumberAt 9 = .ok (.getfield 34, 3) := by decide +kernel
theorem d_N_nextNumberAt_12 : decode b_N_nextNumberAt 12 = .ok (.iload_n 1, 1) := by decide +kernel
theorem d_N_nextNumberAt_13 : decode b_N_nextNumberAt 13 = .ok (.iaload, 1) := by decide +kernel
theorem d_N_nextNumberAt_14 : decode b_N_nextNumberAt 14 = .ok (.imul, 1) := by decide +kernel
theorem d_N_nextNumberAt_15 : decode b_N_nextNumberAt 15 = .ok (.iadd, 1) := by decide +kernel
theorem d_N_nextNumberAt_16 : decode b_N_nextNumberAt 16 = .ok (.ireturn, 1) := by decide +kernel
theorem d_N_handOver_0 : decode b_N_handOver 0 = .ok (.aload_n 0, 1) := by decide +kernel
theorem d_N_handOver_1 : decode b_N_handOver 1 = .ok (.getfield 26, 3) := by decide +kernel
theorem d_N_handOver_4 : decode b_N_handOver 4 = .ok (.getfield 135, 3) := by decide +kernel
theorem d_N_handOver_7 : decode b_N_handOver 7 = .ok (.iload_n 1, 1) := by decide +kernel
theorem d_N_handOver_8 : decode b_N_handOver 8 = .ok (.iaload, 1) := by decide +kernel
theorem d_N_handOver_9 : decode b_N_handOver 9 = .ok (.istore_n 2, 1) := by decide +kernel
theorem d_N_handOver_10 : decode b_N_handOver 10 = .ok (.aload_n 0, 1) := by decide +kernel
theorem d_N_handOver_11 : decode b_N_handOver 11 = .ok (.getfield 26, 3) := by decide +kernel
theorem d_N_handOver_14 : decode b_N_handOver 14 = .ok (.getfield 138, 3) := by decide +kernel
theorem d_N_handOver_17 : decode b_N_handOver 17 = .ok (.iload_n 1, 1) := by decide +kernel
theorem d_N_handOver_18 : decode b_N_handOver 18 = .ok (.iaload, 1) := by decide +kernel
theorem d_N_handOver_19 : decode b_N_handOver 19 = .ok (.istore_n 3, 1) := by decide +kernel
theorem d_N_handOver_20 : decode b_N_handOver 20 = .ok (.aload_n 0, 1) := by decide +kernel
theorem d_N_handOver_21 : decode b_N_handOver 21 = .ok (.getfield 26, 3) := by decide +kernel
theorem d_N_handOver_24 : decode b_N_handOver 24 = .ok (.getfield 141, 3) := by decide +kernel
theorem d_N_handOver_27 : decode b_N_handOver 27 = .ok (.iload_n 1, 1) := by decide +kernel
theorem d_N_handOver_28 : decode b_N_handOver 28 = .ok (.iaload, 1) := by decide +kernel
theorem d_N_handOver_29 : decode b_N_handOver 29 = .ok (.istore 4, 2) := by decide +kernel
theorem d_N_handOver_31 : decode b_N_handOver 31 = .ok (.aload_n 0, 1) := by decide +kernel
theorem d_N_handOver_32 : decode b_N_handOver 32 = .ok (.getfield 26, 3) := by decide +kernel
theorem d_N_handOver_35 : decode b_N_handOver 35 = .ok (.iload_n 1, 1) := by decide +kernel
theorem d_N_handOver_36 : decode b_N_handOver 36 = .ok (.invokevirtual 125, 3) := by decide +kernel
theorem d_N_handOver_39 : decode b_N_handOver 39 = .ok (.aload_n 0, 1) := by decide +kernel
theorem d_N_handOver_40 : decode b_N_handOver 40 = .ok (.getfield 37, 3) := by decide +kernel
theorem d_N_handOver_43 : decode b_N_handOver 43 = .ok (.iload 4, 2) := by decide +kernel
theorem d_N_handOver_45 : decode b_N_handOver 45 = .ok (.baload, 1) := by decide +kernel
theorem d_N_handOver_46 : decode b_N_handOver 46 = .ok (.ifCond .ne 29, 3) := by decide +kernel
theorem d_N_handOver_49 : decode b_N_handOver 49 = .ok (.aload_n 0, 1) := by decide +kernel
theorem d_N_handOver_50 : decode b_N_handOver 50 = .ok (.getfield 19, 3) := by decide +kernel
theorem d_N_handOver_53 : decode b_N_handOver 53 = .ok (.getfield 151, 3) := by decide +kernel
theorem d_N_handOver_56 : decode b_N_handOver 56 = .ok (.iload_n 2, 1) := by decide +kernel
theorem d_N_handOver_57 : decode b_N_handOver 57 = .ok (.iaload, 1) := by decide +kernel
theorem d_N_handOver_58 : decode b_N_handOver 58 = .ok (.iconst 1, 1) := by decide +kernel
theorem d_N_handOver_59 : decode b_N_handOver 59 = .ok (.if_icmp .ne 16, 3) := by decide +kernel
theorem d_N_handOver_62 : decode b_N_handOver 62 = .ok (.aload_n 0, 1) := by decide +kernel
theorem d_N_handOver_63 : decode b_N_handOver 63 = .ok (.getfield 19, 3) := by decide +kernel
theorem d_N_handOver_66 : decode b_N_handOver 66 = .ok (.getfield 154, 3) := by decide +kernel
theorem d_N_handOver_69 : decode b_N_handOver 69 = .ok (.iload_n 2, 1) := by decide +kernel
theorem d_N_handOver_70 : decode b_N_handOver 70 = .ok (.iaload, 1) := by decide +kernel
theorem d_N_handOver_71 : decode b_N_handOver 71 = .ok (.iload_n 3, 1) := by decide +kernel
theorem d_N_handOver_72 : decode b_N_handOver 72 = .ok (.if_icmp .eq 5, 3) := by decide +kernel
theorem d_N_handOver_75 : decode b_N_handOver 75 = .ok (.iconst 0, 1) := by decide +kernel
theorem d_N_handOver_76 : decode b_N_handOver 76 = .ok (.ireturn, 1) := by decide +kernel
theorem d_N_handOver_77 : decode b_N_handOver 77 = .ok (.aload_n 0, 1) := by decide +kernel
theorem d_N_handOver_78 : decode b_N_handOver 78 = .ok (.getfield 19, 3) := by decide +kernel
theorem d_N_handOver_81 : decode b_N_handOver 81 = .ok (.iload_n 2, 1) := by decide +kernel
theorem d_N_handOver_82 : decode b_N_handOver 82 = .ok (.iload 4, 2) := by decide +kernel
theorem d_N_handOver_84 : decode b_N_handOver 84 = .ok (.invokevirtual 236, 3) := by decide +kernel
theorem d_N_handOver_87 : decode b_N_handOver 87 = .ok (.iconst 1, 1) := by decide +kernel
theorem d_N_handOver_88 : decode b_N_handOver 88 = .ok (.ireturn, 1) := by decide +kernel
theorem d_N_stepAll_0 : decode b_N_stepAll 0 = .ok (.iconst 0, 1) := by decide +kernel
theorem d_N_stepAll_1 : decode b_N_stepAll 1 = .ok (.istore_n 1, 1) := by decide +kernel
theorem d_N_stepAll_2 : decode b_N_stepAll 2 = .ok (.iload_n 1, 1) := by decide +kernel
theorem d_N_stepAll_3 : decode b_N_stepAll 3 = .ok (.aload_n 0, 1) := by decide +kernel
theorem d_N_stepAll_4 : decode b_N_stepAll 4 = .ok (.getfield 19, 3) := by decide +kernel
theorem d_N_stepAll_7 : decode b_N_stepAll 7 = .ok (.getfield 90, 3) := by decide +kernel
theorem d_N_stepAll_10 : decode b_N_stepAll 10 = .ok (.if_icmp .ge 23, 3) := by decide +kernel
theorem d_N_stepAll_13 : decode b_N_stepAll 13 = .ok (.aload_n 0, 1) := by decide +kernel
theorem d_N_stepAll_14 : decode b_N_stepAll 14 = .ok (.iload_n 1, 1) := by decide +kernel
theorem d_N_stepAll_15 : decode b_N_stepAll 15 = .ok (.invokevirtual 111, 3) := by decide +kernel
theorem d_N_stepAll_18 : decode b_N_stepAll 18 = .ok (.ifCond .eq 9, 3) := by decide +kernel
theorem d_N_stepAll_21 : decode b_N_stepAll 21 = .ok (.aload_n 0, 1) := by decide +kernel
theorem d_N_stepAll_22 : decode b_N_stepAll 22 = .ok (.iload_n 1, 1) := by decide +kernel
theorem d_N_stepAll_23 : decode b_N_stepAll 23 = .ok (.invokevirtual 116, 3) := by decide +kernel
theorem d_N_stepAll_26 : decode b_N_stepAll 26 = .ok (.pop, 1) := by decide +kernel
theorem d_N_stepAll_27 : decode b_N_stepAll 27 = .ok (.iinc 1 1, 3) := by decide +kernel
theorem d_N_stepAll_30 : decode b_N_stepAll 30 = .ok (.goto (-28), 3) := by decide +kernel
theorem d_N_stepAll_33 : decode b_N_stepAll 33 = .ok (.return_, 1) := by decide +kernel
theorem d_N_handOverAll_0 : decode b_N_handOverAll 0 = .ok (.aload_n 0, 1) := by decide +kernel
theorem d_N_handOverAll_1 : decode b_N_handOverAll 1 = .ok (.getfield 26, 3) := by decide +kernel
theorem d_N_handOverAll_4 : decode b_N_handOverAll 4 = .ok (.getfield 148, 3) := by decide +kernel
theorem d_N_handOverAll_7 : decode b_N_handOverAll 7 = .ok (.istore_n 1, 1) := by decide +kernel
theorem d_N_handOverAll_8 : decode b_N_handOverAll 8 = .ok (.iconst 0, 1) := by decide +kernel
theorem d_N_handOverAll_9 : decode b_N_handOverAll 9 = .ok (.istore_n 2, 1) := by decide +kernel
theorem d_N_handOverAll_10 : decode b_N_handOverAll 10 = .ok (.iload_n 2, 1) := by decide +kernel
theorem d_N_handOverAll_11 : decode b_N_handOverAll 11 = .ok (.iload_n 1, 1) := by decide +kernel
theorem d_N_handOverAll_12 : decode b_N_handOverAll 12 = .ok (.if_icmp .ge 15, 3) := by decide +kernel
theorem d_N_handOverAll_15 : decode b_N_handOverAll 15 = .ok (.aload_n 0, 1) := by decide +kernel
theorem d_N_handOverAll_16 : decode b_N_handOverAll 16 = .ok (.iconst 0, 1) := by decide +kernel
theorem d_N_handOverAll_17 : decode b_N_handOverAll 17 = .ok (.invokevirtual 122, 3) := by decide +kernel
theorem d_N_handOverAll_20 : decode b_N_handOverAll 20 = .ok (.pop, 1) := by decide +kernel
theorem d_N_handOverAll_21 : decode b_N_handOverAll 21 = .ok (.iinc 2 1, 3) := by decide +kernel
theorem d_N_handOverAll_24 : decode b_N_handOverAll 24 = .ok (.goto (-14), 3) := by decide +kernel
theorem d_N_handOverAll_27 : decode b_N_handOverAll 27 = .ok (.return_, 1) := by decide +kernel
theorem d_N_shownNumber_0 : decode b_N_shownNumber 0 = .ok (.aload_n 0, 1) := by decide +kernel
theorem d_N_shownNumber_1 : decode b_N_shownNumber 1 = .ok (.getfield 19, 3) := by decide +kernel
theorem d_N_shownNumber_4 : decode b_N_shownNumber 4 = .ok (.getfield 151, 3) := by decide +kernel
theorem d_N_shownNumber_7 : decode b_N_shownNumber 7 = .ok (.iload_n 1, 1) := by decide +kernel
theorem d_N_shownNumber_8 : decode b_N_shownNumber 8 = .ok (.iaload, 1) := by decide +kernel
theorem d_N_shownNumber_9 : decode b_N_shownNumber 9 = .ok (.iconst 2, 1) := by decide +kernel
theorem d_N_shownNumber_10 : decode b_N_shownNumber 10 = .ok (.if_icmp .eq 5, 3) := by decide +kernel
theorem d_N_shownNumber_13 : decode b_N_shownNumber 13 = .ok (.iconst (-1), 1) := by decide +kernel
theorem d_N_shownNumber_14 : decode b_N_shownNumber 14 = .ok (.ireturn, 1) := by decide +kernel
theorem d_N_shownNumber_15 : decode b_N_shownNumber 15 = .ok (.aload_n 0, 1) := by decide +kernel
theorem d_N_shownNumber_16 : decode b_N_shownNumber 16 = .ok (.getfield 19, 3) := by decide +kernel
theorem d_N_shownNumber_19 : decode b_N_shownNumber 19 = .ok (.getfield 239, 3) := by decide +kernel
theorem d_N_shownNumber_22 : decode b_N_shownNumber 22 = .ok (.iload_n 1, 1) := by decide +kernel
theorem d_N_shownNumber_23 : decode b_N_shownNumber 23 = .ok (.iaload, 1) := by decide +kernel
theorem d_N_shownNumber_24 : decode b_N_shownNumber 24 = .ok (.istore_n 2, 1) := by decide +kernel
theorem d_N_shownNumber_25 : decode b_N_shownNumber 25 = .ok (.aload_n 0, 1) := by decide +kernel
theorem d_N_shownNumber_26 : decode b_N_shownNumber 26 = .ok (.getfield 19, 3) := by decide +kernel
theorem d_N_shownNumber_29 : decode b_N_shownNumber 29 = .ok (.getfield 242, 3) := by decide +kernel
theorem d_N_shownNumber_32 : decode b_N_shownNumber 32 = .ok (.iload_n 1, 1) := by decide +kernel
theorem d_N_shownNumber_33 : decode b_N_shownNumber 33 = .ok (.baload, 1) := by decide +kernel
theorem d_N_shownNumber_34 : decode b_N_shownNumber 34 = .ok (.ifCond .eq 15, 3) := by decide +kernel
theorem d_N_shownNumber_37 : decode b_N_shownNumber 37 = .ok (.iload_n 2, 1) := by decide +kernel
theorem d_N_shownNumber_38 : decode b_N_shownNumber 38 = .ok (.aload_n 0, 1) := by decide +kernel
theorem d_N_shownNumber_39 : decode b_N_shownNumber 39 = .ok (.invokevirtual 245, 3) := by decide +kernel
theorem d_N_shownNumber_42 : decode b_N_shownNumber 42 = .ok (.if_icmp .le 7, 3) := by decide +kernel
theorem d_N_shownNumber_45 : decode b_N_shownNumber 45 = .ok (.iconst (-1), 1) := by decide +kernel
theorem d_N_shownNumber_46 : decode b_N_shownNumber 46 = .ok (.goto 4, 3) := by decide +kernel
theorem d_N_shownNumber_49 : decode b_N_shownNumber 49 = .ok (.iload_n 2, 1) := by decide +kernel
theorem d_N_shownNumber_50 : decode b_N_shownNumber 50 = .ok (.ireturn, 1) := by decide +kernel
theorem d_N_leastMissing_0 : decode b_N_leastMissing 0 = .ok (.aload_n 0, 1) := by decide +kernel
theorem d_N_leastMissing_1 : decode b_N_leastMissing 1 = .ok (.iconst 0, 1) := by decide +kernel
theorem d_N_leastMissing_2 : decode b_N_leastMissing 2 = .ok (.invokevirtual 230, 3) := by decide +kernel
theorem d_N_leastMissing_5 : decode b_N_leastMissing 5 = .ok (.istore_n 1, 1) := by decide +kernel
theorem d_N_leastMissing_6 : decode b_N_leastMissing 6 = .ok (.iconst 1, 1) := by decide +kernel
theorem d_N_leastMissing_7 : decode b_N_leastMissing 7 = .ok (.istore_n 2, 1) := by decide +kernel
theorem d_N_leastMissing_8 : decode b_N_leastMissing 8 = .ok (.iload_n 2, 1) := by decide +kernel
theorem d_N_leastMissing_9 : decode b_N_leastMissing 9 = .ok (.aload_n 0, 1) := by decide +kernel
theorem d_N_leastMissing_10 : decode b_N_leastMissing 10 = .ok (.getfield 10, 3) := by decide +kernel
theorem d_N_leastMissing_13 : decode b_N_leastMissing 13 = .ok (.getfield 78, 3) := by decide +kernel
theorem d_N_leastMissing_16 : decode b_N_leastMissing 16 = .ok (.if_icmp .ge 19, 3) := by decide +kernel
theorem d_N_leastMissing_19 : decode b_N_leastMissing 19 = .ok (.iload_n 1, 1) := by decide +kernel
theorem d_N_leastMissing_20 : decode b_N_leastMissing 20 = .ok (.aload_n 0, 1) := by decide +kernel
theorem d_N_leastMissing_21 : decode b_N_leastMissing 21 = .ok (.iload_n 2, 1) := by decide +kernel
theorem d_N_leastMissing_22 : decode b_N_leastMissing 22 = .ok (.invokevirtual 230, 3) := by decide +kernel
theorem d_N_leastMissing_25 : decode b_N_leastMissing 25 = .ok (.invokestatic 248, 3) := by decide +kernel
theorem d_N_leastMissing_28 : decode b_N_leastMissing 28 = .ok (.istore_n 1, 1) := by decide +kernel
theorem d_N_leastMissing_29 : decode b_N_leastMissing 29 = .ok (.iinc 2 1, 3) := by decide +kernel
theorem d_N_leastMissing_32 : decode b_N_leastMissing 32 = .ok (.goto (-24), 3) := by decide +kernel
theorem d_N_leastMissing_35 : decode b_N_leastMissing 35 = .ok (.iload_n 1, 1) := by decide +kernel
theorem d_N_leastMissing_36 : decode b_N_leastMissing 36 = .ok (.ireturn, 1) := by decide +kernel
theorem d_N_highestNumber_0 : decode b_N_highestNumber 0 = .ok (.iconst (-1), 1) := by decide +kernel
theorem d_N_highestNumber_1 : decode b_N_highestNumber 1 = .ok (.istore_n 1, 1) := by decide +kernel
theorem d_N_highestNumber_2 : decode b_N_highestNumber 2 = .ok (.iconst 0, 1) := by decide +kernel
theorem d_N_highestNumber_3 : decode b_N_highestNumber 3 = .ok (.istore_n 2, 1) := by decide +kernel
theorem d_N_highestNumber_4 : decode b_N_highestNumber 4 = .ok (.iload_n 2, 1) := by decide +kernel
theorem d_N_highestNumber_5 : decode b_N_highestNumber 5 = .ok (.aload_n 0, 1) := by decide +kernel
theorem d_N_highestNumber_6 : decode b_N_highestNumber 6 = .ok (.getfield 10, 3) := by decide +kernel
theorem d_N_highestNumber_9 : decode b_N_highestNumber 9 = .ok (.getfield 78, 3) := by decide +kernel
theorem d_N_highestNumber_12 : decode b_N_highestNumber 12 = .ok (.if_icmp .ge 36, 3) := by decide +kernel
theorem d_N_highestNumber_15 : decode b_N_highestNumber 15 = .ok (.aload_n 0, 1) := by decide +kernel
theorem d_N_highestNumber_16 : decode b_N_highestNumber 16 = .ok (.getfield 34, 3) := by decide +kernel
theorem d_N_highestNumber_19 : decode b_N_highestNumber 19 = .ok (.iload_n 2, 1) := by decide +kernel
theorem d_N_highestNumber_20 : decode b_N_highestNumber 20 = .ok (.iaload, 1) := by decide +kernel
theorem d_N_highestNumber_21 : decode b_N_highestNumber 21 = .ok (.ifCond .le 21, 3) := by decide +kernel
theorem d_N_highestNumber_24 : decode b_N_highestNumber 24 = .ok (.iload_n 1, 1) := by decide +kernel
theorem d_N_highestNumber_25 : decode b_N_highestNumber 25 = .ok (.aload_n 0, 1) := by decide +kernel
theorem d_N_highestNumber_26 : decode b_N_highestNumber 26 = .ok (.iload_n 2, 1) := by decide +kernel
theorem d_N_highestNumber_27 : decode b_N_highestNumber 27 = .ok (.invokevirtual 230, 3) := by decide +kernel
theorem d_N_highestNumber_30 : decode b_N_highestNumber 30 = .ok (.aload_n 0, 1) := by decide +kernel
theorem d_N_highestNumber_31 : decode b_N_highestNumber 31 = .ok (.getfield 10, 3) := by decide +kernel
theorem d_N_highestNumber_34 : decode b_N_highestNumber 34 = .ok (.getfield 78, 3) := by decide +kernel
theorem d_N_highestNumber_37 : decode b_N_highestNumber 37 = .ok (.isub, 1) := by decide +kernel
theorem d_N_highestNumber_38 : decode b_N_highestNumber 38 = .ok (.invokestatic 253, 3) := by decide +kernel
theorem d_N_highestNumber_41 : decode b_N_highestNumber 41 = .ok (.istore_n 1, 1) := by decide +kernel
theorem d_N_highestNumber_42 : decode b_N_highestNumber 42 = .ok (.iinc 2 1, 3) := by decide +kernel
theorem d_N_highestNumber_45 : decode b_N_highestNumber 45 = .ok (.goto (-41), 3) := by decide +kernel
theorem d_N_highestNumber_48 : decode b_N_highestNumber 48 = .ok (.iload_n 1, 1) := by decide +kernel
theorem d_N_highestNumber_49 : decode b_N_highestNumber 49 = .ok (.ireturn, 1) := by decide +kernel
theorem d_N_missingBelowHighest_0 : decode b_N_missingBelowHighest 0 = .ok (.aload_n 0, 1) := by decide +kernel
theorem d_N_missingBelowHighest_1 : decode b_N_missingBelowHighest 1 = .ok (.getfield 19, 3) := by decide +kernel
theorem d_N_missingBelowHighest_4 : decode b_N_missingBelowHighest 4 = .ok (.getfield 90, 3) := by decide +kernel
theorem d_N_missingBelowHighest_7 : decode b_N_missingBelowHighest 7 = .ok (.aload_n 0, 1) := by decide +kernel
theorem d_N_missingBelowHighest_8 : decode b_N_missingBelowHighest 8 = .ok (.getfield 19, 3) := by decide +kernel
theorem d_N_missingBelowHighest_11 : decode b_N_missingBelowHighest 11 = .ok (.getfield 93, 3) := by decide +kernel
theorem d_N_missingBelowHighest_14 : decode b_N_missingBelowHighest 14 = .ok (.isub, 1) := by decide +kernel
theorem d_N_missingBelowHighest_15 : decode b_N_missingBelowHighest 15 = .ok (.istore_n 1, 1) := by decide +kernel
theorem d_N_missingBelowHighest_16 : decode b_N_missingBelowHighest 16 = .ok (.aload_n 0, 1) := by decide +kernel
theorem d_N_missingBelowHighest_17 : decode b_N_missingBelowHighest 17 = .ok (.invokevirtual 177, 3) := by decide +kernel
theorem d_N_missingBelowHighest_20 : decode b_N_missingBelowHighest 20 = .ok (.iconst 1, 1) := by decide +kernel
theorem d_N_missingBelowHighest_21 : decode b_N_missingBelowHighest 21 = .ok (.iadd, 1) := by decide +kernel
theorem d_N_missingBelowHighest_22 : decode b_N_missingBelowHighest 22 = .ok (.iload_n 1, 1) := by decide +kernel
theorem d_N_missingBelowHighest_23 : decode b_N_missingBelowHighest 23 = .ok (.isub, 1) := by decide +kernel
theorem d_N_missingBelowHighest_24 : decode b_N_missingBelowHighest 24 = .ok (.ireturn, 1) := by decide +kernel
theorem d_B_init_0 : decode b_B_init 0 = .ok (.aload_n 0, 1) := by decide +kernel
theorem d_B_init_1 : decode b_B_init 1 = .ok (.invokespecial 3, 3) := by decide +kernel
theorem d_B_init_4 : decode b_B_init 4 = .ok (.aload_n 0, 1) := by decide +kernel
theorem d_B_init_5 : decode b_B_init 5 = .ok (.bipush 60, 2) := by decide +kernel
theorem d_B_init_7 : decode b_B_init 7 = .ok (.newarray .int, 2) := by decide +kernel
theorem d_B_init_9 : decode b_B_init 9 = .ok (.putfield 9, 3) := by decide +kernel
theorem d_B_init_12 : decode b_B_init 12 = .ok (.aload_n 0, 1) := by decide +kernel
theorem d_B_init_13 : decode b_B_init 13 = .ok (.bipush 60, 2) := by decide +kernel
theorem d_B_init_15 : decode b_B_init 15 = .ok (.newarray .int, 2) := by decide +kernel
theorem d_B_init_17 : decode b_B_init 17 = .ok (.putfield 15, 3) := by decide +kernel
theorem d_B_init_20 : decode b_B_init 20 = .ok (.aload_n 0, 1) := by decide +kernel
theorem d_B_init_21 : decode b_B_init 21 = .ok (.bipush 60, 2) := by decide +kernel
theorem d_B_init_23 : decode b_B_init 23 = .ok (.newarray .int, 2) := by decide +kernel
theorem d_B_init_25 : decode b_B_init 25 = .ok (.putfield 18, 3) := by decide +kernel
theorem d_B_init_28 : decode b_B_init 28 = .ok (.return_, 1) := by decide +kernel
theorem d_B_clear_0 : decode b_B_clear 0 = .ok (.aload_n 0, 1) := by decide +kernel
theorem d_B_clear_1 : decode b_B_clear 1 = .ok (.iconst 0, 1) := by decide +kernel
theorem d_B_clear_2 : decode b_B_clear 2 = .ok (.putfield 21, 3) := by decide +kernel
theorem d_B_clear_5 : decode b_B_clear 5 = .ok (.return_, 1) := by decide +kernel
theorem d_B_has_0 : decode b_B_has 0 = .ok (.iload_n 1, 1) := by decide +kernel
theorem d_B_has_1 : decode b_B_has 1 = .ok (.ifCond .lt 15, 3) := by decide +kernel
theorem d_B_has_4 : decode b_B_has 4 = .ok (.iload_n 1, 1) := by decide +kernel
theorem d_B_has_5 : decode b_B_has 5 = .ok (.aload_n 0, 1) := by decide +kernel
theorem d_B_has_6 : decode b_B_has 6 = .ok (.getfield 21, 3) := by decide +kernel
theorem d_B_has_9 : decode b_B_has 9 = .ok (.if_icmp .ge 7, 3) := by decide +kernel
theorem d_B_has_12 : decode b_B_has 12 = .ok (.iconst 1, 1) := by decide +kernel
theorem d_B_has_13 : decode b_B_has 13 = .ok (.goto 4, 3) := by decide +kernel
theorem d_B_has_16 : decode b_B_has 16 = .ok (.iconst 0, 1) := by decide +kernel
theorem d_B_has_17 : decode b_B_has 17 = .ok (.ireturn, 1) := by decide +kernel
theorem d_B_hasRoom_0 : decode b_B_hasRoom 0 = .ok (.aload_n 0, 1) := by decide +kernel
theorem d_B_hasRoom_1 : decode b_B_hasRoom 1 = .ok (.getfield 21, 3) := by decide +kernel
theorem d_B_hasRoom_4 : decode b_B_hasRoom 4 = .ok (.bipush 60, 2) := by decide +kernel
theorem d_B_hasRoom_6 : decode b_B_hasRoom 6 = .ok (.if_icmp .ge 7, 3) := by decide +kernel
theorem d_B_hasRoom_9 : decode b_B_hasRoom 9 = .ok (.iconst 1, 1) := by decide +kernel
theorem d_B_hasRoom_10 : decode b_B_hasRoom 10 = .ok (.goto 4, 3) := by decide +kernel
theorem d_B_hasRoom_13 : decode b_B_hasRoom 13 = .ok (.iconst 0, 1) := by decide +kernel
theorem d_B_hasRoom_14 : decode b_B_hasRoom 14 = .ok (.ireturn, 1) := by decide +kernel
theorem d_B_holds_0 : decode b_B_holds 0 = .ok (.iconst 0, 1) := by decide +kernel
theorem d_B_holds_1 : decode b_B_holds 1 = .ok (.istore_n 3, 1) := by decide +kernel
theorem d_B_holds_2 : decode b_B_holds 2 = .ok (.iload_n 3, 1) := by decide +kernel
theorem d_B_holds_3 : decode b_B_holds 3 = .ok (.aload_n 0, 1) := by decide +kernel
theorem d_B_holds_4 : decode b_B_holds 4 = .ok (.getfield 21, 3) := by decide +kernel
theorem d_B_holds_7 : decode b_B_holds 7 = .ok (.if_icmp .ge 31, 3) := by decide +kernel
theorem d_B_holds_10 : decode b_B_holds 10 = .ok (.aload_n 0, 1) := by decide +kernel
theorem d_B_holds_11 : decode b_B_holds 11 = .ok (.getfield 9, 3) := by decide +kernel
theorem d_B_holds_14 : decode b_B_holds 14 = .ok (.iload_n 3, 1) := by decide +kernel
theorem d_B_holds_15 : decode b_B_holds 15 = .ok (.iaload, 1) := by decide +kernel
theorem d_B_holds_16 : decode b_B_holds 16 = .ok (.iload_n 1, 1) := by decide +kernel
theorem d_B_holds_17 : decode b_B_holds 17 = .ok (.if_icmp .ne 15, 3) := by decide +kernel
theorem d_B_holds_20 : decode b_B_holds 20 = .ok (.aload_n 0, 1) := by decide +kernel
theorem d_B_holds_21 : decode b_B_holds 21 = .ok (.getfield 15, 3) := by decide +kernel
theorem d_B_holds_24 : decode b_B_holds 24 = .ok (.iload_n 3, 1) := by decide +kernel
theorem d_B_holds_25 : decode b_B_holds 25 = .ok (.iaload, 1) := by decide +kernel
theorem d_B_holds_26 : decode b_B_holds 26 = .ok (.iload_n 2, 1) := by decide +kernel
theorem d_B_holds_27 : decode b_B_holds 27 = .ok (.if_icmp .ne 5, 3) := by decide +kernel
theorem d_B_holds_30 : decode b_B_holds 30 = .ok (.iconst 1, 1) := by decide +kernel
theorem d_B_holds_31 : decode b_B_holds 31 = .ok (.ireturn, 1) := by decide +kernel
theorem d_B_holds_32 : decode b_B_holds 32 = .ok (.iinc 3 1, 3) := by decide +kernel
theorem d_B_holds_35 : decode b_B_holds 35 = .ok (.goto (-33), 3) := by decide +kernel
theorem d_B_holds_38 : decode b_B_holds 38 = .ok (.iconst 0, 1) := by decide +kernel
theorem d_B_holds_39 : decode b_B_holds 39 = .ok (.ireturn, 1) := by decide +kernel
theorem d_B_post_0 : decode b_B_post 0 = .ok (.aload_n 0, 1) := by decide +kernel
theorem d_B_post_1 : decode b_B_post 1 = .ok (.getfield 9, 3) := by decide +kernel
theorem d_B_post_4 : decode b_B_post 4 = .ok (.aload_n 0, 1) := by decide +kernel
theorem d_B_post_5 : decode b_B_post 5 = .ok (.getfield 21, 3) := by decide +kernel
theorem d_B_post_8 : decode b_B_post 8 = .ok (.iload_n 1, 1) := by decide +kernel
theorem d_B_post_9 : decode b_B_post 9 = .ok (.iastore, 1) := by decide +kernel
theorem d_B_post_10 : decode b_B_post 10 = .ok (.aload_n 0, 1) := by decide +kernel
theorem d_B_post_11 : decode b_B_post 11 = .ok (.getfield 15, 3) := by decide +kernel
theorem d_B_post_14 : decode b_B_post 14 = .ok (.aload_n 0, 1) := by decide +kernel
theorem d_B_post_15 : decode b_B_post 15 = .ok (.getfield 21, 3) := by decide +kernel
theorem d_B_post_18 : decode b_B_post 18 = .ok (.iload_n 2, 1) := by decide +kernel
theorem d_B_post_19 : decode b_B_post 19 = .ok (.iastore, 1) := by decide +kernel
theorem d_B_post_20 : decode b_B_post 20 = .ok (.aload_n 0, 1) := by decide +kernel
theorem d_B_post_21 : decode b_B_post 21 = .ok (.getfield 18, 3) := by decide +kernel
theorem d_B_post_24 : decode b_B_post 24 = .ok (.aload_n 0, 1) := by decide +kernel
theorem d_B_post_25 : decode b_B_post 25 = .ok (.getfield 21, 3) := by decide +kernel
theorem d_B_post_28 : decode b_B_post 28 = .ok (.iload_n 3, 1) := by decide +kernel
theorem d_B_post_29 : decode b_B_post 29 = .ok (.iastore, 1) := by decide +kernel
theorem d_B_post_30 : decode b_B_post 30 = .ok (.aload_n 0, 1) := by decide +kernel
theorem d_B_post_31 : decode b_B_post 31 = .ok (.dup, 1) := by decide +kernel
theorem d_B_post_32 : decode b_B_post 32 = .ok (.getfield 21, 3) := by decide +kernel
theorem d_B_post_35 : decode b_B_post 35 = .ok (.iconst 1, 1) := by decide +kernel
theorem d_B_post_36 : decode b_B_post 36 = .ok (.iadd, 1) := by decide +kernel
theorem d_B_post_37 : decode b_B_post 37 = .ok (.putfield 21, 3) := by decide +kernel
theorem d_B_post_40 : decode b_B_post 40 = .ok (.return_, 1) := by decide +kernel
theorem d_B_takeOut_0 : decode b_B_takeOut 0 = .ok (.aload_n 0, 1) := by decide +kernel
theorem d_B_takeOut_1 : decode b_B_takeOut 1 = .ok (.getfield 21, 3) := by decide +kernel
theorem d_B_takeOut_4 : decode b_B_takeOut 4 = .ok (.iload_n 1, 1) := by decide +kernel
theorem d_B_takeOut_5 : decode b_B_takeOut 5 = .ok (.isub, 1) := by decide +kernel
theorem d_B_takeOut_6 : decode b_B_takeOut 6 = .ok (.iconst 1, 1) := by decide +kernel
theorem d_B_takeOut_7 : decode b_B_takeOut 7 = .ok (.isub, 1) := by decide +kernel
theorem d_B_takeOut_8 : decode b_B_takeOut 8 = .ok (.istore_n 2, 1) := by decide +kernel
theorem d_B_takeOut_9 : decode b_B_takeOut 9 = .ok (.aload_n 0, 1) := by decide +kernel
theorem d_B_takeOut_10 : decode b_B_takeOut 10 = .ok (.getfield 9, 3) := by decide +kernel
theorem d_B_takeOut_13 : decode b_B_takeOut 13 = .ok (.iload_n 1, 1) := by decide +kernel
theorem d_B_takeOut_14 : decode b_B_takeOut 14 = .ok (.iconst 1, 1) := by decide +kernel
theorem d_B_takeOut_15 : decode b_B_takeOut 15 = .ok (.iadd, 1) := by decide +kernel
theorem d_B_takeOut_16 : decode b_B_takeOut 16 = .ok (.aload_n 0, 1) := by decide +kernel
theorem d_B_takeOut_17 : decode b_B_takeOut 17 = .ok (.getfield 9, 3) := by decide +kernel
theorem d_B_takeOut_20 : decode b_B_takeOut 20 = .ok (.iload_n 1, 1) := by decide +kernel
theorem d_B_takeOut_21 : decode b_B_takeOut 21 = .ok (.iload_n 2, 1) := by decide +kernel
theorem d_B_takeOut_22 : decode b_B_takeOut 22 = .ok (.invokestatic 25, 3) := by decide +kernel
theorem d_B_takeOut_25 : decode b_B_takeOut 25 = .ok (.aload_n 0, 1) := by decide +kernel
theorem d_B_takeOut_26 : decode b_B_takeOut 26 = .ok (.getfield 15, 3) := by decide +kernel
theorem d_B_takeOut_29 : decode b_B_takeOut 29 = .ok (.iload_n 1, 1) := by decide +kernel
theorem d_B_takeOut_30 : decode b_B_takeOut 30 = .ok (.iconst 1, 1) := by decide +kernel
theorem d_B_takeOut_31 : decode b_B_takeOut 31 = .ok (.iadd, 1) := by decide +kernel
theorem d_B_takeOut_32 : decode b_B_takeOut 32 = .ok (.aload_n 0, 1) := by decide +kernel
theorem d_B_takeOut_33 : decode b_B_takeOut 33 = .ok (.getfield 15, 3) := by decide +kernel
theorem d_B_takeOut_36 : decode b_B_takeOut 36 = .ok (.iload_n 1, 1) := by decide +kernel
theorem d_B_takeOut_37 : decode b_B_takeOut 37 = .ok (.iload_n 2, 1) := by decide +kernel
theorem d_B_takeOut_38 : decode b_B_takeOut 38 = .ok (.invokestatic 25, 3) := by decide +kernel
theorem d_B_takeOut_41 : decode b_B_takeOut 41 = .ok (.aload_n 0, 1) := by decide +kernel
theorem d_B_takeOut_42 : decode b_B_takeOut 42 = .ok (.getfield 18, 3) := by decide +kernel
theorem d_B_takeOut_45 : decode b_B_takeOut 45 = .ok (.iload_n 1, 1) := by decide +kernel
theorem d_B_takeOut_46 : decode b_B_takeOut 46 = .ok (.iconst 1, 1) := by decide +kernel
theorem d_B_takeOut_47 : decode b_B_takeOut 47 = .ok (.iadd, 1) := by decide +kernel
theorem d_B_takeOut_48 : decode b_B_takeOut 48 = .ok (.aload_n 0, 1) := by decide +kernel
theorem d_B_takeOut_49 : decode b_B_takeOut 49 = .ok (.getfield 18, 3) := by decide +kernel
theorem d_B_takeOut_52 : decode b_B_takeOut 52 = .ok (.iload_n 1, 1) := by decide +kernel
theorem d_B_takeOut_53 : decode b_B_takeOut 53 = .ok (.iload_n 2, 1) := by decide +kernel
theorem d_B_takeOut_54 : decode b_B_takeOut 54 = .ok (.invokestatic 25, 3) := by decide +kernel
theorem d_B_takeOut_57 : decode b_B_takeOut 57 = .ok (.aload_n 0, 1) := by decide +kernel
theorem d_B_takeOut_58 : decode b_B_takeOut 58 = .ok (.dup, 1) := by decide +kernel
theorem d_B_takeOut_59 : decode b_B_takeOut 59 = .ok (.getfield 21, 3) := by decide +kernel
theorem d_B_takeOut_62 : decode b_B_takeOut 62 = .ok (.iconst 1, 1) := by decide +kernel
theorem d_B_takeOut_63 : decode b_B_takeOut 63 = .ok (.isub, 1) := by decide +kernel
theorem d_B_takeOut_64 : decode b_B_takeOut 64 = .ok (.putfield 21, 3) := by decide +kernel
theorem d_B_takeOut_67 : decode b_B_takeOut 67 = .ok (.return_, 1) := by decide +kernel
theorem d_P_init_0 : decode b_P_init 0 = .ok (.aload_n 0, 1) := by decide +kernel
theorem d_P_init_1 : decode b_P_init 1 = .ok (.invokespecial 3, 3) := by decide +kernel
theorem d_P_init_4 : decode b_P_init 4 = .ok (.aload_n 0, 1) := by decide +kernel
theorem d_P_init_5 : decode b_P_init 5 = .ok (.bipush 24, 2) := by decide +kernel
theorem d_P_init_7 : decode b_P_init 7 = .ok (.newarray .int, 2) := by decide +kernel
theorem d_P_init_9 : decode b_P_init 9 = .ok (.putfield 9, 3) := by decide +kernel
theorem d_P_init_12 : decode b_P_init 12 = .ok (.aload_n 0, 1) := by decide +kernel
theorem d_P_init_13 : decode b_P_init 13 = .ok (.bipush 24, 2) := by decide +kernel
theorem d_P_init_15 : decode b_P_init 15 = .ok (.newarray .int, 2) := by decide +kernel
theorem d_P_init_17 : decode b_P_init 17 = .ok (.putfield 15, 3) := by decide +kernel
theorem d_P_init_20 : decode b_P_init 20 = .ok (.aload_n 0, 1) := by decide +kernel
theorem d_P_init_21 : decode b_P_init 21 = .ok (.bipush 24, 2) := by decide +kernel
theorem d_P_init_23 : decode b_P_init 23 = .ok (.newarray .int, 2) := by decide +kernel
theorem d_P_init_25 : decode b_P_init 25 = .ok (.putfield 18, 3) := by decide +kernel
theorem d_P_init_28 : decode b_P_init 28 = .ok (.aload_n 0, 1) := by decide +kernel
theorem d_P_init_29 : decode b_P_init 29 = .ok (.bipush 8, 2) := by decide +kernel
theorem d_P_init_31 : decode b_P_init 31 = .ok (.newarray .int, 2) := by decide +kernel
theorem d_P_init_33 : decode b_P_init 33 = .ok (.putfield 21, 3) := by decide +kernel
theorem d_P_init_36 : decode b_P_init 36 = .ok (.aload_n 0, 1) := by decide +kernel
theorem d_P_init_37 : decode b_P_init 37 = .ok (.bipush 8, 2) := by decide +kernel
theorem d_P_init_39 : decode b_P_init 39 = .ok (.newarray .int, 2) := by decide +kernel
theorem d_P_init_41 : decode b_P_init 41 = .ok (.putfield 24, 3) := by decide +kernel
theorem d_P_init_44 : decode b_P_init 44 = .ok (.aload_n 0, 1) := by decide +kernel
theorem d_P_init_45 : decode b_P_init 45 = .ok (.bipush 8, 2) := by decide +kernel
theorem d_P_init_47 : decode b_P_init 47 = .ok (.newarray .int, 2) := by decide +kernel
theorem d_P_init_49 : decode b_P_init 49 = .ok (.putfield 27, 3) := by decide +kernel
theorem d_P_init_52 : decode b_P_init 52 = .ok (.return_, 1) := by decide +kernel
theorem d_P_drawFor_0 : decode b_P_drawFor 0 = .ok (.aload_n 0, 1) := by decide +kernel
theorem d_P_drawFor_1 : decode b_P_drawFor 1 = .ok (.iload_n 1, 1) := by decide +kernel
theorem d_P_drawFor_2 : decode b_P_drawFor 2 = .ok (.putfield 30, 3) := by decide +kernel
theorem d_P_drawFor_5 : decode b_P_drawFor 5 = .ok (.aload_n 0, 1) := by decide +kernel
theorem d_P_drawFor_6 : decode b_P_drawFor 6 = .ok (.iconst 0, 1) := by decide +kernel
theorem d_P_drawFor_7 : decode b_P_drawFor 7 = .ok (.putfield 34, 3) := by decide +kernel
theorem d_P_drawFor_10 : decode b_P_drawFor 10 = .ok (.aload_n 0, 1) := by decide +kernel
theorem d_P_drawFor_11 : decode b_P_drawFor 11 = .ok (.iconst 0, 1) := by decide +kernel
theorem d_P_drawFor_12 : decode b_P_drawFor 12 = .ok (.putfield 37, 3) := by decide +kernel
theorem d_P_drawFor_15 : decode b_P_drawFor 15 = .ok (.iconst 0, 1) := by decide +kernel
theorem d_P_drawFor_16 : decode b_P_drawFor 16 = .ok (.istore_n 2, 1) := by decide +kernel
theorem d_P_drawFor_17 : decode b_P_drawFor 17 = .ok (.iload_n 2, 1) := by decide +kernel
theorem d_P_drawFor_18 : decode b_P_drawFor 18 = .ok (.iload_n 1, 1) := by decide +kernel
theorem d_P_drawFor_19 : decode b_P_drawFor 19 = .ok (.if_icmp .ge 23, 3) := by decide +kernel
theorem d_P_drawFor_22 : decode b_P_drawFor 22 = .ok (.aload_n 0, 1) := by decide +kernel
theorem d_P_drawFor_23 : decode b_P_drawFor 23 = .ok (.getfield 21, 3) := by decide +kernel
theorem d_P_drawFor_26 : decode b_P_drawFor 26 = .ok (.iload_n 2, 1) := by decide +kernel
theorem d_P_drawFor_27 : decode b_P_drawFor 27 = .ok (.iload_n 2, 1) := by decide +kernel
theorem d_P_drawFor_28 : decode b_P_drawFor 28 = .ok (.iastore, 1) := by decide +kernel
theorem d_P_drawFor_29 : decode b_P_drawFor 29 = .ok (.aload_n 0, 1) := by decide +kernel
theorem d_P_drawFor_30 : decode b_P_drawFor 30 = .ok (.getfield 24, 3) := by decide +kernel
theorem d_P_drawFor_33 : decode b_P_drawFor 33 = .ok (.iload_n 2, 1) := by decide +kernel
theorem d_P_drawFor_34 : decode b_P_drawFor 34 = .ok (.iconst 0, 1) := by decide +kernel
theorem d_P_drawFor_35 : decode b_P_drawFor 35 = .ok (.iastore, 1) := by decide +kernel
theorem d_P_drawFor_36 : decode b_P_drawFor 36 = .ok (.iinc 2 1, 3) := by decide +kernel
theorem d_P_drawFor_39 : decode b_P_drawFor 39 = .ok (.goto (-22), 3) := by decide +kernel
theorem d_P_drawFor_42 : decode b_P_drawFor 42 = .ok (.aload_n 0, 1) := by decide +kernel
theorem d_P_drawFor_43 : decode b_P_drawFor 43 = .ok (.iconst 0, 1) := by decide +kernel
theorem d_P_drawFor_44 : decode b_P_drawFor 44 = .ok (.iload_n 1, 1) := by decide +kernel
theorem d_P_drawFor_45 : decode b_P_drawFor 45 = .ok (.invokevirtual 40, 3) := by decide +kernel
theorem d_P_drawFor_48 : decode b_P_drawFor 48 = .ok (.return_, 1) := by decide +kernel
theorem d_P_balancerBehind_0 : decode b_P_balancerBehind 0 = .ok (.iload_n 2, 1) := by decide +kernel
theorem d_P_balancerBehind_1 : decode b_P_balancerBehind 1 = .ok (.iconst 1, 1) := by decide +kernel
theorem d_P_balancerBehind_2 : decode b_P_balancerBehind 2 = .ok (.iadd, 1) := by decide +kernel
theorem d_P_balancerBehind_3 : decode b_P_balancerBehind 3 = .ok (.istore_n 3, 1) := by decide +kernel
theorem d_P_balancerBehind_4 : decode b_P_balancerBehind 4 = .ok (.iload_n 3, 1) := by decide +kernel
theorem d_P_balancerBehind_5 : decode b_P_balancerBehind 5 = .ok (.aload_n 0, 1) := by decide +kernel
theorem d_P_balancerBehind_6 : decode b_P_balancerBehind 6 = .ok (.getfield 34, 3) := by decide +kernel
theorem d_P_balancerBehind_9 : decode b_P_balancerBehind 9 = .ok (.if_icmp .ge 31, 3) := by decide +kernel
theorem d_P_balancerBehind_12 : decode b_P_balancerBehind 12 = .ok (.aload_n 0, 1) := by decide +kernel
theorem d_P_balancerBehind_13 : decode b_P_balancerBehind 13 = .ok (.getfield 9, 3) := by decide +kernel
theorem d_P_balancerBehind_16 : decode b_P_balancerBehind 16 = .ok (.iload_n 3, 1) := by decide +kernel
theorem d_P_balancerBehind_17 : decode b_P_balancerBehind 17 = .ok (.iaload, 1) := by decide +kernel
theorem d_P_balancerBehind_18 : decode b_P_balancerBehind 18 = .ok (.iload_n 1, 1) := by decide +kernel
theorem d_P_balancerBehind_19 : decode b_P_balancerBehind 19 = .ok (.if_icmp .eq 13, 3) := by decide +kernel
theorem d_P_balancerBehind_22 : decode b_P_balancerBehind 22 = .ok (.aload_n 0, 1) := by decide +kernel
theorem d_P_balancerBehind_23 : decode b_P_balancerBehind 23 = .ok (.getfield 15, 3) := by decide +kernel
theorem d_P_balancerBehind_26 : decode b_P_balancerBehind 26 = .ok (.iload_n 3, 1) := by decide +kernel
theorem d_P_balancerBehind_27 : decode b_P_balancerBehind 27 = .ok (.iaload, 1) := by decide +kernel
theorem d_P_balancerBehind_28 : decode b_P_balancerBehind 28 = .ok (.iload_n 1, 1) := by decide +kernel
theorem d_P_balancerBehind_29 : decode b_P_balancerBehind 29 = .ok (.if_icmp .ne 5, 3) := by decide +kernel
theorem d_P_balancerBehind_32 : decode b_P_balancerBehind 32 = .ok (.iload_n 3, 1) := by decide +kernel
theorem d_P_balancerBehind_33 : decode b_P_balancerBehind 33 = .ok (.ireturn, 1) := by decide +kernel
theorem d_P_balancerBehind_34 : decode b_P_balancerBehind 34 = .ok (.iinc 3 1, 3) := by decide +kernel
theorem d_P_balancerBehind_37 : decode b_P_balancerBehind 37 = .ok (.goto (-33), 3) := by decide +kernel
theorem d_P_balancerBehind_40 : decode b_P_balancerBehind 40 = .ok (.iconst (-1), 1) := by decide +kernel
theorem d_P_balancerBehind_41 : decode b_P_balancerBehind 41 = .ok (.ireturn, 1) := by decide +kernel
theorem d_P_exitOf_0 : decode b_P_exitOf 0 = .ok (.iconst 0, 1) := by decide +kernel
theorem d_P_exitOf_1 : decode b_P_exitOf 1 = .ok (.istore_n 2, 1) := by decide +kernel
theorem d_P_exitOf_2 : decode b_P_exitOf 2 = .ok (.iload_n 2, 1) := by decide +kernel
theorem d_P_exitOf_3 : decode b_P_exitOf 3 = .ok (.aload_n 0, 1) := by decide +kernel
theorem d_P_exitOf_4 : decode b_P_exitOf 4 = .ok (.getfield 30, 3) := by decide +kernel
theorem d_P_exitOf_7 : decode b_P_exitOf 7 = .ok (.iconst 1, 1) := by decide +kernel
theorem d_P_exitOf_8 : decode b_P_exitOf 8 = .ok (.isub, 1) := by decide +kernel
theorem d_P_exitOf_9 : decode b_P_exitOf 9 = .ok (.if_icmp .ge 19, 3) := by decide +kernel
theorem d_P_exitOf_12 : decode b_P_exitOf 12 = .ok (.aload_n 0, 1) := by decide +kernel
theorem d_P_exitOf_13 : decode b_P_exitOf 13 = .ok (.getfield 21, 3) := by decide +kernel
theorem d_P_exitOf_16 : decode b_P_exitOf 16 = .ok (.iload_n 2, 1) := by decide +kernel
theorem d_P_exitOf_17 : decode b_P_exitOf 17 = .ok (.iaload, 1) := by decide +kernel
theorem d_P_exitOf_18 : decode b_P_exitOf 18 = .ok (.iload_n 1, 1) := by decide +kernel
theorem d_P_exitOf_19 : decode b_P_exitOf 19 = .ok (.if_icmp .eq 9, 3) := by decide +kernel
theorem d_P_exitOf_22 : decode b_P_exitOf 22 = .ok (.iinc 2 1, 3) := by decide +kernel
theorem d_P_exitOf_25 : decode b_P_exitOf 25 = .ok (.goto (-23), 3) := by decide +kernel
theorem d_P_exitOf_28 : decode b_P_exitOf 28 = .ok (.iload_n 2, 1) := by decide +kernel
theorem d_P_exitOf_29 : decode b_P_exitOf 29 = .ok (.ireturn, 1) := by decide +kernel
theorem d_P_layOut_0 : decode b_P_layOut 0 = .ok (.iload_n 2, 1) := by decide +kernel
theorem d_P_layOut_1 : decode b_P_layOut 1 = .ok (.iconst 2, 1) := by decide +kernel
theorem d_P_layOut_2 : decode b_P_layOut 2 = .ok (.if_icmp .ge 4, 3) := by decide +kernel
theorem d_P_layOut_5 : decode b_P_layOut 5 = .ok (.return_, 1) := by decide +kernel
theorem d_P_layOut_6 : decode b_P_layOut 6 = .ok (.iload_n 2, 1) := by decide +kernel
theorem d_P_layOut_7 : decode b_P_layOut 7 = .ok (.iconst 2, 1) := by decide +kernel
theorem d_P_layOut_8 : decode b_P_layOut 8 = .ok (.idiv, 1) := by decide +kernel
theorem d_P_layOut_9 : decode b_P_layOut 9 = .ok (.istore_n 3, 1) := by decide +kernel
theorem d_P_layOut_10 : decode b_P_layOut 10 = .ok (.aload_n 0, 1) := by decide +kernel
theorem d_P_layOut_11 : decode b_P_layOut 11 = .ok (.iload_n 1, 1) := by decide +kernel
theorem d_P_layOut_12 : decode b_P_layOut 12 = .ok (.iload_n 3, 1) := by decide +kernel
theorem d_P_layOut_13 : decode b_P_layOut 13 = .ok (.invokevirtual 40, 3) := by decide +kernel
theorem d_P_layOut_16 : decode b_P_layOut 16 = .ok (.aload_n 0, 1) := by decide +kernel
theorem d_P_layOut_17 : decode b_P_layOut 17 = .ok (.iload_n 1, 1) := by decide +kernel
theorem d_P_layOut_18 : decode b_P_layOut 18 = .ok (.iload_n 3, 1) := by decide +kernel
theorem d_P_layOut_19 : decode b_P_layOut 19 = .ok (.iadd, 1) := by decide +kernel
theorem d_P_layOut_20 : decode b_P_layOut 20 = .ok (.iload_n 3, 1) := by decide +kernel
theorem d_P_layOut_21 : decode b_P_layOut 21 = .ok (.invokevirtual 40, 3) := by decide +kernel
theorem d_P_layOut_24 : decode b_P_layOut 24 = .ok (.aload_n 0, 1) := by decide +kernel
theorem d_P_layOut_25 : decode b_P_layOut 25 = .ok (.iload_n 1, 1) := by decide +kernel
theorem d_P_layOut_26 : decode b_P_layOut 26 = .ok (.iload_n 2, 1) := by decide +kernel
theorem d_P_layOut_27 : decode b_P_layOut 27 = .ok (.invokevirtual 44, 3) := by decide +kernel
theorem d_P_layOut_30 : decode b_P_layOut 30 = .ok (.return_, 1) := by decide +kernel
theorem d_P_merge_0 : decode b_P_merge 0 = .ok (.iload_n 2, 1) := by decide +kernel
theorem d_P_merge_1 : decode b_P_merge 1 = .ok (.iconst 2, 1) := by decide +kernel
theorem d_P_merge_2 : decode b_P_merge 2 = .ok (.if_icmp .gt 22, 3) := by decide +kernel
theorem d_P_merge_5 : decode b_P_merge 5 = .ok (.aload_n 0, 1) := by decide +kernel
theorem d_P_merge_6 : decode b_P_merge 6 = .ok (.aload_n 0, 1) := by decide +kernel
theorem d_P_merge_7 : decode b_P_merge 7 = .ok (.getfield 21, 3) := by decide +kernel
theorem d_P_merge_10 : decode b_P_merge 10 = .ok (.iload_n 1, 1) := by decide +kernel
theorem d_P_merge_11 : decode b_P_merge 11 = .ok (.iaload, 1) := by decide +kernel
theorem d_P_merge_12 : decode b_P_merge 12 = .ok (.aload_n 0, 1) := by decide +kernel
theorem d_P_merge_13 : decode b_P_merge 13 = .ok (.getfield 21, 3) := by decide +kernel
theorem d_P_merge_16 : decode b_P_merge 16 = .ok (.iload_n 1, 1) := by decide +kernel
theorem d_P_merge_17 : decode b_P_merge 17 = .ok (.iconst 1, 1) := by decide +kernel
theorem d_P_merge_18 : decode b_P_merge 18 = .ok (.iadd, 1) := by decide +kernel
theorem d_P_merge_19 : decode b_P_merge 19 = .ok (.iaload, 1) := by decide +kernel
theorem d_P_merge_20 : decode b_P_merge 20 = .ok (.invokevirtual 47, 3) := by decide +kernel
theorem d_P_merge_23 : decode b_P_merge 23 = .ok (.return_, 1) := by decide +kernel
theorem d_P_merge_24 : decode b_P_merge 24 = .ok (.iload_n 2, 1) := by decide +kernel
theorem d_P_merge_25 : decode b_P_merge 25 = .ok (.iconst 2, 1) := by decide +kernel
theorem d_P_merge_26 : decode b_P_merge 26 = .ok (.idiv, 1) := by decide +kernel
theorem d_P_merge_27 : decode b_P_merge 27 = .ok (.istore_n 3, 1) := by decide +kernel
theorem d_P_merge_28 : decode b_P_merge 28 = .ok (.aload_n 0, 1) := by decide +kernel
theorem d_P_merge_29 : decode b_P_merge 29 = .ok (.iload_n 1, 1) := by decide +kernel
theorem d_P_merge_30 : decode b_P_merge 30 = .ok (.iload_n 3, 1) := by decide +kernel
theorem d_P_merge_31 : decode b_P_merge 31 = .ok (.invokevirtual 50, 3) := by decide +kernel
theorem d_P_merge_34 : decode b_P_merge 34 = .ok (.aload_n 0, 1) := by decide +kernel
theorem d_P_merge_35 : decode b_P_merge 35 = .ok (.iload_n 1, 1) := by decide +kernel
theorem d_P_merge_36 : decode b_P_merge 36 = .ok (.iload_n 3, 1) := by decide +kernel
theorem d_P_merge_37 : decode b_P_merge 37 = .ok (.invokevirtual 44, 3) := by decide +kernel
theorem d_P_merge_40 : decode b_P_merge 40 = .ok (.aload_n 0, 1) := by decide +kernel
theorem d_P_merge_41 : decode b_P_merge 41 = .ok (.iload_n 1, 1) := by decide +kernel
theorem d_P_merge_42 : decode b_P_merge 42 = .ok (.iload_n 3, 1) := by decide +kernel
theorem d_P_merge_43 : decode b_P_merge 43 = .ok (.iadd, 1) := by decide +kernel
theorem d_P_merge_44 : decode b_P_merge 44 = .ok (.iload_n 3, 1) := by decide +kernel
theorem d_P_merge_45 : decode b_P_merge 45 = .ok (.invokevirtual 44, 3) := by decide +kernel
theorem d_P_merge_48 : decode b_P_merge 48 = .ok (.aload_n 0, 1) := by decide +kernel
theorem d_P_merge_49 : decode b_P_merge 49 = .ok (.iload_n 1, 1) := by decide +kernel
theorem d_P_merge_50 : decode b_P_merge 50 = .ok (.iload_n 3, 1) := by decide +kernel
theorem d_P_merge_51 : decode b_P_merge 51 = .ok (.invokevirtual 53, 3) := by decide +kernel
theorem d_P_merge_54 : decode b_P_merge 54 = .ok (.return_, 1) := by decide +kernel
theorem d_P_sortIntoParts_0 : decode b_P_sortIntoParts 0 = .ok (.iload_n 2, 1) := by decide +kernel
theorem d_P_sortIntoParts_1 : decode b_P_sortIntoParts 1 = .ok (.iconst 2, 1) := by decide +kernel
theorem d_P_sortIntoParts_2 : decode b_P_sortIntoParts 2 = .ok (.idiv, 1) := by decide +kernel
theorem d_P_sortIntoParts_3 : decode b_P_sortIntoParts 3 = .ok (.istore_n 3, 1) := by decide +kernel
theorem d_P_sortIntoParts_4 : decode b_P_sortIntoParts 4 = .ok (.iconst 0, 1) := by decide +kernel
theorem d_P_sortIntoParts_5 : decode b_P_sortIntoParts 5 = .ok (.istore 4, 2) := by decide +kernel
theorem d_P_sortIntoParts_7 : decode b_P_sortIntoParts 7 = .ok (.iload 4, 2) := by decide +kernel
theorem d_P_sortIntoParts_9 : decode b_P_sortIntoParts 9 = .ok (.iload_n 2, 1) := by decide +kernel
theorem d_P_sortIntoParts_10 : decode b_P_sortIntoParts 10 = .ok (.if_icmp .ge 85, 3) := by decide +kernel
theorem d_P_sortIntoParts_13 : decode b_P_sortIntoParts 13 = .ok (.iload 4, 2) := by decide +kernel
theorem d_P_sortIntoParts_15 : decode b_P_sortIntoParts 15 = .ok (.iconst 2, 1) := by decide +kernel
theorem d_P_sortIntoParts_16 : decode b_P_sortIntoParts 16 = .ok (.irem, 1) := by decide +kernel
theorem d_P_sortIntoParts_17 : decode b_P_sortIntoParts 17 = .ok (.ifCond .ne 7, 3) := by decide +kernel
theorem d_P_sortIntoParts_20 : decode b_P_sortIntoParts 20 = .ok (.iconst 1, 1) := by decide +kernel
theorem d_P_sortIntoParts_21 : decode b_P_sortIntoParts 21 = .ok (.goto 4, 3) := by decide +kernel
theorem d_P_sortIntoParts_24 : decode b_P_sortIntoParts 24 = .ok (.iconst 0, 1) := by decide +kernel
theorem d_P_sortIntoParts_25 : decode b_P_sortIntoParts 25 = .ok (.istore 5, 2) := by decide +kernel
theorem d_P_sortIntoParts_27 : decode b_P_sortIntoParts 27 = .ok (.aload_n 0, 1) := by decide +kernel
theorem d_P_sortIntoParts_28 : decode b_P_sortIntoParts 28 = .ok (.getfield 27, 3) := by decide +kernel
theorem d_P_sortIntoParts_31 : decode b_P_sortIntoParts 31 = .ok (.iload 5, 2) := by decide +kernel
theorem d_P_sortIntoParts_33 : decode b_P_sortIntoParts 33 = .ok (.ifCond .eq 7, 3) := by decide +kernel
theorem d_P_sortIntoParts_36 : decode b_P_sortIntoParts 36 = .ok (.iconst 0, 1) := by decide +kernel
theorem d_P_sortIntoParts_37 : decode b_P_sortIntoParts 37 = .ok (.goto 4, 3) := by decide +kernel
theorem d_P_sortIntoParts_40 : decode b_P_sortIntoParts 40 = .ok (.iload_n 2, 1) := by decide +kernel
theorem d_P_sortIntoParts_41 : decode b_P_sortIntoParts 41 = .ok (.iload 4, 2) := by decide +kernel
theorem d_P_sortIntoParts_43 : decode b_P_sortIntoParts 43 = .ok (.iconst 2, 1) := by decide +kernel
theorem d_P_sortIntoParts_44 : decode b_P_sortIntoParts 44 = .ok (.idiv, 1) := by decide +kernel
theorem d_P_sortIntoParts_45 : decode b_P_sortIntoParts 45 = .ok (.iadd, 1) := by decide +kernel
theorem d_P_sortIntoParts_46 : decode b_P_sortIntoParts 46 = .ok (.aload_n 0, 1) := by decide +kernel
theorem d_P_sortIntoParts_47 : decode b_P_sortIntoParts 47 = .ok (.getfield 21, 3) := by decide +kernel
theorem d_P_sortIntoParts_50 : decode b_P_sortIntoParts 50 = .ok (.iload_n 1, 1) := by decide +kernel
theorem d_P_sortIntoParts_51 : decode b_P_sortIntoParts 51 = .ok (.iload 4, 2) := by decide +kernel
theorem d_P_sortIntoParts_53 : decode b_P_sortIntoParts 53 = .ok (.iadd, 1) := by decide +kernel
theorem d_P_sortIntoParts_54 : decode b_P_sortIntoParts 54 = .ok (.iaload, 1) := by decide +kernel
theorem d_P_sortIntoParts_55 : decode b_P_sortIntoParts 55 = .ok (.iastore, 1) := by decide +kernel
theorem d_P_sortIntoParts_56 : decode b_P_sortIntoParts 56 = .ok (.aload_n 0, 1) := by decide +kernel
theorem d_P_sortIntoParts_57 : decode b_P_sortIntoParts 57 = .ok (.getfield 27, 3) := by decide +kernel
theorem d_P_sortIntoParts_60 : decode b_P_sortIntoParts 60 = .ok (.iload 5, 2) := by decide +kernel
theorem d_P_sortIntoParts_62 : decode b_P_sortIntoParts 62 = .ok (.ifCond .eq 7, 3) := by decide +kernel
theorem d_P_sortIntoParts_65 : decode b_P_sortIntoParts 65 = .ok (.iload_n 2, 1) := by decide +kernel
theorem d_P_sortIntoParts_66 : decode b_P_sortIntoParts 66 = .ok (.goto 4, 3) := by decide +kernel
theorem d_P_sortIntoParts_69 : decode b_P_sortIntoParts 69 = .ok (.iconst 0, 1) := by decide +kernel
theorem d_P_sortIntoParts_70 : decode b_P_sortIntoParts 70 = .ok (.iload_n 3, 1) := by decide +kernel
theorem d_P_sortIntoParts_71 : decode b_P_sortIntoParts 71 = .ok (.iadd, 1) := by decide +kernel
theorem d_P_sortIntoParts_72 : decode b_P_sortIntoParts 72 = .ok (.iload 4, 2) := by decide +kernel
theorem d_P_sortIntoParts_74 : decode b_P_sortIntoParts 74 = .ok (.iconst 2, 1) := by decide +kernel
theorem d_P_sortIntoParts_75 : decode b_P_sortIntoParts 75 = .ok (.idiv, 1) := by decide +kernel
theorem d_P_sortIntoParts_76 : decode b_P_sortIntoParts 76 = .ok (.iadd, 1) := by decide +kernel
theorem d_P_sortIntoParts_77 : decode b_P_sortIntoParts 77 = .ok (.aload_n 0, 1) := by decide +kernel
theorem d_P_sortIntoParts_78 : decode b_P_sortIntoParts 78 = .ok (.getfield 21, 3) := by decide +kernel
theorem d_P_sortIntoParts_81 : decode b_P_sortIntoParts 81 = .ok (.iload_n 1, 1) := by decide +kernel
theorem d_P_sortIntoParts_82 : decode b_P_sortIntoParts 82 = .ok (.iload_n 2, 1) := by decide +kernel
theorem d_P_sortIntoParts_83 : decode b_P_sortIntoParts 83 = .ok (.iadd, 1) := by decide +kernel
theorem d_P_sortIntoParts_84 : decode b_P_sortIntoParts 84 = .ok (.iload 4, 2) := by decide +kernel
theorem d_P_sortIntoParts_86 : decode b_P_sortIntoParts 86 = .ok (.iadd, 1) := by decide +kernel
theorem d_P_sortIntoParts_87 : decode b_P_sortIntoParts 87 = .ok (.iaload, 1) := by decide +kernel
theorem d_P_sortIntoParts_88 : decode b_P_sortIntoParts 88 = .ok (.iastore, 1) := by decide +kernel
theorem d_P_sortIntoParts_89 : decode b_P_sortIntoParts 89 = .ok (.iinc 4 1, 3) := by decide +kernel
theorem d_P_sortIntoParts_92 : decode b_P_sortIntoParts 92 = .ok (.goto (-85), 3) := by decide +kernel
theorem d_P_sortIntoParts_95 : decode b_P_sortIntoParts 95 = .ok (.aload_n 0, 1) := by decide +kernel
theorem d_P_sortIntoParts_96 : decode b_P_sortIntoParts 96 = .ok (.getfield 27, 3) := by decide +kernel
theorem d_P_sortIntoParts_99 : decode b_P_sortIntoParts 99 = .ok (.iconst 0, 1) := by decide +kernel
theorem d_P_sortIntoParts_100 : decode b_P_sortIntoParts 100 = .ok (.aload_n 0, 1) := by decide +kernel
theorem d_P_sortIntoParts_101 : decode b_P_sortIntoParts 101 = .ok (.getfield 21, 3) := by decide +kernel
theorem d_P_sortIntoParts_104 : decode b_P_sortIntoParts 104 = .ok (.iload_n 1, 1) := by decide +kernel
theorem d_P_sortIntoParts_105 : decode b_P_sortIntoParts 105 = .ok (.iconst 2, 1) := by decide +kernel
theorem d_P_sortIntoParts_106 : decode b_P_sortIntoParts 106 = .ok (.iload_n 2, 1) := by decide +kernel
theorem d_P_sortIntoParts_107 : decode b_P_sortIntoParts 107 = .ok (.imul, 1) := by decide +kernel
theorem d_P_sortIntoParts_108 : decode b_P_sortIntoParts 108 = .ok (.invokestatic 56, 3) := by decide +kernel
theorem d_P_sortIntoParts_111 : decode b_P_sortIntoParts 111 = .ok (.return_, 1) := by decide +kernel
theorem d_P_joinParts_0 : decode b_P_joinParts 0 = .ok (.iconst 0, 1) := by decide +kernel
theorem d_P_joinParts_1 : decode b_P_joinParts 1 = .ok (.istore_n 3, 1) := by decide +kernel
theorem d_P_joinParts_2 : decode b_P_joinParts 2 = .ok (.iload_n 3, 1) := by decide +kernel
theorem d_P_joinParts_3 : decode b_P_joinParts 3 = .ok (.iload_n 2, 1) := by decide +kernel
theorem d_P_joinParts_4 : decode b_P_joinParts 4 = .ok (.if_icmp .ge 67, 3) := by decide +kernel
theorem d_P_joinParts_7 : decode b_P_joinParts 7 = .ok (.aload_n 0, 1) := by decide +kernel
theorem d_P_joinParts_8 : decode b_P_joinParts 8 = .ok (.getfield 27, 3) := by decide +kernel
theorem d_P_joinParts_11 : decode b_P_joinParts 11 = .ok (.iconst 2, 1) := by decide +kernel
theorem d_P_joinParts_12 : decode b_P_joinParts 12 = .ok (.iload_n 3, 1) := by decide +kernel
theorem d_P_joinParts_13 : decode b_P_joinParts 13 = .ok (.imul, 1) := by decide +kernel
theorem d_P_joinParts_14 : decode b_P_joinParts 14 = .ok (.aload_n 0, 1) := by decide +kernel
theorem d_P_joinParts_15 : decode b_P_joinParts 15 = .ok (.getfield 21, 3) := by decide +kernel
theorem d_P_joinParts_18 : decode b_P_joinParts 18 = .ok (.iload_n 1, 1) := by decide +kernel
theorem d_P_joinParts_19 : decode b_P_joinParts 19 = .ok (.iload_n 3, 1) := by decide +kernel
theorem d_P_joinParts_20 : decode b_P_joinParts 20 = .ok (.iadd, 1) := by decide +kernel
theorem d_P_joinParts_21 : decode b_P_joinParts 21 = .ok (.iaload, 1) := by decide +kernel
theorem d_P_joinParts_22 : decode b_P_joinParts 22 = .ok (.iastore, 1) := by decide +kernel
theorem d_P_joinParts_23 : decode b_P_joinParts 23 = .ok (.aload_n 0, 1) := by decide +kernel
theorem d_P_joinParts_24 : decode b_P_joinParts 24 = .ok (.getfield 27, 3) := by decide +kernel
theorem d_P_joinParts_27 : decode b_P_joinParts 27 = .ok (.iconst 2, 1) := by decide +kernel
theorem d_P_joinParts_28 : decode b_P_joinParts 28 = .ok (.iload_n 3, 1) := by decide +kernel
theorem d_P_joinParts_29 : decode b_P_joinParts 29 = .ok (.imul, 1) := by decide +kernel
theorem d_P_joinParts_30 : decode b_P_joinParts 30 = .ok (.iconst 1, 1) := by decide +kernel
theorem d_P_joinParts_31 : decode b_P_joinParts 31 = .ok (.iadd, 1) := by decide +kernel
theorem d_P_joinParts_32 : decode b_P_joinParts 32 = .ok (.aload_n 0, 1) := by decide +kernel
theorem d_P_joinParts_33 : decode b_P_joinParts 33 = .ok (.getfield 21, 3) := by decide +kernel
theorem d_P_joinParts_36 : decode b_P_joinParts 36 = .ok (.iload_n 1, 1) := by decide +kernel
theorem d_P_joinParts_37 : decode b_P_joinParts 37 = .ok (.iload_n 2, 1) := by decide +kernel
theorem d_P_joinParts_38 : decode b_P_joinParts 38 = .ok (.iadd, 1) := by decide +kernel
theorem d_P_joinParts_39 : decode b_P_joinParts 39 = .ok (.iload_n 3, 1) := by decide +kernel
theorem d_P_joinParts_40 : decode b_P_joinParts 40 = .ok (.iadd, 1) := by decide +kernel
theorem d_P_joinParts_41 : decode b_P_joinParts 41 = .ok (.iaload, 1) := by decide +kernel
theorem d_P_joinParts_42 : decode b_P_joinParts 42 = .ok (.iastore, 1) := by decide +kernel
theorem d_P_joinParts_43 : decode b_P_joinParts 43 = .ok (.aload_n 0, 1) := by decide +kernel
theorem d_P_joinParts_44 : decode b_P_joinParts 44 = .ok (.aload_n 0, 1) := by decide +kernel
theorem d_P_joinParts_45 : decode b_P_joinParts 45 = .ok (.getfield 27, 3) := by decide +kernel
theorem d_P_joinParts_48 : decode b_P_joinParts 48 = .ok (.iconst 2, 1) := by decide +kernel
theorem d_P_joinParts_49 : decode b_P_joinParts 49 = .ok (.iload_n 3, 1) := by decide +kernel
theorem d_P_joinParts_50 : decode b_P_joinParts 50 = .ok (.imul, 1) := by decide +kernel
theorem d_P_joinParts_51 : decode b_P_joinParts 51 = .ok (.iaload, 1) := by decide +kernel
theorem d_P_joinParts_52 : decode b_P_joinParts 52 = .ok (.aload_n 0, 1) := by decide +kernel
theorem d_P_joinParts_53 : decode b_P_joinParts 53 = .ok (.getfield 27, 3) := by decide +kernel
theorem d_P_joinParts_56 : decode b_P_joinParts 56 = .ok (.iconst 2, 1) := by decide +kernel
theorem d_P_joinParts_57 : decode b_P_joinParts 57 = .ok (.iload_n 3, 1) := by decide +kernel
theorem d_P_joinParts_58 : decode b_P_joinParts 58 = .ok (.imul, 1) := by decide +kernel
theorem d_P_joinParts_59 : decode b_P_joinParts 59 = .ok (.iconst 1, 1) := by decide +kernel
theorem d_P_joinParts_60 : decode b_P_joinParts 60 = .ok (.iadd, 1) := by decide +kernel
theorem d_P_joinParts_61 : decode b_P_joinParts 61 = .ok (.iaload, 1) := by decide +kernel
theorem d_P_joinParts_62 : decode b_P_joinParts 62 = .ok (.invokevirtual 47, 3) := by decide +kernel
theorem d_P_joinParts_65 : decode b_P_joinParts 65 = .ok (.iinc 3 1, 3) := by decide +kernel
theorem d_P_joinParts_68 : decode b_P_joinParts 68 = .ok (.goto (-66), 3) := by decide +kernel
theorem d_P_joinParts_71 : decode b_P_joinParts 71 = .ok (.aload_n 0, 1) := by decide +kernel
theorem d_P_joinParts_72 : decode b_P_joinParts 72 = .ok (.getfield 27, 3) := by decide +kernel
theorem d_P_joinParts_75 : decode b_P_joinParts 75 = .ok (.iconst 0, 1) := by decide +kernel
theorem d_P_joinParts_76 : decode b_P_joinParts 76 = .ok (.aload_n 0, 1) := by decide +kernel
theorem d_P_joinParts_77 : decode b_P_joinParts 77 = .ok (.getfield 21, 3) := by decide +kernel
theorem d_P_joinParts_80 : decode b_P_joinParts 80 = .ok (.iload_n 1, 1) := by decide +kernel
theorem d_P_joinParts_81 : decode b_P_joinParts 81 = .ok (.iconst 2, 1) := by decide +kernel
theorem d_P_joinParts_82 : decode b_P_joinParts 82 = .ok (.iload_n 2, 1) := by decide +kernel
theorem d_P_joinParts_83 : decode b_P_joinParts 83 = .ok (.imul, 1) := by decide +kernel
theorem d_P_joinParts_84 : decode b_P_joinParts 84 = .ok (.invokestatic 56, 3) := by decide +kernel
theorem d_P_joinParts_87 : decode b_P_joinParts 87 = .ok (.return_, 1) := by decide +kernel
theorem d_P_lay_0 : decode b_P_lay 0 = .ok (.aload_n 0, 1) := by decide +kernel
theorem d_P_lay_1 : decode b_P_lay 1 = .ok (.getfield 24, 3) := by decide +kernel
theorem d_P_lay_4 : decode b_P_lay 4 = .ok (.iload_n 1, 1) := by decide +kernel
theorem d_P_lay_5 : decode b_P_lay 5 = .ok (.iaload, 1) := by decide +kernel
theorem d_P_lay_6 : decode b_P_lay 6 = .ok (.aload_n 0, 1) := by decide +kernel
theorem d_P_lay_7 : decode b_P_lay 7 = .ok (.getfield 24, 3) := by decide +kernel
theorem d_P_lay_10 : decode b_P_lay 10 = .ok (.iload_n 2, 1) := by decide +kernel
theorem d_P_lay_11 : decode b_P_lay 11 = .ok (.iaload, 1) := by decide +kernel
theorem d_P_lay_12 : decode b_P_lay 12 = .ok (.invokestatic 62, 3) := by decide +kernel
theorem d_P_lay_15 : decode b_P_lay 15 = .ok (.istore_n 3, 1) := by decide +kernel
theorem d_P_lay_16 : decode b_P_lay 16 = .ok (.aload_n 0, 1) := by decide +kernel
theorem d_P_lay_17 : decode b_P_lay 17 = .ok (.getfield 9, 3) := by decide +kernel
theorem d_P_lay_20 : decode b_P_lay 20 = .ok (.aload_n 0, 1) := by decide +kernel
theorem d_P_lay_21 : decode b_P_lay 21 = .ok (.getfield 34, 3) := by decide +kernel
theorem d_P_lay_24 : decode b_P_lay 24 = .ok (.iload_n 1, 1) := by decide +kernel
theorem d_P_lay_25 : decode b_P_lay 25 = .ok (.iastore, 1) := by decide +kernel
theorem d_P_lay_26 : decode b_P_lay 26 = .ok (.aload_n 0, 1) := by decide +kernel
theorem d_P_lay_27 : decode b_P_lay 27 = .ok (.getfield 15, 3) := by decide +kernel
theorem d_P_lay_30 : decode b_P_lay 30 = .ok (.aload_n 0, 1) := by decide +kernel
theorem d_P_lay_31 : decode b_P_lay 31 = .ok (.getfield 34, 3) := by decide +kernel
theorem d_P_lay_34 : decode b_P_lay 34 = .ok (.iload_n 2, 1) := by decide +kernel
theorem d_P_lay_35 : decode b_P_lay 35 = .ok (.iastore, 1) := by decide +kernel
theorem d_P_lay_36 : decode b_P_lay 36 = .ok (.aload_n 0, 1) := by decide +kernel
theorem d_P_lay_37 : decode b_P_lay 37 = .ok (.getfield 18, 3) := by decide +kernel
theorem d_P_lay_40 : decode b_P_lay 40 = .ok (.aload_n 0, 1) := by decide +kernel
theorem d_P_lay_41 : decode b_P_lay 41 = .ok (.getfield 34, 3) := by decide +kernel
theorem d_P_lay_44 : decode b_P_lay 44 = .ok (.iload_n 3, 1) := by decide +kernel
theorem d_P_lay_45 : decode b_P_lay 45 = .ok (.iastore, 1) := by decide +kernel
theorem d_P_lay_46 : decode b_P_lay 46 = .ok (.aload_n 0, 1) := by decide +kernel
theorem d_P_lay_47 : decode b_P_lay 47 = .ok (.dup, 1) := by decide +kernel
theorem d_P_lay_48 : decode b_P_lay 48 = .ok (.getfield 34, 3) := by decide +kernel
theorem d_P_lay_51 : decode b_P_lay 51 = .ok (.iconst 1, 1) := by decide +kernel
theorem d_P_lay_52 : decode b_P_lay 52 = .ok (.iadd, 1) := by decide +kernel
theorem d_P_lay_53 : decode b_P_lay 53 = .ok (.putfield 34, 3) := by decide +kernel
theorem d_P_lay_56 : decode b_P_lay 56 = .ok (.aload_n 0, 1) := by decide +kernel
theorem d_P_lay_57 : decode b_P_lay 57 = .ok (.getfield 24, 3) := by decide +kernel
theorem d_P_lay_60 : decode b_P_lay 60 = .ok (.iload_n 1, 1) := by decide +kernel
theorem d_P_lay_61 : decode b_P_lay 61 = .ok (.iload_n 3, 1) := by decide +kernel
theorem d_P_lay_62 : decode b_P_lay 62 = .ok (.iconst 1, 1) := by decide +kernel
theorem d_P_lay_63 : decode b_P_lay 63 = .ok (.iadd, 1) := by decide +kernel
theorem d_P_lay_64 : decode b_P_lay 64 = .ok (.iastore, 1) := by decide +kernel
theorem d_P_lay_65 : decode b_P_lay 65 = .ok (.aload_n 0, 1) := by decide +kernel
theorem d_P_lay_66 : decode b_P_lay 66 = .ok (.getfield 24, 3) := by decide +kernel
theorem d_P_lay_69 : decode b_P_lay 69 = .ok (.iload_n 2, 1) := by decide +kernel
theorem d_P_lay_70 : decode b_P_lay 70 = .ok (.iload_n 3, 1) := by decide +kernel
theorem d_P_lay_71 : decode b_P_lay 71 = .ok (.iconst 1, 1) := by decide +kernel
theorem d_P_lay_72 : decode b_P_lay 72 = .ok (.iadd, 1) := by decide +kernel
theorem d_P_lay_73 : decode b_P_lay 73 = .ok (.iastore, 1) := by decide +kernel
theorem d_P_lay_74 : decode b_P_lay 74 = .ok (.aload_n 0, 1) := by decide +kernel
theorem d_P_lay_75 : decode b_P_lay 75 = .ok (.aload_n 0, 1) := by decide +kernel
theorem d_P_lay_76 : decode b_P_lay 76 = .ok (.getfield 37, 3) := by decide +kernel
theorem d_P_lay_79 : decode b_P_lay 79 = .ok (.iload_n 3, 1) := by decide +kernel
theorem d_P_lay_80 : decode b_P_lay 80 = .ok (.iconst 1, 1) := by decide +kernel
theorem d_P_lay_81 : decode b_P_lay 81 = .ok (.iadd, 1) := by decide +kernel
theorem d_P_lay_82 : decode b_P_lay 82 = .ok (.invokestatic 62, 3) := by decide +kernel
theorem d_P_lay_85 : decode b_P_lay 85 = .ok (.putfield 37, 3) := by decide +kernel
theorem d_P_lay_88 : decode b_P_lay 88 = .ok (.return_, 1) := by decide +kernel
theorem d_T_init_0 : decode b_T_init 0 = .ok (.aload_n 0, 1) := by decide +kernel
theorem d_T_init_1 : decode b_T_init 1 = .ok (.invokespecial 3, 3) := by decide +kernel
theorem d_T_init_4 : decode b_T_init 4 = .ok (.aload_n 0, 1) := by decide +kernel
theorem d_T_init_5 : decode b_T_init 5 = .ok (.sipush 200, 3) := by decide +kernel
theorem d_T_init_8 : decode b_T_init 8 = .ok (.newarray .int, 2) := by decide +kernel
theorem d_T_init_10 : decode b_T_init 10 = .ok (.putfield 9, 3) := by decide +kernel
theorem d_T_init_13 : decode b_T_init 13 = .ok (.aload_n 0, 1) := by decide +kernel
theorem d_T_init_14 : decode b_T_init 14 = .ok (.sipush 200, 3) := by decide +kernel
theorem d_T_init_17 : decode b_T_init 17 = .ok (.newarray .int, 2) := by decide +kernel
theorem d_T_init_19 : decode b_T_init 19 = .ok (.putfield 15, 3) := by decide +kernel
theorem d_T_init_22 : decode b_T_init 22 = .ok (.aload_n 0, 1) := by decide +kernel
theorem d_T_init_23 : decode b_T_init 23 = .ok (.sipush 200, 3) := by decide +kernel
theorem d_T_init_26 : decode b_T_init 26 = .ok (.newarray .int, 2) := by decide +kernel
theorem d_T_init_28 : decode b_T_init 28 = .ok (.putfield 18, 3) := by decide +kernel
theorem d_T_init_31 : decode b_T_init 31 = .ok (.aload_n 0, 1) := by decide +kernel
theorem d_T_init_32 : decode b_T_init 32 = .ok (.sipush 200, 3) := by decide +kernel
theorem d_T_init_35 : decode b_T_init 35 = .ok (.newarray .int, 2) := by decide +kernel
theorem d_T_init_37 : decode b_T_init 37 = .ok (.putfield 21, 3) := by decide +kernel
theorem d_T_init_40 : decode b_T_init 40 = .ok (.aload_n 0, 1) := by decide +kernel
theorem d_T_init_41 : decode b_T_init 41 = .ok (.sipush 200, 3) := by decide +kernel
theorem d_T_init_44 : decode b_T_init 44 = .ok (.newarray .int, 2) := by decide +kernel
theorem d_T_init_46 : decode b_T_init 46 = .ok (.putfield 24, 3) := by decide +kernel
theorem d_T_init_49 : decode b_T_init 49 = .ok (.aload_n 0, 1) := by decide +kernel
theorem d_T_init_50 : decode b_T_init 50 = .ok (.sipush 200, 3) := by decide +kernel
theorem d_T_init_53 : decode b_T_init 53 = .ok (.newarray .int, 2) := by decide +kernel
theorem d_T_init_55 : decode b_T_init 55 = .ok (.putfield 27, 3) := by decide +kernel
theorem d_T_init_58 : decode b_T_init 58 = .ok (.aload_n 0, 1) := by decide +kernel
theorem d_T_init_59 : decode b_T_init 59 = .ok (.sipush 200, 3) := by decide +kernel
theorem d_T_init_62 : decode b_T_init 62 = .ok (.newarray .int, 2) := by decide +kernel
theorem d_T_init_64 : decode b_T_init 64 = .ok (.putfield 30, 3) := by decide +kernel
theorem d_T_init_67 : decode b_T_init 67 = .ok (.aload_n 0, 1) := by decide +kernel
theorem d_T_init_68 : decode b_T_init 68 = .ok (.sipush 200, 3) := by decide +kernel
theorem d_T_init_71 : decode b_T_init 71 = .ok (.newarray .boolean, 2) := by decide +kernel
theorem d_T_init_73 : decode b_T_init 73 = .ok (.putfield 33, 3) := by decide +kernel
theorem d_T_init_76 : decode b_T_init 76 = .ok (.return_, 1) := by decide +kernel
theorem d_T_clear_0 : decode b_T_clear 0 = .ok (.aload_n 0, 1) := by decide +kernel
theorem d_T_clear_1 : decode b_T_clear 1 = .ok (.iconst 0, 1) := by decide +kernel
theorem d_T_clear_2 : decode b_T_clear 2 = .ok (.putfield 37, 3) := by decide +kernel
theorem d_T_clear_5 : decode b_T_clear 5 = .ok (.aload_n 0, 1) := by decide +kernel
theorem d_T_clear_6 : decode b_T_clear 6 = .ok (.iconst 0, 1) := by decide +kernel
theorem d_T_clear_7 : decode b_T_clear 7 = .ok (.putfield 41, 3) := by decide +kernel
theorem d_T_clear_10 : decode b_T_clear 10 = .ok (.return_, 1) := by decide +kernel
theorem d_T_has_0 : decode b_T_has 0 = .ok (.iload_n 1, 1) := by decide +kernel
theorem d_T_has_1 : decode b_T_has 1 = .ok (.ifCond .lt 15, 3) := by decide +kernel
theorem d_T_has_4 : decode b_T_has 4 = .ok (.iload_n 1, 1) := by decide +kernel
theorem d_T_has_5 : decode b_T_has 5 = .ok (.aload_n 0, 1) := by decide +kernel
theorem d_T_has_6 : decode b_T_has 6 = .ok (.getfield 37, 3) := by decide +kernel
theorem d_T_has_9 : decode b_T_has 9 = .ok (.if_icmp .ge 7, 3) := by decide +kernel
theorem d_T_has_12 : decode b_T_has 12 = .ok (.iconst 1, 1) := by decide +kernel
theorem d_T_has_13 : decode b_T_has 13 = .ok (.goto 4, 3) := by decide +kernel
theorem d_T_has_16 : decode b_T_has 16 = .ok (.iconst 0, 1) := by decide +kernel
theorem d_T_has_17 : decode b_T_has 17 = .ok (.ireturn, 1) := by decide +kernel
theorem d_T_add_0 : decode b_T_add 0 = .ok (.aload_n 0, 1) := by decide +kernel
theorem d_T_add_1 : decode b_T_add 1 = .ok (.getfield 37, 3) := by decide +kernel
theorem d_T_add_4 : decode b_T_add 4 = .ok (.istore_n 3, 1) := by decide +kernel
theorem d_T_add_5 : decode b_T_add 5 = .ok (.aload_n 0, 1) := by decide +kernel
theorem d_T_add_6 : decode b_T_add 6 = .ok (.dup, 1) := by decide +kernel
theorem d_T_add_7 : decode b_T_add 7 = .ok (.getfield 37, 3) := by decide +kernel
theorem d_T_add_10 : decode b_T_add 10 = .ok (.iconst 1, 1) := by decide +kernel
theorem d_T_add_11 : decode b_T_add 11 = .ok (.iadd, 1) := by decide +kernel
theorem d_T_add_12 : decode b_T_add 12 = .ok (.putfield 37, 3) := by decide +kernel
theorem d_T_add_15 : decode b_T_add 15 = .ok (.aload_n 0, 1) := by decide +kernel
theorem d_T_add_16 : decode b_T_add 16 = .ok (.dup, 1) := by decide +kernel
theorem d_T_add_17 : decode b_T_add 17 = .ok (.getfield 41, 3) := by decide +kernel
theorem d_T_add_20 : decode b_T_add 20 = .ok (.iconst 1, 1) := by decide +kernel
theorem d_T_add_21 : decode b_T_add 21 = .ok (.iadd, 1) := by decide +kernel
theorem d_T_add_22 : decode b_T_add 22 = .ok (.putfield 41, 3) := by decide +kernel
theorem d_T_add_25 : decode b_T_add 25 = .ok (.aload_n 0, 1) := by decide +kernel
theorem d_T_add_26 : decode b_T_add 26 = .ok (.getfield 9, 3) := by decide +kernel
theorem d_T_add_29 : decode b_T_add 29 = .ok (.iload_n 3, 1) := by decide +kernel
theorem d_T_add_30 : decode b_T_add 30 = .ok (.iload_n 1, 1) := by decide +kernel
theorem d_T_add_31 : decode b_T_add 31 = .ok (.iastore, 1) := by decide +kernel
theorem d_T_add_32 : decode b_T_add 32 = .ok (.aload_n 0, 1) := by decide +kernel
theorem d_T_add_33 : decode b_T_add 33 = .ok (.getfield 15, 3) := by decide +kernel
theorem d_T_add_36 : decode b_T_add 36 = .ok (.iload_n 3, 1) := by decide +kernel
theorem d_T_add_37 : decode b_T_add 37 = .ok (.iconst (-1), 1) := by decide +kernel
theorem d_T_add_38 : decode b_T_add 38 = .ok (.iastore, 1) := by decide +kernel
theorem d_T_add_39 : decode b_T_add 39 = .ok (.aload_n 0, 1) := by decide +kernel
theorem d_T_add_40 : decode b_T_add 40 = .ok (.getfield 18, 3) := by decide +kernel
theorem d_T_add_43 : decode b_T_add 43 = .ok (.iload_n 3, 1) := by decide +kernel
theorem d_T_add_44 : decode b_T_add 44 = .ok (.iconst 0, 1) := by decide +kernel
theorem d_T_add_45 : decode b_T_add 45 = .ok (.iastore, 1) := by decide +kernel
theorem d_T_add_46 : decode b_T_add 46 = .ok (.aload_n 0, 1) := by decide +kernel
theorem d_T_add_47 : decode b_T_add 47 = .ok (.getfield 21, 3) := by decide +kernel
theorem d_T_add_50 : decode b_T_add 50 = .ok (.iload_n 3, 1) := by decide +kernel
theorem d_T_add_51 : decode b_T_add 51 = .ok (.iconst 0, 1) := by decide +kernel
theorem d_T_add_52 : decode b_T_add 52 = .ok (.iastore, 1) := by decide +kernel
theorem d_T_add_53 : decode b_T_add 53 = .ok (.aload_n 0, 1) := by decide +kernel
theorem d_T_add_54 : decode b_T_add 54 = .ok (.getfield 24, 3) := by decide +kernel
theorem d_T_add_57 : decode b_T_add 57 = .ok (.iload_n 3, 1) := by decide +kernel
theorem d_T_add_58 : decode b_T_add 58 = .ok (.iconst (-1), 1) := by decide +kernel
theorem d_T_add_59 : decode b_T_add 59 = .ok (.iastore, 1) := by decide +kernel
theorem d_T_add_60 : decode b_T_add 60 = .ok (.aload_n 0, 1) := by decide +kernel
theorem d_T_add_61 : decode b_T_add 61 = .ok (.getfield 27, 3) := by decide +kernel
theorem d_T_add_64 : decode b_T_add 64 = .ok (.iload_n 3, 1) := by decide +kernel
theorem d_T_add_65 : decode b_T_add 65 = .ok (.iconst 0, 1) := by decide +kernel
theorem d_T_add_66 : decode b_T_add 66 = .ok (.iastore, 1) := by decide +kernel
theorem d_T_add_67 : decode b_T_add 67 = .ok (.aload_n 0, 1) := by decide +kernel
theorem d_T_add_68 : decode b_T_add 68 = .ok (.getfield 30, 3) := by decide +kernel
theorem d_T_add_71 : decode b_T_add 71 = .ok (.iload_n 3, 1) := by decide +kernel
theorem d_T_add_72 : decode b_T_add 72 = .ok (.iconst (-1), 1) := by decide +kernel
theorem d_T_add_73 : decode b_T_add 73 = .ok (.iastore, 1) := by decide +kernel
theorem d_T_add_74 : decode b_T_add 74 = .ok (.aload_n 0, 1) := by decide +kernel
theorem d_T_add_75 : decode b_T_add 75 = .ok (.getfield 33, 3) := by decide +kernel
theorem d_T_add_78 : decode b_T_add 78 = .ok (.iload_n 3, 1) := by decide +kernel
theorem d_T_add_79 : decode b_T_add 79 = .ok (.iload_n 2, 1) := by decide +kernel
theorem d_T_add_80 : decode b_T_add 80 = .ok (.bastore, 1) := by decide +kernel
theorem d_T_add_81 : decode b_T_add 81 = .ok (.iload_n 3, 1) := by decide +kernel
theorem d_T_add_82 : decode b_T_add 82 = .ok (.ireturn, 1) := by decide +kernel
theorem d_T_setOut_0 : decode b_T_setOut 0 = .ok (.aload_n 0, 1) := by decide +kernel
theorem d_T_setOut_1 : decode b_T_setOut 1 = .ok (.getfield 27, 3) := by decide +kernel
theorem d_T_setOut_4 : decode b_T_setOut 4 = .ok (.iload_n 1, 1) := by decide +kernel
theorem d_T_setOut_5 : decode b_T_setOut 5 = .ok (.dup2, 1) := by decide +kernel
theorem d_T_setOut_6 : decode b_T_setOut 6 = .ok (.iaload, 1) := by decide +kernel
theorem d_T_setOut_7 : decode b_T_setOut 7 = .ok (.iconst 1, 1) := by decide +kernel
theorem d_T_setOut_8 : decode b_T_setOut 8 = .ok (.iadd, 1) := by decide +kernel
theorem d_T_setOut_9 : decode b_T_setOut 9 = .ok (.iastore, 1) := by decide +kernel
theorem d_T_setOut_10 : decode b_T_setOut 10 = .ok (.aload_n 0, 1) := by decide +kernel
theorem d_T_setOut_11 : decode b_T_setOut 11 = .ok (.getfield 18, 3) := by decide +kernel
theorem d_T_setOut_14 : decode b_T_setOut 14 = .ok (.iload_n 1, 1) := by decide +kernel
theorem d_T_setOut_15 : decode b_T_setOut 15 = .ok (.iconst 1, 1) := by decide +kernel
theorem d_T_setOut_16 : decode b_T_setOut 16 = .ok (.iastore, 1) := by decide +kernel
theorem d_T_setOut_17 : decode b_T_setOut 17 = .ok (.return_, 1) := by decide +kernel
theorem d_T_arrive_0 : decode b_T_arrive 0 = .ok (.aload_n 0, 1) := by decide +kernel
theorem d_T_arrive_1 : decode b_T_arrive 1 = .ok (.getfield 15, 3) := by decide +kernel
theorem d_T_arrive_4 : decode b_T_arrive 4 = .ok (.iload_n 1, 1) := by decide +kernel
theorem d_T_arrive_5 : decode b_T_arrive 5 = .ok (.iload_n 2, 1) := by decide +kernel
theorem d_T_arrive_6 : decode b_T_arrive 6 = .ok (.iastore, 1) := by decide +kernel
theorem d_T_arrive_7 : decode b_T_arrive 7 = .ok (.aload_n 0, 1) := by decide +kernel
theorem d_T_arrive_8 : decode b_T_arrive 8 = .ok (.getfield 18, 3) := by decide +kernel
theorem d_T_arrive_11 : decode b_T_arrive 11 = .ok (.iload_n 1, 1) := by decide +kernel
theorem d_T_arrive_12 : decode b_T_arrive 12 = .ok (.iconst 0, 1) := by decide +kernel
theorem d_T_arrive_13 : decode b_T_arrive 13 = .ok (.iastore, 1) := by decide +kernel
theorem d_T_arrive_14 : decode b_T_arrive 14 = .ok (.return_, 1) := by decide +kernel
theorem d_T_pass_0 : decode b_T_pass 0 = .ok (.aload_n 0, 1) := by decide +kernel
theorem d_T_pass_1 : decode b_T_pass 1 = .ok (.getfield 21, 3) := by decide +kernel
theorem d_T_pass_4 : decode b_T_pass 4 = .ok (.iload_n 1, 1) := by decide +kernel
theorem d_T_pass_5 : decode b_T_pass 5 = .ok (.dup2, 1) := by decide +kernel
theorem d_T_pass_6 : decode b_T_pass 6 = .ok (.iaload, 1) := by decide +kernel
theorem d_T_pass_7 : decode b_T_pass 7 = .ok (.iconst 1, 1) := by decide +kernel
theorem d_T_pass_8 : decode b_T_pass 8 = .ok (.iadd, 1) := by decide +kernel
theorem d_T_pass_9 : decode b_T_pass 9 = .ok (.iastore, 1) := by decide +kernel
theorem d_T_pass_10 : decode b_T_pass 10 = .ok (.aload_n 0, 1) := by decide +kernel
theorem d_T_pass_11 : decode b_T_pass 11 = .ok (.getfield 24, 3) := by decide +kernel
theorem d_T_pass_14 : decode b_T_pass 14 = .ok (.iload_n 1, 1) := by decide +kernel
theorem d_T_pass_15 : decode b_T_pass 15 = .ok (.iload_n 2, 1) := by decide +kernel
theorem d_T_pass_16 : decode b_T_pass 16 = .ok (.iastore, 1) := by decide +kernel
theorem d_T_pass_17 : decode b_T_pass 17 = .ok (.aload_n 0, 1) := by decide +kernel
theorem d_T_pass_18 : decode b_T_pass 18 = .ok (.getfield 9, 3) := by decide +kernel
theorem d_T_pass_21 : decode b_T_pass 21 = .ok (.iload_n 1, 1) := by decide +kernel
theorem d_T_pass_22 : decode b_T_pass 22 = .ok (.iload_n 3, 1) := by decide +kernel
theorem d_T_pass_23 : decode b_T_pass 23 = .ok (.iastore, 1) := by decide +kernel
theorem d_T_pass_24 : decode b_T_pass 24 = .ok (.return_, 1) := by decide +kernel
theorem d_T_finish_0 : decode b_T_finish 0 = .ok (.aload_n 0, 1) := by decide +kernel
theorem d_T_finish_1 : decode b_T_finish 1 = .ok (.getfield 30, 3) := by decide +kernel
theorem d_T_finish_4 : decode b_T_finish 4 = .ok (.iload_n 1, 1) := by decide +kernel
theorem d_T_finish_5 : decode b_T_finish 5 = .ok (.iload_n 2, 1) := by decide +kernel
theorem d_T_finish_6 : decode b_T_finish 6 = .ok (.iastore, 1) := by decide +kernel
theorem d_T_finish_7 : decode b_T_finish 7 = .ok (.aload_n 0, 1) := by decide +kernel
theorem d_T_finish_8 : decode b_T_finish 8 = .ok (.getfield 18, 3) := by decide +kernel
theorem d_T_finish_11 : decode b_T_finish 11 = .ok (.iload_n 1, 1) := by decide +kernel
theorem d_T_finish_12 : decode b_T_finish 12 = .ok (.iconst 2, 1) := by decide +kernel
theorem d_T_finish_13 : decode b_T_finish 13 = .ok (.iastore, 1) := by decide +kernel
theorem d_T_finish_14 : decode b_T_finish 14 = .ok (.aload_n 0, 1) := by decide +kernel
theorem d_T_finish_15 : decode b_T_finish 15 = .ok (.dup, 1) := by decide +kernel
theorem d_T_finish_16 : decode b_T_finish 16 = .ok (.getfield 41, 3) := by decide +kernel
theorem d_T_finish_19 : decode b_T_finish 19 = .ok (.iconst 1, 1) := by decide +kernel
theorem d_T_finish_20 : decode b_T_finish 20 = .ok (.isub, 1) := by decide +kernel
theorem d_T_finish_21 : decode b_T_finish 21 = .ok (.putfield 41, 3) := by decide +kernel
theorem d_T_finish_24 : decode b_T_finish 24 = .ok (.return_, 1) := by decide +kernel
