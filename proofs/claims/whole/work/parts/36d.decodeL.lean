abbrev b_L_law : ByteArray := code
theorem d_L_build_0 : decode b_L_build 0 = .ok (.aload_n 3, 1) := by decide +kernel
theorem d_L_build_1 : decode b_L_build 1 = .ok (.iconst 0, 1) := by decide +kernel
theorem d_L_build_2 : decode b_L_build 2 = .ok (.aload_n 0, 1) := by decide +kernel
theorem d_L_build_3 : decode b_L_build 3 = .ok (.iload_n 1, 1) := by decide +kernel
theorem d_L_build_4 : decode b_L_build 4 = .ok (.iload_n 2, 1) := by decide +kernel
theorem d_L_build_5 : decode b_L_build 5 = .ok (.invokevirtual 7, 3) := by decide +kernel
theorem d_L_build_8 : decode b_L_build 8 = .ok (.i2l, 1) := by decide +kernel
theorem d_L_build_9 : decode b_L_build 9 = .ok (.lastore, 1) := by decide +kernel
theorem d_L_build_10 : decode b_L_build 10 = .ok (.goto 7, 3) := by decide +kernel
theorem d_L_build_13 : decode b_L_build 13 = .ok (.astore 4, 2) := by decide +kernel
theorem d_L_build_15 : decode b_L_build 15 = .ok (.iconst 1, 1) := by decide +kernel
theorem d_L_build_16 : decode b_L_build 16 = .ok (.ireturn, 1) := by decide +kernel
theorem d_L_build_17 : decode b_L_build 17 = .ok (.iconst 0, 1) := by decide +kernel
theorem d_L_build_18 : decode b_L_build 18 = .ok (.ireturn, 1) := by decide +kernel
theorem d_L_balancer_0 : decode b_L_balancer 0 = .ok (.aload_n 3, 1) := by decide +kernel
theorem d_L_balancer_1 : decode b_L_balancer 1 = .ok (.iconst 0, 1) := by decide +kernel
theorem d_L_balancer_2 : decode b_L_balancer 2 = .ok (.aload_n 0, 1) := by decide +kernel
theorem d_L_balancer_3 : decode b_L_balancer 3 = .ok (.iload_n 1, 1) := by decide +kernel
theorem d_L_balancer_4 : decode b_L_balancer 4 = .ok (.iload_n 2, 1) := by decide +kernel
theorem d_L_balancer_5 : decode b_L_balancer 5 = .ok (.invokevirtual 15, 3) := by decide +kernel
theorem d_L_balancer_8 : decode b_L_balancer 8 = .ok (.i2l, 1) := by decide +kernel
theorem d_L_balancer_9 : decode b_L_balancer 9 = .ok (.lastore, 1) := by decide +kernel
theorem d_L_balancer_10 : decode b_L_balancer 10 = .ok (.goto 11, 3) := by decide +kernel
theorem d_L_balancer_13 : decode b_L_balancer 13 = .ok (.astore 4, 2) := by decide +kernel
theorem d_L_balancer_15 : decode b_L_balancer 15 = .ok (.iconst 1, 1) := by decide +kernel
theorem d_L_balancer_16 : decode b_L_balancer 16 = .ok (.ireturn, 1) := by decide +kernel
theorem d_L_balancer_17 : decode b_L_balancer 17 = .ok (.astore 4, 2) := by decide +kernel
theorem d_L_balancer_19 : decode b_L_balancer 19 = .ok (.iconst 2, 1) := by decide +kernel
theorem d_L_balancer_20 : decode b_L_balancer 20 = .ok (.ireturn, 1) := by decide +kernel
theorem d_L_balancer_21 : decode b_L_balancer 21 = .ok (.iconst 0, 1) := by decide +kernel
theorem d_L_balancer_22 : decode b_L_balancer 22 = .ok (.ireturn, 1) := by decide +kernel
theorem d_L_exit_0 : decode b_L_exit 0 = .ok (.aload_n 3, 1) := by decide +kernel
theorem d_L_exit_1 : decode b_L_exit 1 = .ok (.iconst 0, 1) := by decide +kernel
theorem d_L_exit_2 : decode b_L_exit 2 = .ok (.aload_n 0, 1) := by decide +kernel
theorem d_L_exit_3 : decode b_L_exit 3 = .ok (.iload_n 1, 1) := by decide +kernel
theorem d_L_exit_4 : decode b_L_exit 4 = .ok (.iload_n 2, 1) := by decide +kernel
theorem d_L_exit_5 : decode b_L_exit 5 = .ok (.invokevirtual 20, 3) := by decide +kernel
theorem d_L_exit_8 : decode b_L_exit 8 = .ok (.i2l, 1) := by decide +kernel
theorem d_L_exit_9 : decode b_L_exit 9 = .ok (.lastore, 1) := by decide +kernel
theorem d_L_exit_10 : decode b_L_exit 10 = .ok (.goto 11, 3) := by decide +kernel
theorem d_L_exit_13 : decode b_L_exit 13 = .ok (.astore 4, 2) := by decide +kernel
theorem d_L_exit_15 : decode b_L_exit 15 = .ok (.iconst 1, 1) := by decide +kernel
theorem d_L_exit_16 : decode b_L_exit 16 = .ok (.ireturn, 1) := by decide +kernel
theorem d_L_exit_17 : decode b_L_exit 17 = .ok (.astore 4, 2) := by decide +kernel
theorem d_L_exit_19 : decode b_L_exit 19 = .ok (.iconst 2, 1) := by decide +kernel
theorem d_L_exit_20 : decode b_L_exit 20 = .ok (.ireturn, 1) := by decide +kernel
theorem d_L_exit_21 : decode b_L_exit 21 = .ok (.iconst 0, 1) := by decide +kernel
theorem d_L_exit_22 : decode b_L_exit 22 = .ok (.ireturn, 1) := by decide +kernel
theorem d_L_enter_0 : decode b_L_enter 0 = .ok (.aload_n 3, 1) := by decide +kernel
theorem d_L_enter_1 : decode b_L_enter 1 = .ok (.iconst 0, 1) := by decide +kernel
theorem d_L_enter_2 : decode b_L_enter 2 = .ok (.aload_n 0, 1) := by decide +kernel
theorem d_L_enter_3 : decode b_L_enter 3 = .ok (.iload_n 1, 1) := by decide +kernel
theorem d_L_enter_4 : decode b_L_enter 4 = .ok (.iload_n 2, 1) := by decide +kernel
theorem d_L_enter_5 : decode b_L_enter 5 = .ok (.invokevirtual 23, 3) := by decide +kernel
theorem d_L_enter_8 : decode b_L_enter 8 = .ok (.i2l, 1) := by decide +kernel
theorem d_L_enter_9 : decode b_L_enter 9 = .ok (.lastore, 1) := by decide +kernel
theorem d_L_enter_10 : decode b_L_enter 10 = .ok (.goto 11, 3) := by decide +kernel
theorem d_L_enter_13 : decode b_L_enter 13 = .ok (.astore 4, 2) := by decide +kernel
theorem d_L_enter_15 : decode b_L_enter 15 = .ok (.iconst 1, 1) := by decide +kernel
theorem d_L_enter_16 : decode b_L_enter 16 = .ok (.ireturn, 1) := by decide +kernel
theorem d_L_enter_17 : decode b_L_enter 17 = .ok (.astore 4, 2) := by decide +kernel
theorem d_L_enter_19 : decode b_L_enter 19 = .ok (.iconst 2, 1) := by decide +kernel
theorem d_L_enter_20 : decode b_L_enter 20 = .ok (.ireturn, 1) := by decide +kernel
theorem d_L_enter_21 : decode b_L_enter 21 = .ok (.iconst 0, 1) := by decide +kernel
theorem d_L_enter_22 : decode b_L_enter 22 = .ok (.ireturn, 1) := by decide +kernel
theorem d_L_move_0 : decode b_L_move 0 = .ok (.aload_n 2, 1) := by decide +kernel
theorem d_L_move_1 : decode b_L_move 1 = .ok (.iconst 0, 1) := by decide +kernel
theorem d_L_move_2 : decode b_L_move 2 = .ok (.aload_n 0, 1) := by decide +kernel
theorem d_L_move_3 : decode b_L_move 3 = .ok (.iload_n 1, 1) := by decide +kernel
theorem d_L_move_4 : decode b_L_move 4 = .ok (.invokevirtual 29, 3) := by decide +kernel
theorem d_L_move_7 : decode b_L_move 7 = .ok (.i2l, 1) := by decide +kernel
theorem d_L_move_8 : decode b_L_move 8 = .ok (.lastore, 1) := by decide +kernel
theorem d_L_move_9 : decode b_L_move 9 = .ok (.goto 9, 3) := by decide +kernel
theorem d_L_move_12 : decode b_L_move 12 = .ok (.astore_n 3, 1) := by decide +kernel
theorem d_L_move_13 : decode b_L_move 13 = .ok (.iconst 1, 1) := by decide +kernel
theorem d_L_move_14 : decode b_L_move 14 = .ok (.ireturn, 1) := by decide +kernel
theorem d_L_move_15 : decode b_L_move 15 = .ok (.astore_n 3, 1) := by decide +kernel
theorem d_L_move_16 : decode b_L_move 16 = .ok (.iconst 2, 1) := by decide +kernel
theorem d_L_move_17 : decode b_L_move 17 = .ok (.ireturn, 1) := by decide +kernel
theorem d_L_move_18 : decode b_L_move 18 = .ok (.iconst 0, 1) := by decide +kernel
theorem d_L_move_19 : decode b_L_move 19 = .ok (.ireturn, 1) := by decide +kernel
theorem d_L_deliver_0 : decode b_L_deliver 0 = .ok (.aload_n 2, 1) := by decide +kernel
theorem d_L_deliver_1 : decode b_L_deliver 1 = .ok (.iconst 0, 1) := by decide +kernel
theorem d_L_deliver_2 : decode b_L_deliver 2 = .ok (.aload_n 0, 1) := by decide +kernel
theorem d_L_deliver_3 : decode b_L_deliver 3 = .ok (.iload_n 1, 1) := by decide +kernel
theorem d_L_deliver_4 : decode b_L_deliver 4 = .ok (.invokevirtual 33, 3) := by decide +kernel
theorem d_L_deliver_7 : decode b_L_deliver 7 = .ok (.i2l, 1) := by decide +kernel
theorem d_L_deliver_8 : decode b_L_deliver 8 = .ok (.lastore, 1) := by decide +kernel
theorem d_L_deliver_9 : decode b_L_deliver 9 = .ok (.goto 6, 3) := by decide +kernel
theorem d_L_deliver_12 : decode b_L_deliver 12 = .ok (.astore_n 3, 1) := by decide +kernel
theorem d_L_deliver_13 : decode b_L_deliver 13 = .ok (.iconst 1, 1) := by decide +kernel
theorem d_L_deliver_14 : decode b_L_deliver 14 = .ok (.ireturn, 1) := by decide +kernel
theorem d_L_deliver_15 : decode b_L_deliver 15 = .ok (.iconst 0, 1) := by decide +kernel
theorem d_L_deliver_16 : decode b_L_deliver 16 = .ok (.ireturn, 1) := by decide +kernel
theorem d_L_lose_0 : decode b_L_lose 0 = .ok (.aload_n 0, 1) := by decide +kernel
theorem d_L_lose_1 : decode b_L_lose 1 = .ok (.iload_n 1, 1) := by decide +kernel
theorem d_L_lose_2 : decode b_L_lose 2 = .ok (.invokevirtual 36, 3) := by decide +kernel
theorem d_L_lose_5 : decode b_L_lose 5 = .ok (.goto 6, 3) := by decide +kernel
theorem d_L_lose_8 : decode b_L_lose 8 = .ok (.astore_n 2, 1) := by decide +kernel
theorem d_L_lose_9 : decode b_L_lose 9 = .ok (.iconst 1, 1) := by decide +kernel
theorem d_L_lose_10 : decode b_L_lose 10 = .ok (.ireturn, 1) := by decide +kernel
theorem d_L_lose_11 : decode b_L_lose 11 = .ok (.iconst 0, 1) := by decide +kernel
theorem d_L_lose_12 : decode b_L_lose 12 = .ok (.ireturn, 1) := by decide +kernel
theorem d_L_twin_0 : decode b_L_twin 0 = .ok (.aload_n 0, 1) := by decide +kernel
theorem d_L_twin_1 : decode b_L_twin 1 = .ok (.iload_n 1, 1) := by decide +kernel
theorem d_L_twin_2 : decode b_L_twin 2 = .ok (.invokevirtual 40, 3) := by decide +kernel
theorem d_L_twin_5 : decode b_L_twin 5 = .ok (.goto 9, 3) := by decide +kernel
theorem d_L_twin_8 : decode b_L_twin 8 = .ok (.astore_n 2, 1) := by decide +kernel
theorem d_L_twin_9 : decode b_L_twin 9 = .ok (.iconst 1, 1) := by decide +kernel
theorem d_L_twin_10 : decode b_L_twin 10 = .ok (.ireturn, 1) := by decide +kernel
theorem d_L_twin_11 : decode b_L_twin 11 = .ok (.astore_n 2, 1) := by decide +kernel
theorem d_L_twin_12 : decode b_L_twin 12 = .ok (.iconst 2, 1) := by decide +kernel
theorem d_L_twin_13 : decode b_L_twin 13 = .ok (.ireturn, 1) := by decide +kernel
theorem d_L_twin_14 : decode b_L_twin 14 = .ok (.iconst 0, 1) := by decide +kernel
theorem d_L_twin_15 : decode b_L_twin 15 = .ok (.ireturn, 1) := by decide +kernel
theorem d_L_letter_0 : decode b_L_letter 0 = .ok (.aload_n 3, 1) := by decide +kernel
theorem d_L_letter_1 : decode b_L_letter 1 = .ok (.iconst 0, 1) := by decide +kernel
theorem d_L_letter_2 : decode b_L_letter 2 = .ok (.aload_n 0, 1) := by decide +kernel
theorem d_L_letter_3 : decode b_L_letter 3 = .ok (.iload_n 1, 1) := by decide +kernel
theorem d_L_letter_4 : decode b_L_letter 4 = .ok (.iload_n 2, 1) := by decide +kernel
theorem d_L_letter_5 : decode b_L_letter 5 = .ok (.invokevirtual 43, 3) := by decide +kernel
theorem d_L_letter_8 : decode b_L_letter 8 = .ok (.i2l, 1) := by decide +kernel
theorem d_L_letter_9 : decode b_L_letter 9 = .ok (.lastore, 1) := by decide +kernel
theorem d_L_letter_10 : decode b_L_letter 10 = .ok (.goto 11, 3) := by decide +kernel
theorem d_L_letter_13 : decode b_L_letter 13 = .ok (.astore 4, 2) := by decide +kernel
theorem d_L_letter_15 : decode b_L_letter 15 = .ok (.iconst 1, 1) := by decide +kernel
theorem d_L_letter_16 : decode b_L_letter 16 = .ok (.ireturn, 1) := by decide +kernel
theorem d_L_letter_17 : decode b_L_letter 17 = .ok (.astore 4, 2) := by decide +kernel
theorem d_L_letter_19 : decode b_L_letter 19 = .ok (.iconst 2, 1) := by decide +kernel
theorem d_L_letter_20 : decode b_L_letter 20 = .ok (.ireturn, 1) := by decide +kernel
theorem d_L_letter_21 : decode b_L_letter 21 = .ok (.iconst 0, 1) := by decide +kernel
theorem d_L_letter_22 : decode b_L_letter 22 = .ok (.ireturn, 1) := by decide +kernel
theorem d_L_station_0 : decode b_L_station 0 = .ok (.aload_n 0, 1) := by decide +kernel
theorem d_L_station_1 : decode b_L_station 1 = .ok (.iload_n 1, 1) := by decide +kernel
theorem d_L_station_2 : decode b_L_station 2 = .ok (.iload_n 2, 1) := by decide +kernel
theorem d_L_station_3 : decode b_L_station 3 = .ok (.invokevirtual 46, 3) := by decide +kernel
theorem d_L_station_6 : decode b_L_station 6 = .ok (.goto 6, 3) := by decide +kernel
theorem d_L_station_9 : decode b_L_station 9 = .ok (.astore_n 3, 1) := by decide +kernel
theorem d_L_station_10 : decode b_L_station 10 = .ok (.iconst 1, 1) := by decide +kernel
theorem d_L_station_11 : decode b_L_station 11 = .ok (.ireturn, 1) := by decide +kernel
theorem d_L_station_12 : decode b_L_station 12 = .ok (.iconst 0, 1) := by decide +kernel
theorem d_L_station_13 : decode b_L_station 13 = .ok (.ireturn, 1) := by decide +kernel
theorem d_L_token_0 : decode b_L_token 0 = .ok (.aload_n 3, 1) := by decide +kernel
theorem d_L_token_1 : decode b_L_token 1 = .ok (.iconst 0, 1) := by decide +kernel
theorem d_L_token_2 : decode b_L_token 2 = .ok (.aload_n 0, 1) := by decide +kernel
theorem d_L_token_3 : decode b_L_token 3 = .ok (.iload_n 1, 1) := by decide +kernel
theorem d_L_token_4 : decode b_L_token 4 = .ok (.iload_n 2, 1) := by decide +kernel
theorem d_L_token_5 : decode b_L_token 5 = .ok (.invokevirtual 50, 3) := by decide +kernel
theorem d_L_token_8 : decode b_L_token 8 = .ok (.i2l, 1) := by decide +kernel
theorem d_L_token_9 : decode b_L_token 9 = .ok (.lastore, 1) := by decide +kernel
theorem d_L_token_10 : decode b_L_token 10 = .ok (.goto 7, 3) := by decide +kernel
theorem d_L_token_13 : decode b_L_token 13 = .ok (.astore 4, 2) := by decide +kernel
theorem d_L_token_15 : decode b_L_token 15 = .ok (.iconst 1, 1) := by decide +kernel
theorem d_L_token_16 : decode b_L_token 16 = .ok (.ireturn, 1) := by decide +kernel
theorem d_L_token_17 : decode b_L_token 17 = .ok (.iconst 0, 1) := by decide +kernel
theorem d_L_token_18 : decode b_L_token 18 = .ok (.ireturn, 1) := by decide +kernel
theorem d_L_about_0 : decode b_L_about 0 = .ok (.aload_n 2, 1) := by decide +kernel
theorem d_L_about_1 : decode b_L_about 1 = .ok (.iconst 0, 1) := by decide +kernel
theorem d_L_about_2 : decode b_L_about 2 = .ok (.aload_n 0, 1) := by decide +kernel
theorem d_L_about_3 : decode b_L_about 3 = .ok (.iload_n 1, 1) := by decide +kernel
theorem d_L_about_4 : decode b_L_about 4 = .ok (.invokevirtual 53, 3) := by decide +kernel
theorem d_L_about_7 : decode b_L_about 7 = .ok (.i2l, 1) := by decide +kernel
theorem d_L_about_8 : decode b_L_about 8 = .ok (.lastore, 1) := by decide +kernel
theorem d_L_about_9 : decode b_L_about 9 = .ok (.goto 6, 3) := by decide +kernel
theorem d_L_about_12 : decode b_L_about 12 = .ok (.astore_n 3, 1) := by decide +kernel
theorem d_L_about_13 : decode b_L_about 13 = .ok (.iconst 1, 1) := by decide +kernel
theorem d_L_about_14 : decode b_L_about 14 = .ok (.ireturn, 1) := by decide +kernel
theorem d_L_about_15 : decode b_L_about 15 = .ok (.iconst 0, 1) := by decide +kernel
theorem d_L_about_16 : decode b_L_about 16 = .ok (.ireturn, 1) := by decide +kernel
theorem d_L_settle_0 : decode b_L_settle 0 = .ok (.aload_n 2, 1) := by decide +kernel
theorem d_L_settle_1 : decode b_L_settle 1 = .ok (.iconst 0, 1) := by decide +kernel
theorem d_L_settle_2 : decode b_L_settle 2 = .ok (.aload_n 0, 1) := by decide +kernel
theorem d_L_settle_3 : decode b_L_settle 3 = .ok (.iload_n 1, 1) := by decide +kernel
theorem d_L_settle_4 : decode b_L_settle 4 = .ok (.invokevirtual 56, 3) := by decide +kernel
theorem d_L_settle_7 : decode b_L_settle 7 = .ok (.i2l, 1) := by decide +kernel
theorem d_L_settle_8 : decode b_L_settle 8 = .ok (.lastore, 1) := by decide +kernel
theorem d_L_settle_9 : decode b_L_settle 9 = .ok (.goto 6, 3) := by decide +kernel
theorem d_L_settle_12 : decode b_L_settle 12 = .ok (.astore_n 3, 1) := by decide +kernel
theorem d_L_settle_13 : decode b_L_settle 13 = .ok (.iconst 1, 1) := by decide +kernel
theorem d_L_settle_14 : decode b_L_settle 14 = .ok (.ireturn, 1) := by decide +kernel
theorem d_L_settle_15 : decode b_L_settle 15 = .ok (.iconst 0, 1) := by decide +kernel
theorem d_L_settle_16 : decode b_L_settle 16 = .ok (.ireturn, 1) := by decide +kernel
theorem d_L_law_0 : decode b_L_law 0 = .ok (.new 8, 3) := by decide +kernel
theorem d_L_law_3 : decode b_L_law 3 = .ok (.dup, 1) := by decide +kernel
theorem d_L_law_4 : decode b_L_law 4 = .ok (.invokespecial 59, 3) := by decide +kernel
theorem d_L_law_7 : decode b_L_law 7 = .ok (.astore_n 1, 1) := by decide +kernel
theorem d_L_law_8 : decode b_L_law 8 = .ok (.new 60, 3) := by decide +kernel
theorem d_L_law_11 : decode b_L_law 11 = .ok (.dup, 1) := by decide +kernel
theorem d_L_law_12 : decode b_L_law 12 = .ok (.invokespecial 62, 3) := by decide +kernel
theorem d_L_law_15 : decode b_L_law 15 = .ok (.astore_n 2, 1) := by decide +kernel
theorem d_L_law_16 : decode b_L_law 16 = .ok (.iconst 1, 1) := by decide +kernel
theorem d_L_law_17 : decode b_L_law 17 = .ok (.newarray .long, 2) := by decide +kernel
theorem d_L_law_19 : decode b_L_law 19 = .ok (.astore_n 3, 1) := by decide +kernel
theorem d_L_law_20 : decode b_L_law 20 = .ok (.iconst 0, 1) := by decide +kernel
theorem d_L_law_21 : decode b_L_law 21 = .ok (.istore 4, 2) := by decide +kernel
theorem d_L_law_23 : decode b_L_law 23 = .ok (.iload 4, 2) := by decide +kernel
theorem d_L_law_25 : decode b_L_law 25 = .ok (.aload_n 0, 1) := by decide +kernel
theorem d_L_law_26 : decode b_L_law 26 = .ok (.arraylength, 1) := by decide +kernel
theorem d_L_law_27 : decode b_L_law 27 = .ok (.iconst 3, 1) := by decide +kernel
theorem d_L_law_28 : decode b_L_law 28 = .ok (.isub, 1) := by decide +kernel
theorem d_L_law_29 : decode b_L_law 29 = .ok (.if_icmp .gt 882, 3) := by decide +kernel
theorem d_L_law_32 : decode b_L_law 32 = .ok (.aload_n 0, 1) := by decide +kernel
theorem d_L_law_33 : decode b_L_law 33 = .ok (.iload 4, 2) := by decide +kernel
theorem d_L_law_35 : decode b_L_law 35 = .ok (.iaload, 1) := by decide +kernel
theorem d_L_law_36 : decode b_L_law 36 = .ok (.bipush 15, 2) := by decide +kernel
theorem d_L_law_38 : decode b_L_law 38 = .ok (.iand, 1) := by decide +kernel
theorem d_L_law_39 : decode b_L_law 39 = .ok (.tableswitch 866 0 13 #[69, 137, 205, 273, 357, 413, 469, 505, 541, 609, 622, 686, 754, 810], 69) := by decide +kernel
theorem d_L_law_108 : decode b_L_law 108 = .ok (.aload_n 1, 1) := by decide +kernel
theorem d_L_law_109 : decode b_L_law 109 = .ok (.aload_n 0, 1) := by decide +kernel
theorem d_L_law_110 : decode b_L_law 110 = .ok (.iload 4, 2) := by decide +kernel
theorem d_L_law_112 : decode b_L_law 112 = .ok (.iconst 1, 1) := by decide +kernel
theorem d_L_law_113 : decode b_L_law 113 = .ok (.iadd, 1) := by decide +kernel
theorem d_L_law_114 : decode b_L_law 114 = .ok (.iaload, 1) := by decide +kernel
theorem d_L_law_115 : decode b_L_law 115 = .ok (.aload_n 0, 1) := by decide +kernel
theorem d_L_law_116 : decode b_L_law 116 = .ok (.iload 4, 2) := by decide +kernel
theorem d_L_law_118 : decode b_L_law 118 = .ok (.iconst 2, 1) := by decide +kernel
theorem d_L_law_119 : decode b_L_law 119 = .ok (.iadd, 1) := by decide +kernel
theorem d_L_law_120 : decode b_L_law 120 = .ok (.iaload, 1) := by decide +kernel
theorem d_L_law_121 : decode b_L_law 121 = .ok (.aload_n 3, 1) := by decide +kernel
theorem d_L_law_122 : decode b_L_law 122 = .ok (.invokestatic 63, 3) := by decide +kernel
theorem d_L_law_125 : decode b_L_law 125 = .ok (.istore 5, 2) := by decide +kernel
theorem d_L_law_127 : decode b_L_law 127 = .ok (.aload_n 2, 1) := by decide +kernel
theorem d_L_law_128 : decode b_L_law 128 = .ok (.aload_n 0, 1) := by decide +kernel
theorem d_L_law_129 : decode b_L_law 129 = .ok (.iload 4, 2) := by decide +kernel
theorem d_L_law_131 : decode b_L_law 131 = .ok (.iconst 1, 1) := by decide +kernel
theorem d_L_law_132 : decode b_L_law 132 = .ok (.iadd, 1) := by decide +kernel
theorem d_L_law_133 : decode b_L_law 133 = .ok (.iaload, 1) := by decide +kernel
theorem d_L_law_134 : decode b_L_law 134 = .ok (.aload_n 0, 1) := by decide +kernel
theorem d_L_law_135 : decode b_L_law 135 = .ok (.iload 4, 2) := by decide +kernel
theorem d_L_law_137 : decode b_L_law 137 = .ok (.iconst 2, 1) := by decide +kernel
theorem d_L_law_138 : decode b_L_law 138 = .ok (.iadd, 1) := by decide +kernel
theorem d_L_law_139 : decode b_L_law 139 = .ok (.iaload, 1) := by decide +kernel
theorem d_L_law_140 : decode b_L_law 140 = .ok (.invokevirtual 68, 3) := by decide +kernel
theorem d_L_law_143 : decode b_L_law 143 = .ok (.istore 6, 2) := by decide +kernel
theorem d_L_law_145 : decode b_L_law 145 = .ok (.aload_n 2, 1) := by decide +kernel
theorem d_L_law_146 : decode b_L_law 146 = .ok (.invokevirtual 69, 3) := by decide +kernel
theorem d_L_law_149 : decode b_L_law 149 = .ok (.iload 5, 2) := by decide +kernel
theorem d_L_law_151 : decode b_L_law 151 = .ok (.if_icmp .eq 5, 3) := by decide +kernel
theorem d_L_law_154 : decode b_L_law 154 = .ok (.iconst 0, 1) := by decide +kernel
theorem d_L_law_155 : decode b_L_law 155 = .ok (.ireturn, 1) := by decide +kernel
theorem d_L_law_156 : decode b_L_law 156 = .ok (.iload 5, 2) := by decide +kernel
theorem d_L_law_158 : decode b_L_law 158 = .ok (.ifCond .ne 15, 3) := by decide +kernel
theorem d_L_law_161 : decode b_L_law 161 = .ok (.aload_n 3, 1) := by decide +kernel
theorem d_L_law_162 : decode b_L_law 162 = .ok (.iconst 0, 1) := by decide +kernel
theorem d_L_law_163 : decode b_L_law 163 = .ok (.laload, 1) := by decide +kernel
theorem d_L_law_164 : decode b_L_law 164 = .ok (.iload 6, 2) := by decide +kernel
theorem d_L_law_166 : decode b_L_law 166 = .ok (.i2l, 1) := by decide +kernel
theorem d_L_law_167 : decode b_L_law 167 = .ok (.lcmp, 1) := by decide +kernel
theorem d_L_law_168 : decode b_L_law 168 = .ok (.ifCond .eq 5, 3) := by decide +kernel
theorem d_L_law_171 : decode b_L_law 171 = .ok (.iconst 0, 1) := by decide +kernel
theorem d_L_law_172 : decode b_L_law 172 = .ok (.ireturn, 1) := by decide +kernel
theorem d_L_law_173 : decode b_L_law 173 = .ok (.goto 732, 3) := by decide +kernel
theorem d_L_law_176 : decode b_L_law 176 = .ok (.aload_n 1, 1) := by decide +kernel
theorem d_L_law_177 : decode b_L_law 177 = .ok (.aload_n 0, 1) := by decide +kernel
theorem d_L_law_178 : decode b_L_law 178 = .ok (.iload 4, 2) := by decide +kernel
theorem d_L_law_180 : decode b_L_law 180 = .ok (.iconst 1, 1) := by decide +kernel
theorem d_L_law_181 : decode b_L_law 181 = .ok (.iadd, 1) := by decide +kernel
theorem d_L_law_182 : decode b_L_law 182 = .ok (.iaload, 1) := by decide +kernel
theorem d_L_law_183 : decode b_L_law 183 = .ok (.aload_n 0, 1) := by decide +kernel
theorem d_L_law_184 : decode b_L_law 184 = .ok (.iload 4, 2) := by decide +kernel
theorem d_L_law_186 : decode b_L_law 186 = .ok (.iconst 2, 1) := by decide +kernel
theorem d_L_law_187 : decode b_L_law 187 = .ok (.iadd, 1) := by decide +kernel
theorem d_L_law_188 : decode b_L_law 188 = .ok (.iaload, 1) := by decide +kernel
theorem d_L_law_189 : decode b_L_law 189 = .ok (.aload_n 3, 1) := by decide +kernel
theorem d_L_law_190 : decode b_L_law 190 = .ok (.invokestatic 73, 3) := by decide +kernel
theorem d_L_law_193 : decode b_L_law 193 = .ok (.istore 5, 2) := by decide +kernel
theorem d_L_law_195 : decode b_L_law 195 = .ok (.aload_n 2, 1) := by decide +kernel
theorem d_L_law_196 : decode b_L_law 196 = .ok (.aload_n 0, 1) := by decide +kernel
theorem d_L_law_197 : decode b_L_law 197 = .ok (.iload 4, 2) := by decide +kernel
theorem d_L_law_199 : decode b_L_law 199 = .ok (.iconst 1, 1) := by decide +kernel
theorem d_L_law_200 : decode b_L_law 200 = .ok (.iadd, 1) := by decide +kernel
theorem d_L_law_201 : decode b_L_law 201 = .ok (.iaload, 1) := by decide +kernel
theorem d_L_law_202 : decode b_L_law 202 = .ok (.aload_n 0, 1) := by decide +kernel
theorem d_L_law_203 : decode b_L_law 203 = .ok (.iload 4, 2) := by decide +kernel
theorem d_L_law_205 : decode b_L_law 205 = .ok (.iconst 2, 1) := by decide +kernel
theorem d_L_law_206 : decode b_L_law 206 = .ok (.iadd, 1) := by decide +kernel
theorem d_L_law_207 : decode b_L_law 207 = .ok (.iaload, 1) := by decide +kernel
theorem d_L_law_208 : decode b_L_law 208 = .ok (.invokevirtual 75, 3) := by decide +kernel
theorem d_L_law_211 : decode b_L_law 211 = .ok (.istore 6, 2) := by decide +kernel
theorem d_L_law_213 : decode b_L_law 213 = .ok (.aload_n 2, 1) := by decide +kernel
theorem d_L_law_214 : decode b_L_law 214 = .ok (.invokevirtual 69, 3) := by decide +kernel
theorem d_L_law_217 : decode b_L_law 217 = .ok (.iload 5, 2) := by decide +kernel
theorem d_L_law_219 : decode b_L_law 219 = .ok (.if_icmp .eq 5, 3) := by decide +kernel
theorem d_L_law_222 : decode b_L_law 222 = .ok (.iconst 0, 1) := by decide +kernel
theorem d_L_law_223 : decode b_L_law 223 = .ok (.ireturn, 1) := by decide +kernel
theorem d_L_law_224 : decode b_L_law 224 = .ok (.iload 5, 2) := by decide +kernel
theorem d_L_law_226 : decode b_L_law 226 = .ok (.ifCond .ne 15, 3) := by decide +kernel
theorem d_L_law_229 : decode b_L_law 229 = .ok (.aload_n 3, 1) := by decide +kernel
theorem d_L_law_230 : decode b_L_law 230 = .ok (.iconst 0, 1) := by decide +kernel
theorem d_L_law_231 : decode b_L_law 231 = .ok (.laload, 1) := by decide +kernel
theorem d_L_law_232 : decode b_L_law 232 = .ok (.iload 6, 2) := by decide +kernel
theorem d_L_law_234 : decode b_L_law 234 = .ok (.i2l, 1) := by decide +kernel
theorem d_L_law_235 : decode b_L_law 235 = .ok (.lcmp, 1) := by decide +kernel
theorem d_L_law_236 : decode b_L_law 236 = .ok (.ifCond .eq 5, 3) := by decide +kernel
theorem d_L_law_239 : decode b_L_law 239 = .ok (.iconst 0, 1) := by decide +kernel
theorem d_L_law_240 : decode b_L_law 240 = .ok (.ireturn, 1) := by decide +kernel
theorem d_L_law_241 : decode b_L_law 241 = .ok (.goto 664, 3) := by decide +kernel
theorem d_L_law_244 : decode b_L_law 244 = .ok (.aload_n 1, 1) := by decide +kernel
theorem d_L_law_245 : decode b_L_law 245 = .ok (.aload_n 0, 1) := by decide +kernel
theorem d_L_law_246 : decode b_L_law 246 = .ok (.iload 4, 2) := by decide +kernel
theorem d_L_law_248 : decode b_L_law 248 = .ok (.iconst 1, 1) := by decide +kernel
theorem d_L_law_249 : decode b_L_law 249 = .ok (.iadd, 1) := by decide +kernel
theorem d_L_law_250 : decode b_L_law 250 = .ok (.iaload, 1) := by decide +kernel
theorem d_L_law_251 : decode b_L_law 251 = .ok (.aload_n 0, 1) := by decide +kernel
theorem d_L_law_252 : decode b_L_law 252 = .ok (.iload 4, 2) := by decide +kernel
theorem d_L_law_254 : decode b_L_law 254 = .ok (.iconst 2, 1) := by decide +kernel
theorem d_L_law_255 : decode b_L_law 255 = .ok (.iadd, 1) := by decide +kernel
theorem d_L_law_256 : decode b_L_law 256 = .ok (.iaload, 1) := by decide +kernel
theorem d_L_law_257 : decode b_L_law 257 = .ok (.aload_n 3, 1) := by decide +kernel
theorem d_L_law_258 : decode b_L_law 258 = .ok (.invokestatic 76, 3) := by decide +kernel
theorem d_L_law_261 : decode b_L_law 261 = .ok (.istore 5, 2) := by decide +kernel
theorem d_L_law_263 : decode b_L_law 263 = .ok (.aload_n 2, 1) := by decide +kernel
theorem d_L_law_264 : decode b_L_law 264 = .ok (.aload_n 0, 1) := by decide +kernel
theorem d_L_law_265 : decode b_L_law 265 = .ok (.iload 4, 2) := by decide +kernel
theorem d_L_law_267 : decode b_L_law 267 = .ok (.iconst 1, 1) := by decide +kernel
theorem d_L_law_268 : decode b_L_law 268 = .ok (.iadd, 1) := by decide +kernel
theorem d_L_law_269 : decode b_L_law 269 = .ok (.iaload, 1) := by decide +kernel
theorem d_L_law_270 : decode b_L_law 270 = .ok (.aload_n 0, 1) := by decide +kernel
theorem d_L_law_271 : decode b_L_law 271 = .ok (.iload 4, 2) := by decide +kernel
theorem d_L_law_273 : decode b_L_law 273 = .ok (.iconst 2, 1) := by decide +kernel
theorem d_L_law_274 : decode b_L_law 274 = .ok (.iadd, 1) := by decide +kernel
theorem d_L_law_275 : decode b_L_law 275 = .ok (.iaload, 1) := by decide +kernel
theorem d_L_law_276 : decode b_L_law 276 = .ok (.invokevirtual 78, 3) := by decide +kernel
theorem d_L_law_279 : decode b_L_law 279 = .ok (.istore 6, 2) := by decide +kernel
theorem d_L_law_281 : decode b_L_law 281 = .ok (.aload_n 2, 1) := by decide +kernel
theorem d_L_law_282 : decode b_L_law 282 = .ok (.invokevirtual 69, 3) := by decide +kernel
theorem d_L_law_285 : decode b_L_law 285 = .ok (.iload 5, 2) := by decide +kernel
theorem d_L_law_287 : decode b_L_law 287 = .ok (.if_icmp .eq 5, 3) := by decide +kernel
theorem d_L_law_290 : decode b_L_law 290 = .ok (.iconst 0, 1) := by decide +kernel
theorem d_L_law_291 : decode b_L_law 291 = .ok (.ireturn, 1) := by decide +kernel
theorem d_L_law_292 : decode b_L_law 292 = .ok (.iload 5, 2) := by decide +kernel
theorem d_L_law_294 : decode b_L_law 294 = .ok (.ifCond .ne 15, 3) := by decide +kernel
theorem d_L_law_297 : decode b_L_law 297 = .ok (.aload_n 3, 1) := by decide +kernel
theorem d_L_law_298 : decode b_L_law 298 = .ok (.iconst 0, 1) := by decide +kernel
theorem d_L_law_299 : decode b_L_law 299 = .ok (.laload, 1) := by decide +kernel
theorem d_L_law_300 : decode b_L_law 300 = .ok (.iload 6, 2) := by decide +kernel
theorem d_L_law_302 : decode b_L_law 302 = .ok (.i2l, 1) := by decide +kernel
theorem d_L_law_303 : decode b_L_law 303 = .ok (.lcmp, 1) := by decide +kernel
theorem d_L_law_304 : decode b_L_law 304 = .ok (.ifCond .eq 5, 3) := by decide +kernel
theorem d_L_law_307 : decode b_L_law 307 = .ok (.iconst 0, 1) := by decide +kernel
theorem d_L_law_308 : decode b_L_law 308 = .ok (.ireturn, 1) := by decide +kernel
theorem d_L_law_309 : decode b_L_law 309 = .ok (.goto 596, 3) := by decide +kernel
theorem d_L_law_312 : decode b_L_law 312 = .ok (.aload_n 1, 1) := by decide +kernel
theorem d_L_law_313 : decode b_L_law 313 = .ok (.aload_n 0, 1) := by decide +kernel
theorem d_L_law_314 : decode b_L_law 314 = .ok (.iload 4, 2) := by decide +kernel
theorem d_L_law_316 : decode b_L_law 316 = .ok (.iconst 1, 1) := by decide +kernel
theorem d_L_law_317 : decode b_L_law 317 = .ok (.iadd, 1) := by decide +kernel
theorem d_L_law_318 : decode b_L_law 318 = .ok (.iaload, 1) := by decide +kernel
theorem d_L_law_319 : decode b_L_law 319 = .ok (.aload_n 0, 1) := by decide +kernel
theorem d_L_law_320 : decode b_L_law 320 = .ok (.iload 4, 2) := by decide +kernel
theorem d_L_law_322 : decode b_L_law 322 = .ok (.iconst 2, 1) := by decide +kernel
theorem d_L_law_323 : decode b_L_law 323 = .ok (.iadd, 1) := by decide +kernel
theorem d_L_law_324 : decode b_L_law 324 = .ok (.iaload, 1) := by decide +kernel
theorem d_L_law_325 : decode b_L_law 325 = .ok (.ifCond .eq 7, 3) := by decide +kernel
theorem d_L_law_328 : decode b_L_law 328 = .ok (.iconst 1, 1) := by decide +kernel
theorem d_L_law_329 : decode b_L_law 329 = .ok (.goto 4, 3) := by decide +kernel
theorem d_L_law_332 : decode b_L_law 332 = .ok (.iconst 0, 1) := by decide +kernel
theorem d_L_law_333 : decode b_L_law 333 = .ok (.aload_n 3, 1) := by decide +kernel
theorem d_L_law_334 : decode b_L_law 334 = .ok (.invokestatic 79, 3) := by decide +kernel
theorem d_L_law_337 : decode b_L_law 337 = .ok (.istore 5, 2) := by decide +kernel
theorem d_L_law_339 : decode b_L_law 339 = .ok (.aload_n 2, 1) := by decide +kernel
theorem d_L_law_340 : decode b_L_law 340 = .ok (.aload_n 0, 1) := by decide +kernel
theorem d_L_law_341 : decode b_L_law 341 = .ok (.iload 4, 2) := by decide +kernel
theorem d_L_law_343 : decode b_L_law 343 = .ok (.iconst 1, 1) := by decide +kernel
theorem d_L_law_344 : decode b_L_law 344 = .ok (.iadd, 1) := by decide +kernel
theorem d_L_law_345 : decode b_L_law 345 = .ok (.iaload, 1) := by decide +kernel
theorem d_L_law_346 : decode b_L_law 346 = .ok (.aload_n 0, 1) := by decide +kernel
theorem d_L_law_347 : decode b_L_law 347 = .ok (.iload 4, 2) := by decide +kernel
theorem d_L_law_349 : decode b_L_law 349 = .ok (.iconst 2, 1) := by decide +kernel
theorem d_L_law_350 : decode b_L_law 350 = .ok (.iadd, 1) := by decide +kernel
theorem d_L_law_351 : decode b_L_law 351 = .ok (.iaload, 1) := by decide +kernel
theorem d_L_law_352 : decode b_L_law 352 = .ok (.ifCond .eq 7, 3) := by decide +kernel
theorem d_L_law_355 : decode b_L_law 355 = .ok (.iconst 1, 1) := by decide +kernel
theorem d_L_law_356 : decode b_L_law 356 = .ok (.goto 4, 3) := by decide +kernel
theorem d_L_law_359 : decode b_L_law 359 = .ok (.iconst 0, 1) := by decide +kernel
theorem d_L_law_360 : decode b_L_law 360 = .ok (.invokevirtual 82, 3) := by decide +kernel
theorem d_L_law_363 : decode b_L_law 363 = .ok (.istore 6, 2) := by decide +kernel
theorem d_L_law_365 : decode b_L_law 365 = .ok (.aload_n 2, 1) := by decide +kernel
theorem d_L_law_366 : decode b_L_law 366 = .ok (.invokevirtual 69, 3) := by decide +kernel
theorem d_L_law_369 : decode b_L_law 369 = .ok (.iload 5, 2) := by decide +kernel
theorem d_L_law_371 : decode b_L_law 371 = .ok (.if_icmp .eq 5, 3) := by decide +kernel
theorem d_L_law_374 : decode b_L_law 374 = .ok (.iconst 0, 1) := by decide +kernel
theorem d_L_law_375 : decode b_L_law 375 = .ok (.ireturn, 1) := by decide +kernel
theorem d_L_law_376 : decode b_L_law 376 = .ok (.iload 5, 2) := by decide +kernel
theorem d_L_law_378 : decode b_L_law 378 = .ok (.ifCond .ne 15, 3) := by decide +kernel
theorem d_L_law_381 : decode b_L_law 381 = .ok (.aload_n 3, 1) := by decide +kernel
theorem d_L_law_382 : decode b_L_law 382 = .ok (.iconst 0, 1) := by decide +kernel
theorem d_L_law_383 : decode b_L_law 383 = .ok (.laload, 1) := by decide +kernel
theorem d_L_law_384 : decode b_L_law 384 = .ok (.iload 6, 2) := by decide +kernel
theorem d_L_law_386 : decode b_L_law 386 = .ok (.i2l, 1) := by decide +kernel
theorem d_L_law_387 : decode b_L_law 387 = .ok (.lcmp, 1) := by decide +kernel
theorem d_L_law_388 : decode b_L_law 388 = .ok (.ifCond .eq 5, 3) := by decide +kernel
theorem d_L_law_391 : decode b_L_law 391 = .ok (.iconst 0, 1) := by decide +kernel
theorem d_L_law_392 : decode b_L_law 392 = .ok (.ireturn, 1) := by decide +kernel
theorem d_L_law_393 : decode b_L_law 393 = .ok (.goto 512, 3) := by decide +kernel
theorem d_L_law_396 : decode b_L_law 396 = .ok (.aload_n 1, 1) := by decide +kernel
theorem d_L_law_397 : decode b_L_law 397 = .ok (.aload_n 0, 1) := by decide +kernel
theorem d_L_law_398 : decode b_L_law 398 = .ok (.iload 4, 2) := by decide +kernel
theorem d_L_law_400 : decode b_L_law 400 = .ok (.iconst 1, 1) := by decide +kernel
theorem d_L_law_401 : decode b_L_law 401 = .ok (.iadd, 1) := by decide +kernel
theorem d_L_law_402 : decode b_L_law 402 = .ok (.iaload, 1) := by decide +kernel
theorem d_L_law_403 : decode b_L_law 403 = .ok (.aload_n 3, 1) := by decide +kernel
theorem d_L_law_404 : decode b_L_law 404 = .ok (.invokestatic 83, 3) := by decide +kernel
theorem d_L_law_407 : decode b_L_law 407 = .ok (.istore 5, 2) := by decide +kernel
theorem d_L_law_409 : decode b_L_law 409 = .ok (.aload_n 2, 1) := by decide +kernel
theorem d_L_law_410 : decode b_L_law 410 = .ok (.aload_n 0, 1) := by decide +kernel
theorem d_L_law_411 : decode b_L_law 411 = .ok (.iload 4, 2) := by decide +kernel
theorem d_L_law_413 : decode b_L_law 413 = .ok (.iconst 1, 1) := by decide +kernel
theorem d_L_law_414 : decode b_L_law 414 = .ok (.iadd, 1) := by decide +kernel
theorem d_L_law_415 : decode b_L_law 415 = .ok (.iaload, 1) := by decide +kernel
theorem d_L_law_416 : decode b_L_law 416 = .ok (.invokevirtual 86, 3) := by decide +kernel
theorem d_L_law_419 : decode b_L_law 419 = .ok (.istore 6, 2) := by decide +kernel
theorem d_L_law_421 : decode b_L_law 421 = .ok (.aload_n 2, 1) := by decide +kernel
theorem d_L_law_422 : decode b_L_law 422 = .ok (.invokevirtual 69, 3) := by decide +kernel
theorem d_L_law_425 : decode b_L_law 425 = .ok (.iload 5, 2) := by decide +kernel
theorem d_L_law_427 : decode b_L_law 427 = .ok (.if_icmp .eq 5, 3) := by decide +kernel
theorem d_L_law_430 : decode b_L_law 430 = .ok (.iconst 0, 1) := by decide +kernel
theorem d_L_law_431 : decode b_L_law 431 = .ok (.ireturn, 1) := by decide +kernel
theorem d_L_law_432 : decode b_L_law 432 = .ok (.iload 5, 2) := by decide +kernel
theorem d_L_law_434 : decode b_L_law 434 = .ok (.ifCond .ne 15, 3) := by decide +kernel
theorem d_L_law_437 : decode b_L_law 437 = .ok (.aload_n 3, 1) := by decide +kernel
theorem d_L_law_438 : decode b_L_law 438 = .ok (.iconst 0, 1) := by decide +kernel
theorem d_L_law_439 : decode b_L_law 439 = .ok (.laload, 1) := by decide +kernel
theorem d_L_law_440 : decode b_L_law 440 = .ok (.iload 6, 2) := by decide +kernel
theorem d_L_law_442 : decode b_L_law 442 = .ok (.i2l, 1) := by decide +kernel
theorem d_L_law_443 : decode b_L_law 443 = .ok (.lcmp, 1) := by decide +kernel
theorem d_L_law_444 : decode b_L_law 444 = .ok (.ifCond .eq 5, 3) := by decide +kernel
theorem d_L_law_447 : decode b_L_law 447 = .ok (.iconst 0, 1) := by decide +kernel
theorem d_L_law_448 : decode b_L_law 448 = .ok (.ireturn, 1) := by decide +kernel
theorem d_L_law_449 : decode b_L_law 449 = .ok (.goto 456, 3) := by decide +kernel
theorem d_L_law_452 : decode b_L_law 452 = .ok (.aload_n 1, 1) := by decide +kernel
theorem d_L_law_453 : decode b_L_law 453 = .ok (.aload_n 0, 1) := by decide +kernel
theorem d_L_law_454 : decode b_L_law 454 = .ok (.iload 4, 2) := by decide +kernel
theorem d_L_law_456 : decode b_L_law 456 = .ok (.iconst 1, 1) := by decide +kernel
theorem d_L_law_457 : decode b_L_law 457 = .ok (.iadd, 1) := by decide +kernel
theorem d_L_law_458 : decode b_L_law 458 = .ok (.iaload, 1) := by decide +kernel
theorem d_L_law_459 : decode b_L_law 459 = .ok (.aload_n 3, 1) := by decide +kernel
theorem d_L_law_460 : decode b_L_law 460 = .ok (.invokestatic 87, 3) := by decide +kernel
theorem d_L_law_463 : decode b_L_law 463 = .ok (.istore 5, 2) := by decide +kernel
theorem d_L_law_465 : decode b_L_law 465 = .ok (.aload_n 2, 1) := by decide +kernel
theorem d_L_law_466 : decode b_L_law 466 = .ok (.aload_n 0, 1) := by decide +kernel
theorem d_L_law_467 : decode b_L_law 467 = .ok (.iload 4, 2) := by decide +kernel
theorem d_L_law_469 : decode b_L_law 469 = .ok (.iconst 1, 1) := by decide +kernel
theorem d_L_law_470 : decode b_L_law 470 = .ok (.iadd, 1) := by decide +kernel
theorem d_L_law_471 : decode b_L_law 471 = .ok (.iaload, 1) := by decide +kernel
theorem d_L_law_472 : decode b_L_law 472 = .ok (.invokevirtual 89, 3) := by decide +kernel
theorem d_L_law_475 : decode b_L_law 475 = .ok (.istore 6, 2) := by decide +kernel
theorem d_L_law_477 : decode b_L_law 477 = .ok (.aload_n 2, 1) := by decide +kernel
theorem d_L_law_478 : decode b_L_law 478 = .ok (.invokevirtual 69, 3) := by decide +kernel
theorem d_L_law_481 : decode b_L_law 481 = .ok (.iload 5, 2) := by decide +kernel
theorem d_L_law_483 : decode b_L_law 483 = .ok (.if_icmp .eq 5, 3) := by decide +kernel
theorem d_L_law_486 : decode b_L_law 486 = .ok (.iconst 0, 1) := by decide +kernel
theorem d_L_law_487 : decode b_L_law 487 = .ok (.ireturn, 1) := by decide +kernel
theorem d_L_law_488 : decode b_L_law 488 = .ok (.iload 5, 2) := by decide +kernel
theorem d_L_law_490 : decode b_L_law 490 = .ok (.ifCond .ne 15, 3) := by decide +kernel
theorem d_L_law_493 : decode b_L_law 493 = .ok (.aload_n 3, 1) := by decide +kernel
theorem d_L_law_494 : decode b_L_law 494 = .ok (.iconst 0, 1) := by decide +kernel
theorem d_L_law_495 : decode b_L_law 495 = .ok (.laload, 1) := by decide +kernel
theorem d_L_law_496 : decode b_L_law 496 = .ok (.iload 6, 2) := by decide +kernel
theorem d_L_law_498 : decode b_L_law 498 = .ok (.i2l, 1) := by decide +kernel
theorem d_L_law_499 : decode b_L_law 499 = .ok (.lcmp, 1) := by decide +kernel
theorem d_L_law_500 : decode b_L_law 500 = .ok (.ifCond .eq 5, 3) := by decide +kernel
theorem d_L_law_503 : decode b_L_law 503 = .ok (.iconst 0, 1) := by decide +kernel
theorem d_L_law_504 : decode b_L_law 504 = .ok (.ireturn, 1) := by decide +kernel
theorem d_L_law_505 : decode b_L_law 505 = .ok (.goto 400, 3) := by decide +kernel
theorem d_L_law_508 : decode b_L_law 508 = .ok (.aload_n 1, 1) := by decide +kernel
theorem d_L_law_509 : decode b_L_law 509 = .ok (.aload_n 0, 1) := by decide +kernel
theorem d_L_law_510 : decode b_L_law 510 = .ok (.iload 4, 2) := by decide +kernel
theorem d_L_law_512 : decode b_L_law 512 = .ok (.iconst 1, 1) := by decide +kernel
theorem d_L_law_513 : decode b_L_law 513 = .ok (.iadd, 1) := by decide +kernel
theorem d_L_law_514 : decode b_L_law 514 = .ok (.iaload, 1) := by decide +kernel
theorem d_L_law_515 : decode b_L_law 515 = .ok (.invokestatic 90, 3) := by decide +kernel
theorem d_L_law_518 : decode b_L_law 518 = .ok (.istore 5, 2) := by decide +kernel
theorem d_L_law_520 : decode b_L_law 520 = .ok (.aload_n 2, 1) := by decide +kernel
theorem d_L_law_521 : decode b_L_law 521 = .ok (.aload_n 0, 1) := by decide +kernel
theorem d_L_law_522 : decode b_L_law 522 = .ok (.iload 4, 2) := by decide +kernel
theorem d_L_law_524 : decode b_L_law 524 = .ok (.iconst 1, 1) := by decide +kernel
theorem d_L_law_525 : decode b_L_law 525 = .ok (.iadd, 1) := by decide +kernel
theorem d_L_law_526 : decode b_L_law 526 = .ok (.iaload, 1) := by decide +kernel
theorem d_L_law_527 : decode b_L_law 527 = .ok (.invokevirtual 93, 3) := by decide +kernel
theorem d_L_law_530 : decode b_L_law 530 = .ok (.aload_n 2, 1) := by decide +kernel
theorem d_L_law_531 : decode b_L_law 531 = .ok (.invokevirtual 69, 3) := by decide +kernel
theorem d_L_law_534 : decode b_L_law 534 = .ok (.iload 5, 2) := by decide +kernel
theorem d_L_law_536 : decode b_L_law 536 = .ok (.if_icmp .eq 5, 3) := by decide +kernel
theorem d_L_law_539 : decode b_L_law 539 = .ok (.iconst 0, 1) := by decide +kernel
theorem d_L_law_540 : decode b_L_law 540 = .ok (.ireturn, 1) := by decide +kernel
theorem d_L_law_541 : decode b_L_law 541 = .ok (.goto 364, 3) := by decide +kernel
theorem d_L_law_544 : decode b_L_law 544 = .ok (.aload_n 1, 1) := by decide +kernel
theorem d_L_law_545 : decode b_L_law 545 = .ok (.aload_n 0, 1) := by decide +kernel
theorem d_L_law_546 : decode b_L_law 546 = .ok (.iload 4, 2) := by decide +kernel
theorem d_L_law_548 : decode b_L_law 548 = .ok (.iconst 1, 1) := by decide +kernel
theorem d_L_law_549 : decode b_L_law 549 = .ok (.iadd, 1) := by decide +kernel
theorem d_L_law_550 : decode b_L_law 550 = .ok (.iaload, 1) := by decide +kernel
theorem d_L_law_551 : decode b_L_law 551 = .ok (.invokestatic 94, 3) := by decide +kernel
theorem d_L_law_554 : decode b_L_law 554 = .ok (.istore 5, 2) := by decide +kernel
theorem d_L_law_556 : decode b_L_law 556 = .ok (.aload_n 2, 1) := by decide +kernel
theorem d_L_law_557 : decode b_L_law 557 = .ok (.aload_n 0, 1) := by decide +kernel
theorem d_L_law_558 : decode b_L_law 558 = .ok (.iload 4, 2) := by decide +kernel
theorem d_L_law_560 : decode b_L_law 560 = .ok (.iconst 1, 1) := by decide +kernel
theorem d_L_law_561 : decode b_L_law 561 = .ok (.iadd, 1) := by decide +kernel
theorem d_L_law_562 : decode b_L_law 562 = .ok (.iaload, 1) := by decide +kernel
theorem d_L_law_563 : decode b_L_law 563 = .ok (.invokevirtual 96, 3) := by decide +kernel
theorem d_L_law_566 : decode b_L_law 566 = .ok (.aload_n 2, 1) := by decide +kernel
theorem d_L_law_567 : decode b_L_law 567 = .ok (.invokevirtual 69, 3) := by decide +kernel
theorem d_L_law_570 : decode b_L_law 570 = .ok (.iload 5, 2) := by decide +kernel
theorem d_L_law_572 : decode b_L_law 572 = .ok (.if_icmp .eq 5, 3) := by decide +kernel
theorem d_L_law_575 : decode b_L_law 575 = .ok (.iconst 0, 1) := by decide +kernel
theorem d_L_law_576 : decode b_L_law 576 = .ok (.ireturn, 1) := by decide +kernel
theorem d_L_law_577 : decode b_L_law 577 = .ok (.goto 328, 3) := by decide +kernel
theorem d_L_law_580 : decode b_L_law 580 = .ok (.aload_n 1, 1) := by decide +kernel
theorem d_L_law_581 : decode b_L_law 581 = .ok (.aload_n 0, 1) := by decide +kernel
theorem d_L_law_582 : decode b_L_law 582 = .ok (.iload 4, 2) := by decide +kernel
theorem d_L_law_584 : decode b_L_law 584 = .ok (.iconst 1, 1) := by decide +kernel
theorem d_L_law_585 : decode b_L_law 585 = .ok (.iadd, 1) := by decide +kernel
theorem d_L_law_586 : decode b_L_law 586 = .ok (.iaload, 1) := by decide +kernel
theorem d_L_law_587 : decode b_L_law 587 = .ok (.aload_n 0, 1) := by decide +kernel
theorem d_L_law_588 : decode b_L_law 588 = .ok (.iload 4, 2) := by decide +kernel
theorem d_L_law_590 : decode b_L_law 590 = .ok (.iconst 2, 1) := by decide +kernel
theorem d_L_law_591 : decode b_L_law 591 = .ok (.iadd, 1) := by decide +kernel
theorem d_L_law_592 : decode b_L_law 592 = .ok (.iaload, 1) := by decide +kernel
theorem d_L_law_593 : decode b_L_law 593 = .ok (.aload_n 3, 1) := by decide +kernel
theorem d_L_law_594 : decode b_L_law 594 = .ok (.invokestatic 97, 3) := by decide +kernel
theorem d_L_law_597 : decode b_L_law 597 = .ok (.istore 5, 2) := by decide +kernel
theorem d_L_law_599 : decode b_L_law 599 = .ok (.aload_n 2, 1) := by decide +kernel
theorem d_L_law_600 : decode b_L_law 600 = .ok (.aload_n 0, 1) := by decide +kernel
theorem d_L_law_601 : decode b_L_law 601 = .ok (.iload 4, 2) := by decide +kernel
theorem d_L_law_603 : decode b_L_law 603 = .ok (.iconst 1, 1) := by decide +kernel
theorem d_L_law_604 : decode b_L_law 604 = .ok (.iadd, 1) := by decide +kernel
theorem d_L_law_605 : decode b_L_law 605 = .ok (.iaload, 1) := by decide +kernel
theorem d_L_law_606 : decode b_L_law 606 = .ok (.aload_n 0, 1) := by decide +kernel
theorem d_L_law_607 : decode b_L_law 607 = .ok (.iload 4, 2) := by decide +kernel
theorem d_L_law_609 : decode b_L_law 609 = .ok (.iconst 2, 1) := by decide +kernel
theorem d_L_law_610 : decode b_L_law 610 = .ok (.iadd, 1) := by decide +kernel
theorem d_L_law_611 : decode b_L_law 611 = .ok (.iaload, 1) := by decide +kernel
theorem d_L_law_612 : decode b_L_law 612 = .ok (.invokevirtual 99, 3) := by decide +kernel
theorem d_L_law_615 : decode b_L_law 615 = .ok (.istore 6, 2) := by decide +kernel
theorem d_L_law_617 : decode b_L_law 617 = .ok (.aload_n 2, 1) := by decide +kernel
theorem d_L_law_618 : decode b_L_law 618 = .ok (.invokevirtual 69, 3) := by decide +kernel
theorem d_L_law_621 : decode b_L_law 621 = .ok (.iload 5, 2) := by decide +kernel
theorem d_L_law_623 : decode b_L_law 623 = .ok (.if_icmp .eq 5, 3) := by decide +kernel
theorem d_L_law_626 : decode b_L_law 626 = .ok (.iconst 0, 1) := by decide +kernel
theorem d_L_law_627 : decode b_L_law 627 = .ok (.ireturn, 1) := by decide +kernel
theorem d_L_law_628 : decode b_L_law 628 = .ok (.iload 5, 2) := by decide +kernel
theorem d_L_law_630 : decode b_L_law 630 = .ok (.ifCond .ne 15, 3) := by decide +kernel
theorem d_L_law_633 : decode b_L_law 633 = .ok (.aload_n 3, 1) := by decide +kernel
theorem d_L_law_634 : decode b_L_law 634 = .ok (.iconst 0, 1) := by decide +kernel
theorem d_L_law_635 : decode b_L_law 635 = .ok (.laload, 1) := by decide +kernel
theorem d_L_law_636 : decode b_L_law 636 = .ok (.iload 6, 2) := by decide +kernel
theorem d_L_law_638 : decode b_L_law 638 = .ok (.i2l, 1) := by decide +kernel
theorem d_L_law_639 : decode b_L_law 639 = .ok (.lcmp, 1) := by decide +kernel
theorem d_L_law_640 : decode b_L_law 640 = .ok (.ifCond .eq 5, 3) := by decide +kernel
theorem d_L_law_643 : decode b_L_law 643 = .ok (.iconst 0, 1) := by decide +kernel
theorem d_L_law_644 : decode b_L_law 644 = .ok (.ireturn, 1) := by decide +kernel
theorem d_L_law_645 : decode b_L_law 645 = .ok (.goto 260, 3) := by decide +kernel
theorem d_L_law_648 : decode b_L_law 648 = .ok (.aload_n 1, 1) := by decide +kernel
theorem d_L_law_649 : decode b_L_law 649 = .ok (.invokevirtual 100, 3) := by decide +kernel
theorem d_L_law_652 : decode b_L_law 652 = .ok (.aload_n 2, 1) := by decide +kernel
theorem d_L_law_653 : decode b_L_law 653 = .ok (.invokevirtual 103, 3) := by decide +kernel
theorem d_L_law_656 : decode b_L_law 656 = .ok (.if_icmp .eq 249, 3) := by decide +kernel
theorem d_L_law_659 : decode b_L_law 659 = .ok (.iconst 0, 1) := by decide +kernel
theorem d_L_law_660 : decode b_L_law 660 = .ok (.ireturn, 1) := by decide +kernel
theorem d_L_law_661 : decode b_L_law 661 = .ok (.aload_n 1, 1) := by decide +kernel
theorem d_L_law_662 : decode b_L_law 662 = .ok (.aload_n 0, 1) := by decide +kernel
theorem d_L_law_663 : decode b_L_law 663 = .ok (.iload 4, 2) := by decide +kernel
theorem d_L_law_665 : decode b_L_law 665 = .ok (.iconst 1, 1) := by decide +kernel
theorem d_L_law_666 : decode b_L_law 666 = .ok (.iadd, 1) := by decide +kernel
theorem d_L_law_667 : decode b_L_law 667 = .ok (.iaload, 1) := by decide +kernel
theorem d_L_law_668 : decode b_L_law 668 = .ok (.aload_n 0, 1) := by decide +kernel
theorem d_L_law_669 : decode b_L_law 669 = .ok (.iload 4, 2) := by decide +kernel
theorem d_L_law_671 : decode b_L_law 671 = .ok (.iconst 2, 1) := by decide +kernel
theorem d_L_law_672 : decode b_L_law 672 = .ok (.iadd, 1) := by decide +kernel
theorem d_L_law_673 : decode b_L_law 673 = .ok (.iaload, 1) := by decide +kernel
theorem d_L_law_674 : decode b_L_law 674 = .ok (.ifCond .eq 7, 3) := by decide +kernel
theorem d_L_law_677 : decode b_L_law 677 = .ok (.iconst 1, 1) := by decide +kernel
theorem d_L_law_678 : decode b_L_law 678 = .ok (.goto 4, 3) := by decide +kernel
theorem d_L_law_681 : decode b_L_law 681 = .ok (.iconst 0, 1) := by decide +kernel
theorem d_L_law_682 : decode b_L_law 682 = .ok (.invokestatic 104, 3) := by decide +kernel
theorem d_L_law_685 : decode b_L_law 685 = .ok (.istore 5, 2) := by decide +kernel
theorem d_L_law_687 : decode b_L_law 687 = .ok (.aload_n 2, 1) := by decide +kernel
theorem d_L_law_688 : decode b_L_law 688 = .ok (.aload_n 0, 1) := by decide +kernel
theorem d_L_law_689 : decode b_L_law 689 = .ok (.iload 4, 2) := by decide +kernel
theorem d_L_law_691 : decode b_L_law 691 = .ok (.iconst 1, 1) := by decide +kernel
theorem d_L_law_692 : decode b_L_law 692 = .ok (.iadd, 1) := by decide +kernel
theorem d_L_law_693 : decode b_L_law 693 = .ok (.iaload, 1) := by decide +kernel
theorem d_L_law_694 : decode b_L_law 694 = .ok (.aload_n 0, 1) := by decide +kernel
theorem d_L_law_695 : decode b_L_law 695 = .ok (.iload 4, 2) := by decide +kernel
theorem d_L_law_697 : decode b_L_law 697 = .ok (.iconst 2, 1) := by decide +kernel
theorem d_L_law_698 : decode b_L_law 698 = .ok (.iadd, 1) := by decide +kernel
theorem d_L_law_699 : decode b_L_law 699 = .ok (.iaload, 1) := by decide +kernel
theorem d_L_law_700 : decode b_L_law 700 = .ok (.ifCond .eq 7, 3) := by decide +kernel
theorem d_L_law_703 : decode b_L_law 703 = .ok (.iconst 1, 1) := by decide +kernel
theorem d_L_law_704 : decode b_L_law 704 = .ok (.goto 4, 3) := by decide +kernel
theorem d_L_law_707 : decode b_L_law 707 = .ok (.iconst 0, 1) := by decide +kernel
theorem d_L_law_708 : decode b_L_law 708 = .ok (.invokevirtual 107, 3) := by decide +kernel
theorem d_L_law_711 : decode b_L_law 711 = .ok (.aload_n 2, 1) := by decide +kernel
theorem d_L_law_712 : decode b_L_law 712 = .ok (.invokevirtual 69, 3) := by decide +kernel
theorem d_L_law_715 : decode b_L_law 715 = .ok (.iload 5, 2) := by decide +kernel
theorem d_L_law_717 : decode b_L_law 717 = .ok (.if_icmp .eq 5, 3) := by decide +kernel
theorem d_L_law_720 : decode b_L_law 720 = .ok (.iconst 0, 1) := by decide +kernel
theorem d_L_law_721 : decode b_L_law 721 = .ok (.ireturn, 1) := by decide +kernel
theorem d_L_law_722 : decode b_L_law 722 = .ok (.goto 183, 3) := by decide +kernel
theorem d_L_law_725 : decode b_L_law 725 = .ok (.aload_n 1, 1) := by decide +kernel
theorem d_L_law_726 : decode b_L_law 726 = .ok (.aload_n 0, 1) := by decide +kernel
theorem d_L_law_727 : decode b_L_law 727 = .ok (.iload 4, 2) := by decide +kernel
theorem d_L_law_729 : decode b_L_law 729 = .ok (.iconst 1, 1) := by decide +kernel
theorem d_L_law_730 : decode b_L_law 730 = .ok (.iadd, 1) := by decide +kernel
theorem d_L_law_731 : decode b_L_law 731 = .ok (.iaload, 1) := by decide +kernel
theorem d_L_law_732 : decode b_L_law 732 = .ok (.aload_n 0, 1) := by decide +kernel
theorem d_L_law_733 : decode b_L_law 733 = .ok (.iload 4, 2) := by decide +kernel
theorem d_L_law_735 : decode b_L_law 735 = .ok (.iconst 2, 1) := by decide +kernel
theorem d_L_law_736 : decode b_L_law 736 = .ok (.iadd, 1) := by decide +kernel
theorem d_L_law_737 : decode b_L_law 737 = .ok (.iaload, 1) := by decide +kernel
theorem d_L_law_738 : decode b_L_law 738 = .ok (.aload_n 3, 1) := by decide +kernel
theorem d_L_law_739 : decode b_L_law 739 = .ok (.invokestatic 108, 3) := by decide +kernel
theorem d_L_law_742 : decode b_L_law 742 = .ok (.istore 5, 2) := by decide +kernel
theorem d_L_law_744 : decode b_L_law 744 = .ok (.aload_n 2, 1) := by decide +kernel
theorem d_L_law_745 : decode b_L_law 745 = .ok (.aload_n 0, 1) := by decide +kernel
theorem d_L_law_746 : decode b_L_law 746 = .ok (.iload 4, 2) := by decide +kernel
theorem d_L_law_748 : decode b_L_law 748 = .ok (.iconst 1, 1) := by decide +kernel
theorem d_L_law_749 : decode b_L_law 749 = .ok (.iadd, 1) := by decide +kernel
theorem d_L_law_750 : decode b_L_law 750 = .ok (.iaload, 1) := by decide +kernel
theorem d_L_law_751 : decode b_L_law 751 = .ok (.aload_n 0, 1) := by decide +kernel
theorem d_L_law_752 : decode b_L_law 752 = .ok (.iload 4, 2) := by decide +kernel
theorem d_L_law_754 : decode b_L_law 754 = .ok (.iconst 2, 1) := by decide +kernel
theorem d_L_law_755 : decode b_L_law 755 = .ok (.iadd, 1) := by decide +kernel
theorem d_L_law_756 : decode b_L_law 756 = .ok (.iaload, 1) := by decide +kernel
theorem d_L_law_757 : decode b_L_law 757 = .ok (.invokevirtual 110, 3) := by decide +kernel
theorem d_L_law_760 : decode b_L_law 760 = .ok (.istore 6, 2) := by decide +kernel
theorem d_L_law_762 : decode b_L_law 762 = .ok (.aload_n 2, 1) := by decide +kernel
theorem d_L_law_763 : decode b_L_law 763 = .ok (.invokevirtual 69, 3) := by decide +kernel
theorem d_L_law_766 : decode b_L_law 766 = .ok (.iload 5, 2) := by decide +kernel
theorem d_L_law_768 : decode b_L_law 768 = .ok (.if_icmp .eq 5, 3) := by decide +kernel
theorem d_L_law_771 : decode b_L_law 771 = .ok (.iconst 0, 1) := by decide +kernel
theorem d_L_law_772 : decode b_L_law 772 = .ok (.ireturn, 1) := by decide +kernel
theorem d_L_law_773 : decode b_L_law 773 = .ok (.iload 5, 2) := by decide +kernel
theorem d_L_law_775 : decode b_L_law 775 = .ok (.ifCond .ne 15, 3) := by decide +kernel
theorem d_L_law_778 : decode b_L_law 778 = .ok (.aload_n 3, 1) := by decide +kernel
theorem d_L_law_779 : decode b_L_law 779 = .ok (.iconst 0, 1) := by decide +kernel
theorem d_L_law_780 : decode b_L_law 780 = .ok (.laload, 1) := by decide +kernel
theorem d_L_law_781 : decode b_L_law 781 = .ok (.iload 6, 2) := by decide +kernel
theorem d_L_law_783 : decode b_L_law 783 = .ok (.i2l, 1) := by decide +kernel
theorem d_L_law_784 : decode b_L_law 784 = .ok (.lcmp, 1) := by decide +kernel
theorem d_L_law_785 : decode b_L_law 785 = .ok (.ifCond .eq 5, 3) := by decide +kernel
theorem d_L_law_788 : decode b_L_law 788 = .ok (.iconst 0, 1) := by decide +kernel
theorem d_L_law_789 : decode b_L_law 789 = .ok (.ireturn, 1) := by decide +kernel
theorem d_L_law_790 : decode b_L_law 790 = .ok (.goto 115, 3) := by decide +kernel
theorem d_L_law_793 : decode b_L_law 793 = .ok (.aload_n 1, 1) := by decide +kernel
theorem d_L_law_794 : decode b_L_law 794 = .ok (.aload_n 0, 1) := by decide +kernel
theorem d_L_law_795 : decode b_L_law 795 = .ok (.iload 4, 2) := by decide +kernel
theorem d_L_law_797 : decode b_L_law 797 = .ok (.iconst 1, 1) := by decide +kernel
theorem d_L_law_798 : decode b_L_law 798 = .ok (.iadd, 1) := by decide +kernel
theorem d_L_law_799 : decode b_L_law 799 = .ok (.iaload, 1) := by decide +kernel
theorem d_L_law_800 : decode b_L_law 800 = .ok (.aload_n 3, 1) := by decide +kernel
theorem d_L_law_801 : decode b_L_law 801 = .ok (.invokestatic 111, 3) := by decide +kernel
theorem d_L_law_804 : decode b_L_law 804 = .ok (.istore 5, 2) := by decide +kernel
theorem d_L_law_806 : decode b_L_law 806 = .ok (.aload_n 2, 1) := by decide +kernel
theorem d_L_law_807 : decode b_L_law 807 = .ok (.aload_n 0, 1) := by decide +kernel
theorem d_L_law_808 : decode b_L_law 808 = .ok (.iload 4, 2) := by decide +kernel
theorem d_L_law_810 : decode b_L_law 810 = .ok (.iconst 1, 1) := by decide +kernel
theorem d_L_law_811 : decode b_L_law 811 = .ok (.iadd, 1) := by decide +kernel
theorem d_L_law_812 : decode b_L_law 812 = .ok (.iaload, 1) := by decide +kernel
theorem d_L_law_813 : decode b_L_law 813 = .ok (.invokevirtual 113, 3) := by decide +kernel
theorem d_L_law_816 : decode b_L_law 816 = .ok (.istore 6, 2) := by decide +kernel
theorem d_L_law_818 : decode b_L_law 818 = .ok (.aload_n 2, 1) := by decide +kernel
theorem d_L_law_819 : decode b_L_law 819 = .ok (.invokevirtual 69, 3) := by decide +kernel
theorem d_L_law_822 : decode b_L_law 822 = .ok (.iload 5, 2) := by decide +kernel
theorem d_L_law_824 : decode b_L_law 824 = .ok (.if_icmp .eq 5, 3) := by decide +kernel
theorem d_L_law_827 : decode b_L_law 827 = .ok (.iconst 0, 1) := by decide +kernel
theorem d_L_law_828 : decode b_L_law 828 = .ok (.ireturn, 1) := by decide +kernel
theorem d_L_law_829 : decode b_L_law 829 = .ok (.iload 5, 2) := by decide +kernel
theorem d_L_law_831 : decode b_L_law 831 = .ok (.ifCond .ne 15, 3) := by decide +kernel
theorem d_L_law_834 : decode b_L_law 834 = .ok (.aload_n 3, 1) := by decide +kernel
theorem d_L_law_835 : decode b_L_law 835 = .ok (.iconst 0, 1) := by decide +kernel
theorem d_L_law_836 : decode b_L_law 836 = .ok (.laload, 1) := by decide +kernel
theorem d_L_law_837 : decode b_L_law 837 = .ok (.iload 6, 2) := by decide +kernel
theorem d_L_law_839 : decode b_L_law 839 = .ok (.i2l, 1) := by decide +kernel
theorem d_L_law_840 : decode b_L_law 840 = .ok (.lcmp, 1) := by decide +kernel
theorem d_L_law_841 : decode b_L_law 841 = .ok (.ifCond .eq 5, 3) := by decide +kernel
theorem d_L_law_844 : decode b_L_law 844 = .ok (.iconst 0, 1) := by decide +kernel
theorem d_L_law_845 : decode b_L_law 845 = .ok (.ireturn, 1) := by decide +kernel
theorem d_L_law_846 : decode b_L_law 846 = .ok (.goto 59, 3) := by decide +kernel
theorem d_L_law_849 : decode b_L_law 849 = .ok (.aload_n 1, 1) := by decide +kernel
theorem d_L_law_850 : decode b_L_law 850 = .ok (.aload_n 0, 1) := by decide +kernel
theorem d_L_law_851 : decode b_L_law 851 = .ok (.iload 4, 2) := by decide +kernel
theorem d_L_law_853 : decode b_L_law 853 = .ok (.iconst 1, 1) := by decide +kernel
theorem d_L_law_854 : decode b_L_law 854 = .ok (.iadd, 1) := by decide +kernel
theorem d_L_law_855 : decode b_L_law 855 = .ok (.iaload, 1) := by decide +kernel
theorem d_L_law_856 : decode b_L_law 856 = .ok (.aload_n 3, 1) := by decide +kernel
theorem d_L_law_857 : decode b_L_law 857 = .ok (.invokestatic 114, 3) := by decide +kernel
theorem d_L_law_860 : decode b_L_law 860 = .ok (.istore 5, 2) := by decide +kernel
theorem d_L_law_862 : decode b_L_law 862 = .ok (.aload_n 2, 1) := by decide +kernel
theorem d_L_law_863 : decode b_L_law 863 = .ok (.aload_n 0, 1) := by decide +kernel
theorem d_L_law_864 : decode b_L_law 864 = .ok (.iload 4, 2) := by decide +kernel
theorem d_L_law_866 : decode b_L_law 866 = .ok (.iconst 1, 1) := by decide +kernel
theorem d_L_law_867 : decode b_L_law 867 = .ok (.iadd, 1) := by decide +kernel
theorem d_L_law_868 : decode b_L_law 868 = .ok (.iaload, 1) := by decide +kernel
theorem d_L_law_869 : decode b_L_law 869 = .ok (.invokevirtual 116, 3) := by decide +kernel
theorem d_L_law_872 : decode b_L_law 872 = .ok (.istore 6, 2) := by decide +kernel
theorem d_L_law_874 : decode b_L_law 874 = .ok (.aload_n 2, 1) := by decide +kernel
theorem d_L_law_875 : decode b_L_law 875 = .ok (.invokevirtual 69, 3) := by decide +kernel
theorem d_L_law_878 : decode b_L_law 878 = .ok (.iload 5, 2) := by decide +kernel
theorem d_L_law_880 : decode b_L_law 880 = .ok (.if_icmp .eq 5, 3) := by decide +kernel
theorem d_L_law_883 : decode b_L_law 883 = .ok (.iconst 0, 1) := by decide +kernel
theorem d_L_law_884 : decode b_L_law 884 = .ok (.ireturn, 1) := by decide +kernel
theorem d_L_law_885 : decode b_L_law 885 = .ok (.iload 5, 2) := by decide +kernel
theorem d_L_law_887 : decode b_L_law 887 = .ok (.ifCond .ne 15, 3) := by decide +kernel
theorem d_L_law_890 : decode b_L_law 890 = .ok (.aload_n 3, 1) := by decide +kernel
theorem d_L_law_891 : decode b_L_law 891 = .ok (.iconst 0, 1) := by decide +kernel
theorem d_L_law_892 : decode b_L_law 892 = .ok (.laload, 1) := by decide +kernel
theorem d_L_law_893 : decode b_L_law 893 = .ok (.iload 6, 2) := by decide +kernel
theorem d_L_law_895 : decode b_L_law 895 = .ok (.i2l, 1) := by decide +kernel
theorem d_L_law_896 : decode b_L_law 896 = .ok (.lcmp, 1) := by decide +kernel
theorem d_L_law_897 : decode b_L_law 897 = .ok (.ifCond .eq 5, 3) := by decide +kernel
theorem d_L_law_900 : decode b_L_law 900 = .ok (.iconst 0, 1) := by decide +kernel
theorem d_L_law_901 : decode b_L_law 901 = .ok (.ireturn, 1) := by decide +kernel
theorem d_L_law_902 : decode b_L_law 902 = .ok (.goto 3, 3) := by decide +kernel
theorem d_L_law_905 : decode b_L_law 905 = .ok (.iinc 4 3, 3) := by decide +kernel
theorem d_L_law_908 : decode b_L_law 908 = .ok (.goto (-885), 3) := by decide +kernel
theorem d_L_law_911 : decode b_L_law 911 = .ok (.iconst 1, 1) := by decide +kernel
theorem d_L_law_912 : decode b_L_law 912 = .ok (.ireturn, 1) := by decide +kernel
