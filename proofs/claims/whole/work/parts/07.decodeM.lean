/-! rows that decode each instruction (by program) -/
theorem d_M_init_0 : decode b_M_init 0 = .ok (.aload_n 0, 1) := by decide +kernel
theorem d_M_init_1 : decode b_M_init 1 = .ok (.invokespecial 1, 3) := by decide +kernel
theorem d_M_init_4 : decode b_M_init 4 = .ok (.aload_n 0, 1) := by decide +kernel
theorem d_M_init_5 : decode b_M_init 5 = .ok (.bipush 24, 2) := by decide +kernel
theorem d_M_init_7 : decode b_M_init 7 = .ok (.newarray .int, 2) := by decide +kernel
theorem d_M_init_9 : decode b_M_init 9 = .ok (.putfield 7, 3) := by decide +kernel
theorem d_M_init_12 : decode b_M_init 12 = .ok (.aload_n 0, 1) := by decide +kernel
theorem d_M_init_13 : decode b_M_init 13 = .ok (.bipush 24, 2) := by decide +kernel
theorem d_M_init_15 : decode b_M_init 15 = .ok (.newarray .int, 2) := by decide +kernel
theorem d_M_init_17 : decode b_M_init 17 = .ok (.putfield 13, 3) := by decide +kernel
theorem d_M_init_20 : decode b_M_init 20 = .ok (.aload_n 0, 1) := by decide +kernel
theorem d_M_init_21 : decode b_M_init 21 = .ok (.bipush 24, 2) := by decide +kernel
theorem d_M_init_23 : decode b_M_init 23 = .ok (.newarray .int, 2) := by decide +kernel
theorem d_M_init_25 : decode b_M_init 25 = .ok (.putfield 16, 3) := by decide +kernel
theorem d_M_init_28 : decode b_M_init 28 = .ok (.aload_n 0, 1) := by decide +kernel
theorem d_M_init_29 : decode b_M_init 29 = .ok (.bipush 24, 2) := by decide +kernel
theorem d_M_init_31 : decode b_M_init 31 = .ok (.newarray .int, 2) := by decide +kernel
theorem d_M_init_33 : decode b_M_init 33 = .ok (.putfield 19, 3) := by decide +kernel
theorem d_M_init_36 : decode b_M_init 36 = .ok (.aload_n 0, 1) := by decide +kernel
theorem d_M_init_37 : decode b_M_init 37 = .ok (.bipush 8, 2) := by decide +kernel
theorem d_M_init_39 : decode b_M_init 39 = .ok (.newarray .int, 2) := by decide +kernel
theorem d_M_init_41 : decode b_M_init 41 = .ok (.putfield 22, 3) := by decide +kernel
theorem d_M_init_44 : decode b_M_init 44 = .ok (.aload_n 0, 1) := by decide +kernel
theorem d_M_init_45 : decode b_M_init 45 = .ok (.bipush 8, 2) := by decide +kernel
theorem d_M_init_47 : decode b_M_init 47 = .ok (.newarray .int, 2) := by decide +kernel
theorem d_M_init_49 : decode b_M_init 49 = .ok (.putfield 25, 3) := by decide +kernel
theorem d_M_init_52 : decode b_M_init 52 = .ok (.aload_n 0, 1) := by decide +kernel
theorem d_M_init_53 : decode b_M_init 53 = .ok (.bipush 6, 2) := by decide +kernel
theorem d_M_init_55 : decode b_M_init 55 = .ok (.newarray .boolean, 2) := by decide +kernel
theorem d_M_init_57 : decode b_M_init 57 = .ok (.putfield 28, 3) := by decide +kernel
theorem d_M_init_60 : decode b_M_init 60 = .ok (.aload_n 0, 1) := by decide +kernel
theorem d_M_init_61 : decode b_M_init 61 = .ok (.bipush 80, 2) := by decide +kernel
theorem d_M_init_63 : decode b_M_init 63 = .ok (.newarray .int, 2) := by decide +kernel
theorem d_M_init_65 : decode b_M_init 65 = .ok (.putfield 32, 3) := by decide +kernel
theorem d_M_init_68 : decode b_M_init 68 = .ok (.aload_n 0, 1) := by decide +kernel
theorem d_M_init_69 : decode b_M_init 69 = .ok (.sipush 200, 3) := by decide +kernel
theorem d_M_init_72 : decode b_M_init 72 = .ok (.newarray .int, 2) := by decide +kernel
theorem d_M_init_74 : decode b_M_init 74 = .ok (.putfield 35, 3) := by decide +kernel
theorem d_M_init_77 : decode b_M_init 77 = .ok (.aload_n 0, 1) := by decide +kernel
theorem d_M_init_78 : decode b_M_init 78 = .ok (.sipush 200, 3) := by decide +kernel
theorem d_M_init_81 : decode b_M_init 81 = .ok (.newarray .int, 2) := by decide +kernel
theorem d_M_init_83 : decode b_M_init 83 = .ok (.putfield 38, 3) := by decide +kernel
theorem d_M_init_86 : decode b_M_init 86 = .ok (.aload_n 0, 1) := by decide +kernel
theorem d_M_init_87 : decode b_M_init 87 = .ok (.sipush 200, 3) := by decide +kernel
theorem d_M_init_90 : decode b_M_init 90 = .ok (.newarray .int, 2) := by decide +kernel
theorem d_M_init_92 : decode b_M_init 92 = .ok (.putfield 41, 3) := by decide +kernel
theorem d_M_init_95 : decode b_M_init 95 = .ok (.aload_n 0, 1) := by decide +kernel
theorem d_M_init_96 : decode b_M_init 96 = .ok (.sipush 200, 3) := by decide +kernel
theorem d_M_init_99 : decode b_M_init 99 = .ok (.newarray .int, 2) := by decide +kernel
theorem d_M_init_101 : decode b_M_init 101 = .ok (.putfield 44, 3) := by decide +kernel
theorem d_M_init_104 : decode b_M_init 104 = .ok (.aload_n 0, 1) := by decide +kernel
theorem d_M_init_105 : decode b_M_init 105 = .ok (.sipush 200, 3) := by decide +kernel
theorem d_M_init_108 : decode b_M_init 108 = .ok (.newarray .int, 2) := by decide +kernel
theorem d_M_init_110 : decode b_M_init 110 = .ok (.putfield 47, 3) := by decide +kernel
theorem d_M_init_113 : decode b_M_init 113 = .ok (.aload_n 0, 1) := by decide +kernel
theorem d_M_init_114 : decode b_M_init 114 = .ok (.sipush 200, 3) := by decide +kernel
theorem d_M_init_117 : decode b_M_init 117 = .ok (.newarray .int, 2) := by decide +kernel
theorem d_M_init_119 : decode b_M_init 119 = .ok (.putfield 50, 3) := by decide +kernel
theorem d_M_init_122 : decode b_M_init 122 = .ok (.aload_n 0, 1) := by decide +kernel
theorem d_M_init_123 : decode b_M_init 123 = .ok (.sipush 200, 3) := by decide +kernel
theorem d_M_init_126 : decode b_M_init 126 = .ok (.newarray .int, 2) := by decide +kernel
theorem d_M_init_128 : decode b_M_init 128 = .ok (.putfield 53, 3) := by decide +kernel
theorem d_M_init_131 : decode b_M_init 131 = .ok (.aload_n 0, 1) := by decide +kernel
theorem d_M_init_132 : decode b_M_init 132 = .ok (.sipush 200, 3) := by decide +kernel
theorem d_M_init_135 : decode b_M_init 135 = .ok (.newarray .boolean, 2) := by decide +kernel
theorem d_M_init_137 : decode b_M_init 137 = .ok (.putfield 56, 3) := by decide +kernel
theorem d_M_init_140 : decode b_M_init 140 = .ok (.aload_n 0, 1) := by decide +kernel
theorem d_M_init_141 : decode b_M_init 141 = .ok (.bipush 60, 2) := by decide +kernel
theorem d_M_init_143 : decode b_M_init 143 = .ok (.newarray .int, 2) := by decide +kernel
theorem d_M_init_145 : decode b_M_init 145 = .ok (.putfield 59, 3) := by decide +kernel
theorem d_M_init_148 : decode b_M_init 148 = .ok (.aload_n 0, 1) := by decide +kernel
theorem d_M_init_149 : decode b_M_init 149 = .ok (.bipush 60, 2) := by decide +kernel
theorem d_M_init_151 : decode b_M_init 151 = .ok (.newarray .int, 2) := by decide +kernel
theorem d_M_init_153 : decode b_M_init 153 = .ok (.putfield 62, 3) := by decide +kernel
theorem d_M_init_156 : decode b_M_init 156 = .ok (.aload_n 0, 1) := by decide +kernel
theorem d_M_init_157 : decode b_M_init 157 = .ok (.bipush 60, 2) := by decide +kernel
theorem d_M_init_159 : decode b_M_init 159 = .ok (.newarray .int, 2) := by decide +kernel
theorem d_M_init_161 : decode b_M_init 161 = .ok (.putfield 65, 3) := by decide +kernel
theorem d_M_init_164 : decode b_M_init 164 = .ok (.aload_n 0, 1) := by decide +kernel
theorem d_M_init_165 : decode b_M_init 165 = .ok (.iconst 2, 1) := by decide +kernel
theorem d_M_init_166 : decode b_M_init 166 = .ok (.iconst 1, 1) := by decide +kernel
theorem d_M_init_167 : decode b_M_init 167 = .ok (.invokevirtual 68, 3) := by decide +kernel
theorem d_M_init_170 : decode b_M_init 170 = .ok (.return_, 1) := by decide +kernel
theorem d_M_thrown_0 : decode b_M_thrown 0 = .ok (.aload_n 0, 1) := by decide +kernel
theorem d_M_thrown_1 : decode b_M_thrown 1 = .ok (.getfield 72, 3) := by decide +kernel
theorem d_M_thrown_4 : decode b_M_thrown 4 = .ok (.ireturn, 1) := by decide +kernel
theorem d_M_refuse_0 : decode b_M_refuse 0 = .ok (.aload_n 0, 1) := by decide +kernel
theorem d_M_refuse_1 : decode b_M_refuse 1 = .ok (.iload_n 1, 1) := by decide +kernel
theorem d_M_refuse_2 : decode b_M_refuse 2 = .ok (.ifCond .eq 7, 3) := by decide +kernel
theorem d_M_refuse_5 : decode b_M_refuse 5 = .ok (.iconst 1, 1) := by decide +kernel
theorem d_M_refuse_6 : decode b_M_refuse 6 = .ok (.goto 12, 3) := by decide +kernel
theorem d_M_refuse_9 : decode b_M_refuse 9 = .ok (.iload_n 2, 1) := by decide +kernel
theorem d_M_refuse_10 : decode b_M_refuse 10 = .ok (.ifCond .eq 7, 3) := by decide +kernel
theorem d_M_refuse_13 : decode b_M_refuse 13 = .ok (.iconst 2, 1) := by decide +kernel
theorem d_M_refuse_14 : decode b_M_refuse 14 = .ok (.goto 4, 3) := by decide +kernel
theorem d_M_refuse_17 : decode b_M_refuse 17 = .ok (.iconst 0, 1) := by decide +kernel
theorem d_M_refuse_18 : decode b_M_refuse 18 = .ok (.putfield 72, 3) := by decide +kernel
theorem d_M_refuse_21 : decode b_M_refuse 21 = .ok (.aload_n 0, 1) := by decide +kernel
theorem d_M_refuse_22 : decode b_M_refuse 22 = .ok (.getfield 72, 3) := by decide +kernel
theorem d_M_refuse_25 : decode b_M_refuse 25 = .ok (.ifCond .le 7, 3) := by decide +kernel
theorem d_M_refuse_28 : decode b_M_refuse 28 = .ok (.iconst 1, 1) := by decide +kernel
theorem d_M_refuse_29 : decode b_M_refuse 29 = .ok (.goto 4, 3) := by decide +kernel
theorem d_M_refuse_32 : decode b_M_refuse 32 = .ok (.iconst 0, 1) := by decide +kernel
theorem d_M_refuse_33 : decode b_M_refuse 33 = .ok (.ireturn, 1) := by decide +kernel
theorem d_M_in_0 : decode b_M_in 0 = .ok (.iload_n 0, 1) := by decide +kernel
theorem d_M_in_1 : decode b_M_in 1 = .ok (.iload_n 1, 1) := by decide +kernel
theorem d_M_in_2 : decode b_M_in 2 = .ok (.if_icmp .lt 12, 3) := by decide +kernel
theorem d_M_in_5 : decode b_M_in 5 = .ok (.iload_n 0, 1) := by decide +kernel
theorem d_M_in_6 : decode b_M_in 6 = .ok (.iload_n 2, 1) := by decide +kernel
theorem d_M_in_7 : decode b_M_in 7 = .ok (.if_icmp .gt 7, 3) := by decide +kernel
theorem d_M_in_10 : decode b_M_in 10 = .ok (.iconst 1, 1) := by decide +kernel
theorem d_M_in_11 : decode b_M_in 11 = .ok (.goto 4, 3) := by decide +kernel
theorem d_M_in_14 : decode b_M_in 14 = .ok (.iconst 0, 1) := by decide +kernel
theorem d_M_in_15 : decode b_M_in 15 = .ok (.ireturn, 1) := by decide +kernel
theorem d_M_lay_0 : decode b_M_lay 0 = .ok (.iconst 0, 1) := by decide +kernel
theorem d_M_lay_1 : decode b_M_lay 1 = .ok (.istore_n 3, 1) := by decide +kernel
theorem d_M_lay_2 : decode b_M_lay 2 = .ok (.iconst 0, 1) := by decide +kernel
theorem d_M_lay_3 : decode b_M_lay 3 = .ok (.istore 4, 2) := by decide +kernel
theorem d_M_lay_5 : decode b_M_lay 5 = .ok (.iload 4, 2) := by decide +kernel
theorem d_M_lay_7 : decode b_M_lay 7 = .ok (.aload_n 0, 1) := by decide +kernel
theorem d_M_lay_8 : decode b_M_lay 8 = .ok (.getfield 76, 3) := by decide +kernel
theorem d_M_lay_11 : decode b_M_lay 11 = .ok (.if_icmp .ge 92, 3) := by decide +kernel
theorem d_M_lay_14 : decode b_M_lay 14 = .ok (.aload_n 0, 1) := by decide +kernel
theorem d_M_lay_15 : decode b_M_lay 15 = .ok (.getfield 7, 3) := by decide +kernel
theorem d_M_lay_18 : decode b_M_lay 18 = .ok (.iload 4, 2) := by decide +kernel
theorem d_M_lay_20 : decode b_M_lay 20 = .ok (.iaload, 1) := by decide +kernel
theorem d_M_lay_21 : decode b_M_lay 21 = .ok (.iload_n 1, 1) := by decide +kernel
theorem d_M_lay_22 : decode b_M_lay 22 = .ok (.if_icmp .eq 36, 3) := by decide +kernel
theorem d_M_lay_25 : decode b_M_lay 25 = .ok (.aload_n 0, 1) := by decide +kernel
theorem d_M_lay_26 : decode b_M_lay 26 = .ok (.getfield 13, 3) := by decide +kernel
theorem d_M_lay_29 : decode b_M_lay 29 = .ok (.iload 4, 2) := by decide +kernel
theorem d_M_lay_31 : decode b_M_lay 31 = .ok (.iaload, 1) := by decide +kernel
theorem d_M_lay_32 : decode b_M_lay 32 = .ok (.iload_n 1, 1) := by decide +kernel
theorem d_M_lay_33 : decode b_M_lay 33 = .ok (.if_icmp .eq 25, 3) := by decide +kernel
theorem d_M_lay_36 : decode b_M_lay 36 = .ok (.aload_n 0, 1) := by decide +kernel
theorem d_M_lay_37 : decode b_M_lay 37 = .ok (.getfield 7, 3) := by decide +kernel
theorem d_M_lay_40 : decode b_M_lay 40 = .ok (.iload 4, 2) := by decide +kernel
theorem d_M_lay_42 : decode b_M_lay 42 = .ok (.iaload, 1) := by decide +kernel
theorem d_M_lay_43 : decode b_M_lay 43 = .ok (.iload_n 2, 1) := by decide +kernel
theorem d_M_lay_44 : decode b_M_lay 44 = .ok (.if_icmp .eq 14, 3) := by decide +kernel
theorem d_M_lay_47 : decode b_M_lay 47 = .ok (.aload_n 0, 1) := by decide +kernel
theorem d_M_lay_48 : decode b_M_lay 48 = .ok (.getfield 13, 3) := by decide +kernel
theorem d_M_lay_51 : decode b_M_lay 51 = .ok (.iload 4, 2) := by decide +kernel
theorem d_M_lay_53 : decode b_M_lay 53 = .ok (.iaload, 1) := by decide +kernel
theorem d_M_lay_54 : decode b_M_lay 54 = .ok (.iload_n 2, 1) := by decide +kernel
theorem d_M_lay_55 : decode b_M_lay 55 = .ok (.if_icmp .ne 7, 3) := by decide +kernel
theorem d_M_lay_58 : decode b_M_lay 58 = .ok (.iconst 1, 1) := by decide +kernel
theorem d_M_lay_59 : decode b_M_lay 59 = .ok (.goto 4, 3) := by decide +kernel
theorem d_M_lay_62 : decode b_M_lay 62 = .ok (.iconst 0, 1) := by decide +kernel
theorem d_M_lay_63 : decode b_M_lay 63 = .ok (.istore 5, 2) := by decide +kernel
theorem d_M_lay_65 : decode b_M_lay 65 = .ok (.iload 5, 2) := by decide +kernel
theorem d_M_lay_67 : decode b_M_lay 67 = .ok (.ifCond .eq 28, 3) := by decide +kernel
theorem d_M_lay_70 : decode b_M_lay 70 = .ok (.aload_n 0, 1) := by decide +kernel
theorem d_M_lay_71 : decode b_M_lay 71 = .ok (.getfield 16, 3) := by decide +kernel
theorem d_M_lay_74 : decode b_M_lay 74 = .ok (.iload 4, 2) := by decide +kernel
theorem d_M_lay_76 : decode b_M_lay 76 = .ok (.iaload, 1) := by decide +kernel
theorem d_M_lay_77 : decode b_M_lay 77 = .ok (.iconst 1, 1) := by decide +kernel
theorem d_M_lay_78 : decode b_M_lay 78 = .ok (.iadd, 1) := by decide +kernel
theorem d_M_lay_79 : decode b_M_lay 79 = .ok (.iload_n 3, 1) := by decide +kernel
theorem d_M_lay_80 : decode b_M_lay 80 = .ok (.if_icmp .le 15, 3) := by decide +kernel
theorem d_M_lay_83 : decode b_M_lay 83 = .ok (.aload_n 0, 1) := by decide +kernel
theorem d_M_lay_84 : decode b_M_lay 84 = .ok (.getfield 16, 3) := by decide +kernel
theorem d_M_lay_87 : decode b_M_lay 87 = .ok (.iload 4, 2) := by decide +kernel
theorem d_M_lay_89 : decode b_M_lay 89 = .ok (.iaload, 1) := by decide +kernel
theorem d_M_lay_90 : decode b_M_lay 90 = .ok (.iconst 1, 1) := by decide +kernel
theorem d_M_lay_91 : decode b_M_lay 91 = .ok (.iadd, 1) := by decide +kernel
theorem d_M_lay_92 : decode b_M_lay 92 = .ok (.goto 4, 3) := by decide +kernel
theorem d_M_lay_95 : decode b_M_lay 95 = .ok (.iload_n 3, 1) := by decide +kernel
theorem d_M_lay_96 : decode b_M_lay 96 = .ok (.istore_n 3, 1) := by decide +kernel
theorem d_M_lay_97 : decode b_M_lay 97 = .ok (.iinc 4 1, 3) := by decide +kernel
theorem d_M_lay_100 : decode b_M_lay 100 = .ok (.goto (-95), 3) := by decide +kernel
theorem d_M_lay_103 : decode b_M_lay 103 = .ok (.aload_n 0, 1) := by decide +kernel
theorem d_M_lay_104 : decode b_M_lay 104 = .ok (.getfield 7, 3) := by decide +kernel
theorem d_M_lay_107 : decode b_M_lay 107 = .ok (.aload_n 0, 1) := by decide +kernel
theorem d_M_lay_108 : decode b_M_lay 108 = .ok (.getfield 76, 3) := by decide +kernel
theorem d_M_lay_111 : decode b_M_lay 111 = .ok (.iload_n 1, 1) := by decide +kernel
theorem d_M_lay_112 : decode b_M_lay 112 = .ok (.iastore, 1) := by decide +kernel
theorem d_M_lay_113 : decode b_M_lay 113 = .ok (.aload_n 0, 1) := by decide +kernel
theorem d_M_lay_114 : decode b_M_lay 114 = .ok (.getfield 13, 3) := by decide +kernel
theorem d_M_lay_117 : decode b_M_lay 117 = .ok (.aload_n 0, 1) := by decide +kernel
theorem d_M_lay_118 : decode b_M_lay 118 = .ok (.getfield 76, 3) := by decide +kernel
theorem d_M_lay_121 : decode b_M_lay 121 = .ok (.iload_n 2, 1) := by decide +kernel
theorem d_M_lay_122 : decode b_M_lay 122 = .ok (.iastore, 1) := by decide +kernel
theorem d_M_lay_123 : decode b_M_lay 123 = .ok (.aload_n 0, 1) := by decide +kernel
theorem d_M_lay_124 : decode b_M_lay 124 = .ok (.getfield 16, 3) := by decide +kernel
theorem d_M_lay_127 : decode b_M_lay 127 = .ok (.aload_n 0, 1) := by decide +kernel
theorem d_M_lay_128 : decode b_M_lay 128 = .ok (.getfield 76, 3) := by decide +kernel
theorem d_M_lay_131 : decode b_M_lay 131 = .ok (.iload_n 3, 1) := by decide +kernel
theorem d_M_lay_132 : decode b_M_lay 132 = .ok (.iastore, 1) := by decide +kernel
theorem d_M_lay_133 : decode b_M_lay 133 = .ok (.aload_n 0, 1) := by decide +kernel
theorem d_M_lay_134 : decode b_M_lay 134 = .ok (.getfield 19, 3) := by decide +kernel
theorem d_M_lay_137 : decode b_M_lay 137 = .ok (.aload_n 0, 1) := by decide +kernel
theorem d_M_lay_138 : decode b_M_lay 138 = .ok (.getfield 76, 3) := by decide +kernel
theorem d_M_lay_141 : decode b_M_lay 141 = .ok (.iconst 0, 1) := by decide +kernel
theorem d_M_lay_142 : decode b_M_lay 142 = .ok (.iastore, 1) := by decide +kernel
theorem d_M_lay_143 : decode b_M_lay 143 = .ok (.aload_n 0, 1) := by decide +kernel
theorem d_M_lay_144 : decode b_M_lay 144 = .ok (.dup, 1) := by decide +kernel
theorem d_M_lay_145 : decode b_M_lay 145 = .ok (.getfield 76, 3) := by decide +kernel
theorem d_M_lay_148 : decode b_M_lay 148 = .ok (.iconst 1, 1) := by decide +kernel
theorem d_M_lay_149 : decode b_M_lay 149 = .ok (.iadd, 1) := by decide +kernel
theorem d_M_lay_150 : decode b_M_lay 150 = .ok (.putfield 76, 3) := by decide +kernel
theorem d_M_lay_153 : decode b_M_lay 153 = .ok (.return_, 1) := by decide +kernel
theorem d_M_mergeOnes_0 : decode b_M_mergeOnes 0 = .ok (.aload_n 0, 1) := by decide +kernel
theorem d_M_mergeOnes_1 : decode b_M_mergeOnes 1 = .ok (.iload_n 1, 1) := by decide +kernel
theorem d_M_mergeOnes_2 : decode b_M_mergeOnes 2 = .ok (.iload_n 2, 1) := by decide +kernel
theorem d_M_mergeOnes_3 : decode b_M_mergeOnes 3 = .ok (.invokevirtual 79, 3) := by decide +kernel
theorem d_M_mergeOnes_6 : decode b_M_mergeOnes 6 = .ok (.aload_n 0, 1) := by decide +kernel
theorem d_M_mergeOnes_7 : decode b_M_mergeOnes 7 = .ok (.getfield 32, 3) := by decide +kernel
theorem d_M_mergeOnes_10 : decode b_M_mergeOnes 10 = .ok (.iload_n 3, 1) := by decide +kernel
theorem d_M_mergeOnes_11 : decode b_M_mergeOnes 11 = .ok (.iload_n 1, 1) := by decide +kernel
theorem d_M_mergeOnes_12 : decode b_M_mergeOnes 12 = .ok (.iastore, 1) := by decide +kernel
theorem d_M_mergeOnes_13 : decode b_M_mergeOnes 13 = .ok (.aload_n 0, 1) := by decide +kernel
theorem d_M_mergeOnes_14 : decode b_M_mergeOnes 14 = .ok (.getfield 32, 3) := by decide +kernel
theorem d_M_mergeOnes_17 : decode b_M_mergeOnes 17 = .ok (.iload_n 3, 1) := by decide +kernel
theorem d_M_mergeOnes_18 : decode b_M_mergeOnes 18 = .ok (.iconst 1, 1) := by decide +kernel
theorem d_M_mergeOnes_19 : decode b_M_mergeOnes 19 = .ok (.iadd, 1) := by decide +kernel
theorem d_M_mergeOnes_20 : decode b_M_mergeOnes 20 = .ok (.iload_n 2, 1) := by decide +kernel
theorem d_M_mergeOnes_21 : decode b_M_mergeOnes 21 = .ok (.iastore, 1) := by decide +kernel
theorem d_M_mergeOnes_22 : decode b_M_mergeOnes 22 = .ok (.return_, 1) := by decide +kernel
theorem d_M_join_0 : decode b_M_join 0 = .ok (.iconst 0, 1) := by decide +kernel
theorem d_M_join_1 : decode b_M_join 1 = .ok (.istore 5, 2) := by decide +kernel
theorem d_M_join_3 : decode b_M_join 3 = .ok (.iload 5, 2) := by decide +kernel
theorem d_M_join_5 : decode b_M_join 5 = .ok (.iload_n 3, 1) := by decide +kernel
theorem d_M_join_6 : decode b_M_join 6 = .ok (.if_icmp .ge 31, 3) := by decide +kernel
theorem d_M_join_9 : decode b_M_join 9 = .ok (.aload_n 0, 1) := by decide +kernel
theorem d_M_join_10 : decode b_M_join 10 = .ok (.aload_n 0, 1) := by decide +kernel
theorem d_M_join_11 : decode b_M_join 11 = .ok (.getfield 32, 3) := by decide +kernel
theorem d_M_join_14 : decode b_M_join 14 = .ok (.iload_n 1, 1) := by decide +kernel
theorem d_M_join_15 : decode b_M_join 15 = .ok (.iload 5, 2) := by decide +kernel
theorem d_M_join_17 : decode b_M_join 17 = .ok (.iadd, 1) := by decide +kernel
theorem d_M_join_18 : decode b_M_join 18 = .ok (.iaload, 1) := by decide +kernel
theorem d_M_join_19 : decode b_M_join 19 = .ok (.aload_n 0, 1) := by decide +kernel
theorem d_M_join_20 : decode b_M_join 20 = .ok (.getfield 32, 3) := by decide +kernel
theorem d_M_join_23 : decode b_M_join 23 = .ok (.iload_n 2, 1) := by decide +kernel
theorem d_M_join_24 : decode b_M_join 24 = .ok (.iload 5, 2) := by decide +kernel
theorem d_M_join_26 : decode b_M_join 26 = .ok (.iadd, 1) := by decide +kernel
theorem d_M_join_27 : decode b_M_join 27 = .ok (.iaload, 1) := by decide +kernel
theorem d_M_join_28 : decode b_M_join 28 = .ok (.invokevirtual 79, 3) := by decide +kernel
theorem d_M_join_31 : decode b_M_join 31 = .ok (.iinc 5 1, 3) := by decide +kernel
theorem d_M_join_34 : decode b_M_join 34 = .ok (.goto (-31), 3) := by decide +kernel
theorem d_M_join_37 : decode b_M_join 37 = .ok (.iconst 0, 1) := by decide +kernel
theorem d_M_join_38 : decode b_M_join 38 = .ok (.istore 5, 2) := by decide +kernel
theorem d_M_join_40 : decode b_M_join 40 = .ok (.iload 5, 2) := by decide +kernel
theorem d_M_join_42 : decode b_M_join 42 = .ok (.iload_n 3, 1) := by decide +kernel
theorem d_M_join_43 : decode b_M_join 43 = .ok (.if_icmp .ge 53, 3) := by decide +kernel
theorem d_M_join_46 : decode b_M_join 46 = .ok (.aload_n 0, 1) := by decide +kernel
theorem d_M_join_47 : decode b_M_join 47 = .ok (.getfield 32, 3) := by decide +kernel
theorem d_M_join_50 : decode b_M_join 50 = .ok (.iload 4, 2) := by decide +kernel
theorem d_M_join_52 : decode b_M_join 52 = .ok (.iconst 2, 1) := by decide +kernel
theorem d_M_join_53 : decode b_M_join 53 = .ok (.iload 5, 2) := by decide +kernel
theorem d_M_join_55 : decode b_M_join 55 = .ok (.imul, 1) := by decide +kernel
theorem d_M_join_56 : decode b_M_join 56 = .ok (.iadd, 1) := by decide +kernel
theorem d_M_join_57 : decode b_M_join 57 = .ok (.aload_n 0, 1) := by decide +kernel
theorem d_M_join_58 : decode b_M_join 58 = .ok (.getfield 32, 3) := by decide +kernel
theorem d_M_join_61 : decode b_M_join 61 = .ok (.iload_n 1, 1) := by decide +kernel
theorem d_M_join_62 : decode b_M_join 62 = .ok (.iload 5, 2) := by decide +kernel
theorem d_M_join_64 : decode b_M_join 64 = .ok (.iadd, 1) := by decide +kernel
theorem d_M_join_65 : decode b_M_join 65 = .ok (.iaload, 1) := by decide +kernel
theorem d_M_join_66 : decode b_M_join 66 = .ok (.iastore, 1) := by decide +kernel
theorem d_M_join_67 : decode b_M_join 67 = .ok (.aload_n 0, 1) := by decide +kernel
theorem d_M_join_68 : decode b_M_join 68 = .ok (.getfield 32, 3) := by decide +kernel
theorem d_M_join_71 : decode b_M_join 71 = .ok (.iload 4, 2) := by decide +kernel
theorem d_M_join_73 : decode b_M_join 73 = .ok (.iconst 2, 1) := by decide +kernel
theorem d_M_join_74 : decode b_M_join 74 = .ok (.iload 5, 2) := by decide +kernel
theorem d_M_join_76 : decode b_M_join 76 = .ok (.imul, 1) := by decide +kernel
theorem d_M_join_77 : decode b_M_join 77 = .ok (.iadd, 1) := by decide +kernel
theorem d_M_join_78 : decode b_M_join 78 = .ok (.iconst 1, 1) := by decide +kernel
theorem d_M_join_79 : decode b_M_join 79 = .ok (.iadd, 1) := by decide +kernel
theorem d_M_join_80 : decode b_M_join 80 = .ok (.aload_n 0, 1) := by decide +kernel
theorem d_M_join_81 : decode b_M_join 81 = .ok (.getfield 32, 3) := by decide +kernel
theorem d_M_join_84 : decode b_M_join 84 = .ok (.iload_n 2, 1) := by decide +kernel
theorem d_M_join_85 : decode b_M_join 85 = .ok (.iload 5, 2) := by decide +kernel
theorem d_M_join_87 : decode b_M_join 87 = .ok (.iadd, 1) := by decide +kernel
theorem d_M_join_88 : decode b_M_join 88 = .ok (.iaload, 1) := by decide +kernel
theorem d_M_join_89 : decode b_M_join 89 = .ok (.iastore, 1) := by decide +kernel
theorem d_M_join_90 : decode b_M_join 90 = .ok (.iinc 5 1, 3) := by decide +kernel
theorem d_M_join_93 : decode b_M_join 93 = .ok (.goto (-53), 3) := by decide +kernel
theorem d_M_join_96 : decode b_M_join 96 = .ok (.return_, 1) := by decide +kernel
theorem d_M_mergeTwos_0 : decode b_M_mergeTwos 0 = .ok (.aload_n 0, 1) := by decide +kernel
theorem d_M_mergeTwos_1 : decode b_M_mergeTwos 1 = .ok (.aload_n 0, 1) := by decide +kernel
theorem d_M_mergeTwos_2 : decode b_M_mergeTwos 2 = .ok (.getfield 32, 3) := by decide +kernel
theorem d_M_mergeTwos_5 : decode b_M_mergeTwos 5 = .ok (.iload_n 1, 1) := by decide +kernel
theorem d_M_mergeTwos_6 : decode b_M_mergeTwos 6 = .ok (.iaload, 1) := by decide +kernel
theorem d_M_mergeTwos_7 : decode b_M_mergeTwos 7 = .ok (.aload_n 0, 1) := by decide +kernel
theorem d_M_mergeTwos_8 : decode b_M_mergeTwos 8 = .ok (.getfield 32, 3) := by decide +kernel
theorem d_M_mergeTwos_11 : decode b_M_mergeTwos 11 = .ok (.iload_n 2, 1) := by decide +kernel
theorem d_M_mergeTwos_12 : decode b_M_mergeTwos 12 = .ok (.iconst 1, 1) := by decide +kernel
theorem d_M_mergeTwos_13 : decode b_M_mergeTwos 13 = .ok (.iadd, 1) := by decide +kernel
theorem d_M_mergeTwos_14 : decode b_M_mergeTwos 14 = .ok (.iaload, 1) := by decide +kernel
theorem d_M_mergeTwos_15 : decode b_M_mergeTwos 15 = .ok (.iload_n 3, 1) := by decide +kernel
theorem d_M_mergeTwos_16 : decode b_M_mergeTwos 16 = .ok (.iconst 4, 1) := by decide +kernel
theorem d_M_mergeTwos_17 : decode b_M_mergeTwos 17 = .ok (.iadd, 1) := by decide +kernel
theorem d_M_mergeTwos_18 : decode b_M_mergeTwos 18 = .ok (.invokevirtual 82, 3) := by decide +kernel
theorem d_M_mergeTwos_21 : decode b_M_mergeTwos 21 = .ok (.aload_n 0, 1) := by decide +kernel
theorem d_M_mergeTwos_22 : decode b_M_mergeTwos 22 = .ok (.aload_n 0, 1) := by decide +kernel
theorem d_M_mergeTwos_23 : decode b_M_mergeTwos 23 = .ok (.getfield 32, 3) := by decide +kernel
theorem d_M_mergeTwos_26 : decode b_M_mergeTwos 26 = .ok (.iload_n 1, 1) := by decide +kernel
theorem d_M_mergeTwos_27 : decode b_M_mergeTwos 27 = .ok (.iconst 1, 1) := by decide +kernel
theorem d_M_mergeTwos_28 : decode b_M_mergeTwos 28 = .ok (.iadd, 1) := by decide +kernel
theorem d_M_mergeTwos_29 : decode b_M_mergeTwos 29 = .ok (.iaload, 1) := by decide +kernel
theorem d_M_mergeTwos_30 : decode b_M_mergeTwos 30 = .ok (.aload_n 0, 1) := by decide +kernel
theorem d_M_mergeTwos_31 : decode b_M_mergeTwos 31 = .ok (.getfield 32, 3) := by decide +kernel
theorem d_M_mergeTwos_34 : decode b_M_mergeTwos 34 = .ok (.iload_n 2, 1) := by decide +kernel
theorem d_M_mergeTwos_35 : decode b_M_mergeTwos 35 = .ok (.iaload, 1) := by decide +kernel
theorem d_M_mergeTwos_36 : decode b_M_mergeTwos 36 = .ok (.iload_n 3, 1) := by decide +kernel
theorem d_M_mergeTwos_37 : decode b_M_mergeTwos 37 = .ok (.bipush 6, 2) := by decide +kernel
theorem d_M_mergeTwos_39 : decode b_M_mergeTwos 39 = .ok (.iadd, 1) := by decide +kernel
theorem d_M_mergeTwos_40 : decode b_M_mergeTwos 40 = .ok (.invokevirtual 82, 3) := by decide +kernel
theorem d_M_mergeTwos_43 : decode b_M_mergeTwos 43 = .ok (.aload_n 0, 1) := by decide +kernel
theorem d_M_mergeTwos_44 : decode b_M_mergeTwos 44 = .ok (.iload_n 3, 1) := by decide +kernel
theorem d_M_mergeTwos_45 : decode b_M_mergeTwos 45 = .ok (.iconst 4, 1) := by decide +kernel
theorem d_M_mergeTwos_46 : decode b_M_mergeTwos 46 = .ok (.iadd, 1) := by decide +kernel
theorem d_M_mergeTwos_47 : decode b_M_mergeTwos 47 = .ok (.iload_n 3, 1) := by decide +kernel
theorem d_M_mergeTwos_48 : decode b_M_mergeTwos 48 = .ok (.bipush 6, 2) := by decide +kernel
theorem d_M_mergeTwos_50 : decode b_M_mergeTwos 50 = .ok (.iadd, 1) := by decide +kernel
theorem d_M_mergeTwos_51 : decode b_M_mergeTwos 51 = .ok (.iconst 2, 1) := by decide +kernel
theorem d_M_mergeTwos_52 : decode b_M_mergeTwos 52 = .ok (.iload_n 3, 1) := by decide +kernel
theorem d_M_mergeTwos_53 : decode b_M_mergeTwos 53 = .ok (.invokevirtual 86, 3) := by decide +kernel
theorem d_M_mergeTwos_56 : decode b_M_mergeTwos 56 = .ok (.return_, 1) := by decide +kernel
theorem d_M_mergeFours_0 : decode b_M_mergeFours 0 = .ok (.iconst 0, 1) := by decide +kernel
theorem d_M_mergeFours_1 : decode b_M_mergeFours 1 = .ok (.istore 4, 2) := by decide +kernel
theorem d_M_mergeFours_3 : decode b_M_mergeFours 3 = .ok (.iload 4, 2) := by decide +kernel
theorem d_M_mergeFours_5 : decode b_M_mergeFours 5 = .ok (.iconst 2, 1) := by decide +kernel
theorem d_M_mergeFours_6 : decode b_M_mergeFours 6 = .ok (.if_icmp .ge 100, 3) := by decide +kernel
theorem d_M_mergeFours_9 : decode b_M_mergeFours 9 = .ok (.iconst 0, 1) := by decide +kernel
theorem d_M_mergeFours_10 : decode b_M_mergeFours 10 = .ok (.istore 5, 2) := by decide +kernel
theorem d_M_mergeFours_12 : decode b_M_mergeFours 12 = .ok (.iload 5, 2) := by decide +kernel
theorem d_M_mergeFours_14 : decode b_M_mergeFours 14 = .ok (.iconst 2, 1) := by decide +kernel
theorem d_M_mergeFours_15 : decode b_M_mergeFours 15 = .ok (.if_icmp .ge 63, 3) := by decide +kernel
theorem d_M_mergeFours_18 : decode b_M_mergeFours 18 = .ok (.aload_n 0, 1) := by decide +kernel
theorem d_M_mergeFours_19 : decode b_M_mergeFours 19 = .ok (.getfield 32, 3) := by decide +kernel
theorem d_M_mergeFours_22 : decode b_M_mergeFours 22 = .ok (.iload_n 3, 1) := by decide +kernel
theorem d_M_mergeFours_23 : decode b_M_mergeFours 23 = .ok (.bipush 8, 2) := by decide +kernel
theorem d_M_mergeFours_25 : decode b_M_mergeFours 25 = .ok (.iadd, 1) := by decide +kernel
theorem d_M_mergeFours_26 : decode b_M_mergeFours 26 = .ok (.iload 5, 2) := by decide +kernel
theorem d_M_mergeFours_28 : decode b_M_mergeFours 28 = .ok (.iadd, 1) := by decide +kernel
theorem d_M_mergeFours_29 : decode b_M_mergeFours 29 = .ok (.aload_n 0, 1) := by decide +kernel
theorem d_M_mergeFours_30 : decode b_M_mergeFours 30 = .ok (.getfield 32, 3) := by decide +kernel
theorem d_M_mergeFours_33 : decode b_M_mergeFours 33 = .ok (.iload_n 1, 1) := by decide +kernel
theorem d_M_mergeFours_34 : decode b_M_mergeFours 34 = .ok (.iconst 2, 1) := by decide +kernel
theorem d_M_mergeFours_35 : decode b_M_mergeFours 35 = .ok (.iload 5, 2) := by decide +kernel
theorem d_M_mergeFours_37 : decode b_M_mergeFours 37 = .ok (.imul, 1) := by decide +kernel
theorem d_M_mergeFours_38 : decode b_M_mergeFours 38 = .ok (.iadd, 1) := by decide +kernel
theorem d_M_mergeFours_39 : decode b_M_mergeFours 39 = .ok (.iload 4, 2) := by decide +kernel
theorem d_M_mergeFours_41 : decode b_M_mergeFours 41 = .ok (.iadd, 1) := by decide +kernel
theorem d_M_mergeFours_42 : decode b_M_mergeFours 42 = .ok (.iaload, 1) := by decide +kernel
theorem d_M_mergeFours_43 : decode b_M_mergeFours 43 = .ok (.iastore, 1) := by decide +kernel
theorem d_M_mergeFours_44 : decode b_M_mergeFours 44 = .ok (.aload_n 0, 1) := by decide +kernel
theorem d_M_mergeFours_45 : decode b_M_mergeFours 45 = .ok (.getfield 32, 3) := by decide +kernel
theorem d_M_mergeFours_48 : decode b_M_mergeFours 48 = .ok (.iload_n 3, 1) := by decide +kernel
theorem d_M_mergeFours_49 : decode b_M_mergeFours 49 = .ok (.bipush 10, 2) := by decide +kernel
theorem d_M_mergeFours_51 : decode b_M_mergeFours 51 = .ok (.iadd, 1) := by decide +kernel
theorem d_M_mergeFours_52 : decode b_M_mergeFours 52 = .ok (.iload 5, 2) := by decide +kernel
theorem d_M_mergeFours_54 : decode b_M_mergeFours 54 = .ok (.iadd, 1) := by decide +kernel
theorem d_M_mergeFours_55 : decode b_M_mergeFours 55 = .ok (.aload_n 0, 1) := by decide +kernel
theorem d_M_mergeFours_56 : decode b_M_mergeFours 56 = .ok (.getfield 32, 3) := by decide +kernel
theorem d_M_mergeFours_59 : decode b_M_mergeFours 59 = .ok (.iload_n 2, 1) := by decide +kernel
theorem d_M_mergeFours_60 : decode b_M_mergeFours 60 = .ok (.iconst 2, 1) := by decide +kernel
theorem d_M_mergeFours_61 : decode b_M_mergeFours 61 = .ok (.iload 5, 2) := by decide +kernel
theorem d_M_mergeFours_63 : decode b_M_mergeFours 63 = .ok (.imul, 1) := by decide +kernel
theorem d_M_mergeFours_64 : decode b_M_mergeFours 64 = .ok (.iadd, 1) := by decide +kernel
theorem d_M_mergeFours_65 : decode b_M_mergeFours 65 = .ok (.iconst 1, 1) := by decide +kernel
theorem d_M_mergeFours_66 : decode b_M_mergeFours 66 = .ok (.iadd, 1) := by decide +kernel
theorem d_M_mergeFours_67 : decode b_M_mergeFours 67 = .ok (.iload 4, 2) := by decide +kernel
theorem d_M_mergeFours_69 : decode b_M_mergeFours 69 = .ok (.isub, 1) := by decide +kernel
theorem d_M_mergeFours_70 : decode b_M_mergeFours 70 = .ok (.iaload, 1) := by decide +kernel
theorem d_M_mergeFours_71 : decode b_M_mergeFours 71 = .ok (.iastore, 1) := by decide +kernel
theorem d_M_mergeFours_72 : decode b_M_mergeFours 72 = .ok (.iinc 5 1, 3) := by decide +kernel
theorem d_M_mergeFours_75 : decode b_M_mergeFours 75 = .ok (.goto (-63), 3) := by decide +kernel
theorem d_M_mergeFours_78 : decode b_M_mergeFours 78 = .ok (.aload_n 0, 1) := by decide +kernel
theorem d_M_mergeFours_79 : decode b_M_mergeFours 79 = .ok (.iload_n 3, 1) := by decide +kernel
theorem d_M_mergeFours_80 : decode b_M_mergeFours 80 = .ok (.bipush 8, 2) := by decide +kernel
theorem d_M_mergeFours_82 : decode b_M_mergeFours 82 = .ok (.iadd, 1) := by decide +kernel
theorem d_M_mergeFours_83 : decode b_M_mergeFours 83 = .ok (.iload_n 3, 1) := by decide +kernel
theorem d_M_mergeFours_84 : decode b_M_mergeFours 84 = .ok (.bipush 10, 2) := by decide +kernel
theorem d_M_mergeFours_86 : decode b_M_mergeFours 86 = .ok (.iadd, 1) := by decide +kernel
theorem d_M_mergeFours_87 : decode b_M_mergeFours 87 = .ok (.iload_n 3, 1) := by decide +kernel
theorem d_M_mergeFours_88 : decode b_M_mergeFours 88 = .ok (.bipush 16, 2) := by decide +kernel
theorem d_M_mergeFours_90 : decode b_M_mergeFours 90 = .ok (.iadd, 1) := by decide +kernel
theorem d_M_mergeFours_91 : decode b_M_mergeFours 91 = .ok (.bipush 8, 2) := by decide +kernel
theorem d_M_mergeFours_93 : decode b_M_mergeFours 93 = .ok (.iload 4, 2) := by decide +kernel
theorem d_M_mergeFours_95 : decode b_M_mergeFours 95 = .ok (.imul, 1) := by decide +kernel
theorem d_M_mergeFours_96 : decode b_M_mergeFours 96 = .ok (.iadd, 1) := by decide +kernel
theorem d_M_mergeFours_97 : decode b_M_mergeFours 97 = .ok (.invokevirtual 90, 3) := by decide +kernel
theorem d_M_mergeFours_100 : decode b_M_mergeFours 100 = .ok (.iinc 4 1, 3) := by decide +kernel
theorem d_M_mergeFours_103 : decode b_M_mergeFours 103 = .ok (.goto (-100), 3) := by decide +kernel
theorem d_M_mergeFours_106 : decode b_M_mergeFours 106 = .ok (.aload_n 0, 1) := by decide +kernel
theorem d_M_mergeFours_107 : decode b_M_mergeFours 107 = .ok (.iload_n 3, 1) := by decide +kernel
theorem d_M_mergeFours_108 : decode b_M_mergeFours 108 = .ok (.bipush 16, 2) := by decide +kernel
theorem d_M_mergeFours_110 : decode b_M_mergeFours 110 = .ok (.iadd, 1) := by decide +kernel
theorem d_M_mergeFours_111 : decode b_M_mergeFours 111 = .ok (.iload_n 3, 1) := by decide +kernel
theorem d_M_mergeFours_112 : decode b_M_mergeFours 112 = .ok (.bipush 24, 2) := by decide +kernel
theorem d_M_mergeFours_114 : decode b_M_mergeFours 114 = .ok (.iadd, 1) := by decide +kernel
theorem d_M_mergeFours_115 : decode b_M_mergeFours 115 = .ok (.iconst 4, 1) := by decide +kernel
theorem d_M_mergeFours_116 : decode b_M_mergeFours 116 = .ok (.iload_n 3, 1) := by decide +kernel
theorem d_M_mergeFours_117 : decode b_M_mergeFours 117 = .ok (.invokevirtual 86, 3) := by decide +kernel
theorem d_M_mergeFours_120 : decode b_M_mergeFours 120 = .ok (.return_, 1) := by decide +kernel
theorem d_M_layFour_0 : decode b_M_layFour 0 = .ok (.aload_n 0, 1) := by decide +kernel
theorem d_M_layFour_1 : decode b_M_layFour 1 = .ok (.iload_n 1, 1) := by decide +kernel
theorem d_M_layFour_2 : decode b_M_layFour 2 = .ok (.iload_n 1, 1) := by decide +kernel
theorem d_M_layFour_3 : decode b_M_layFour 3 = .ok (.iconst 1, 1) := by decide +kernel
theorem d_M_layFour_4 : decode b_M_layFour 4 = .ok (.iadd, 1) := by decide +kernel
theorem d_M_layFour_5 : decode b_M_layFour 5 = .ok (.iload_n 2, 1) := by decide +kernel
theorem d_M_layFour_6 : decode b_M_layFour 6 = .ok (.bipush 16, 2) := by decide +kernel
theorem d_M_layFour_8 : decode b_M_layFour 8 = .ok (.iadd, 1) := by decide +kernel
theorem d_M_layFour_9 : decode b_M_layFour 9 = .ok (.invokevirtual 82, 3) := by decide +kernel
theorem d_M_layFour_12 : decode b_M_layFour 12 = .ok (.aload_n 0, 1) := by decide +kernel
theorem d_M_layFour_13 : decode b_M_layFour 13 = .ok (.iload_n 1, 1) := by decide +kernel
theorem d_M_layFour_14 : decode b_M_layFour 14 = .ok (.iconst 2, 1) := by decide +kernel
theorem d_M_layFour_15 : decode b_M_layFour 15 = .ok (.iadd, 1) := by decide +kernel
theorem d_M_layFour_16 : decode b_M_layFour 16 = .ok (.iload_n 1, 1) := by decide +kernel
theorem d_M_layFour_17 : decode b_M_layFour 17 = .ok (.iconst 3, 1) := by decide +kernel
theorem d_M_layFour_18 : decode b_M_layFour 18 = .ok (.iadd, 1) := by decide +kernel
theorem d_M_layFour_19 : decode b_M_layFour 19 = .ok (.iload_n 2, 1) := by decide +kernel
theorem d_M_layFour_20 : decode b_M_layFour 20 = .ok (.bipush 18, 2) := by decide +kernel
theorem d_M_layFour_22 : decode b_M_layFour 22 = .ok (.iadd, 1) := by decide +kernel
theorem d_M_layFour_23 : decode b_M_layFour 23 = .ok (.invokevirtual 82, 3) := by decide +kernel
theorem d_M_layFour_26 : decode b_M_layFour 26 = .ok (.aload_n 0, 1) := by decide +kernel
theorem d_M_layFour_27 : decode b_M_layFour 27 = .ok (.iload_n 2, 1) := by decide +kernel
theorem d_M_layFour_28 : decode b_M_layFour 28 = .ok (.bipush 16, 2) := by decide +kernel
theorem d_M_layFour_30 : decode b_M_layFour 30 = .ok (.iadd, 1) := by decide +kernel
theorem d_M_layFour_31 : decode b_M_layFour 31 = .ok (.iload_n 2, 1) := by decide +kernel
theorem d_M_layFour_32 : decode b_M_layFour 32 = .ok (.bipush 18, 2) := by decide +kernel
theorem d_M_layFour_34 : decode b_M_layFour 34 = .ok (.iadd, 1) := by decide +kernel
theorem d_M_layFour_35 : decode b_M_layFour 35 = .ok (.iload_n 2, 1) := by decide +kernel
theorem d_M_layFour_36 : decode b_M_layFour 36 = .ok (.invokevirtual 90, 3) := by decide +kernel
theorem d_M_layFour_39 : decode b_M_layFour 39 = .ok (.return_, 1) := by decide +kernel
theorem d_M_make_0 : decode b_M_make 0 = .ok (.aload_n 0, 1) := by decide +kernel
theorem d_M_make_1 : decode b_M_make 1 = .ok (.iload_n 1, 1) := by decide +kernel
theorem d_M_make_2 : decode b_M_make 2 = .ok (.putfield 93, 3) := by decide +kernel
theorem d_M_make_5 : decode b_M_make 5 = .ok (.aload_n 0, 1) := by decide +kernel
theorem d_M_make_6 : decode b_M_make 6 = .ok (.iload_n 2, 1) := by decide +kernel
theorem d_M_make_7 : decode b_M_make 7 = .ok (.putfield 96, 3) := by decide +kernel
theorem d_M_make_10 : decode b_M_make 10 = .ok (.aload_n 0, 1) := by decide +kernel
theorem d_M_make_11 : decode b_M_make 11 = .ok (.iconst 0, 1) := by decide +kernel
theorem d_M_make_12 : decode b_M_make 12 = .ok (.putfield 76, 3) := by decide +kernel
theorem d_M_make_15 : decode b_M_make 15 = .ok (.aload_n 0, 1) := by decide +kernel
theorem d_M_make_16 : decode b_M_make 16 = .ok (.iconst 0, 1) := by decide +kernel
theorem d_M_make_17 : decode b_M_make 17 = .ok (.putfield 99, 3) := by decide +kernel
theorem d_M_make_20 : decode b_M_make 20 = .ok (.aload_n 0, 1) := by decide +kernel
theorem d_M_make_21 : decode b_M_make 21 = .ok (.iconst 0, 1) := by decide +kernel
theorem d_M_make_22 : decode b_M_make 22 = .ok (.putfield 102, 3) := by decide +kernel
theorem d_M_make_25 : decode b_M_make 25 = .ok (.iload_n 1, 1) := by decide +kernel
theorem d_M_make_26 : decode b_M_make 26 = .ok (.iconst 2, 1) := by decide +kernel
theorem d_M_make_27 : decode b_M_make 27 = .ok (.if_icmp .ne 13, 3) := by decide +kernel
theorem d_M_make_30 : decode b_M_make 30 = .ok (.aload_n 0, 1) := by decide +kernel
theorem d_M_make_31 : decode b_M_make 31 = .ok (.iconst 0, 1) := by decide +kernel
theorem d_M_make_32 : decode b_M_make 32 = .ok (.iconst 1, 1) := by decide +kernel
theorem d_M_make_33 : decode b_M_make 33 = .ok (.iconst 0, 1) := by decide +kernel
theorem d_M_make_34 : decode b_M_make 34 = .ok (.invokevirtual 82, 3) := by decide +kernel
theorem d_M_make_37 : decode b_M_make 37 = .ok (.goto 40, 3) := by decide +kernel
theorem d_M_make_40 : decode b_M_make 40 = .ok (.iload_n 1, 1) := by decide +kernel
theorem d_M_make_41 : decode b_M_make 41 = .ok (.iconst 4, 1) := by decide +kernel
theorem d_M_make_42 : decode b_M_make 42 = .ok (.if_icmp .ne 12, 3) := by decide +kernel
theorem d_M_make_45 : decode b_M_make 45 = .ok (.aload_n 0, 1) := by decide +kernel
theorem d_M_make_46 : decode b_M_make 46 = .ok (.iconst 0, 1) := by decide +kernel
theorem d_M_make_47 : decode b_M_make 47 = .ok (.iconst 0, 1) := by decide +kernel
theorem d_M_make_48 : decode b_M_make 48 = .ok (.invokevirtual 105, 3) := by decide +kernel
theorem d_M_make_51 : decode b_M_make 51 = .ok (.goto 26, 3) := by decide +kernel
theorem d_M_make_54 : decode b_M_make 54 = .ok (.aload_n 0, 1) := by decide +kernel
theorem d_M_make_55 : decode b_M_make 55 = .ok (.iconst 0, 1) := by decide +kernel
theorem d_M_make_56 : decode b_M_make 56 = .ok (.bipush 40, 2) := by decide +kernel
theorem d_M_make_58 : decode b_M_make 58 = .ok (.invokevirtual 105, 3) := by decide +kernel
theorem d_M_make_61 : decode b_M_make 61 = .ok (.aload_n 0, 1) := by decide +kernel
theorem d_M_make_62 : decode b_M_make 62 = .ok (.iconst 4, 1) := by decide +kernel
theorem d_M_make_63 : decode b_M_make 63 = .ok (.bipush 48, 2) := by decide +kernel
theorem d_M_make_65 : decode b_M_make 65 = .ok (.invokevirtual 105, 3) := by decide +kernel
theorem d_M_make_68 : decode b_M_make 68 = .ok (.aload_n 0, 1) := by decide +kernel
theorem d_M_make_69 : decode b_M_make 69 = .ok (.bipush 40, 2) := by decide +kernel
theorem d_M_make_71 : decode b_M_make 71 = .ok (.bipush 48, 2) := by decide +kernel
theorem d_M_make_73 : decode b_M_make 73 = .ok (.iconst 0, 1) := by decide +kernel
theorem d_M_make_74 : decode b_M_make 74 = .ok (.invokevirtual 108, 3) := by decide +kernel
theorem d_M_make_77 : decode b_M_make 77 = .ok (.iconst 0, 1) := by decide +kernel
theorem d_M_make_78 : decode b_M_make 78 = .ok (.istore_n 3, 1) := by decide +kernel
theorem d_M_make_79 : decode b_M_make 79 = .ok (.iload_n 3, 1) := by decide +kernel
theorem d_M_make_80 : decode b_M_make 80 = .ok (.iload_n 1, 1) := by decide +kernel
theorem d_M_make_81 : decode b_M_make 81 = .ok (.if_icmp .ge 28, 3) := by decide +kernel
theorem d_M_make_84 : decode b_M_make 84 = .ok (.aload_n 0, 1) := by decide +kernel
theorem d_M_make_85 : decode b_M_make 85 = .ok (.getfield 22, 3) := by decide +kernel
theorem d_M_make_88 : decode b_M_make 88 = .ok (.iload_n 3, 1) := by decide +kernel
theorem d_M_make_89 : decode b_M_make 89 = .ok (.aload_n 0, 1) := by decide +kernel
theorem d_M_make_90 : decode b_M_make 90 = .ok (.getfield 32, 3) := by decide +kernel
theorem d_M_make_93 : decode b_M_make 93 = .ok (.iload_n 3, 1) := by decide +kernel
theorem d_M_make_94 : decode b_M_make 94 = .ok (.iaload, 1) := by decide +kernel
theorem d_M_make_95 : decode b_M_make 95 = .ok (.iastore, 1) := by decide +kernel
theorem d_M_make_96 : decode b_M_make 96 = .ok (.aload_n 0, 1) := by decide +kernel
theorem d_M_make_97 : decode b_M_make 97 = .ok (.getfield 25, 3) := by decide +kernel
theorem d_M_make_100 : decode b_M_make 100 = .ok (.iload_n 3, 1) := by decide +kernel
theorem d_M_make_101 : decode b_M_make 101 = .ok (.iconst 0, 1) := by decide +kernel
theorem d_M_make_102 : decode b_M_make 102 = .ok (.iastore, 1) := by decide +kernel
theorem d_M_make_103 : decode b_M_make 103 = .ok (.iinc 3 1, 3) := by decide +kernel
theorem d_M_make_106 : decode b_M_make 106 = .ok (.goto (-27), 3) := by decide +kernel
theorem d_M_make_109 : decode b_M_make 109 = .ok (.iconst 0, 1) := by decide +kernel
theorem d_M_make_110 : decode b_M_make 110 = .ok (.istore_n 3, 1) := by decide +kernel
theorem d_M_make_111 : decode b_M_make 111 = .ok (.iload_n 3, 1) := by decide +kernel
theorem d_M_make_112 : decode b_M_make 112 = .ok (.bipush 6, 2) := by decide +kernel
theorem d_M_make_114 : decode b_M_make 114 = .ok (.if_icmp .ge 16, 3) := by decide +kernel
theorem d_M_make_117 : decode b_M_make 117 = .ok (.aload_n 0, 1) := by decide +kernel
theorem d_M_make_118 : decode b_M_make 118 = .ok (.getfield 28, 3) := by decide +kernel
theorem d_M_make_121 : decode b_M_make 121 = .ok (.iload_n 3, 1) := by decide +kernel
theorem d_M_make_122 : decode b_M_make 122 = .ok (.iconst 0, 1) := by decide +kernel
theorem d_M_make_123 : decode b_M_make 123 = .ok (.bastore, 1) := by decide +kernel
theorem d_M_make_124 : decode b_M_make 124 = .ok (.iinc 3 1, 3) := by decide +kernel
theorem d_M_make_127 : decode b_M_make 127 = .ok (.goto (-16), 3) := by decide +kernel
theorem d_M_make_130 : decode b_M_make 130 = .ok (.return_, 1) := by decide +kernel
theorem d_M_build_0 : decode b_M_build 0 = .ok (.aload_n 0, 1) := by decide +kernel
theorem d_M_build_1 : decode b_M_build 1 = .ok (.iload_n 1, 1) := by decide +kernel
theorem d_M_build_2 : decode b_M_build 2 = .ok (.iconst 2, 1) := by decide +kernel
theorem d_M_build_3 : decode b_M_build 3 = .ok (.if_icmp .eq 14, 3) := by decide +kernel
theorem d_M_build_6 : decode b_M_build 6 = .ok (.iload_n 1, 1) := by decide +kernel
theorem d_M_build_7 : decode b_M_build 7 = .ok (.iconst 4, 1) := by decide +kernel
theorem d_M_build_8 : decode b_M_build 8 = .ok (.if_icmp .eq 9, 3) := by decide +kernel
theorem d_M_build_11 : decode b_M_build 11 = .ok (.iload_n 1, 1) := by decide +kernel
theorem d_M_build_12 : decode b_M_build 12 = .ok (.bipush 8, 2) := by decide +kernel
theorem d_M_build_14 : decode b_M_build 14 = .ok (.if_icmp .ne 13, 3) := by decide +kernel
theorem d_M_build_17 : decode b_M_build 17 = .ok (.iload_n 2, 1) := by decide +kernel
theorem d_M_build_18 : decode b_M_build 18 = .ok (.iconst 1, 1) := by decide +kernel
theorem d_M_build_19 : decode b_M_build 19 = .ok (.bipush 6, 2) := by decide +kernel
theorem d_M_build_21 : decode b_M_build 21 = .ok (.invokestatic 111, 3) := by decide +kernel
theorem d_M_build_24 : decode b_M_build 24 = .ok (.ifCond .ne 7, 3) := by decide +kernel
theorem d_M_build_27 : decode b_M_build 27 = .ok (.iconst 1, 1) := by decide +kernel
theorem d_M_build_28 : decode b_M_build 28 = .ok (.goto 4, 3) := by decide +kernel
theorem d_M_build_31 : decode b_M_build 31 = .ok (.iconst 0, 1) := by decide +kernel
theorem d_M_build_32 : decode b_M_build 32 = .ok (.iconst 0, 1) := by decide +kernel
theorem d_M_build_33 : decode b_M_build 33 = .ok (.invokevirtual 115, 3) := by decide +kernel
theorem d_M_build_36 : decode b_M_build 36 = .ok (.ifCond .eq 5, 3) := by decide +kernel
theorem d_M_build_39 : decode b_M_build 39 = .ok (.iconst 0, 1) := by decide +kernel
theorem d_M_build_40 : decode b_M_build 40 = .ok (.ireturn, 1) := by decide +kernel
theorem d_M_build_41 : decode b_M_build 41 = .ok (.aload_n 0, 1) := by decide +kernel
theorem d_M_build_42 : decode b_M_build 42 = .ok (.iload_n 1, 1) := by decide +kernel
theorem d_M_build_43 : decode b_M_build 43 = .ok (.iload_n 2, 1) := by decide +kernel
theorem d_M_build_44 : decode b_M_build 44 = .ok (.invokevirtual 68, 3) := by decide +kernel
theorem d_M_build_47 : decode b_M_build 47 = .ok (.aload_n 0, 1) := by decide +kernel
theorem d_M_build_48 : decode b_M_build 48 = .ok (.getfield 76, 3) := by decide +kernel
theorem d_M_build_51 : decode b_M_build 51 = .ok (.ireturn, 1) := by decide +kernel
theorem d_M_balancer_0 : decode b_M_balancer 0 = .ok (.iload_n 1, 1) := by decide +kernel
theorem d_M_balancer_1 : decode b_M_balancer 1 = .ok (.iconst 0, 1) := by decide +kernel
theorem d_M_balancer_2 : decode b_M_balancer 2 = .ok (.aload_n 0, 1) := by decide +kernel
theorem d_M_balancer_3 : decode b_M_balancer 3 = .ok (.getfield 76, 3) := by decide +kernel
theorem d_M_balancer_6 : decode b_M_balancer 6 = .ok (.iconst 1, 1) := by decide +kernel
theorem d_M_balancer_7 : decode b_M_balancer 7 = .ok (.isub, 1) := by decide +kernel
theorem d_M_balancer_8 : decode b_M_balancer 8 = .ok (.invokestatic 111, 3) := by decide +kernel
theorem d_M_balancer_11 : decode b_M_balancer 11 = .ok (.istore_n 3, 1) := by decide +kernel
theorem d_M_balancer_12 : decode b_M_balancer 12 = .ok (.aload_n 0, 1) := by decide +kernel
theorem d_M_balancer_13 : decode b_M_balancer 13 = .ok (.iload_n 3, 1) := by decide +kernel
theorem d_M_balancer_14 : decode b_M_balancer 14 = .ok (.ifCond .ne 7, 3) := by decide +kernel
theorem d_M_balancer_17 : decode b_M_balancer 17 = .ok (.iconst 1, 1) := by decide +kernel
theorem d_M_balancer_18 : decode b_M_balancer 18 = .ok (.goto 4, 3) := by decide +kernel
theorem d_M_balancer_21 : decode b_M_balancer 21 = .ok (.iconst 0, 1) := by decide +kernel
theorem d_M_balancer_22 : decode b_M_balancer 22 = .ok (.iload_n 3, 1) := by decide +kernel
theorem d_M_balancer_23 : decode b_M_balancer 23 = .ok (.ifCond .eq 16, 3) := by decide +kernel
theorem d_M_balancer_26 : decode b_M_balancer 26 = .ok (.iload_n 2, 1) := by decide +kernel
theorem d_M_balancer_27 : decode b_M_balancer 27 = .ok (.iconst 0, 1) := by decide +kernel
theorem d_M_balancer_28 : decode b_M_balancer 28 = .ok (.iconst 4, 1) := by decide +kernel
theorem d_M_balancer_29 : decode b_M_balancer 29 = .ok (.invokestatic 111, 3) := by decide +kernel
theorem d_M_balancer_32 : decode b_M_balancer 32 = .ok (.ifCond .ne 7, 3) := by decide +kernel
theorem d_M_balancer_35 : decode b_M_balancer 35 = .ok (.iconst 1, 1) := by decide +kernel
theorem d_M_balancer_36 : decode b_M_balancer 36 = .ok (.goto 4, 3) := by decide +kernel
theorem d_M_balancer_39 : decode b_M_balancer 39 = .ok (.iconst 0, 1) := by decide +kernel
theorem d_M_balancer_40 : decode b_M_balancer 40 = .ok (.invokevirtual 115, 3) := by decide +kernel
theorem d_M_balancer_43 : decode b_M_balancer 43 = .ok (.ifCond .eq 5, 3) := by decide +kernel
theorem d_M_balancer_46 : decode b_M_balancer 46 = .ok (.iconst 0, 1) := by decide +kernel
theorem d_M_balancer_47 : decode b_M_balancer 47 = .ok (.ireturn, 1) := by decide +kernel
theorem d_M_balancer_48 : decode b_M_balancer 48 = .ok (.iload_n 2, 1) := by decide +kernel
theorem d_M_balancer_49 : decode b_M_balancer 49 = .ok (.tableswitch 64 0 3 #[31, 38, 45, 52], 31) := by decide +kernel
theorem d_M_balancer_80 : decode b_M_balancer 80 = .ok (.aload_n 0, 1) := by decide +kernel
theorem d_M_balancer_81 : decode b_M_balancer 81 = .ok (.getfield 7, 3) := by decide +kernel
theorem d_M_balancer_84 : decode b_M_balancer 84 = .ok (.iload_n 1, 1) := by decide +kernel
theorem d_M_balancer_85 : decode b_M_balancer 85 = .ok (.iaload, 1) := by decide +kernel
theorem d_M_balancer_86 : decode b_M_balancer 86 = .ok (.ireturn, 1) := by decide +kernel
theorem d_M_balancer_87 : decode b_M_balancer 87 = .ok (.aload_n 0, 1) := by decide +kernel
theorem d_M_balancer_88 : decode b_M_balancer 88 = .ok (.getfield 13, 3) := by decide +kernel
theorem d_M_balancer_91 : decode b_M_balancer 91 = .ok (.iload_n 1, 1) := by decide +kernel
theorem d_M_balancer_92 : decode b_M_balancer 92 = .ok (.iaload, 1) := by decide +kernel
theorem d_M_balancer_93 : decode b_M_balancer 93 = .ok (.ireturn, 1) := by decide +kernel
theorem d_M_balancer_94 : decode b_M_balancer 94 = .ok (.aload_n 0, 1) := by decide +kernel
theorem d_M_balancer_95 : decode b_M_balancer 95 = .ok (.getfield 16, 3) := by decide +kernel
theorem d_M_balancer_98 : decode b_M_balancer 98 = .ok (.iload_n 1, 1) := by decide +kernel
theorem d_M_balancer_99 : decode b_M_balancer 99 = .ok (.iaload, 1) := by decide +kernel
theorem d_M_balancer_100 : decode b_M_balancer 100 = .ok (.ireturn, 1) := by decide +kernel
theorem d_M_balancer_101 : decode b_M_balancer 101 = .ok (.aload_n 0, 1) := by decide +kernel
theorem d_M_balancer_102 : decode b_M_balancer 102 = .ok (.getfield 16, 3) := by decide +kernel
theorem d_M_balancer_105 : decode b_M_balancer 105 = .ok (.iload_n 1, 1) := by decide +kernel
theorem d_M_balancer_106 : decode b_M_balancer 106 = .ok (.iaload, 1) := by decide +kernel
theorem d_M_balancer_107 : decode b_M_balancer 107 = .ok (.aload_n 0, 1) := by decide +kernel
theorem d_M_balancer_108 : decode b_M_balancer 108 = .ok (.getfield 96, 3) := by decide +kernel
theorem d_M_balancer_111 : decode b_M_balancer 111 = .ok (.irem, 1) := by decide +kernel
theorem d_M_balancer_112 : decode b_M_balancer 112 = .ok (.ireturn, 1) := by decide +kernel
theorem d_M_balancer_113 : decode b_M_balancer 113 = .ok (.aload_n 0, 1) := by decide +kernel
theorem d_M_balancer_114 : decode b_M_balancer 114 = .ok (.getfield 19, 3) := by decide +kernel
theorem d_M_balancer_117 : decode b_M_balancer 117 = .ok (.iload_n 1, 1) := by decide +kernel
theorem d_M_balancer_118 : decode b_M_balancer 118 = .ok (.iaload, 1) := by decide +kernel
theorem d_M_balancer_119 : decode b_M_balancer 119 = .ok (.ireturn, 1) := by decide +kernel
theorem d_M_exit_0 : decode b_M_exit 0 = .ok (.iload_n 1, 1) := by decide +kernel
theorem d_M_exit_1 : decode b_M_exit 1 = .ok (.iconst 0, 1) := by decide +kernel
theorem d_M_exit_2 : decode b_M_exit 2 = .ok (.aload_n 0, 1) := by decide +kernel
theorem d_M_exit_3 : decode b_M_exit 3 = .ok (.getfield 93, 3) := by decide +kernel
theorem d_M_exit_6 : decode b_M_exit 6 = .ok (.iconst 1, 1) := by decide +kernel
theorem d_M_exit_7 : decode b_M_exit 7 = .ok (.isub, 1) := by decide +kernel
theorem d_M_exit_8 : decode b_M_exit 8 = .ok (.invokestatic 111, 3) := by decide +kernel
theorem d_M_exit_11 : decode b_M_exit 11 = .ok (.istore_n 3, 1) := by decide +kernel
theorem d_M_exit_12 : decode b_M_exit 12 = .ok (.aload_n 0, 1) := by decide +kernel
theorem d_M_exit_13 : decode b_M_exit 13 = .ok (.iload_n 3, 1) := by decide +kernel
theorem d_M_exit_14 : decode b_M_exit 14 = .ok (.ifCond .ne 7, 3) := by decide +kernel
theorem d_M_exit_17 : decode b_M_exit 17 = .ok (.iconst 1, 1) := by decide +kernel
theorem d_M_exit_18 : decode b_M_exit 18 = .ok (.goto 4, 3) := by decide +kernel
theorem d_M_exit_21 : decode b_M_exit 21 = .ok (.iconst 0, 1) := by decide +kernel
theorem d_M_exit_22 : decode b_M_exit 22 = .ok (.iload_n 3, 1) := by decide +kernel
theorem d_M_exit_23 : decode b_M_exit 23 = .ok (.ifCond .eq 16, 3) := by decide +kernel
theorem d_M_exit_26 : decode b_M_exit 26 = .ok (.iload_n 2, 1) := by decide +kernel
theorem d_M_exit_27 : decode b_M_exit 27 = .ok (.iconst 0, 1) := by decide +kernel
theorem d_M_exit_28 : decode b_M_exit 28 = .ok (.iconst 2, 1) := by decide +kernel
theorem d_M_exit_29 : decode b_M_exit 29 = .ok (.invokestatic 111, 3) := by decide +kernel
theorem d_M_exit_32 : decode b_M_exit 32 = .ok (.ifCond .ne 7, 3) := by decide +kernel
theorem d_M_exit_35 : decode b_M_exit 35 = .ok (.iconst 1, 1) := by decide +kernel
theorem d_M_exit_36 : decode b_M_exit 36 = .ok (.goto 4, 3) := by decide +kernel
theorem d_M_exit_39 : decode b_M_exit 39 = .ok (.iconst 0, 1) := by decide +kernel
theorem d_M_exit_40 : decode b_M_exit 40 = .ok (.invokevirtual 115, 3) := by decide +kernel
theorem d_M_exit_43 : decode b_M_exit 43 = .ok (.ifCond .eq 5, 3) := by decide +kernel
theorem d_M_exit_46 : decode b_M_exit 46 = .ok (.iconst 0, 1) := by decide +kernel
theorem d_M_exit_47 : decode b_M_exit 47 = .ok (.ireturn, 1) := by decide +kernel
theorem d_M_exit_48 : decode b_M_exit 48 = .ok (.iload_n 2, 1) := by decide +kernel
theorem d_M_exit_49 : decode b_M_exit 49 = .ok (.ifCond .ne 12, 3) := by decide +kernel
theorem d_M_exit_52 : decode b_M_exit 52 = .ok (.aload_n 0, 1) := by decide +kernel
theorem d_M_exit_53 : decode b_M_exit 53 = .ok (.getfield 22, 3) := by decide +kernel
theorem d_M_exit_56 : decode b_M_exit 56 = .ok (.iload_n 1, 1) := by decide +kernel
theorem d_M_exit_57 : decode b_M_exit 57 = .ok (.iaload, 1) := by decide +kernel
theorem d_M_exit_58 : decode b_M_exit 58 = .ok (.goto 23, 3) := by decide +kernel
theorem d_M_exit_61 : decode b_M_exit 61 = .ok (.iload_n 2, 1) := by decide +kernel
theorem d_M_exit_62 : decode b_M_exit 62 = .ok (.iconst 1, 1) := by decide +kernel
theorem d_M_exit_63 : decode b_M_exit 63 = .ok (.if_icmp .ne 12, 3) := by decide +kernel
theorem d_M_exit_66 : decode b_M_exit 66 = .ok (.iload_n 1, 1) := by decide +kernel
theorem d_M_exit_67 : decode b_M_exit 67 = .ok (.aload_n 0, 1) := by decide +kernel
theorem d_M_exit_68 : decode b_M_exit 68 = .ok (.getfield 96, 3) := by decide +kernel
theorem d_M_exit_71 : decode b_M_exit 71 = .ok (.irem, 1) := by decide +kernel
theorem d_M_exit_72 : decode b_M_exit 72 = .ok (.goto 9, 3) := by decide +kernel
theorem d_M_exit_75 : decode b_M_exit 75 = .ok (.aload_n 0, 1) := by decide +kernel
theorem d_M_exit_76 : decode b_M_exit 76 = .ok (.getfield 25, 3) := by decide +kernel
theorem d_M_exit_79 : decode b_M_exit 79 = .ok (.iload_n 1, 1) := by decide +kernel
theorem d_M_exit_80 : decode b_M_exit 80 = .ok (.iaload, 1) := by decide +kernel
theorem d_M_exit_81 : decode b_M_exit 81 = .ok (.ireturn, 1) := by decide +kernel
theorem d_M_left_0 : decode b_M_left 0 = .ok (.iconst 0, 1) := by decide +kernel
theorem d_M_left_1 : decode b_M_left 1 = .ok (.istore_n 1, 1) := by decide +kernel
theorem d_M_left_2 : decode b_M_left 2 = .ok (.iconst 0, 1) := by decide +kernel
theorem d_M_left_3 : decode b_M_left 3 = .ok (.istore_n 2, 1) := by decide +kernel
theorem d_M_left_4 : decode b_M_left 4 = .ok (.iload_n 2, 1) := by decide +kernel
theorem d_M_left_5 : decode b_M_left 5 = .ok (.aload_n 0, 1) := by decide +kernel
theorem d_M_left_6 : decode b_M_left 6 = .ok (.getfield 99, 3) := by decide +kernel
theorem d_M_left_9 : decode b_M_left 9 = .ok (.if_icmp .ge 27, 3) := by decide +kernel
theorem d_M_left_12 : decode b_M_left 12 = .ok (.aload_n 0, 1) := by decide +kernel
theorem d_M_left_13 : decode b_M_left 13 = .ok (.getfield 41, 3) := by decide +kernel
theorem d_M_left_16 : decode b_M_left 16 = .ok (.iload_n 2, 1) := by decide +kernel
theorem d_M_left_17 : decode b_M_left 17 = .ok (.iaload, 1) := by decide +kernel
theorem d_M_left_18 : decode b_M_left 18 = .ok (.iconst 2, 1) := by decide +kernel
theorem d_M_left_19 : decode b_M_left 19 = .ok (.if_icmp .ne 7, 3) := by decide +kernel
theorem d_M_left_22 : decode b_M_left 22 = .ok (.iload_n 1, 1) := by decide +kernel
theorem d_M_left_23 : decode b_M_left 23 = .ok (.goto 6, 3) := by decide +kernel
theorem d_M_left_26 : decode b_M_left 26 = .ok (.iload_n 1, 1) := by decide +kernel
theorem d_M_left_27 : decode b_M_left 27 = .ok (.iconst 1, 1) := by decide +kernel
theorem d_M_left_28 : decode b_M_left 28 = .ok (.iadd, 1) := by decide +kernel
theorem d_M_left_29 : decode b_M_left 29 = .ok (.istore_n 1, 1) := by decide +kernel
theorem d_M_left_30 : decode b_M_left 30 = .ok (.iinc 2 1, 3) := by decide +kernel
theorem d_M_left_33 : decode b_M_left 33 = .ok (.goto (-29), 3) := by decide +kernel
theorem d_M_left_36 : decode b_M_left 36 = .ok (.iload_n 1, 1) := by decide +kernel
theorem d_M_left_37 : decode b_M_left 37 = .ok (.ireturn, 1) := by decide +kernel
theorem d_M_enter_0 : decode b_M_enter 0 = .ok (.iload_n 1, 1) := by decide +kernel
theorem d_M_enter_1 : decode b_M_enter 1 = .ok (.iconst 0, 1) := by decide +kernel
theorem d_M_enter_2 : decode b_M_enter 2 = .ok (.aload_n 0, 1) := by decide +kernel
theorem d_M_enter_3 : decode b_M_enter 3 = .ok (.getfield 93, 3) := by decide +kernel
theorem d_M_enter_6 : decode b_M_enter 6 = .ok (.iconst 1, 1) := by decide +kernel
theorem d_M_enter_7 : decode b_M_enter 7 = .ok (.isub, 1) := by decide +kernel
theorem d_M_enter_8 : decode b_M_enter 8 = .ok (.invokestatic 111, 3) := by decide +kernel
theorem d_M_enter_11 : decode b_M_enter 11 = .ok (.istore_n 3, 1) := by decide +kernel
theorem d_M_enter_12 : decode b_M_enter 12 = .ok (.aload_n 0, 1) := by decide +kernel
theorem d_M_enter_13 : decode b_M_enter 13 = .ok (.iload_n 3, 1) := by decide +kernel
theorem d_M_enter_14 : decode b_M_enter 14 = .ok (.ifCond .ne 7, 3) := by decide +kernel
theorem d_M_enter_17 : decode b_M_enter 17 = .ok (.iconst 1, 1) := by decide +kernel
theorem d_M_enter_18 : decode b_M_enter 18 = .ok (.goto 4, 3) := by decide +kernel
theorem d_M_enter_21 : decode b_M_enter 21 = .ok (.iconst 0, 1) := by decide +kernel
theorem d_M_enter_22 : decode b_M_enter 22 = .ok (.iload_n 3, 1) := by decide +kernel
theorem d_M_enter_23 : decode b_M_enter 23 = .ok (.ifCond .eq 26, 3) := by decide +kernel
theorem d_M_enter_26 : decode b_M_enter 26 = .ok (.aload_n 0, 1) := by decide +kernel
theorem d_M_enter_27 : decode b_M_enter 27 = .ok (.getfield 99, 3) := by decide +kernel
theorem d_M_enter_30 : decode b_M_enter 30 = .ok (.sipush 200, 3) := by decide +kernel
theorem d_M_enter_33 : decode b_M_enter 33 = .ok (.if_icmp .eq 12, 3) := by decide +kernel
theorem d_M_enter_36 : decode b_M_enter 36 = .ok (.aload_n 0, 1) := by decide +kernel
theorem d_M_enter_37 : decode b_M_enter 37 = .ok (.invokevirtual 119, 3) := by decide +kernel
theorem d_M_enter_40 : decode b_M_enter 40 = .ok (.bipush 40, 2) := by decide +kernel
theorem d_M_enter_42 : decode b_M_enter 42 = .ok (.if_icmp .ne 7, 3) := by decide +kernel
theorem d_M_enter_45 : decode b_M_enter 45 = .ok (.iconst 1, 1) := by decide +kernel
theorem d_M_enter_46 : decode b_M_enter 46 = .ok (.goto 4, 3) := by decide +kernel
theorem d_M_enter_49 : decode b_M_enter 49 = .ok (.iconst 0, 1) := by decide +kernel
theorem d_M_enter_50 : decode b_M_enter 50 = .ok (.invokevirtual 115, 3) := by decide +kernel
theorem d_M_enter_53 : decode b_M_enter 53 = .ok (.ifCond .eq 5, 3) := by decide +kernel
theorem d_M_enter_56 : decode b_M_enter 56 = .ok (.iconst 0, 1) := by decide +kernel
theorem d_M_enter_57 : decode b_M_enter 57 = .ok (.ireturn, 1) := by decide +kernel
theorem d_M_enter_58 : decode b_M_enter 58 = .ok (.aload_n 0, 1) := by decide +kernel
theorem d_M_enter_59 : decode b_M_enter 59 = .ok (.getfield 35, 3) := by decide +kernel
theorem d_M_enter_62 : decode b_M_enter 62 = .ok (.aload_n 0, 1) := by decide +kernel
theorem d_M_enter_63 : decode b_M_enter 63 = .ok (.getfield 99, 3) := by decide +kernel
theorem d_M_enter_66 : decode b_M_enter 66 = .ok (.iload_n 1, 1) := by decide +kernel
theorem d_M_enter_67 : decode b_M_enter 67 = .ok (.iastore, 1) := by decide +kernel
theorem d_M_enter_68 : decode b_M_enter 68 = .ok (.aload_n 0, 1) := by decide +kernel
theorem d_M_enter_69 : decode b_M_enter 69 = .ok (.getfield 38, 3) := by decide +kernel
theorem d_M_enter_72 : decode b_M_enter 72 = .ok (.aload_n 0, 1) := by decide +kernel
theorem d_M_enter_73 : decode b_M_enter 73 = .ok (.getfield 99, 3) := by decide +kernel
theorem d_M_enter_76 : decode b_M_enter 76 = .ok (.iconst (-1), 1) := by decide +kernel
theorem d_M_enter_77 : decode b_M_enter 77 = .ok (.iastore, 1) := by decide +kernel
theorem d_M_enter_78 : decode b_M_enter 78 = .ok (.aload_n 0, 1) := by decide +kernel
theorem d_M_enter_79 : decode b_M_enter 79 = .ok (.getfield 41, 3) := by decide +kernel
theorem d_M_enter_82 : decode b_M_enter 82 = .ok (.aload_n 0, 1) := by decide +kernel
theorem d_M_enter_83 : decode b_M_enter 83 = .ok (.getfield 99, 3) := by decide +kernel
theorem d_M_enter_86 : decode b_M_enter 86 = .ok (.iconst 0, 1) := by decide +kernel
theorem d_M_enter_87 : decode b_M_enter 87 = .ok (.iastore, 1) := by decide +kernel
theorem d_M_enter_88 : decode b_M_enter 88 = .ok (.aload_n 0, 1) := by decide +kernel
theorem d_M_enter_89 : decode b_M_enter 89 = .ok (.getfield 44, 3) := by decide +kernel
theorem d_M_enter_92 : decode b_M_enter 92 = .ok (.aload_n 0, 1) := by decide +kernel
theorem d_M_enter_93 : decode b_M_enter 93 = .ok (.getfield 99, 3) := by decide +kernel
theorem d_M_enter_96 : decode b_M_enter 96 = .ok (.iconst (-1), 1) := by decide +kernel
theorem d_M_enter_97 : decode b_M_enter 97 = .ok (.iastore, 1) := by decide +kernel
theorem d_M_enter_98 : decode b_M_enter 98 = .ok (.aload_n 0, 1) := by decide +kernel
theorem d_M_enter_99 : decode b_M_enter 99 = .ok (.getfield 47, 3) := by decide +kernel
theorem d_M_enter_102 : decode b_M_enter 102 = .ok (.aload_n 0, 1) := by decide +kernel
theorem d_M_enter_103 : decode b_M_enter 103 = .ok (.getfield 99, 3) := by decide +kernel
theorem d_M_enter_106 : decode b_M_enter 106 = .ok (.iconst 0, 1) := by decide +kernel
theorem d_M_enter_107 : decode b_M_enter 107 = .ok (.iastore, 1) := by decide +kernel
theorem d_M_enter_108 : decode b_M_enter 108 = .ok (.aload_n 0, 1) := by decide +kernel
theorem d_M_enter_109 : decode b_M_enter 109 = .ok (.getfield 50, 3) := by decide +kernel
theorem d_M_enter_112 : decode b_M_enter 112 = .ok (.aload_n 0, 1) := by decide +kernel
theorem d_M_enter_113 : decode b_M_enter 113 = .ok (.getfield 99, 3) := by decide +kernel
theorem d_M_enter_116 : decode b_M_enter 116 = .ok (.iconst (-1), 1) := by decide +kernel
theorem d_M_enter_117 : decode b_M_enter 117 = .ok (.iastore, 1) := by decide +kernel
theorem d_M_enter_118 : decode b_M_enter 118 = .ok (.aload_n 0, 1) := by decide +kernel
theorem d_M_enter_119 : decode b_M_enter 119 = .ok (.getfield 53, 3) := by decide +kernel
theorem d_M_enter_122 : decode b_M_enter 122 = .ok (.aload_n 0, 1) := by decide +kernel
theorem d_M_enter_123 : decode b_M_enter 123 = .ok (.getfield 99, 3) := by decide +kernel
theorem d_M_enter_126 : decode b_M_enter 126 = .ok (.iconst 0, 1) := by decide +kernel
theorem d_M_enter_127 : decode b_M_enter 127 = .ok (.iastore, 1) := by decide +kernel
theorem d_M_enter_128 : decode b_M_enter 128 = .ok (.aload_n 0, 1) := by decide +kernel
theorem d_M_enter_129 : decode b_M_enter 129 = .ok (.getfield 56, 3) := by decide +kernel
theorem d_M_enter_132 : decode b_M_enter 132 = .ok (.aload_n 0, 1) := by decide +kernel
theorem d_M_enter_133 : decode b_M_enter 133 = .ok (.getfield 99, 3) := by decide +kernel
theorem d_M_enter_136 : decode b_M_enter 136 = .ok (.iload_n 2, 1) := by decide +kernel
theorem d_M_enter_137 : decode b_M_enter 137 = .ok (.bastore, 1) := by decide +kernel
theorem d_M_enter_138 : decode b_M_enter 138 = .ok (.aload_n 0, 1) := by decide +kernel
theorem d_M_enter_139 : decode b_M_enter 139 = .ok (.dup, 1) := by decide +kernel
theorem d_M_enter_140 : decode b_M_enter 140 = .ok (.getfield 99, 3) := by decide +kernel
theorem d_M_enter_143 : decode b_M_enter 143 = .ok (.iconst 1, 1) := by decide +kernel
theorem d_M_enter_144 : decode b_M_enter 144 = .ok (.iadd, 1) := by decide +kernel
theorem d_M_enter_145 : decode b_M_enter 145 = .ok (.putfield 99, 3) := by decide +kernel
theorem d_M_enter_148 : decode b_M_enter 148 = .ok (.aload_n 0, 1) := by decide +kernel
theorem d_M_enter_149 : decode b_M_enter 149 = .ok (.getfield 99, 3) := by decide +kernel
theorem d_M_enter_152 : decode b_M_enter 152 = .ok (.iconst 1, 1) := by decide +kernel
theorem d_M_enter_153 : decode b_M_enter 153 = .ok (.isub, 1) := by decide +kernel
theorem d_M_enter_154 : decode b_M_enter 154 = .ok (.ireturn, 1) := by decide +kernel
theorem d_M_nextOf_0 : decode b_M_nextOf 0 = .ok (.aload_n 0, 1) := by decide +kernel
theorem d_M_nextOf_1 : decode b_M_nextOf 1 = .ok (.getfield 44, 3) := by decide +kernel
theorem d_M_nextOf_4 : decode b_M_nextOf 4 = .ok (.iload_n 1, 1) := by decide +kernel
theorem d_M_nextOf_5 : decode b_M_nextOf 5 = .ok (.iaload, 1) := by decide +kernel
theorem d_M_nextOf_6 : decode b_M_nextOf 6 = .ok (.iconst 1, 1) := by decide +kernel
theorem d_M_nextOf_7 : decode b_M_nextOf 7 = .ok (.iadd, 1) := by decide +kernel
theorem d_M_nextOf_8 : decode b_M_nextOf 8 = .ok (.istore_n 2, 1) := by decide +kernel
theorem d_M_nextOf_9 : decode b_M_nextOf 9 = .ok (.iload_n 2, 1) := by decide +kernel
theorem d_M_nextOf_10 : decode b_M_nextOf 10 = .ok (.aload_n 0, 1) := by decide +kernel
theorem d_M_nextOf_11 : decode b_M_nextOf 11 = .ok (.getfield 76, 3) := by decide +kernel
theorem d_M_nextOf_14 : decode b_M_nextOf 14 = .ok (.if_icmp .ge 41, 3) := by decide +kernel
theorem d_M_nextOf_17 : decode b_M_nextOf 17 = .ok (.aload_n 0, 1) := by decide +kernel
theorem d_M_nextOf_18 : decode b_M_nextOf 18 = .ok (.getfield 7, 3) := by decide +kernel
theorem d_M_nextOf_21 : decode b_M_nextOf 21 = .ok (.iload_n 2, 1) := by decide +kernel
theorem d_M_nextOf_22 : decode b_M_nextOf 22 = .ok (.iaload, 1) := by decide +kernel
theorem d_M_nextOf_23 : decode b_M_nextOf 23 = .ok (.aload_n 0, 1) := by decide +kernel
theorem d_M_nextOf_24 : decode b_M_nextOf 24 = .ok (.getfield 35, 3) := by decide +kernel
theorem d_M_nextOf_27 : decode b_M_nextOf 27 = .ok (.iload_n 1, 1) := by decide +kernel
theorem d_M_nextOf_28 : decode b_M_nextOf 28 = .ok (.iaload, 1) := by decide +kernel
theorem d_M_nextOf_29 : decode b_M_nextOf 29 = .ok (.if_icmp .eq 18, 3) := by decide +kernel
theorem d_M_nextOf_32 : decode b_M_nextOf 32 = .ok (.aload_n 0, 1) := by decide +kernel
theorem d_M_nextOf_33 : decode b_M_nextOf 33 = .ok (.getfield 13, 3) := by decide +kernel
theorem d_M_nextOf_36 : decode b_M_nextOf 36 = .ok (.iload_n 2, 1) := by decide +kernel
theorem d_M_nextOf_37 : decode b_M_nextOf 37 = .ok (.iaload, 1) := by decide +kernel
theorem d_M_nextOf_38 : decode b_M_nextOf 38 = .ok (.aload_n 0, 1) := by decide +kernel
theorem d_M_nextOf_39 : decode b_M_nextOf 39 = .ok (.getfield 35, 3) := by decide +kernel
theorem d_M_nextOf_42 : decode b_M_nextOf 42 = .ok (.iload_n 1, 1) := by decide +kernel
theorem d_M_nextOf_43 : decode b_M_nextOf 43 = .ok (.iaload, 1) := by decide +kernel
theorem d_M_nextOf_44 : decode b_M_nextOf 44 = .ok (.if_icmp .ne 5, 3) := by decide +kernel
theorem d_M_nextOf_47 : decode b_M_nextOf 47 = .ok (.iload_n 2, 1) := by decide +kernel
theorem d_M_nextOf_48 : decode b_M_nextOf 48 = .ok (.ireturn, 1) := by decide +kernel
theorem d_M_nextOf_49 : decode b_M_nextOf 49 = .ok (.iinc 2 1, 3) := by decide +kernel
theorem d_M_nextOf_52 : decode b_M_nextOf 52 = .ok (.goto (-43), 3) := by decide +kernel
theorem d_M_nextOf_55 : decode b_M_nextOf 55 = .ok (.iconst (-1), 1) := by decide +kernel
theorem d_M_nextOf_56 : decode b_M_nextOf 56 = .ok (.ireturn, 1) := by decide +kernel
theorem d_M_exitOf_0 : decode b_M_exitOf 0 = .ok (.iconst 0, 1) := by decide +kernel
theorem d_M_exitOf_1 : decode b_M_exitOf 1 = .ok (.istore_n 2, 1) := by decide +kernel
theorem d_M_exitOf_2 : decode b_M_exitOf 2 = .ok (.iconst 0, 1) := by decide +kernel
theorem d_M_exitOf_3 : decode b_M_exitOf 3 = .ok (.istore_n 3, 1) := by decide +kernel
theorem d_M_exitOf_4 : decode b_M_exitOf 4 = .ok (.iload_n 3, 1) := by decide +kernel
theorem d_M_exitOf_5 : decode b_M_exitOf 5 = .ok (.aload_n 0, 1) := by decide +kernel
theorem d_M_exitOf_6 : decode b_M_exitOf 6 = .ok (.getfield 93, 3) := by decide +kernel
theorem d_M_exitOf_9 : decode b_M_exitOf 9 = .ok (.if_icmp .ge 25, 3) := by decide +kernel
theorem d_M_exitOf_12 : decode b_M_exitOf 12 = .ok (.aload_n 0, 1) := by decide +kernel
theorem d_M_exitOf_13 : decode b_M_exitOf 13 = .ok (.getfield 22, 3) := by decide +kernel
theorem d_M_exitOf_16 : decode b_M_exitOf 16 = .ok (.iload_n 3, 1) := by decide +kernel
theorem d_M_exitOf_17 : decode b_M_exitOf 17 = .ok (.iaload, 1) := by decide +kernel
theorem d_M_exitOf_18 : decode b_M_exitOf 18 = .ok (.iload_n 1, 1) := by decide +kernel
theorem d_M_exitOf_19 : decode b_M_exitOf 19 = .ok (.if_icmp .ne 7, 3) := by decide +kernel
theorem d_M_exitOf_22 : decode b_M_exitOf 22 = .ok (.iload_n 3, 1) := by decide +kernel
theorem d_M_exitOf_23 : decode b_M_exitOf 23 = .ok (.goto 4, 3) := by decide +kernel
theorem d_M_exitOf_26 : decode b_M_exitOf 26 = .ok (.iload_n 2, 1) := by decide +kernel
theorem d_M_exitOf_27 : decode b_M_exitOf 27 = .ok (.istore_n 2, 1) := by decide +kernel
theorem d_M_exitOf_28 : decode b_M_exitOf 28 = .ok (.iinc 3 1, 3) := by decide +kernel
theorem d_M_exitOf_31 : decode b_M_exitOf 31 = .ok (.goto (-27), 3) := by decide +kernel
theorem d_M_exitOf_34 : decode b_M_exitOf 34 = .ok (.iload_n 2, 1) := by decide +kernel
theorem d_M_exitOf_35 : decode b_M_exitOf 35 = .ok (.ireturn, 1) := by decide +kernel
theorem d_M_stationOf_0 : decode b_M_stationOf 0 = .ok (.aload_n 0, 1) := by decide +kernel
theorem d_M_stationOf_1 : decode b_M_stationOf 1 = .ok (.iload_n 1, 1) := by decide +kernel
theorem d_M_stationOf_2 : decode b_M_stationOf 2 = .ok (.invokevirtual 123, 3) := by decide +kernel
theorem d_M_stationOf_5 : decode b_M_stationOf 5 = .ok (.istore_n 2, 1) := by decide +kernel
theorem d_M_stationOf_6 : decode b_M_stationOf 6 = .ok (.iload_n 2, 1) := by decide +kernel
theorem d_M_stationOf_7 : decode b_M_stationOf 7 = .ok (.ifCond .ge 21, 3) := by decide +kernel
theorem d_M_stationOf_10 : decode b_M_stationOf 10 = .ok (.aload_n 0, 1) := by decide +kernel
theorem d_M_stationOf_11 : decode b_M_stationOf 11 = .ok (.aload_n 0, 1) := by decide +kernel
theorem d_M_stationOf_12 : decode b_M_stationOf 12 = .ok (.getfield 35, 3) := by decide +kernel
theorem d_M_stationOf_15 : decode b_M_stationOf 15 = .ok (.iload_n 1, 1) := by decide +kernel
theorem d_M_stationOf_16 : decode b_M_stationOf 16 = .ok (.iaload, 1) := by decide +kernel
theorem d_M_stationOf_17 : decode b_M_stationOf 17 = .ok (.invokevirtual 127, 3) := by decide +kernel
theorem d_M_stationOf_20 : decode b_M_stationOf 20 = .ok (.aload_n 0, 1) := by decide +kernel
theorem d_M_stationOf_21 : decode b_M_stationOf 21 = .ok (.getfield 96, 3) := by decide +kernel
theorem d_M_stationOf_24 : decode b_M_stationOf 24 = .ok (.irem, 1) := by decide +kernel
theorem d_M_stationOf_25 : decode b_M_stationOf 25 = .ok (.goto 14, 3) := by decide +kernel
theorem d_M_stationOf_28 : decode b_M_stationOf 28 = .ok (.aload_n 0, 1) := by decide +kernel
theorem d_M_stationOf_29 : decode b_M_stationOf 29 = .ok (.getfield 16, 3) := by decide +kernel
theorem d_M_stationOf_32 : decode b_M_stationOf 32 = .ok (.iload_n 2, 1) := by decide +kernel
theorem d_M_stationOf_33 : decode b_M_stationOf 33 = .ok (.iaload, 1) := by decide +kernel
theorem d_M_stationOf_34 : decode b_M_stationOf 34 = .ok (.aload_n 0, 1) := by decide +kernel
theorem d_M_stationOf_35 : decode b_M_stationOf 35 = .ok (.getfield 96, 3) := by decide +kernel
theorem d_M_stationOf_38 : decode b_M_stationOf 38 = .ok (.irem, 1) := by decide +kernel
theorem d_M_stationOf_39 : decode b_M_stationOf 39 = .ok (.ireturn, 1) := by decide +kernel
theorem d_M_post_0 : decode b_M_post 0 = .ok (.aload_n 0, 1) := by decide +kernel
theorem d_M_post_1 : decode b_M_post 1 = .ok (.getfield 59, 3) := by decide +kernel
theorem d_M_post_4 : decode b_M_post 4 = .ok (.aload_n 0, 1) := by decide +kernel
theorem d_M_post_5 : decode b_M_post 5 = .ok (.getfield 102, 3) := by decide +kernel
theorem d_M_post_8 : decode b_M_post 8 = .ok (.iload_n 1, 1) := by decide +kernel
theorem d_M_post_9 : decode b_M_post 9 = .ok (.iastore, 1) := by decide +kernel
theorem d_M_post_10 : decode b_M_post 10 = .ok (.aload_n 0, 1) := by decide +kernel
theorem d_M_post_11 : decode b_M_post 11 = .ok (.getfield 62, 3) := by decide +kernel
theorem d_M_post_14 : decode b_M_post 14 = .ok (.aload_n 0, 1) := by decide +kernel
theorem d_M_post_15 : decode b_M_post 15 = .ok (.getfield 102, 3) := by decide +kernel
theorem d_M_post_18 : decode b_M_post 18 = .ok (.aload_n 0, 1) := by decide +kernel
theorem d_M_post_19 : decode b_M_post 19 = .ok (.iload_n 1, 1) := by decide +kernel
theorem d_M_post_20 : decode b_M_post 20 = .ok (.invokevirtual 130, 3) := by decide +kernel
theorem d_M_post_23 : decode b_M_post 23 = .ok (.iastore, 1) := by decide +kernel
theorem d_M_post_24 : decode b_M_post 24 = .ok (.aload_n 0, 1) := by decide +kernel
theorem d_M_post_25 : decode b_M_post 25 = .ok (.getfield 65, 3) := by decide +kernel
theorem d_M_post_28 : decode b_M_post 28 = .ok (.aload_n 0, 1) := by decide +kernel
theorem d_M_post_29 : decode b_M_post 29 = .ok (.getfield 102, 3) := by decide +kernel
theorem d_M_post_32 : decode b_M_post 32 = .ok (.aload_n 0, 1) := by decide +kernel
theorem d_M_post_33 : decode b_M_post 33 = .ok (.getfield 53, 3) := by decide +kernel
theorem d_M_post_36 : decode b_M_post 36 = .ok (.iload_n 1, 1) := by decide +kernel
theorem d_M_post_37 : decode b_M_post 37 = .ok (.iaload, 1) := by decide +kernel
theorem d_M_post_38 : decode b_M_post 38 = .ok (.iastore, 1) := by decide +kernel
theorem d_M_post_39 : decode b_M_post 39 = .ok (.aload_n 0, 1) := by decide +kernel
theorem d_M_post_40 : decode b_M_post 40 = .ok (.dup, 1) := by decide +kernel
theorem d_M_post_41 : decode b_M_post 41 = .ok (.getfield 102, 3) := by decide +kernel
theorem d_M_post_44 : decode b_M_post 44 = .ok (.iconst 1, 1) := by decide +kernel
theorem d_M_post_45 : decode b_M_post 45 = .ok (.iadd, 1) := by decide +kernel
theorem d_M_post_46 : decode b_M_post 46 = .ok (.putfield 102, 3) := by decide +kernel
theorem d_M_post_49 : decode b_M_post 49 = .ok (.return_, 1) := by decide +kernel
theorem d_M_isStuck_0 : decode b_M_isStuck 0 = .ok (.aload_n 0, 1) := by decide +kernel
theorem d_M_isStuck_1 : decode b_M_isStuck 1 = .ok (.getfield 38, 3) := by decide +kernel
theorem d_M_isStuck_4 : decode b_M_isStuck 4 = .ok (.iload_n 1, 1) := by decide +kernel
theorem d_M_isStuck_5 : decode b_M_isStuck 5 = .ok (.iaload, 1) := by decide +kernel
theorem d_M_isStuck_6 : decode b_M_isStuck 6 = .ok (.ifCond .lt 21, 3) := by decide +kernel
theorem d_M_isStuck_9 : decode b_M_isStuck 9 = .ok (.aload_n 0, 1) := by decide +kernel
theorem d_M_isStuck_10 : decode b_M_isStuck 10 = .ok (.getfield 28, 3) := by decide +kernel
theorem d_M_isStuck_13 : decode b_M_isStuck 13 = .ok (.aload_n 0, 1) := by decide +kernel
theorem d_M_isStuck_14 : decode b_M_isStuck 14 = .ok (.getfield 38, 3) := by decide +kernel
theorem d_M_isStuck_17 : decode b_M_isStuck 17 = .ok (.iload_n 1, 1) := by decide +kernel
theorem d_M_isStuck_18 : decode b_M_isStuck 18 = .ok (.iaload, 1) := by decide +kernel
theorem d_M_isStuck_19 : decode b_M_isStuck 19 = .ok (.baload, 1) := by decide +kernel
theorem d_M_isStuck_20 : decode b_M_isStuck 20 = .ok (.ifCond .eq 7, 3) := by decide +kernel
theorem d_M_isStuck_23 : decode b_M_isStuck 23 = .ok (.iconst 1, 1) := by decide +kernel
theorem d_M_isStuck_24 : decode b_M_isStuck 24 = .ok (.goto 4, 3) := by decide +kernel
theorem d_M_isStuck_27 : decode b_M_isStuck 27 = .ok (.iconst 0, 1) := by decide +kernel
theorem d_M_isStuck_28 : decode b_M_isStuck 28 = .ok (.istore_n 2, 1) := by decide +kernel
theorem d_M_isStuck_29 : decode b_M_isStuck 29 = .ok (.aload_n 0, 1) := by decide +kernel
theorem d_M_isStuck_30 : decode b_M_isStuck 30 = .ok (.getfield 41, 3) := by decide +kernel
theorem d_M_isStuck_33 : decode b_M_isStuck 33 = .ok (.iload_n 1, 1) := by decide +kernel
theorem d_M_isStuck_34 : decode b_M_isStuck 34 = .ok (.iaload, 1) := by decide +kernel
theorem d_M_isStuck_35 : decode b_M_isStuck 35 = .ok (.iconst 2, 1) := by decide +kernel
theorem d_M_isStuck_36 : decode b_M_isStuck 36 = .ok (.if_icmp .eq 39, 3) := by decide +kernel
theorem d_M_isStuck_39 : decode b_M_isStuck 39 = .ok (.iload_n 2, 1) := by decide +kernel
theorem d_M_isStuck_40 : decode b_M_isStuck 40 = .ok (.ifCond .ne 35, 3) := by decide +kernel
theorem d_M_isStuck_43 : decode b_M_isStuck 43 = .ok (.aload_n 0, 1) := by decide +kernel
theorem d_M_isStuck_44 : decode b_M_isStuck 44 = .ok (.getfield 41, 3) := by decide +kernel
theorem d_M_isStuck_47 : decode b_M_isStuck 47 = .ok (.iload_n 1, 1) := by decide +kernel
theorem d_M_isStuck_48 : decode b_M_isStuck 48 = .ok (.iaload, 1) := by decide +kernel
theorem d_M_isStuck_49 : decode b_M_isStuck 49 = .ok (.ifCond .ne 30, 3) := by decide +kernel
theorem d_M_isStuck_52 : decode b_M_isStuck 52 = .ok (.aload_n 0, 1) := by decide +kernel
theorem d_M_isStuck_53 : decode b_M_isStuck 53 = .ok (.getfield 38, 3) := by decide +kernel
theorem d_M_isStuck_56 : decode b_M_isStuck 56 = .ok (.iload_n 1, 1) := by decide +kernel
theorem d_M_isStuck_57 : decode b_M_isStuck 57 = .ok (.iaload, 1) := by decide +kernel
theorem d_M_isStuck_58 : decode b_M_isStuck 58 = .ok (.aload_n 0, 1) := by decide +kernel
theorem d_M_isStuck_59 : decode b_M_isStuck 59 = .ok (.iload_n 1, 1) := by decide +kernel
theorem d_M_isStuck_60 : decode b_M_isStuck 60 = .ok (.invokevirtual 130, 3) := by decide +kernel
theorem d_M_isStuck_63 : decode b_M_isStuck 63 = .ok (.if_icmp .eq 16, 3) := by decide +kernel
theorem d_M_isStuck_66 : decode b_M_isStuck 66 = .ok (.aload_n 0, 1) := by decide +kernel
theorem d_M_isStuck_67 : decode b_M_isStuck 67 = .ok (.getfield 102, 3) := by decide +kernel
theorem d_M_isStuck_70 : decode b_M_isStuck 70 = .ok (.bipush 60, 2) := by decide +kernel
theorem d_M_isStuck_72 : decode b_M_isStuck 72 = .ok (.if_icmp .ne 7, 3) := by decide +kernel
theorem d_M_isStuck_75 : decode b_M_isStuck 75 = .ok (.iconst 1, 1) := by decide +kernel
theorem d_M_isStuck_76 : decode b_M_isStuck 76 = .ok (.goto 4, 3) := by decide +kernel
theorem d_M_isStuck_79 : decode b_M_isStuck 79 = .ok (.iconst 0, 1) := by decide +kernel
theorem d_M_isStuck_80 : decode b_M_isStuck 80 = .ok (.ireturn, 1) := by decide +kernel
theorem d_M_step_0 : decode b_M_step 0 = .ok (.aload_n 0, 1) := by decide +kernel
theorem d_M_step_1 : decode b_M_step 1 = .ok (.getfield 41, 3) := by decide +kernel
theorem d_M_step_4 : decode b_M_step 4 = .ok (.iload_n 1, 1) := by decide +kernel
theorem d_M_step_5 : decode b_M_step 5 = .ok (.iaload, 1) := by decide +kernel
theorem d_M_step_6 : decode b_M_step 6 = .ok (.iconst 1, 1) := by decide +kernel
theorem d_M_step_7 : decode b_M_step 7 = .ok (.if_icmp .ne 5, 3) := by decide +kernel
theorem d_M_step_10 : decode b_M_step 10 = .ok (.iconst 3, 1) := by decide +kernel
theorem d_M_step_11 : decode b_M_step 11 = .ok (.ireturn, 1) := by decide +kernel
theorem d_M_step_12 : decode b_M_step 12 = .ok (.aload_n 0, 1) := by decide +kernel
theorem d_M_step_13 : decode b_M_step 13 = .ok (.getfield 38, 3) := by decide +kernel
theorem d_M_step_16 : decode b_M_step 16 = .ok (.iload_n 1, 1) := by decide +kernel
theorem d_M_step_17 : decode b_M_step 17 = .ok (.iaload, 1) := by decide +kernel
theorem d_M_step_18 : decode b_M_step 18 = .ok (.aload_n 0, 1) := by decide +kernel
theorem d_M_step_19 : decode b_M_step 19 = .ok (.iload_n 1, 1) := by decide +kernel
theorem d_M_step_20 : decode b_M_step 20 = .ok (.invokevirtual 130, 3) := by decide +kernel
theorem d_M_step_23 : decode b_M_step 23 = .ok (.if_icmp .eq 27, 3) := by decide +kernel
theorem d_M_step_26 : decode b_M_step 26 = .ok (.aload_n 0, 1) := by decide +kernel
theorem d_M_step_27 : decode b_M_step 27 = .ok (.getfield 41, 3) := by decide +kernel
theorem d_M_step_30 : decode b_M_step 30 = .ok (.iload_n 1, 1) := by decide +kernel
theorem d_M_step_31 : decode b_M_step 31 = .ok (.iconst 1, 1) := by decide +kernel
theorem d_M_step_32 : decode b_M_step 32 = .ok (.iastore, 1) := by decide +kernel
theorem d_M_step_33 : decode b_M_step 33 = .ok (.aload_n 0, 1) := by decide +kernel
theorem d_M_step_34 : decode b_M_step 34 = .ok (.getfield 53, 3) := by decide +kernel
theorem d_M_step_37 : decode b_M_step 37 = .ok (.iload_n 1, 1) := by decide +kernel
theorem d_M_step_38 : decode b_M_step 38 = .ok (.dup2, 1) := by decide +kernel
theorem d_M_step_39 : decode b_M_step 39 = .ok (.iaload, 1) := by decide +kernel
theorem d_M_step_40 : decode b_M_step 40 = .ok (.iconst 1, 1) := by decide +kernel
theorem d_M_step_41 : decode b_M_step 41 = .ok (.iadd, 1) := by decide +kernel
theorem d_M_step_42 : decode b_M_step 42 = .ok (.iastore, 1) := by decide +kernel
theorem d_M_step_43 : decode b_M_step 43 = .ok (.aload_n 0, 1) := by decide +kernel
theorem d_M_step_44 : decode b_M_step 44 = .ok (.iload_n 1, 1) := by decide +kernel
theorem d_M_step_45 : decode b_M_step 45 = .ok (.invokevirtual 133, 3) := by decide +kernel
theorem d_M_step_48 : decode b_M_step 48 = .ok (.iconst 2, 1) := by decide +kernel
theorem d_M_step_49 : decode b_M_step 49 = .ok (.ireturn, 1) := by decide +kernel
theorem d_M_step_50 : decode b_M_step 50 = .ok (.aload_n 0, 1) := by decide +kernel
theorem d_M_step_51 : decode b_M_step 51 = .ok (.iload_n 1, 1) := by decide +kernel
theorem d_M_step_52 : decode b_M_step 52 = .ok (.invokevirtual 123, 3) := by decide +kernel
theorem d_M_step_55 : decode b_M_step 55 = .ok (.istore_n 2, 1) := by decide +kernel
theorem d_M_step_56 : decode b_M_step 56 = .ok (.iload_n 2, 1) := by decide +kernel
theorem d_M_step_57 : decode b_M_step 57 = .ok (.ifCond .lt 64, 3) := by decide +kernel
theorem d_M_step_60 : decode b_M_step 60 = .ok (.aload_n 0, 1) := by decide +kernel
theorem d_M_step_61 : decode b_M_step 61 = .ok (.getfield 35, 3) := by decide +kernel
theorem d_M_step_64 : decode b_M_step 64 = .ok (.iload_n 1, 1) := by decide +kernel
theorem d_M_step_65 : decode b_M_step 65 = .ok (.aload_n 0, 1) := by decide +kernel
theorem d_M_step_66 : decode b_M_step 66 = .ok (.getfield 19, 3) := by decide +kernel
theorem d_M_step_69 : decode b_M_step 69 = .ok (.iload_n 2, 1) := by decide +kernel
theorem d_M_step_70 : decode b_M_step 70 = .ok (.iaload, 1) := by decide +kernel
theorem d_M_step_71 : decode b_M_step 71 = .ok (.iconst 2, 1) := by decide +kernel
theorem d_M_step_72 : decode b_M_step 72 = .ok (.irem, 1) := by decide +kernel
theorem d_M_step_73 : decode b_M_step 73 = .ok (.ifCond .ne 12, 3) := by decide +kernel
theorem d_M_step_76 : decode b_M_step 76 = .ok (.aload_n 0, 1) := by decide +kernel
theorem d_M_step_77 : decode b_M_step 77 = .ok (.getfield 7, 3) := by decide +kernel
theorem d_M_step_80 : decode b_M_step 80 = .ok (.iload_n 2, 1) := by decide +kernel
theorem d_M_step_81 : decode b_M_step 81 = .ok (.iaload, 1) := by decide +kernel
theorem d_M_step_82 : decode b_M_step 82 = .ok (.goto 9, 3) := by decide +kernel
theorem d_M_step_85 : decode b_M_step 85 = .ok (.aload_n 0, 1) := by decide +kernel
theorem d_M_step_86 : decode b_M_step 86 = .ok (.getfield 13, 3) := by decide +kernel
theorem d_M_step_89 : decode b_M_step 89 = .ok (.iload_n 2, 1) := by decide +kernel
theorem d_M_step_90 : decode b_M_step 90 = .ok (.iaload, 1) := by decide +kernel
theorem d_M_step_91 : decode b_M_step 91 = .ok (.iastore, 1) := by decide +kernel
theorem d_M_step_92 : decode b_M_step 92 = .ok (.aload_n 0, 1) := by decide +kernel
theorem d_M_step_93 : decode b_M_step 93 = .ok (.getfield 19, 3) := by decide +kernel
theorem d_M_step_96 : decode b_M_step 96 = .ok (.iload_n 2, 1) := by decide +kernel
theorem d_M_step_97 : decode b_M_step 97 = .ok (.dup2, 1) := by decide +kernel
theorem d_M_step_98 : decode b_M_step 98 = .ok (.iaload, 1) := by decide +kernel
theorem d_M_step_99 : decode b_M_step 99 = .ok (.iconst 1, 1) := by decide +kernel
theorem d_M_step_100 : decode b_M_step 100 = .ok (.iadd, 1) := by decide +kernel
theorem d_M_step_101 : decode b_M_step 101 = .ok (.iastore, 1) := by decide +kernel
theorem d_M_step_102 : decode b_M_step 102 = .ok (.aload_n 0, 1) := by decide +kernel
theorem d_M_step_103 : decode b_M_step 103 = .ok (.getfield 44, 3) := by decide +kernel
theorem d_M_step_106 : decode b_M_step 106 = .ok (.iload_n 1, 1) := by decide +kernel
theorem d_M_step_107 : decode b_M_step 107 = .ok (.iload_n 2, 1) := by decide +kernel
theorem d_M_step_108 : decode b_M_step 108 = .ok (.iastore, 1) := by decide +kernel
theorem d_M_step_109 : decode b_M_step 109 = .ok (.aload_n 0, 1) := by decide +kernel
theorem d_M_step_110 : decode b_M_step 110 = .ok (.getfield 47, 3) := by decide +kernel
theorem d_M_step_113 : decode b_M_step 113 = .ok (.iload_n 1, 1) := by decide +kernel
theorem d_M_step_114 : decode b_M_step 114 = .ok (.dup2, 1) := by decide +kernel
theorem d_M_step_115 : decode b_M_step 115 = .ok (.iaload, 1) := by decide +kernel
theorem d_M_step_116 : decode b_M_step 116 = .ok (.iconst 1, 1) := by decide +kernel
theorem d_M_step_117 : decode b_M_step 117 = .ok (.iadd, 1) := by decide +kernel
theorem d_M_step_118 : decode b_M_step 118 = .ok (.iastore, 1) := by decide +kernel
theorem d_M_step_119 : decode b_M_step 119 = .ok (.iconst 0, 1) := by decide +kernel
theorem d_M_step_120 : decode b_M_step 120 = .ok (.ireturn, 1) := by decide +kernel
theorem d_M_step_121 : decode b_M_step 121 = .ok (.aload_n 0, 1) := by decide +kernel
theorem d_M_step_122 : decode b_M_step 122 = .ok (.aload_n 0, 1) := by decide +kernel
theorem d_M_step_123 : decode b_M_step 123 = .ok (.getfield 35, 3) := by decide +kernel
theorem d_M_step_126 : decode b_M_step 126 = .ok (.iload_n 1, 1) := by decide +kernel
theorem d_M_step_127 : decode b_M_step 127 = .ok (.iaload, 1) := by decide +kernel
theorem d_M_step_128 : decode b_M_step 128 = .ok (.invokevirtual 127, 3) := by decide +kernel
theorem d_M_step_131 : decode b_M_step 131 = .ok (.istore_n 3, 1) := by decide +kernel
theorem d_M_step_132 : decode b_M_step 132 = .ok (.aload_n 0, 1) := by decide +kernel
theorem d_M_step_133 : decode b_M_step 133 = .ok (.getfield 50, 3) := by decide +kernel
theorem d_M_step_136 : decode b_M_step 136 = .ok (.iload_n 1, 1) := by decide +kernel
theorem d_M_step_137 : decode b_M_step 137 = .ok (.iload_n 3, 1) := by decide +kernel
theorem d_M_step_138 : decode b_M_step 138 = .ok (.aload_n 0, 1) := by decide +kernel
theorem d_M_step_139 : decode b_M_step 139 = .ok (.getfield 93, 3) := by decide +kernel
theorem d_M_step_142 : decode b_M_step 142 = .ok (.aload_n 0, 1) := by decide +kernel
theorem d_M_step_143 : decode b_M_step 143 = .ok (.getfield 25, 3) := by decide +kernel
theorem d_M_step_146 : decode b_M_step 146 = .ok (.iload_n 3, 1) := by decide +kernel
theorem d_M_step_147 : decode b_M_step 147 = .ok (.iaload, 1) := by decide +kernel
theorem d_M_step_148 : decode b_M_step 148 = .ok (.imul, 1) := by decide +kernel
theorem d_M_step_149 : decode b_M_step 149 = .ok (.iadd, 1) := by decide +kernel
theorem d_M_step_150 : decode b_M_step 150 = .ok (.iastore, 1) := by decide +kernel
theorem d_M_step_151 : decode b_M_step 151 = .ok (.aload_n 0, 1) := by decide +kernel
theorem d_M_step_152 : decode b_M_step 152 = .ok (.getfield 25, 3) := by decide +kernel
theorem d_M_step_155 : decode b_M_step 155 = .ok (.iload_n 3, 1) := by decide +kernel
theorem d_M_step_156 : decode b_M_step 156 = .ok (.dup2, 1) := by decide +kernel
theorem d_M_step_157 : decode b_M_step 157 = .ok (.iaload, 1) := by decide +kernel
theorem d_M_step_158 : decode b_M_step 158 = .ok (.iconst 1, 1) := by decide +kernel
theorem d_M_step_159 : decode b_M_step 159 = .ok (.iadd, 1) := by decide +kernel
theorem d_M_step_160 : decode b_M_step 160 = .ok (.iastore, 1) := by decide +kernel
theorem d_M_step_161 : decode b_M_step 161 = .ok (.aload_n 0, 1) := by decide +kernel
theorem d_M_step_162 : decode b_M_step 162 = .ok (.getfield 41, 3) := by decide +kernel
theorem d_M_step_165 : decode b_M_step 165 = .ok (.iload_n 1, 1) := by decide +kernel
theorem d_M_step_166 : decode b_M_step 166 = .ok (.iconst 2, 1) := by decide +kernel
theorem d_M_step_167 : decode b_M_step 167 = .ok (.iastore, 1) := by decide +kernel
theorem d_M_step_168 : decode b_M_step 168 = .ok (.iconst 1, 1) := by decide +kernel
theorem d_M_step_169 : decode b_M_step 169 = .ok (.ireturn, 1) := by decide +kernel
theorem d_M_move_0 : decode b_M_move 0 = .ok (.iload_n 1, 1) := by decide +kernel
theorem d_M_move_1 : decode b_M_move 1 = .ok (.iconst 0, 1) := by decide +kernel
theorem d_M_move_2 : decode b_M_move 2 = .ok (.aload_n 0, 1) := by decide +kernel
theorem d_M_move_3 : decode b_M_move 3 = .ok (.getfield 99, 3) := by decide +kernel
theorem d_M_move_6 : decode b_M_move 6 = .ok (.iconst 1, 1) := by decide +kernel
theorem d_M_move_7 : decode b_M_move 7 = .ok (.isub, 1) := by decide +kernel
theorem d_M_move_8 : decode b_M_move 8 = .ok (.invokestatic 111, 3) := by decide +kernel
theorem d_M_move_11 : decode b_M_move 11 = .ok (.istore_n 2, 1) := by decide +kernel
theorem d_M_move_12 : decode b_M_move 12 = .ok (.aload_n 0, 1) := by decide +kernel
theorem d_M_move_13 : decode b_M_move 13 = .ok (.iload_n 2, 1) := by decide +kernel
theorem d_M_move_14 : decode b_M_move 14 = .ok (.ifCond .ne 7, 3) := by decide +kernel
theorem d_M_move_17 : decode b_M_move 17 = .ok (.iconst 1, 1) := by decide +kernel
theorem d_M_move_18 : decode b_M_move 18 = .ok (.goto 4, 3) := by decide +kernel
theorem d_M_move_21 : decode b_M_move 21 = .ok (.iconst 0, 1) := by decide +kernel
theorem d_M_move_22 : decode b_M_move 22 = .ok (.iload_n 2, 1) := by decide +kernel
theorem d_M_move_23 : decode b_M_move 23 = .ok (.ifCond .eq 15, 3) := by decide +kernel
theorem d_M_move_26 : decode b_M_move 26 = .ok (.aload_n 0, 1) := by decide +kernel
theorem d_M_move_27 : decode b_M_move 27 = .ok (.iload_n 1, 1) := by decide +kernel
theorem d_M_move_28 : decode b_M_move 28 = .ok (.invokevirtual 137, 3) := by decide +kernel
theorem d_M_move_31 : decode b_M_move 31 = .ok (.ifCond .eq 7, 3) := by decide +kernel
theorem d_M_move_34 : decode b_M_move 34 = .ok (.iconst 1, 1) := by decide +kernel
theorem d_M_move_35 : decode b_M_move 35 = .ok (.goto 4, 3) := by decide +kernel
theorem d_M_move_38 : decode b_M_move 38 = .ok (.iconst 0, 1) := by decide +kernel
theorem d_M_move_39 : decode b_M_move 39 = .ok (.invokevirtual 115, 3) := by decide +kernel
theorem d_M_move_42 : decode b_M_move 42 = .ok (.ifCond .eq 5, 3) := by decide +kernel
theorem d_M_move_45 : decode b_M_move 45 = .ok (.iconst 0, 1) := by decide +kernel
theorem d_M_move_46 : decode b_M_move 46 = .ok (.ireturn, 1) := by decide +kernel
theorem d_M_move_47 : decode b_M_move 47 = .ok (.aload_n 0, 1) := by decide +kernel
theorem d_M_move_48 : decode b_M_move 48 = .ok (.iload_n 1, 1) := by decide +kernel
theorem d_M_move_49 : decode b_M_move 49 = .ok (.invokevirtual 141, 3) := by decide +kernel
theorem d_M_move_52 : decode b_M_move 52 = .ok (.ireturn, 1) := by decide +kernel
theorem d_M_take_0 : decode b_M_take 0 = .ok (.aload_n 0, 1) := by decide +kernel
theorem d_M_take_1 : decode b_M_take 1 = .ok (.dup, 1) := by decide +kernel
theorem d_M_take_2 : decode b_M_take 2 = .ok (.getfield 102, 3) := by decide +kernel
theorem d_M_take_5 : decode b_M_take 5 = .ok (.iconst 1, 1) := by decide +kernel
theorem d_M_take_6 : decode b_M_take 6 = .ok (.isub, 1) := by decide +kernel
theorem d_M_take_7 : decode b_M_take 7 = .ok (.putfield 102, 3) := by decide +kernel
theorem d_M_take_10 : decode b_M_take 10 = .ok (.iload_n 1, 1) := by decide +kernel
theorem d_M_take_11 : decode b_M_take 11 = .ok (.istore_n 2, 1) := by decide +kernel
theorem d_M_take_12 : decode b_M_take 12 = .ok (.iload_n 2, 1) := by decide +kernel
theorem d_M_take_13 : decode b_M_take 13 = .ok (.aload_n 0, 1) := by decide +kernel
theorem d_M_take_14 : decode b_M_take 14 = .ok (.getfield 102, 3) := by decide +kernel
theorem d_M_take_17 : decode b_M_take 17 = .ok (.if_icmp .ge 51, 3) := by decide +kernel
theorem d_M_take_20 : decode b_M_take 20 = .ok (.aload_n 0, 1) := by decide +kernel
theorem d_M_take_21 : decode b_M_take 21 = .ok (.getfield 59, 3) := by decide +kernel
theorem d_M_take_24 : decode b_M_take 24 = .ok (.iload_n 2, 1) := by decide +kernel
theorem d_M_take_25 : decode b_M_take 25 = .ok (.aload_n 0, 1) := by decide +kernel
theorem d_M_take_26 : decode b_M_take 26 = .ok (.getfield 59, 3) := by decide +kernel
theorem d_M_take_29 : decode b_M_take 29 = .ok (.iload_n 2, 1) := by decide +kernel
theorem d_M_take_30 : decode b_M_take 30 = .ok (.iconst 1, 1) := by decide +kernel
theorem d_M_take_31 : decode b_M_take 31 = .ok (.iadd, 1) := by decide +kernel
theorem d_M_take_32 : decode b_M_take 32 = .ok (.iaload, 1) := by decide +kernel
theorem d_M_take_33 : decode b_M_take 33 = .ok (.iastore, 1) := by decide +kernel
theorem d_M_take_34 : decode b_M_take 34 = .ok (.aload_n 0, 1) := by decide +kernel
theorem d_M_take_35 : decode b_M_take 35 = .ok (.getfield 62, 3) := by decide +kernel
theorem d_M_take_38 : decode b_M_take 38 = .ok (.iload_n 2, 1) := by decide +kernel
theorem d_M_take_39 : decode b_M_take 39 = .ok (.aload_n 0, 1) := by decide +kernel
theorem d_M_take_40 : decode b_M_take 40 = .ok (.getfield 62, 3) := by decide +kernel
theorem d_M_take_43 : decode b_M_take 43 = .ok (.iload_n 2, 1) := by decide +kernel
theorem d_M_take_44 : decode b_M_take 44 = .ok (.iconst 1, 1) := by decide +kernel
theorem d_M_take_45 : decode b_M_take 45 = .ok (.iadd, 1) := by decide +kernel
theorem d_M_take_46 : decode b_M_take 46 = .ok (.iaload, 1) := by decide +kernel
theorem d_M_take_47 : decode b_M_take 47 = .ok (.iastore, 1) := by decide +kernel
theorem d_M_take_48 : decode b_M_take 48 = .ok (.aload_n 0, 1) := by decide +kernel
theorem d_M_take_49 : decode b_M_take 49 = .ok (.getfield 65, 3) := by decide +kernel
theorem d_M_take_52 : decode b_M_take 52 = .ok (.iload_n 2, 1) := by decide +kernel
theorem d_M_take_53 : decode b_M_take 53 = .ok (.aload_n 0, 1) := by decide +kernel
theorem d_M_take_54 : decode b_M_take 54 = .ok (.getfield 65, 3) := by decide +kernel
theorem d_M_take_57 : decode b_M_take 57 = .ok (.iload_n 2, 1) := by decide +kernel
theorem d_M_take_58 : decode b_M_take 58 = .ok (.iconst 1, 1) := by decide +kernel
theorem d_M_take_59 : decode b_M_take 59 = .ok (.iadd, 1) := by decide +kernel
theorem d_M_take_60 : decode b_M_take 60 = .ok (.iaload, 1) := by decide +kernel
theorem d_M_take_61 : decode b_M_take 61 = .ok (.iastore, 1) := by decide +kernel
theorem d_M_take_62 : decode b_M_take 62 = .ok (.iinc 2 1, 3) := by decide +kernel
theorem d_M_take_65 : decode b_M_take 65 = .ok (.goto (-53), 3) := by decide +kernel
theorem d_M_take_68 : decode b_M_take 68 = .ok (.return_, 1) := by decide +kernel
theorem d_M_deliver_0 : decode b_M_deliver 0 = .ok (.aload_n 0, 1) := by decide +kernel
theorem d_M_deliver_1 : decode b_M_deliver 1 = .ok (.iload_n 1, 1) := by decide +kernel
theorem d_M_deliver_2 : decode b_M_deliver 2 = .ok (.iconst 0, 1) := by decide +kernel
theorem d_M_deliver_3 : decode b_M_deliver 3 = .ok (.aload_n 0, 1) := by decide +kernel
theorem d_M_deliver_4 : decode b_M_deliver 4 = .ok (.getfield 102, 3) := by decide +kernel
theorem d_M_deliver_7 : decode b_M_deliver 7 = .ok (.iconst 1, 1) := by decide +kernel
theorem d_M_deliver_8 : decode b_M_deliver 8 = .ok (.isub, 1) := by decide +kernel
theorem d_M_deliver_9 : decode b_M_deliver 9 = .ok (.invokestatic 111, 3) := by decide +kernel
theorem d_M_deliver_12 : decode b_M_deliver 12 = .ok (.ifCond .ne 7, 3) := by decide +kernel
theorem d_M_deliver_15 : decode b_M_deliver 15 = .ok (.iconst 1, 1) := by decide +kernel
theorem d_M_deliver_16 : decode b_M_deliver 16 = .ok (.goto 4, 3) := by decide +kernel
theorem d_M_deliver_19 : decode b_M_deliver 19 = .ok (.iconst 0, 1) := by decide +kernel
theorem d_M_deliver_20 : decode b_M_deliver 20 = .ok (.iconst 0, 1) := by decide +kernel
theorem d_M_deliver_21 : decode b_M_deliver 21 = .ok (.invokevirtual 115, 3) := by decide +kernel
theorem d_M_deliver_24 : decode b_M_deliver 24 = .ok (.ifCond .eq 5, 3) := by decide +kernel
theorem d_M_deliver_27 : decode b_M_deliver 27 = .ok (.iconst 0, 1) := by decide +kernel
theorem d_M_deliver_28 : decode b_M_deliver 28 = .ok (.ireturn, 1) := by decide +kernel
theorem d_M_deliver_29 : decode b_M_deliver 29 = .ok (.aload_n 0, 1) := by decide +kernel
theorem d_M_deliver_30 : decode b_M_deliver 30 = .ok (.getfield 59, 3) := by decide +kernel
theorem d_M_deliver_33 : decode b_M_deliver 33 = .ok (.iload_n 1, 1) := by decide +kernel
theorem d_M_deliver_34 : decode b_M_deliver 34 = .ok (.iaload, 1) := by decide +kernel
theorem d_M_deliver_35 : decode b_M_deliver 35 = .ok (.istore_n 2, 1) := by decide +kernel
theorem d_M_deliver_36 : decode b_M_deliver 36 = .ok (.aload_n 0, 1) := by decide +kernel
theorem d_M_deliver_37 : decode b_M_deliver 37 = .ok (.getfield 62, 3) := by decide +kernel
theorem d_M_deliver_40 : decode b_M_deliver 40 = .ok (.iload_n 1, 1) := by decide +kernel
theorem d_M_deliver_41 : decode b_M_deliver 41 = .ok (.iaload, 1) := by decide +kernel
theorem d_M_deliver_42 : decode b_M_deliver 42 = .ok (.istore_n 3, 1) := by decide +kernel
theorem d_M_deliver_43 : decode b_M_deliver 43 = .ok (.aload_n 0, 1) := by decide +kernel
theorem d_M_deliver_44 : decode b_M_deliver 44 = .ok (.getfield 28, 3) := by decide +kernel
theorem d_M_deliver_47 : decode b_M_deliver 47 = .ok (.iload_n 3, 1) := by decide +kernel
theorem d_M_deliver_48 : decode b_M_deliver 48 = .ok (.baload, 1) := by decide +kernel
theorem d_M_deliver_49 : decode b_M_deliver 49 = .ok (.ifCond .ne 32, 3) := by decide +kernel
theorem d_M_deliver_52 : decode b_M_deliver 52 = .ok (.aload_n 0, 1) := by decide +kernel
theorem d_M_deliver_53 : decode b_M_deliver 53 = .ok (.getfield 41, 3) := by decide +kernel
theorem d_M_deliver_56 : decode b_M_deliver 56 = .ok (.iload_n 2, 1) := by decide +kernel
theorem d_M_deliver_57 : decode b_M_deliver 57 = .ok (.iaload, 1) := by decide +kernel
theorem d_M_deliver_58 : decode b_M_deliver 58 = .ok (.iconst 1, 1) := by decide +kernel
theorem d_M_deliver_59 : decode b_M_deliver 59 = .ok (.if_icmp .ne 22, 3) := by decide +kernel
theorem d_M_deliver_62 : decode b_M_deliver 62 = .ok (.aload_n 0, 1) := by decide +kernel
theorem d_M_deliver_63 : decode b_M_deliver 63 = .ok (.getfield 65, 3) := by decide +kernel
theorem d_M_deliver_66 : decode b_M_deliver 66 = .ok (.iload_n 1, 1) := by decide +kernel
theorem d_M_deliver_67 : decode b_M_deliver 67 = .ok (.iaload, 1) := by decide +kernel
theorem d_M_deliver_68 : decode b_M_deliver 68 = .ok (.aload_n 0, 1) := by decide +kernel
theorem d_M_deliver_69 : decode b_M_deliver 69 = .ok (.getfield 53, 3) := by decide +kernel
theorem d_M_deliver_72 : decode b_M_deliver 72 = .ok (.iload_n 2, 1) := by decide +kernel
theorem d_M_deliver_73 : decode b_M_deliver 73 = .ok (.iaload, 1) := by decide +kernel
theorem d_M_deliver_74 : decode b_M_deliver 74 = .ok (.if_icmp .ne 7, 3) := by decide +kernel
theorem d_M_deliver_77 : decode b_M_deliver 77 = .ok (.iconst 1, 1) := by decide +kernel
theorem d_M_deliver_78 : decode b_M_deliver 78 = .ok (.goto 4, 3) := by decide +kernel
theorem d_M_deliver_81 : decode b_M_deliver 81 = .ok (.iconst 0, 1) := by decide +kernel
theorem d_M_deliver_82 : decode b_M_deliver 82 = .ok (.istore 4, 2) := by decide +kernel
theorem d_M_deliver_84 : decode b_M_deliver 84 = .ok (.aload_n 0, 1) := by decide +kernel
theorem d_M_deliver_85 : decode b_M_deliver 85 = .ok (.iload_n 1, 1) := by decide +kernel
theorem d_M_deliver_86 : decode b_M_deliver 86 = .ok (.invokevirtual 144, 3) := by decide +kernel
theorem d_M_deliver_89 : decode b_M_deliver 89 = .ok (.iload 4, 2) := by decide +kernel
theorem d_M_deliver_91 : decode b_M_deliver 91 = .ok (.ifCond .ne 5, 3) := by decide +kernel
theorem d_M_deliver_94 : decode b_M_deliver 94 = .ok (.iconst 0, 1) := by decide +kernel
theorem d_M_deliver_95 : decode b_M_deliver 95 = .ok (.ireturn, 1) := by decide +kernel
theorem d_M_deliver_96 : decode b_M_deliver 96 = .ok (.aload_n 0, 1) := by decide +kernel
theorem d_M_deliver_97 : decode b_M_deliver 97 = .ok (.getfield 38, 3) := by decide +kernel
theorem d_M_deliver_100 : decode b_M_deliver 100 = .ok (.iload_n 2, 1) := by decide +kernel
theorem d_M_deliver_101 : decode b_M_deliver 101 = .ok (.iload_n 3, 1) := by decide +kernel
theorem d_M_deliver_102 : decode b_M_deliver 102 = .ok (.iastore, 1) := by decide +kernel
theorem d_M_deliver_103 : decode b_M_deliver 103 = .ok (.aload_n 0, 1) := by decide +kernel
theorem d_M_deliver_104 : decode b_M_deliver 104 = .ok (.getfield 41, 3) := by decide +kernel
theorem d_M_deliver_107 : decode b_M_deliver 107 = .ok (.iload_n 2, 1) := by decide +kernel
theorem d_M_deliver_108 : decode b_M_deliver 108 = .ok (.iconst 0, 1) := by decide +kernel
theorem d_M_deliver_109 : decode b_M_deliver 109 = .ok (.iastore, 1) := by decide +kernel
theorem d_M_deliver_110 : decode b_M_deliver 110 = .ok (.iconst 1, 1) := by decide +kernel
theorem d_M_deliver_111 : decode b_M_deliver 111 = .ok (.ireturn, 1) := by decide +kernel
theorem d_M_lose_0 : decode b_M_lose 0 = .ok (.aload_n 0, 1) := by decide +kernel
theorem d_M_lose_1 : decode b_M_lose 1 = .ok (.iload_n 1, 1) := by decide +kernel
theorem d_M_lose_2 : decode b_M_lose 2 = .ok (.iconst 0, 1) := by decide +kernel
theorem d_M_lose_3 : decode b_M_lose 3 = .ok (.aload_n 0, 1) := by decide +kernel
theorem d_M_lose_4 : decode b_M_lose 4 = .ok (.getfield 102, 3) := by decide +kernel
theorem d_M_lose_7 : decode b_M_lose 7 = .ok (.iconst 1, 1) := by decide +kernel
theorem d_M_lose_8 : decode b_M_lose 8 = .ok (.isub, 1) := by decide +kernel
theorem d_M_lose_9 : decode b_M_lose 9 = .ok (.invokestatic 111, 3) := by decide +kernel
theorem d_M_lose_12 : decode b_M_lose 12 = .ok (.ifCond .ne 7, 3) := by decide +kernel
theorem d_M_lose_15 : decode b_M_lose 15 = .ok (.iconst 1, 1) := by decide +kernel
theorem d_M_lose_16 : decode b_M_lose 16 = .ok (.goto 4, 3) := by decide +kernel
theorem d_M_lose_19 : decode b_M_lose 19 = .ok (.iconst 0, 1) := by decide +kernel
theorem d_M_lose_20 : decode b_M_lose 20 = .ok (.iconst 0, 1) := by decide +kernel
theorem d_M_lose_21 : decode b_M_lose 21 = .ok (.invokevirtual 115, 3) := by decide +kernel
theorem d_M_lose_24 : decode b_M_lose 24 = .ok (.ifCond .ne 8, 3) := by decide +kernel
theorem d_M_lose_27 : decode b_M_lose 27 = .ok (.aload_n 0, 1) := by decide +kernel
theorem d_M_lose_28 : decode b_M_lose 28 = .ok (.iload_n 1, 1) := by decide +kernel
theorem d_M_lose_29 : decode b_M_lose 29 = .ok (.invokevirtual 144, 3) := by decide +kernel
theorem d_M_lose_32 : decode b_M_lose 32 = .ok (.return_, 1) := by decide +kernel
theorem d_M_twin_0 : decode b_M_twin 0 = .ok (.iload_n 1, 1) := by decide +kernel
theorem d_M_twin_1 : decode b_M_twin 1 = .ok (.iconst 0, 1) := by decide +kernel
theorem d_M_twin_2 : decode b_M_twin 2 = .ok (.aload_n 0, 1) := by decide +kernel
theorem d_M_twin_3 : decode b_M_twin 3 = .ok (.getfield 102, 3) := by decide +kernel
theorem d_M_twin_6 : decode b_M_twin 6 = .ok (.iconst 1, 1) := by decide +kernel
theorem d_M_twin_7 : decode b_M_twin 7 = .ok (.isub, 1) := by decide +kernel
theorem d_M_twin_8 : decode b_M_twin 8 = .ok (.invokestatic 111, 3) := by decide +kernel
theorem d_M_twin_11 : decode b_M_twin 11 = .ok (.istore_n 2, 1) := by decide +kernel
theorem d_M_twin_12 : decode b_M_twin 12 = .ok (.aload_n 0, 1) := by decide +kernel
theorem d_M_twin_13 : decode b_M_twin 13 = .ok (.iload_n 2, 1) := by decide +kernel
theorem d_M_twin_14 : decode b_M_twin 14 = .ok (.ifCond .ne 7, 3) := by decide +kernel
theorem d_M_twin_17 : decode b_M_twin 17 = .ok (.iconst 1, 1) := by decide +kernel
theorem d_M_twin_18 : decode b_M_twin 18 = .ok (.goto 4, 3) := by decide +kernel
theorem d_M_twin_21 : decode b_M_twin 21 = .ok (.iconst 0, 1) := by decide +kernel
theorem d_M_twin_22 : decode b_M_twin 22 = .ok (.iload_n 2, 1) := by decide +kernel
theorem d_M_twin_23 : decode b_M_twin 23 = .ok (.ifCond .eq 16, 3) := by decide +kernel
theorem d_M_twin_26 : decode b_M_twin 26 = .ok (.aload_n 0, 1) := by decide +kernel
theorem d_M_twin_27 : decode b_M_twin 27 = .ok (.getfield 102, 3) := by decide +kernel
theorem d_M_twin_30 : decode b_M_twin 30 = .ok (.bipush 60, 2) := by decide +kernel
theorem d_M_twin_32 : decode b_M_twin 32 = .ok (.if_icmp .ne 7, 3) := by decide +kernel
theorem d_M_twin_35 : decode b_M_twin 35 = .ok (.iconst 1, 1) := by decide +kernel
theorem d_M_twin_36 : decode b_M_twin 36 = .ok (.goto 4, 3) := by decide +kernel
theorem d_M_twin_39 : decode b_M_twin 39 = .ok (.iconst 0, 1) := by decide +kernel
theorem d_M_twin_40 : decode b_M_twin 40 = .ok (.invokevirtual 115, 3) := by decide +kernel
theorem d_M_twin_43 : decode b_M_twin 43 = .ok (.ifCond .eq 4, 3) := by decide +kernel
theorem d_M_twin_46 : decode b_M_twin 46 = .ok (.return_, 1) := by decide +kernel
theorem d_M_twin_47 : decode b_M_twin 47 = .ok (.aload_n 0, 1) := by decide +kernel
theorem d_M_twin_48 : decode b_M_twin 48 = .ok (.getfield 59, 3) := by decide +kernel
theorem d_M_twin_51 : decode b_M_twin 51 = .ok (.aload_n 0, 1) := by decide +kernel
theorem d_M_twin_52 : decode b_M_twin 52 = .ok (.getfield 102, 3) := by decide +kernel
theorem d_M_twin_55 : decode b_M_twin 55 = .ok (.aload_n 0, 1) := by decide +kernel
theorem d_M_twin_56 : decode b_M_twin 56 = .ok (.getfield 59, 3) := by decide +kernel
theorem d_M_twin_59 : decode b_M_twin 59 = .ok (.iload_n 1, 1) := by decide +kernel
theorem d_M_twin_60 : decode b_M_twin 60 = .ok (.iaload, 1) := by decide +kernel
theorem d_M_twin_61 : decode b_M_twin 61 = .ok (.iastore, 1) := by decide +kernel
theorem d_M_twin_62 : decode b_M_twin 62 = .ok (.aload_n 0, 1) := by decide +kernel
theorem d_M_twin_63 : decode b_M_twin 63 = .ok (.getfield 62, 3) := by decide +kernel
theorem d_M_twin_66 : decode b_M_twin 66 = .ok (.aload_n 0, 1) := by decide +kernel
theorem d_M_twin_67 : decode b_M_twin 67 = .ok (.getfield 102, 3) := by decide +kernel
theorem d_M_twin_70 : decode b_M_twin 70 = .ok (.aload_n 0, 1) := by decide +kernel
theorem d_M_twin_71 : decode b_M_twin 71 = .ok (.getfield 62, 3) := by decide +kernel
theorem d_M_twin_74 : decode b_M_twin 74 = .ok (.iload_n 1, 1) := by decide +kernel
theorem d_M_twin_75 : decode b_M_twin 75 = .ok (.iaload, 1) := by decide +kernel
theorem d_M_twin_76 : decode b_M_twin 76 = .ok (.iastore, 1) := by decide +kernel
theorem d_M_twin_77 : decode b_M_twin 77 = .ok (.aload_n 0, 1) := by decide +kernel
theorem d_M_twin_78 : decode b_M_twin 78 = .ok (.getfield 65, 3) := by decide +kernel
theorem d_M_twin_81 : decode b_M_twin 81 = .ok (.aload_n 0, 1) := by decide +kernel
theorem d_M_twin_82 : decode b_M_twin 82 = .ok (.getfield 102, 3) := by decide +kernel
theorem d_M_twin_85 : decode b_M_twin 85 = .ok (.aload_n 0, 1) := by decide +kernel
theorem d_M_twin_86 : decode b_M_twin 86 = .ok (.getfield 65, 3) := by decide +kernel
theorem d_M_twin_89 : decode b_M_twin 89 = .ok (.iload_n 1, 1) := by decide +kernel
theorem d_M_twin_90 : decode b_M_twin 90 = .ok (.iaload, 1) := by decide +kernel
theorem d_M_twin_91 : decode b_M_twin 91 = .ok (.iastore, 1) := by decide +kernel
theorem d_M_twin_92 : decode b_M_twin 92 = .ok (.aload_n 0, 1) := by decide +kernel
theorem d_M_twin_93 : decode b_M_twin 93 = .ok (.dup, 1) := by decide +kernel
theorem d_M_twin_94 : decode b_M_twin 94 = .ok (.getfield 102, 3) := by decide +kernel
theorem d_M_twin_97 : decode b_M_twin 97 = .ok (.iconst 1, 1) := by decide +kernel
theorem d_M_twin_98 : decode b_M_twin 98 = .ok (.iadd, 1) := by decide +kernel
theorem d_M_twin_99 : decode b_M_twin 99 = .ok (.putfield 102, 3) := by decide +kernel
theorem d_M_twin_102 : decode b_M_twin 102 = .ok (.return_, 1) := by decide +kernel
theorem d_M_letter_0 : decode b_M_letter 0 = .ok (.iload_n 1, 1) := by decide +kernel
theorem d_M_letter_1 : decode b_M_letter 1 = .ok (.iconst (-1), 1) := by decide +kernel
theorem d_M_letter_2 : decode b_M_letter 2 = .ok (.aload_n 0, 1) := by decide +kernel
theorem d_M_letter_3 : decode b_M_letter 3 = .ok (.getfield 102, 3) := by decide +kernel
theorem d_M_letter_6 : decode b_M_letter 6 = .ok (.iconst 1, 1) := by decide +kernel
theorem d_M_letter_7 : decode b_M_letter 7 = .ok (.isub, 1) := by decide +kernel
theorem d_M_letter_8 : decode b_M_letter 8 = .ok (.invokestatic 111, 3) := by decide +kernel
theorem d_M_letter_11 : decode b_M_letter 11 = .ok (.istore_n 3, 1) := by decide +kernel
theorem d_M_letter_12 : decode b_M_letter 12 = .ok (.aload_n 0, 1) := by decide +kernel
theorem d_M_letter_13 : decode b_M_letter 13 = .ok (.iload_n 3, 1) := by decide +kernel
theorem d_M_letter_14 : decode b_M_letter 14 = .ok (.ifCond .ne 7, 3) := by decide +kernel
theorem d_M_letter_17 : decode b_M_letter 17 = .ok (.iconst 1, 1) := by decide +kernel
theorem d_M_letter_18 : decode b_M_letter 18 = .ok (.goto 4, 3) := by decide +kernel
theorem d_M_letter_21 : decode b_M_letter 21 = .ok (.iconst 0, 1) := by decide +kernel
theorem d_M_letter_22 : decode b_M_letter 22 = .ok (.iload_n 3, 1) := by decide +kernel
theorem d_M_letter_23 : decode b_M_letter 23 = .ok (.ifCond .eq 20, 3) := by decide +kernel
theorem d_M_letter_26 : decode b_M_letter 26 = .ok (.iload_n 1, 1) := by decide +kernel
theorem d_M_letter_27 : decode b_M_letter 27 = .ok (.ifCond .lt 16, 3) := by decide +kernel
theorem d_M_letter_30 : decode b_M_letter 30 = .ok (.iload_n 2, 1) := by decide +kernel
theorem d_M_letter_31 : decode b_M_letter 31 = .ok (.iconst 0, 1) := by decide +kernel
theorem d_M_letter_32 : decode b_M_letter 32 = .ok (.iconst 1, 1) := by decide +kernel
theorem d_M_letter_33 : decode b_M_letter 33 = .ok (.invokestatic 111, 3) := by decide +kernel
theorem d_M_letter_36 : decode b_M_letter 36 = .ok (.ifCond .ne 7, 3) := by decide +kernel
theorem d_M_letter_39 : decode b_M_letter 39 = .ok (.iconst 1, 1) := by decide +kernel
theorem d_M_letter_40 : decode b_M_letter 40 = .ok (.goto 4, 3) := by decide +kernel
theorem d_M_letter_43 : decode b_M_letter 43 = .ok (.iconst 0, 1) := by decide +kernel
theorem d_M_letter_44 : decode b_M_letter 44 = .ok (.invokevirtual 115, 3) := by decide +kernel
theorem d_M_letter_47 : decode b_M_letter 47 = .ok (.ifCond .eq 5, 3) := by decide +kernel
theorem d_M_letter_50 : decode b_M_letter 50 = .ok (.iconst 0, 1) := by decide +kernel
theorem d_M_letter_51 : decode b_M_letter 51 = .ok (.ireturn, 1) := by decide +kernel
theorem d_M_letter_52 : decode b_M_letter 52 = .ok (.iload_n 1, 1) := by decide +kernel
theorem d_M_letter_53 : decode b_M_letter 53 = .ok (.ifCond .ge 10, 3) := by decide +kernel
theorem d_M_letter_56 : decode b_M_letter 56 = .ok (.aload_n 0, 1) := by decide +kernel
theorem d_M_letter_57 : decode b_M_letter 57 = .ok (.getfield 102, 3) := by decide +kernel
theorem d_M_letter_60 : decode b_M_letter 60 = .ok (.goto 22, 3) := by decide +kernel
theorem d_M_letter_63 : decode b_M_letter 63 = .ok (.iload_n 2, 1) := by decide +kernel
theorem d_M_letter_64 : decode b_M_letter 64 = .ok (.ifCond .ne 12, 3) := by decide +kernel
theorem d_M_letter_67 : decode b_M_letter 67 = .ok (.aload_n 0, 1) := by decide +kernel
theorem d_M_letter_68 : decode b_M_letter 68 = .ok (.getfield 59, 3) := by decide +kernel
theorem d_M_letter_71 : decode b_M_letter 71 = .ok (.iload_n 1, 1) := by decide +kernel
theorem d_M_letter_72 : decode b_M_letter 72 = .ok (.iaload, 1) := by decide +kernel
theorem d_M_letter_73 : decode b_M_letter 73 = .ok (.goto 9, 3) := by decide +kernel
theorem d_M_letter_76 : decode b_M_letter 76 = .ok (.aload_n 0, 1) := by decide +kernel
theorem d_M_letter_77 : decode b_M_letter 77 = .ok (.getfield 62, 3) := by decide +kernel
theorem d_M_letter_80 : decode b_M_letter 80 = .ok (.iload_n 1, 1) := by decide +kernel
theorem d_M_letter_81 : decode b_M_letter 81 = .ok (.iaload, 1) := by decide +kernel
theorem d_M_letter_82 : decode b_M_letter 82 = .ok (.ireturn, 1) := by decide +kernel
theorem d_M_hasLetter_0 : decode b_M_hasLetter 0 = .ok (.iconst 0, 1) := by decide +kernel
theorem d_M_hasLetter_1 : decode b_M_hasLetter 1 = .ok (.istore_n 2, 1) := by decide +kernel
theorem d_M_hasLetter_2 : decode b_M_hasLetter 2 = .ok (.iconst 0, 1) := by decide +kernel
theorem d_M_hasLetter_3 : decode b_M_hasLetter 3 = .ok (.istore_n 3, 1) := by decide +kernel
theorem d_M_hasLetter_4 : decode b_M_hasLetter 4 = .ok (.iload_n 3, 1) := by decide +kernel
theorem d_M_hasLetter_5 : decode b_M_hasLetter 5 = .ok (.aload_n 0, 1) := by decide +kernel
theorem d_M_hasLetter_6 : decode b_M_hasLetter 6 = .ok (.getfield 102, 3) := by decide +kernel
theorem d_M_hasLetter_9 : decode b_M_hasLetter 9 = .ok (.if_icmp .ge 44, 3) := by decide +kernel
theorem d_M_hasLetter_12 : decode b_M_hasLetter 12 = .ok (.iload_n 2, 1) := by decide +kernel
theorem d_M_hasLetter_13 : decode b_M_hasLetter 13 = .ok (.ifCond .ne 28, 3) := by decide +kernel
theorem d_M_hasLetter_16 : decode b_M_hasLetter 16 = .ok (.aload_n 0, 1) := by decide +kernel
theorem d_M_hasLetter_17 : decode b_M_hasLetter 17 = .ok (.getfield 59, 3) := by decide +kernel
theorem d_M_hasLetter_20 : decode b_M_hasLetter 20 = .ok (.iload_n 3, 1) := by decide +kernel
theorem d_M_hasLetter_21 : decode b_M_hasLetter 21 = .ok (.iaload, 1) := by decide +kernel
theorem d_M_hasLetter_22 : decode b_M_hasLetter 22 = .ok (.iload_n 1, 1) := by decide +kernel
theorem d_M_hasLetter_23 : decode b_M_hasLetter 23 = .ok (.if_icmp .ne 22, 3) := by decide +kernel
theorem d_M_hasLetter_26 : decode b_M_hasLetter 26 = .ok (.aload_n 0, 1) := by decide +kernel
theorem d_M_hasLetter_27 : decode b_M_hasLetter 27 = .ok (.getfield 65, 3) := by decide +kernel
theorem d_M_hasLetter_30 : decode b_M_hasLetter 30 = .ok (.iload_n 3, 1) := by decide +kernel
theorem d_M_hasLetter_31 : decode b_M_hasLetter 31 = .ok (.iaload, 1) := by decide +kernel
theorem d_M_hasLetter_32 : decode b_M_hasLetter 32 = .ok (.aload_n 0, 1) := by decide +kernel
theorem d_M_hasLetter_33 : decode b_M_hasLetter 33 = .ok (.getfield 53, 3) := by decide +kernel
theorem d_M_hasLetter_36 : decode b_M_hasLetter 36 = .ok (.iload_n 1, 1) := by decide +kernel
theorem d_M_hasLetter_37 : decode b_M_hasLetter 37 = .ok (.iaload, 1) := by decide +kernel
theorem d_M_hasLetter_38 : decode b_M_hasLetter 38 = .ok (.if_icmp .ne 7, 3) := by decide +kernel
theorem d_M_hasLetter_41 : decode b_M_hasLetter 41 = .ok (.iconst 1, 1) := by decide +kernel
theorem d_M_hasLetter_42 : decode b_M_hasLetter 42 = .ok (.goto 4, 3) := by decide +kernel
theorem d_M_hasLetter_45 : decode b_M_hasLetter 45 = .ok (.iconst 0, 1) := by decide +kernel
theorem d_M_hasLetter_46 : decode b_M_hasLetter 46 = .ok (.istore_n 2, 1) := by decide +kernel
theorem d_M_hasLetter_47 : decode b_M_hasLetter 47 = .ok (.iinc 3 1, 3) := by decide +kernel
theorem d_M_hasLetter_50 : decode b_M_hasLetter 50 = .ok (.goto (-46), 3) := by decide +kernel
theorem d_M_hasLetter_53 : decode b_M_hasLetter 53 = .ok (.iload_n 2, 1) := by decide +kernel
theorem d_M_hasLetter_54 : decode b_M_hasLetter 54 = .ok (.ireturn, 1) := by decide +kernel
theorem d_M_resend_0 : decode b_M_resend 0 = .ok (.aload_n 0, 1) := by decide +kernel
theorem d_M_resend_1 : decode b_M_resend 1 = .ok (.iconst 0, 1) := by decide +kernel
theorem d_M_resend_2 : decode b_M_resend 2 = .ok (.putfield 72, 3) := by decide +kernel
theorem d_M_resend_5 : decode b_M_resend 5 = .ok (.iconst 0, 1) := by decide +kernel
theorem d_M_resend_6 : decode b_M_resend 6 = .ok (.istore_n 1, 1) := by decide +kernel
theorem d_M_resend_7 : decode b_M_resend 7 = .ok (.iconst 0, 1) := by decide +kernel
theorem d_M_resend_8 : decode b_M_resend 8 = .ok (.istore_n 2, 1) := by decide +kernel
theorem d_M_resend_9 : decode b_M_resend 9 = .ok (.iload_n 2, 1) := by decide +kernel
theorem d_M_resend_10 : decode b_M_resend 10 = .ok (.aload_n 0, 1) := by decide +kernel
theorem d_M_resend_11 : decode b_M_resend 11 = .ok (.getfield 99, 3) := by decide +kernel
theorem d_M_resend_14 : decode b_M_resend 14 = .ok (.if_icmp .ge 44, 3) := by decide +kernel
theorem d_M_resend_17 : decode b_M_resend 17 = .ok (.aload_n 0, 1) := by decide +kernel
theorem d_M_resend_18 : decode b_M_resend 18 = .ok (.getfield 102, 3) := by decide +kernel
theorem d_M_resend_21 : decode b_M_resend 21 = .ok (.bipush 60, 2) := by decide +kernel
theorem d_M_resend_23 : decode b_M_resend 23 = .ok (.if_icmp .ge 35, 3) := by decide +kernel
theorem d_M_resend_26 : decode b_M_resend 26 = .ok (.aload_n 0, 1) := by decide +kernel
theorem d_M_resend_27 : decode b_M_resend 27 = .ok (.getfield 41, 3) := by decide +kernel
theorem d_M_resend_30 : decode b_M_resend 30 = .ok (.iload_n 2, 1) := by decide +kernel
theorem d_M_resend_31 : decode b_M_resend 31 = .ok (.iaload, 1) := by decide +kernel
theorem d_M_resend_32 : decode b_M_resend 32 = .ok (.iconst 1, 1) := by decide +kernel
theorem d_M_resend_33 : decode b_M_resend 33 = .ok (.if_icmp .ne 19, 3) := by decide +kernel
theorem d_M_resend_36 : decode b_M_resend 36 = .ok (.aload_n 0, 1) := by decide +kernel
theorem d_M_resend_37 : decode b_M_resend 37 = .ok (.iload_n 2, 1) := by decide +kernel
theorem d_M_resend_38 : decode b_M_resend 38 = .ok (.invokevirtual 147, 3) := by decide +kernel
theorem d_M_resend_41 : decode b_M_resend 41 = .ok (.ifCond .ne 11, 3) := by decide +kernel
theorem d_M_resend_44 : decode b_M_resend 44 = .ok (.aload_n 0, 1) := by decide +kernel
theorem d_M_resend_45 : decode b_M_resend 45 = .ok (.iload_n 2, 1) := by decide +kernel
theorem d_M_resend_46 : decode b_M_resend 46 = .ok (.invokevirtual 133, 3) := by decide +kernel
theorem d_M_resend_49 : decode b_M_resend 49 = .ok (.iinc 1 1, 3) := by decide +kernel
theorem d_M_resend_52 : decode b_M_resend 52 = .ok (.iinc 2 1, 3) := by decide +kernel
theorem d_M_resend_55 : decode b_M_resend 55 = .ok (.goto (-46), 3) := by decide +kernel
theorem d_M_resend_58 : decode b_M_resend 58 = .ok (.iload_n 1, 1) := by decide +kernel
theorem d_M_resend_59 : decode b_M_resend 59 = .ok (.ireturn, 1) := by decide +kernel
theorem d_M_station_0 : decode b_M_station 0 = .ok (.aload_n 0, 1) := by decide +kernel
theorem d_M_station_1 : decode b_M_station 1 = .ok (.iload_n 1, 1) := by decide +kernel
theorem d_M_station_2 : decode b_M_station 2 = .ok (.iconst 0, 1) := by decide +kernel
theorem d_M_station_3 : decode b_M_station 3 = .ok (.aload_n 0, 1) := by decide +kernel
theorem d_M_station_4 : decode b_M_station 4 = .ok (.getfield 96, 3) := by decide +kernel
theorem d_M_station_7 : decode b_M_station 7 = .ok (.iconst 1, 1) := by decide +kernel
theorem d_M_station_8 : decode b_M_station 8 = .ok (.isub, 1) := by decide +kernel
theorem d_M_station_9 : decode b_M_station 9 = .ok (.invokestatic 111, 3) := by decide +kernel
theorem d_M_station_12 : decode b_M_station 12 = .ok (.ifCond .ne 7, 3) := by decide +kernel
theorem d_M_station_15 : decode b_M_station 15 = .ok (.iconst 1, 1) := by decide +kernel
theorem d_M_station_16 : decode b_M_station 16 = .ok (.goto 4, 3) := by decide +kernel
theorem d_M_station_19 : decode b_M_station 19 = .ok (.iconst 0, 1) := by decide +kernel
theorem d_M_station_20 : decode b_M_station 20 = .ok (.iconst 0, 1) := by decide +kernel
theorem d_M_station_21 : decode b_M_station 21 = .ok (.invokevirtual 115, 3) := by decide +kernel
theorem d_M_station_24 : decode b_M_station 24 = .ok (.ifCond .ne 10, 3) := by decide +kernel
theorem d_M_station_27 : decode b_M_station 27 = .ok (.aload_n 0, 1) := by decide +kernel
theorem d_M_station_28 : decode b_M_station 28 = .ok (.getfield 28, 3) := by decide +kernel
theorem d_M_station_31 : decode b_M_station 31 = .ok (.iload_n 1, 1) := by decide +kernel
theorem d_M_station_32 : decode b_M_station 32 = .ok (.iload_n 2, 1) := by decide +kernel
theorem d_M_station_33 : decode b_M_station 33 = .ok (.bastore, 1) := by decide +kernel
theorem d_M_station_34 : decode b_M_station 34 = .ok (.return_, 1) := by decide +kernel
theorem d_M_isHanded_0 : decode b_M_isHanded 0 = .ok (.aload_n 0, 1) := by decide +kernel
theorem d_M_isHanded_1 : decode b_M_isHanded 1 = .ok (.getfield 25, 3) := by decide +kernel
theorem d_M_isHanded_4 : decode b_M_isHanded 4 = .ok (.iload_n 1, 1) := by decide +kernel
theorem d_M_isHanded_5 : decode b_M_isHanded 5 = .ok (.aload_n 0, 1) := by decide +kernel
theorem d_M_isHanded_6 : decode b_M_isHanded 6 = .ok (.getfield 93, 3) := by decide +kernel
theorem d_M_isHanded_9 : decode b_M_isHanded 9 = .ok (.irem, 1) := by decide +kernel
theorem d_M_isHanded_10 : decode b_M_isHanded 10 = .ok (.iaload, 1) := by decide +kernel
theorem d_M_isHanded_11 : decode b_M_isHanded 11 = .ok (.iload_n 1, 1) := by decide +kernel
theorem d_M_isHanded_12 : decode b_M_isHanded 12 = .ok (.aload_n 0, 1) := by decide +kernel
theorem d_M_isHanded_13 : decode b_M_isHanded 13 = .ok (.getfield 93, 3) := by decide +kernel
theorem d_M_isHanded_16 : decode b_M_isHanded 16 = .ok (.idiv, 1) := by decide +kernel
theorem d_M_isHanded_17 : decode b_M_isHanded 17 = .ok (.if_icmp .le 7, 3) := by decide +kernel
theorem d_M_isHanded_20 : decode b_M_isHanded 20 = .ok (.iconst 1, 1) := by decide +kernel
theorem d_M_isHanded_21 : decode b_M_isHanded 21 = .ok (.goto 4, 3) := by decide +kernel
theorem d_M_isHanded_24 : decode b_M_isHanded 24 = .ok (.iconst 0, 1) := by decide +kernel
theorem d_M_isHanded_25 : decode b_M_isHanded 25 = .ok (.ireturn, 1) := by decide +kernel
theorem d_M_shown_0 : decode b_M_shown 0 = .ok (.iconst 1, 1) := by decide +kernel
theorem d_M_shown_1 : decode b_M_shown 1 = .ok (.istore_n 2, 1) := by decide +kernel
theorem d_M_shown_2 : decode b_M_shown 2 = .ok (.iconst 0, 1) := by decide +kernel
theorem d_M_shown_3 : decode b_M_shown 3 = .ok (.istore_n 3, 1) := by decide +kernel
theorem d_M_shown_4 : decode b_M_shown 4 = .ok (.iload_n 3, 1) := by decide +kernel
theorem d_M_shown_5 : decode b_M_shown 5 = .ok (.aload_n 0, 1) := by decide +kernel
theorem d_M_shown_6 : decode b_M_shown 6 = .ok (.getfield 50, 3) := by decide +kernel
theorem d_M_shown_9 : decode b_M_shown 9 = .ok (.iload_n 1, 1) := by decide +kernel
theorem d_M_shown_10 : decode b_M_shown 10 = .ok (.iaload, 1) := by decide +kernel
theorem d_M_shown_11 : decode b_M_shown 11 = .ok (.if_icmp .ge 36, 3) := by decide +kernel
theorem d_M_shown_14 : decode b_M_shown 14 = .ok (.aload_n 0, 1) := by decide +kernel
theorem d_M_shown_15 : decode b_M_shown 15 = .ok (.getfield 56, 3) := by decide +kernel
theorem d_M_shown_18 : decode b_M_shown 18 = .ok (.iload_n 1, 1) := by decide +kernel
theorem d_M_shown_19 : decode b_M_shown 19 = .ok (.baload, 1) := by decide +kernel
theorem d_M_shown_20 : decode b_M_shown 20 = .ok (.ifCond .eq 27, 3) := by decide +kernel
theorem d_M_shown_23 : decode b_M_shown 23 = .ok (.iload_n 2, 1) := by decide +kernel
theorem d_M_shown_24 : decode b_M_shown 24 = .ok (.ifCond .eq 15, 3) := by decide +kernel
theorem d_M_shown_27 : decode b_M_shown 27 = .ok (.aload_n 0, 1) := by decide +kernel
theorem d_M_shown_28 : decode b_M_shown 28 = .ok (.iload_n 3, 1) := by decide +kernel
theorem d_M_shown_29 : decode b_M_shown 29 = .ok (.invokevirtual 150, 3) := by decide +kernel
theorem d_M_shown_32 : decode b_M_shown 32 = .ok (.ifCond .eq 7, 3) := by decide +kernel
theorem d_M_shown_35 : decode b_M_shown 35 = .ok (.iconst 1, 1) := by decide +kernel
theorem d_M_shown_36 : decode b_M_shown 36 = .ok (.goto 4, 3) := by decide +kernel
theorem d_M_shown_39 : decode b_M_shown 39 = .ok (.iconst 0, 1) := by decide +kernel
theorem d_M_shown_40 : decode b_M_shown 40 = .ok (.istore_n 2, 1) := by decide +kernel
theorem d_M_shown_41 : decode b_M_shown 41 = .ok (.iinc 3 1, 3) := by decide +kernel
theorem d_M_shown_44 : decode b_M_shown 44 = .ok (.goto (-40), 3) := by decide +kernel
theorem d_M_shown_47 : decode b_M_shown 47 = .ok (.iload_n 2, 1) := by decide +kernel
theorem d_M_shown_48 : decode b_M_shown 48 = .ok (.ifCond .eq 12, 3) := by decide +kernel
theorem d_M_shown_51 : decode b_M_shown 51 = .ok (.aload_n 0, 1) := by decide +kernel
theorem d_M_shown_52 : decode b_M_shown 52 = .ok (.getfield 50, 3) := by decide +kernel
theorem d_M_shown_55 : decode b_M_shown 55 = .ok (.iload_n 1, 1) := by decide +kernel
theorem d_M_shown_56 : decode b_M_shown 56 = .ok (.iaload, 1) := by decide +kernel
theorem d_M_shown_57 : decode b_M_shown 57 = .ok (.goto 4, 3) := by decide +kernel
theorem d_M_shown_60 : decode b_M_shown 60 = .ok (.iconst (-1), 1) := by decide +kernel
theorem d_M_shown_61 : decode b_M_shown 61 = .ok (.ireturn, 1) := by decide +kernel
theorem d_M_token_0 : decode b_M_token 0 = .ok (.aload_n 0, 1) := by decide +kernel
theorem d_M_token_1 : decode b_M_token 1 = .ok (.iload_n 1, 1) := by decide +kernel
theorem d_M_token_2 : decode b_M_token 2 = .ok (.iconst 0, 1) := by decide +kernel
theorem d_M_token_3 : decode b_M_token 3 = .ok (.aload_n 0, 1) := by decide +kernel
theorem d_M_token_4 : decode b_M_token 4 = .ok (.getfield 99, 3) := by decide +kernel
theorem d_M_token_7 : decode b_M_token 7 = .ok (.iconst 1, 1) := by decide +kernel
theorem d_M_token_8 : decode b_M_token 8 = .ok (.isub, 1) := by decide +kernel
theorem d_M_token_9 : decode b_M_token 9 = .ok (.invokestatic 111, 3) := by decide +kernel
theorem d_M_token_12 : decode b_M_token 12 = .ok (.ifCond .eq 12, 3) := by decide +kernel
theorem d_M_token_15 : decode b_M_token 15 = .ok (.iload_n 2, 1) := by decide +kernel
theorem d_M_token_16 : decode b_M_token 16 = .ok (.iconst 0, 1) := by decide +kernel
theorem d_M_token_17 : decode b_M_token 17 = .ok (.iconst 4, 1) := by decide +kernel
theorem d_M_token_18 : decode b_M_token 18 = .ok (.invokestatic 111, 3) := by decide +kernel
theorem d_M_token_21 : decode b_M_token 21 = .ok (.ifCond .ne 7, 3) := by decide +kernel
theorem d_M_token_24 : decode b_M_token 24 = .ok (.iconst 1, 1) := by decide +kernel
theorem d_M_token_25 : decode b_M_token 25 = .ok (.goto 4, 3) := by decide +kernel
theorem d_M_token_28 : decode b_M_token 28 = .ok (.iconst 0, 1) := by decide +kernel
theorem d_M_token_29 : decode b_M_token 29 = .ok (.iconst 0, 1) := by decide +kernel
theorem d_M_token_30 : decode b_M_token 30 = .ok (.invokevirtual 115, 3) := by decide +kernel
theorem d_M_token_33 : decode b_M_token 33 = .ok (.ifCond .eq 5, 3) := by decide +kernel
theorem d_M_token_36 : decode b_M_token 36 = .ok (.iconst 0, 1) := by decide +kernel
theorem d_M_token_37 : decode b_M_token 37 = .ok (.ireturn, 1) := by decide +kernel
theorem d_M_token_38 : decode b_M_token 38 = .ok (.iload_n 2, 1) := by decide +kernel
theorem d_M_token_39 : decode b_M_token 39 = .ok (.tableswitch 57 0 3 #[29, 36, 43, 50], 29) := by decide +kernel
theorem d_M_token_68 : decode b_M_token 68 = .ok (.aload_n 0, 1) := by decide +kernel
theorem d_M_token_69 : decode b_M_token 69 = .ok (.getfield 35, 3) := by decide +kernel
theorem d_M_token_72 : decode b_M_token 72 = .ok (.iload_n 1, 1) := by decide +kernel
theorem d_M_token_73 : decode b_M_token 73 = .ok (.iaload, 1) := by decide +kernel
theorem d_M_token_74 : decode b_M_token 74 = .ok (.ireturn, 1) := by decide +kernel
theorem d_M_token_75 : decode b_M_token 75 = .ok (.aload_n 0, 1) := by decide +kernel
theorem d_M_token_76 : decode b_M_token 76 = .ok (.getfield 38, 3) := by decide +kernel
theorem d_M_token_79 : decode b_M_token 79 = .ok (.iload_n 1, 1) := by decide +kernel
theorem d_M_token_80 : decode b_M_token 80 = .ok (.iaload, 1) := by decide +kernel
theorem d_M_token_81 : decode b_M_token 81 = .ok (.ireturn, 1) := by decide +kernel
theorem d_M_token_82 : decode b_M_token 82 = .ok (.aload_n 0, 1) := by decide +kernel
theorem d_M_token_83 : decode b_M_token 83 = .ok (.getfield 41, 3) := by decide +kernel
theorem d_M_token_86 : decode b_M_token 86 = .ok (.iload_n 1, 1) := by decide +kernel
theorem d_M_token_87 : decode b_M_token 87 = .ok (.iaload, 1) := by decide +kernel
theorem d_M_token_88 : decode b_M_token 88 = .ok (.ireturn, 1) := by decide +kernel
theorem d_M_token_89 : decode b_M_token 89 = .ok (.aload_n 0, 1) := by decide +kernel
theorem d_M_token_90 : decode b_M_token 90 = .ok (.getfield 47, 3) := by decide +kernel
theorem d_M_token_93 : decode b_M_token 93 = .ok (.iload_n 1, 1) := by decide +kernel
theorem d_M_token_94 : decode b_M_token 94 = .ok (.iaload, 1) := by decide +kernel
theorem d_M_token_95 : decode b_M_token 95 = .ok (.ireturn, 1) := by decide +kernel
theorem d_M_token_96 : decode b_M_token 96 = .ok (.aload_n 0, 1) := by decide +kernel
theorem d_M_token_97 : decode b_M_token 97 = .ok (.iload_n 1, 1) := by decide +kernel
theorem d_M_token_98 : decode b_M_token 98 = .ok (.invokevirtual 153, 3) := by decide +kernel
theorem d_M_token_101 : decode b_M_token 101 = .ok (.ireturn, 1) := by decide +kernel
theorem d_M_highest_0 : decode b_M_highest 0 = .ok (.iconst (-1), 1) := by decide +kernel
theorem d_M_highest_1 : decode b_M_highest 1 = .ok (.istore_n 1, 1) := by decide +kernel
theorem d_M_highest_2 : decode b_M_highest 2 = .ok (.iconst 0, 1) := by decide +kernel
theorem d_M_highest_3 : decode b_M_highest 3 = .ok (.istore_n 2, 1) := by decide +kernel
theorem d_M_highest_4 : decode b_M_highest 4 = .ok (.iload_n 2, 1) := by decide +kernel
theorem d_M_highest_5 : decode b_M_highest 5 = .ok (.aload_n 0, 1) := by decide +kernel
theorem d_M_highest_6 : decode b_M_highest 6 = .ok (.getfield 93, 3) := by decide +kernel
theorem d_M_highest_9 : decode b_M_highest 9 = .ok (.if_icmp .ge 49, 3) := by decide +kernel
theorem d_M_highest_12 : decode b_M_highest 12 = .ok (.aload_n 0, 1) := by decide +kernel
theorem d_M_highest_13 : decode b_M_highest 13 = .ok (.getfield 25, 3) := by decide +kernel
theorem d_M_highest_16 : decode b_M_highest 16 = .ok (.iload_n 2, 1) := by decide +kernel
theorem d_M_highest_17 : decode b_M_highest 17 = .ok (.iaload, 1) := by decide +kernel
theorem d_M_highest_18 : decode b_M_highest 18 = .ok (.ifCond .ne 7, 3) := by decide +kernel
theorem d_M_highest_21 : decode b_M_highest 21 = .ok (.iconst (-1), 1) := by decide +kernel
theorem d_M_highest_22 : decode b_M_highest 22 = .ok (.goto 18, 3) := by decide +kernel
theorem d_M_highest_25 : decode b_M_highest 25 = .ok (.iload_n 2, 1) := by decide +kernel
theorem d_M_highest_26 : decode b_M_highest 26 = .ok (.aload_n 0, 1) := by decide +kernel
theorem d_M_highest_27 : decode b_M_highest 27 = .ok (.getfield 93, 3) := by decide +kernel
theorem d_M_highest_30 : decode b_M_highest 30 = .ok (.aload_n 0, 1) := by decide +kernel
theorem d_M_highest_31 : decode b_M_highest 31 = .ok (.getfield 25, 3) := by decide +kernel
theorem d_M_highest_34 : decode b_M_highest 34 = .ok (.iload_n 2, 1) := by decide +kernel
theorem d_M_highest_35 : decode b_M_highest 35 = .ok (.iaload, 1) := by decide +kernel
theorem d_M_highest_36 : decode b_M_highest 36 = .ok (.iconst 1, 1) := by decide +kernel
theorem d_M_highest_37 : decode b_M_highest 37 = .ok (.isub, 1) := by decide +kernel
theorem d_M_highest_38 : decode b_M_highest 38 = .ok (.imul, 1) := by decide +kernel
theorem d_M_highest_39 : decode b_M_highest 39 = .ok (.iadd, 1) := by decide +kernel
theorem d_M_highest_40 : decode b_M_highest 40 = .ok (.istore_n 3, 1) := by decide +kernel
theorem d_M_highest_41 : decode b_M_highest 41 = .ok (.iload_n 3, 1) := by decide +kernel
theorem d_M_highest_42 : decode b_M_highest 42 = .ok (.iload_n 1, 1) := by decide +kernel
theorem d_M_highest_43 : decode b_M_highest 43 = .ok (.if_icmp .le 7, 3) := by decide +kernel
theorem d_M_highest_46 : decode b_M_highest 46 = .ok (.iload_n 3, 1) := by decide +kernel
theorem d_M_highest_47 : decode b_M_highest 47 = .ok (.goto 4, 3) := by decide +kernel
theorem d_M_highest_50 : decode b_M_highest 50 = .ok (.iload_n 1, 1) := by decide +kernel
theorem d_M_highest_51 : decode b_M_highest 51 = .ok (.istore_n 1, 1) := by decide +kernel
theorem d_M_highest_52 : decode b_M_highest 52 = .ok (.iinc 2 1, 3) := by decide +kernel
theorem d_M_highest_55 : decode b_M_highest 55 = .ok (.goto (-51), 3) := by decide +kernel
theorem d_M_highest_58 : decode b_M_highest 58 = .ok (.iload_n 1, 1) := by decide +kernel
theorem d_M_highest_59 : decode b_M_highest 59 = .ok (.ireturn, 1) := by decide +kernel
theorem d_M_gaps_0 : decode b_M_gaps 0 = .ok (.iconst 0, 1) := by decide +kernel
theorem d_M_gaps_1 : decode b_M_gaps 1 = .ok (.istore_n 1, 1) := by decide +kernel
theorem d_M_gaps_2 : decode b_M_gaps 2 = .ok (.iconst 0, 1) := by decide +kernel
theorem d_M_gaps_3 : decode b_M_gaps 3 = .ok (.istore_n 2, 1) := by decide +kernel
theorem d_M_gaps_4 : decode b_M_gaps 4 = .ok (.iload_n 2, 1) := by decide +kernel
theorem d_M_gaps_5 : decode b_M_gaps 5 = .ok (.aload_n 0, 1) := by decide +kernel
theorem d_M_gaps_6 : decode b_M_gaps 6 = .ok (.invokevirtual 156, 3) := by decide +kernel
theorem d_M_gaps_9 : decode b_M_gaps 9 = .ok (.if_icmp .ge 25, 3) := by decide +kernel
theorem d_M_gaps_12 : decode b_M_gaps 12 = .ok (.aload_n 0, 1) := by decide +kernel
theorem d_M_gaps_13 : decode b_M_gaps 13 = .ok (.iload_n 2, 1) := by decide +kernel
theorem d_M_gaps_14 : decode b_M_gaps 14 = .ok (.invokevirtual 150, 3) := by decide +kernel
theorem d_M_gaps_17 : decode b_M_gaps 17 = .ok (.ifCond .eq 7, 3) := by decide +kernel
theorem d_M_gaps_20 : decode b_M_gaps 20 = .ok (.iload_n 1, 1) := by decide +kernel
theorem d_M_gaps_21 : decode b_M_gaps 21 = .ok (.goto 6, 3) := by decide +kernel
theorem d_M_gaps_24 : decode b_M_gaps 24 = .ok (.iload_n 1, 1) := by decide +kernel
theorem d_M_gaps_25 : decode b_M_gaps 25 = .ok (.iconst 1, 1) := by decide +kernel
theorem d_M_gaps_26 : decode b_M_gaps 26 = .ok (.iadd, 1) := by decide +kernel
theorem d_M_gaps_27 : decode b_M_gaps 27 = .ok (.istore_n 1, 1) := by decide +kernel
theorem d_M_gaps_28 : decode b_M_gaps 28 = .ok (.iinc 2 1, 3) := by decide +kernel
theorem d_M_gaps_31 : decode b_M_gaps 31 = .ok (.goto (-27), 3) := by decide +kernel
theorem d_M_gaps_34 : decode b_M_gaps 34 = .ok (.iload_n 1, 1) := by decide +kernel
theorem d_M_gaps_35 : decode b_M_gaps 35 = .ok (.ireturn, 1) := by decide +kernel
theorem d_M_about_0 : decode b_M_about 0 = .ok (.aload_n 0, 1) := by decide +kernel
theorem d_M_about_1 : decode b_M_about 1 = .ok (.iload_n 1, 1) := by decide +kernel
theorem d_M_about_2 : decode b_M_about 2 = .ok (.iconst 0, 1) := by decide +kernel
theorem d_M_about_3 : decode b_M_about 3 = .ok (.iconst 5, 1) := by decide +kernel
theorem d_M_about_4 : decode b_M_about 4 = .ok (.invokestatic 111, 3) := by decide +kernel
theorem d_M_about_7 : decode b_M_about 7 = .ok (.ifCond .ne 7, 3) := by decide +kernel
theorem d_M_about_10 : decode b_M_about 10 = .ok (.iconst 1, 1) := by decide +kernel
theorem d_M_about_11 : decode b_M_about 11 = .ok (.goto 4, 3) := by decide +kernel
theorem d_M_about_14 : decode b_M_about 14 = .ok (.iconst 0, 1) := by decide +kernel
theorem d_M_about_15 : decode b_M_about 15 = .ok (.iconst 0, 1) := by decide +kernel
theorem d_M_about_16 : decode b_M_about 16 = .ok (.invokevirtual 115, 3) := by decide +kernel
theorem d_M_about_19 : decode b_M_about 19 = .ok (.ifCond .eq 5, 3) := by decide +kernel
theorem d_M_about_22 : decode b_M_about 22 = .ok (.iconst 0, 1) := by decide +kernel
theorem d_M_about_23 : decode b_M_about 23 = .ok (.ireturn, 1) := by decide +kernel
theorem d_M_about_24 : decode b_M_about 24 = .ok (.iload_n 1, 1) := by decide +kernel
theorem d_M_about_25 : decode b_M_about 25 = .ok (.tableswitch 60 0 4 #[35, 40, 45, 50, 55], 35) := by decide +kernel
theorem d_M_about_60 : decode b_M_about 60 = .ok (.aload_n 0, 1) := by decide +kernel
theorem d_M_about_61 : decode b_M_about 61 = .ok (.getfield 93, 3) := by decide +kernel
theorem d_M_about_64 : decode b_M_about 64 = .ok (.ireturn, 1) := by decide +kernel
theorem d_M_about_65 : decode b_M_about 65 = .ok (.aload_n 0, 1) := by decide +kernel
theorem d_M_about_66 : decode b_M_about 66 = .ok (.getfield 99, 3) := by decide +kernel
theorem d_M_about_69 : decode b_M_about 69 = .ok (.ireturn, 1) := by decide +kernel
theorem d_M_about_70 : decode b_M_about 70 = .ok (.aload_n 0, 1) := by decide +kernel
theorem d_M_about_71 : decode b_M_about 71 = .ok (.invokevirtual 119, 3) := by decide +kernel
theorem d_M_about_74 : decode b_M_about 74 = .ok (.ireturn, 1) := by decide +kernel
theorem d_M_about_75 : decode b_M_about 75 = .ok (.aload_n 0, 1) := by decide +kernel
theorem d_M_about_76 : decode b_M_about 76 = .ok (.invokevirtual 156, 3) := by decide +kernel
theorem d_M_about_79 : decode b_M_about 79 = .ok (.ireturn, 1) := by decide +kernel
theorem d_M_about_80 : decode b_M_about 80 = .ok (.aload_n 0, 1) := by decide +kernel
theorem d_M_about_81 : decode b_M_about 81 = .ok (.invokevirtual 159, 3) := by decide +kernel
theorem d_M_about_84 : decode b_M_about 84 = .ok (.ireturn, 1) := by decide +kernel
theorem d_M_about_85 : decode b_M_about 85 = .ok (.aload_n 0, 1) := by decide +kernel
theorem d_M_about_86 : decode b_M_about 86 = .ok (.getfield 93, 3) := by decide +kernel
theorem d_M_about_89 : decode b_M_about 89 = .ok (.iconst 2, 1) := by decide +kernel
theorem d_M_about_90 : decode b_M_about 90 = .ok (.if_icmp .ne 7, 3) := by decide +kernel
theorem d_M_about_93 : decode b_M_about 93 = .ok (.iconst 1, 1) := by decide +kernel
theorem d_M_about_94 : decode b_M_about 94 = .ok (.goto 17, 3) := by decide +kernel
theorem d_M_about_97 : decode b_M_about 97 = .ok (.aload_n 0, 1) := by decide +kernel
theorem d_M_about_98 : decode b_M_about 98 = .ok (.getfield 93, 3) := by decide +kernel
theorem d_M_about_101 : decode b_M_about 101 = .ok (.iconst 4, 1) := by decide +kernel
theorem d_M_about_102 : decode b_M_about 102 = .ok (.if_icmp .ne 7, 3) := by decide +kernel
theorem d_M_about_105 : decode b_M_about 105 = .ok (.iconst 3, 1) := by decide +kernel
theorem d_M_about_106 : decode b_M_about 106 = .ok (.goto 5, 3) := by decide +kernel
theorem d_M_about_109 : decode b_M_about 109 = .ok (.bipush 6, 2) := by decide +kernel
theorem d_M_about_111 : decode b_M_about 111 = .ok (.ireturn, 1) := by decide +kernel
theorem d_M_settle_0 : decode b_M_settle 0 = .ok (.aload_n 0, 1) := by decide +kernel
theorem d_M_settle_1 : decode b_M_settle 1 = .ok (.iload_n 1, 1) := by decide +kernel
theorem d_M_settle_2 : decode b_M_settle 2 = .ok (.iconst 0, 1) := by decide +kernel
theorem d_M_settle_3 : decode b_M_settle 3 = .ok (.bipush 100, 2) := by decide +kernel
theorem d_M_settle_5 : decode b_M_settle 5 = .ok (.invokestatic 111, 3) := by decide +kernel
theorem d_M_settle_8 : decode b_M_settle 8 = .ok (.ifCond .ne 7, 3) := by decide +kernel
theorem d_M_settle_11 : decode b_M_settle 11 = .ok (.iconst 1, 1) := by decide +kernel
theorem d_M_settle_12 : decode b_M_settle 12 = .ok (.goto 4, 3) := by decide +kernel
theorem d_M_settle_15 : decode b_M_settle 15 = .ok (.iconst 0, 1) := by decide +kernel
theorem d_M_settle_16 : decode b_M_settle 16 = .ok (.iconst 0, 1) := by decide +kernel
theorem d_M_settle_17 : decode b_M_settle 17 = .ok (.invokevirtual 115, 3) := by decide +kernel
theorem d_M_settle_20 : decode b_M_settle 20 = .ok (.ifCond .eq 5, 3) := by decide +kernel
theorem d_M_settle_23 : decode b_M_settle 23 = .ok (.iconst 0, 1) := by decide +kernel
theorem d_M_settle_24 : decode b_M_settle 24 = .ok (.ireturn, 1) := by decide +kernel
theorem d_M_settle_25 : decode b_M_settle 25 = .ok (.iconst 0, 1) := by decide +kernel
theorem d_M_settle_26 : decode b_M_settle 26 = .ok (.istore_n 2, 1) := by decide +kernel
theorem d_M_settle_27 : decode b_M_settle 27 = .ok (.iload_n 2, 1) := by decide +kernel
theorem d_M_settle_28 : decode b_M_settle 28 = .ok (.iload_n 1, 1) := by decide +kernel
theorem d_M_settle_29 : decode b_M_settle 29 = .ok (.if_icmp .ge 67, 3) := by decide +kernel
theorem d_M_settle_32 : decode b_M_settle 32 = .ok (.aload_n 0, 1) := by decide +kernel
theorem d_M_settle_33 : decode b_M_settle 33 = .ok (.invokevirtual 119, 3) := by decide +kernel
theorem d_M_settle_36 : decode b_M_settle 36 = .ok (.ifCond .le 60, 3) := by decide +kernel
theorem d_M_settle_39 : decode b_M_settle 39 = .ok (.iconst 0, 1) := by decide +kernel
theorem d_M_settle_40 : decode b_M_settle 40 = .ok (.istore_n 3, 1) := by decide +kernel
theorem d_M_settle_41 : decode b_M_settle 41 = .ok (.iload_n 3, 1) := by decide +kernel
theorem d_M_settle_42 : decode b_M_settle 42 = .ok (.aload_n 0, 1) := by decide +kernel
theorem d_M_settle_43 : decode b_M_settle 43 = .ok (.getfield 99, 3) := by decide +kernel
theorem d_M_settle_46 : decode b_M_settle 46 = .ok (.if_icmp .ge 23, 3) := by decide +kernel
theorem d_M_settle_49 : decode b_M_settle 49 = .ok (.aload_n 0, 1) := by decide +kernel
theorem d_M_settle_50 : decode b_M_settle 50 = .ok (.iload_n 3, 1) := by decide +kernel
theorem d_M_settle_51 : decode b_M_settle 51 = .ok (.invokevirtual 137, 3) := by decide +kernel
theorem d_M_settle_54 : decode b_M_settle 54 = .ok (.ifCond .ne 9, 3) := by decide +kernel
theorem d_M_settle_57 : decode b_M_settle 57 = .ok (.aload_n 0, 1) := by decide +kernel
theorem d_M_settle_58 : decode b_M_settle 58 = .ok (.iload_n 3, 1) := by decide +kernel
theorem d_M_settle_59 : decode b_M_settle 59 = .ok (.invokevirtual 141, 3) := by decide +kernel
theorem d_M_settle_62 : decode b_M_settle 62 = .ok (.pop, 1) := by decide +kernel
theorem d_M_settle_63 : decode b_M_settle 63 = .ok (.iinc 3 1, 3) := by decide +kernel
theorem d_M_settle_66 : decode b_M_settle 66 = .ok (.goto (-25), 3) := by decide +kernel
theorem d_M_settle_69 : decode b_M_settle 69 = .ok (.aload_n 0, 1) := by decide +kernel
theorem d_M_settle_70 : decode b_M_settle 70 = .ok (.getfield 102, 3) := by decide +kernel
theorem d_M_settle_73 : decode b_M_settle 73 = .ok (.istore_n 3, 1) := by decide +kernel
theorem d_M_settle_74 : decode b_M_settle 74 = .ok (.iload_n 3, 1) := by decide +kernel
theorem d_M_settle_75 : decode b_M_settle 75 = .ok (.ifCond .le 15, 3) := by decide +kernel
theorem d_M_settle_78 : decode b_M_settle 78 = .ok (.aload_n 0, 1) := by decide +kernel
theorem d_M_settle_79 : decode b_M_settle 79 = .ok (.iconst 0, 1) := by decide +kernel
theorem d_M_settle_80 : decode b_M_settle 80 = .ok (.invokevirtual 162, 3) := by decide +kernel
theorem d_M_settle_83 : decode b_M_settle 83 = .ok (.pop, 1) := by decide +kernel
theorem d_M_settle_84 : decode b_M_settle 84 = .ok (.iinc 3 (-1), 3) := by decide +kernel
theorem d_M_settle_87 : decode b_M_settle 87 = .ok (.goto (-13), 3) := by decide +kernel
theorem d_M_settle_90 : decode b_M_settle 90 = .ok (.iinc 2 1, 3) := by decide +kernel
theorem d_M_settle_93 : decode b_M_settle 93 = .ok (.goto (-66), 3) := by decide +kernel
theorem d_M_settle_96 : decode b_M_settle 96 = .ok (.iload_n 2, 1) := by decide +kernel
theorem d_M_settle_97 : decode b_M_settle 97 = .ok (.ireturn, 1) := by decide +kernel
