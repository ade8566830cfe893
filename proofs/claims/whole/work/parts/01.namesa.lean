theorem dX0_init_0 : decode cX0_init 0 = .ok (.aload_n 0, 1) := by decide +kernel
theorem dX0_init_1 : decode cX0_init 1 = .ok (.invokespecial 3, 3) := by decide +kernel
theorem dX0_init_4 : decode cX0_init 4 = .ok (.aload_n 0, 1) := by decide +kernel
theorem dX0_init_5 : decode cX0_init 5 = .ok (.bipush 6, 2) := by decide +kernel
theorem dX0_init_7 : decode cX0_init 7 = .ok (.newarray .int, 2) := by decide +kernel
theorem dX0_init_9 : decode cX0_init 9 = .ok (.putfield 9, 3) := by decide +kernel
theorem dX0_init_12 : decode cX0_init 12 = .ok (.aload_n 0, 1) := by decide +kernel
theorem dX0_init_13 : decode cX0_init 13 = .ok (.bipush 6, 2) := by decide +kernel
theorem dX0_init_15 : decode cX0_init 15 = .ok (.newarray .int, 2) := by decide +kernel
theorem dX0_init_17 : decode cX0_init 17 = .ok (.putfield 15, 3) := by decide +kernel
theorem dX0_init_20 : decode cX0_init 20 = .ok (.aload_n 0, 1) := by decide +kernel
theorem dX0_init_21 : decode cX0_init 21 = .ok (.bipush 36, 2) := by decide +kernel
theorem dX0_init_23 : decode cX0_init 23 = .ok (.newarray .int, 2) := by decide +kernel
theorem dX0_init_25 : decode cX0_init 25 = .ok (.putfield 18, 3) := by decide +kernel
theorem dX0_init_28 : decode cX0_init 28 = .ok (.aload_n 0, 1) := by decide +kernel
theorem dX0_init_29 : decode cX0_init 29 = .ok (.bipush 6, 2) := by decide +kernel
theorem dX0_init_31 : decode cX0_init 31 = .ok (.newarray .int, 2) := by decide +kernel
theorem dX0_init_33 : decode cX0_init 33 = .ok (.putfield 21, 3) := by decide +kernel
theorem dX0_init_36 : decode cX0_init 36 = .ok (.return_, 1) := by decide +kernel
theorem dX0_clear_0 : decode cX0_clear 0 = .ok (.aload_n 0, 1) := by decide +kernel
theorem dX0_clear_1 : decode cX0_clear 1 = .ok (.iconst 0, 1) := by decide +kernel
theorem dX0_clear_2 : decode cX0_clear 2 = .ok (.iload_n 1, 1) := by decide +kernel
theorem dX0_clear_3 : decode cX0_clear 3 = .ok (.bipush 6, 2) := by decide +kernel
theorem dX0_clear_5 : decode cX0_clear 5 = .ok (.invokestatic 24, 3) := by decide +kernel
theorem dX0_clear_8 : decode cX0_clear 8 = .ok (.invokestatic 30, 3) := by decide +kernel
theorem dX0_clear_11 : decode cX0_clear 11 = .ok (.putfield 33, 3) := by decide +kernel
theorem dX0_clear_14 : decode cX0_clear 14 = .ok (.aload_n 0, 1) := by decide +kernel
theorem dX0_clear_15 : decode cX0_clear 15 = .ok (.iconst 0, 1) := by decide +kernel
theorem dX0_clear_16 : decode cX0_clear 16 = .ok (.putfield 37, 3) := by decide +kernel
theorem dX0_clear_19 : decode cX0_clear 19 = .ok (.iconst 0, 1) := by decide +kernel
theorem dX0_clear_20 : decode cX0_clear 20 = .ok (.istore_n 2, 1) := by decide +kernel
theorem dX0_clear_21 : decode cX0_clear 21 = .ok (.iload_n 2, 1) := by decide +kernel
theorem dX0_clear_22 : decode cX0_clear 22 = .ok (.bipush 6, 2) := by decide +kernel
theorem dX0_clear_24 : decode cX0_clear 24 = .ok (.if_icmp .ge 16, 3) := by decide +kernel
theorem dX0_clear_27 : decode cX0_clear 27 = .ok (.aload_n 0, 1) := by decide +kernel
theorem dX0_clear_28 : decode cX0_clear 28 = .ok (.getfield 9, 3) := by decide +kernel
theorem dX0_clear_31 : decode cX0_clear 31 = .ok (.iload_n 2, 1) := by decide +kernel
theorem dX0_clear_32 : decode cX0_clear 32 = .ok (.iconst 0, 1) := by decide +kernel
theorem dX0_clear_33 : decode cX0_clear 33 = .ok (.iastore, 1) := by decide +kernel
theorem dX0_clear_34 : decode cX0_clear 34 = .ok (.iinc 2 1, 3) := by decide +kernel
theorem dX0_clear_37 : decode cX0_clear 37 = .ok (.goto (-16), 3) := by decide +kernel
theorem dX0_clear_40 : decode cX0_clear 40 = .ok (.iconst 0, 1) := by decide +kernel
theorem dX0_clear_41 : decode cX0_clear 41 = .ok (.istore_n 2, 1) := by decide +kernel
theorem dX0_clear_42 : decode cX0_clear 42 = .ok (.iload_n 2, 1) := by decide +kernel
theorem dX0_clear_43 : decode cX0_clear 43 = .ok (.bipush 36, 2) := by decide +kernel
theorem dX0_clear_45 : decode cX0_clear 45 = .ok (.if_icmp .ge 16, 3) := by decide +kernel
theorem dX0_clear_48 : decode cX0_clear 48 = .ok (.aload_n 0, 1) := by decide +kernel
theorem dX0_clear_49 : decode cX0_clear 49 = .ok (.getfield 18, 3) := by decide +kernel
theorem dX0_clear_52 : decode cX0_clear 52 = .ok (.iload_n 2, 1) := by decide +kernel
theorem dX0_clear_53 : decode cX0_clear 53 = .ok (.iconst (-1), 1) := by decide +kernel
theorem dX0_clear_54 : decode cX0_clear 54 = .ok (.iastore, 1) := by decide +kernel
theorem dX0_clear_55 : decode cX0_clear 55 = .ok (.iinc 2 1, 3) := by decide +kernel
theorem dX0_clear_58 : decode cX0_clear 58 = .ok (.goto (-16), 3) := by decide +kernel
theorem dX0_clear_61 : decode cX0_clear 61 = .ok (.return_, 1) := by decide +kernel
theorem dX0_allow_0 : decode cX0_allow 0 = .ok (.aload_n 0, 1) := by decide +kernel
theorem dX0_allow_1 : decode cX0_allow 1 = .ok (.getfield 18, 3) := by decide +kernel
theorem dX0_allow_4 : decode cX0_allow 4 = .ok (.bipush 6, 2) := by decide +kernel
theorem dX0_allow_6 : decode cX0_allow 6 = .ok (.iload_n 1, 1) := by decide +kernel
theorem dX0_allow_7 : decode cX0_allow 7 = .ok (.imul, 1) := by decide +kernel
theorem dX0_allow_8 : decode cX0_allow 8 = .ok (.iload_n 2, 1) := by decide +kernel
theorem dX0_allow_9 : decode cX0_allow 9 = .ok (.iadd, 1) := by decide +kernel
theorem dX0_allow_10 : decode cX0_allow 10 = .ok (.iload_n 3, 1) := by decide +kernel
theorem dX0_allow_11 : decode cX0_allow 11 = .ok (.iastore, 1) := by decide +kernel
theorem dX0_allow_12 : decode cX0_allow 12 = .ok (.aload_n 0, 1) := by decide +kernel
theorem dX0_allow_13 : decode cX0_allow 13 = .ok (.aload_n 0, 1) := by decide +kernel
theorem dX0_allow_14 : decode cX0_allow 14 = .ok (.getfield 37, 3) := by decide +kernel
theorem dX0_allow_17 : decode cX0_allow 17 = .ok (.iload_n 3, 1) := by decide +kernel
theorem dX0_allow_18 : decode cX0_allow 18 = .ok (.invokestatic 30, 3) := by decide +kernel
theorem dX0_allow_21 : decode cX0_allow 21 = .ok (.putfield 37, 3) := by decide +kernel
theorem dX0_allow_24 : decode cX0_allow 24 = .ok (.return_, 1) := by decide +kernel
theorem dX0_solve_0 : decode cX0_solve 0 = .ok (.aload_n 0, 1) := by decide +kernel
theorem dX0_solve_1 : decode cX0_solve 1 = .ok (.iconst (-1), 1) := by decide +kernel
theorem dX0_solve_2 : decode cX0_solve 2 = .ok (.putfield 40, 3) := by decide +kernel
theorem dX0_solve_5 : decode cX0_solve 5 = .ok (.aload_n 0, 1) := by decide +kernel
theorem dX0_solve_6 : decode cX0_solve 6 = .ok (.iconst (-1), 1) := by decide +kernel
theorem dX0_solve_7 : decode cX0_solve 7 = .ok (.putfield 43, 3) := by decide +kernel
theorem dX0_solve_10 : decode cX0_solve 10 = .ok (.aload_n 0, 1) := by decide +kernel
theorem dX0_solve_11 : decode cX0_solve 11 = .ok (.iconst 0, 1) := by decide +kernel
theorem dX0_solve_12 : decode cX0_solve 12 = .ok (.iconst 0, 1) := by decide +kernel
theorem dX0_solve_13 : decode cX0_solve 13 = .ok (.iconst 0, 1) := by decide +kernel
theorem dX0_solve_14 : decode cX0_solve 14 = .ok (.invokestatic 46, 3) := by decide +kernel
theorem dX0_solve_17 : decode cX0_solve 17 = .ok (.return_, 1) := by decide +kernel
theorem dX0_tryRows_0 : decode cX0_tryRows 0 = .ok (.aload_n 0, 1) := by decide +kernel
theorem dX0_tryRows_1 : decode cX0_tryRows 1 = .ok (.getfield 33, 3) := by decide +kernel
theorem dX0_tryRows_4 : decode cX0_tryRows 4 = .ok (.iload_n 1, 1) := by decide +kernel
theorem dX0_tryRows_5 : decode cX0_tryRows 5 = .ok (.isub, 1) := by decide +kernel
theorem dX0_tryRows_6 : decode cX0_tryRows 6 = .ok (.istore 4, 2) := by decide +kernel
theorem dX0_tryRows_8 : decode cX0_tryRows 8 = .ok (.iload_n 2, 1) := by decide +kernel
theorem dX0_tryRows_9 : decode cX0_tryRows 9 = .ok (.iload 4, 2) := by decide +kernel
theorem dX0_tryRows_11 : decode cX0_tryRows 11 = .ok (.iadd, 1) := by decide +kernel
theorem dX0_tryRows_12 : decode cX0_tryRows 12 = .ok (.istore 5, 2) := by decide +kernel
theorem dX0_tryRows_14 : decode cX0_tryRows 14 = .ok (.iload 5, 2) := by decide +kernel
theorem dX0_tryRows_16 : decode cX0_tryRows 16 = .ok (.aload_n 0, 1) := by decide +kernel
theorem dX0_tryRows_17 : decode cX0_tryRows 17 = .ok (.getfield 40, 3) := by decide +kernel
theorem dX0_tryRows_20 : decode cX0_tryRows 20 = .ok (.if_icmp .lt 28, 3) := by decide +kernel
theorem dX0_tryRows_23 : decode cX0_tryRows 23 = .ok (.iload 5, 2) := by decide +kernel
theorem dX0_tryRows_25 : decode cX0_tryRows 25 = .ok (.aload_n 0, 1) := by decide +kernel
theorem dX0_tryRows_26 : decode cX0_tryRows 26 = .ok (.getfield 40, 3) := by decide +kernel
theorem dX0_tryRows_29 : decode cX0_tryRows 29 = .ok (.if_icmp .ne 20, 3) := by decide +kernel
theorem dX0_tryRows_32 : decode cX0_tryRows 32 = .ok (.iload_n 3, 1) := by decide +kernel
theorem dX0_tryRows_33 : decode cX0_tryRows 33 = .ok (.iload 4, 2) := by decide +kernel
theorem dX0_tryRows_35 : decode cX0_tryRows 35 = .ok (.aload_n 0, 1) := by decide +kernel
theorem dX0_tryRows_36 : decode cX0_tryRows 36 = .ok (.getfield 37, 3) := by decide +kernel
theorem dX0_tryRows_39 : decode cX0_tryRows 39 = .ok (.imul, 1) := by decide +kernel
theorem dX0_tryRows_40 : decode cX0_tryRows 40 = .ok (.iadd, 1) := by decide +kernel
theorem dX0_tryRows_41 : decode cX0_tryRows 41 = .ok (.aload_n 0, 1) := by decide +kernel
theorem dX0_tryRows_42 : decode cX0_tryRows 42 = .ok (.getfield 43, 3) := by decide +kernel
theorem dX0_tryRows_45 : decode cX0_tryRows 45 = .ok (.if_icmp .gt 4, 3) := by decide +kernel
theorem dX0_tryRows_48 : decode cX0_tryRows 48 = .ok (.return_, 1) := by decide +kernel
theorem dX0_tryRows_49 : decode cX0_tryRows 49 = .ok (.iload 4, 2) := by decide +kernel
theorem dX0_tryRows_51 : decode cX0_tryRows 51 = .ok (.ifCond .gt 10, 3) := by decide +kernel
theorem dX0_tryRows_54 : decode cX0_tryRows 54 = .ok (.aload_n 0, 1) := by decide +kernel
theorem dX0_tryRows_55 : decode cX0_tryRows 55 = .ok (.iload_n 2, 1) := by decide +kernel
theorem dX0_tryRows_56 : decode cX0_tryRows 56 = .ok (.iload_n 3, 1) := by decide +kernel
theorem dX0_tryRows_57 : decode cX0_tryRows 57 = .ok (.invokevirtual 50, 3) := by decide +kernel
theorem dX0_tryRows_60 : decode cX0_tryRows 60 = .ok (.return_, 1) := by decide +kernel
theorem dX0_tryRows_61 : decode cX0_tryRows 61 = .ok (.iconst 0, 1) := by decide +kernel
theorem dX0_tryRows_62 : decode cX0_tryRows 62 = .ok (.istore 6, 2) := by decide +kernel
theorem dX0_tryRows_64 : decode cX0_tryRows 64 = .ok (.iload 6, 2) := by decide +kernel
theorem dX0_tryRows_66 : decode cX0_tryRows 66 = .ok (.bipush 6, 2) := by decide +kernel
theorem dX0_tryRows_68 : decode cX0_tryRows 68 = .ok (.if_icmp .ge 83, 3) := by decide +kernel
theorem dX0_tryRows_71 : decode cX0_tryRows 71 = .ok (.aload_n 0, 1) := by decide +kernel
theorem dX0_tryRows_72 : decode cX0_tryRows 72 = .ok (.getfield 18, 3) := by decide +kernel
theorem dX0_tryRows_75 : decode cX0_tryRows 75 = .ok (.bipush 6, 2) := by decide +kernel
theorem dX0_tryRows_77 : decode cX0_tryRows 77 = .ok (.iload_n 1, 1) := by decide +kernel
theorem dX0_tryRows_78 : decode cX0_tryRows 78 = .ok (.imul, 1) := by decide +kernel
theorem dX0_tryRows_79 : decode cX0_tryRows 79 = .ok (.iload 6, 2) := by decide +kernel
theorem dX0_tryRows_81 : decode cX0_tryRows 81 = .ok (.iadd, 1) := by decide +kernel
theorem dX0_tryRows_82 : decode cX0_tryRows 82 = .ok (.iaload, 1) := by decide +kernel
theorem dX0_tryRows_83 : decode cX0_tryRows 83 = .ok (.istore 7, 2) := by decide +kernel
theorem dX0_tryRows_85 : decode cX0_tryRows 85 = .ok (.iload 7, 2) := by decide +kernel
theorem dX0_tryRows_87 : decode cX0_tryRows 87 = .ok (.iconst (-1), 1) := by decide +kernel
theorem dX0_tryRows_88 : decode cX0_tryRows 88 = .ok (.if_icmp .eq 57, 3) := by decide +kernel
theorem dX0_tryRows_91 : decode cX0_tryRows 91 = .ok (.aload_n 0, 1) := by decide +kernel
theorem dX0_tryRows_92 : decode cX0_tryRows 92 = .ok (.getfield 9, 3) := by decide +kernel
theorem dX0_tryRows_95 : decode cX0_tryRows 95 = .ok (.iload 6, 2) := by decide +kernel
theorem dX0_tryRows_97 : decode cX0_tryRows 97 = .ok (.iaload, 1) := by decide +kernel
theorem dX0_tryRows_98 : decode cX0_tryRows 98 = .ok (.ifCond .le 47, 3) := by decide +kernel
theorem dX0_tryRows_101 : decode cX0_tryRows 101 = .ok (.aload_n 0, 1) := by decide +kernel
theorem dX0_tryRows_102 : decode cX0_tryRows 102 = .ok (.getfield 9, 3) := by decide +kernel
theorem dX0_tryRows_105 : decode cX0_tryRows 105 = .ok (.iload 6, 2) := by decide +kernel
theorem dX0_tryRows_107 : decode cX0_tryRows 107 = .ok (.dup2, 1) := by decide +kernel
theorem dX0_tryRows_108 : decode cX0_tryRows 108 = .ok (.iaload, 1) := by decide +kernel
theorem dX0_tryRows_109 : decode cX0_tryRows 109 = .ok (.iconst 1, 1) := by decide +kernel
theorem dX0_tryRows_110 : decode cX0_tryRows 110 = .ok (.isub, 1) := by decide +kernel
theorem dX0_tryRows_111 : decode cX0_tryRows 111 = .ok (.iastore, 1) := by decide +kernel
theorem dX0_tryRows_112 : decode cX0_tryRows 112 = .ok (.aload_n 0, 1) := by decide +kernel
theorem dX0_tryRows_113 : decode cX0_tryRows 113 = .ok (.getfield 21, 3) := by decide +kernel
theorem dX0_tryRows_116 : decode cX0_tryRows 116 = .ok (.iload_n 1, 1) := by decide +kernel
theorem dX0_tryRows_117 : decode cX0_tryRows 117 = .ok (.iload 6, 2) := by decide +kernel
theorem dX0_tryRows_119 : decode cX0_tryRows 119 = .ok (.iastore, 1) := by decide +kernel
theorem dX0_tryRows_120 : decode cX0_tryRows 120 = .ok (.aload_n 0, 1) := by decide +kernel
theorem dX0_tryRows_121 : decode cX0_tryRows 121 = .ok (.iload_n 1, 1) := by decide +kernel
theorem dX0_tryRows_122 : decode cX0_tryRows 122 = .ok (.iconst 1, 1) := by decide +kernel
theorem dX0_tryRows_123 : decode cX0_tryRows 123 = .ok (.iadd, 1) := by decide +kernel
theorem dX0_tryRows_124 : decode cX0_tryRows 124 = .ok (.iload_n 2, 1) := by decide +kernel
theorem dX0_tryRows_125 : decode cX0_tryRows 125 = .ok (.iconst 1, 1) := by decide +kernel
theorem dX0_tryRows_126 : decode cX0_tryRows 126 = .ok (.iadd, 1) := by decide +kernel
theorem dX0_tryRows_127 : decode cX0_tryRows 127 = .ok (.iload_n 3, 1) := by decide +kernel
theorem dX0_tryRows_128 : decode cX0_tryRows 128 = .ok (.iload 7, 2) := by decide +kernel
theorem dX0_tryRows_130 : decode cX0_tryRows 130 = .ok (.iadd, 1) := by decide +kernel
theorem dX0_tryRows_131 : decode cX0_tryRows 131 = .ok (.invokestatic 46, 3) := by decide +kernel
theorem dX0_tryRows_134 : decode cX0_tryRows 134 = .ok (.aload_n 0, 1) := by decide +kernel
theorem dX0_tryRows_135 : decode cX0_tryRows 135 = .ok (.getfield 9, 3) := by decide +kernel
theorem dX0_tryRows_138 : decode cX0_tryRows 138 = .ok (.iload 6, 2) := by decide +kernel
theorem dX0_tryRows_140 : decode cX0_tryRows 140 = .ok (.dup2, 1) := by decide +kernel
theorem dX0_tryRows_141 : decode cX0_tryRows 141 = .ok (.iaload, 1) := by decide +kernel
theorem dX0_tryRows_142 : decode cX0_tryRows 142 = .ok (.iconst 1, 1) := by decide +kernel
theorem dX0_tryRows_143 : decode cX0_tryRows 143 = .ok (.iadd, 1) := by decide +kernel
theorem dX0_tryRows_144 : decode cX0_tryRows 144 = .ok (.iastore, 1) := by decide +kernel
theorem dX0_tryRows_145 : decode cX0_tryRows 145 = .ok (.iinc 6 1, 3) := by decide +kernel
theorem dX0_tryRows_148 : decode cX0_tryRows 148 = .ok (.goto (-84), 3) := by decide +kernel
theorem dX0_tryRows_151 : decode cX0_tryRows 151 = .ok (.aload_n 0, 1) := by decide +kernel
theorem dX0_tryRows_152 : decode cX0_tryRows 152 = .ok (.getfield 21, 3) := by decide +kernel
theorem dX0_tryRows_155 : decode cX0_tryRows 155 = .ok (.iload_n 1, 1) := by decide +kernel
theorem dX0_tryRows_156 : decode cX0_tryRows 156 = .ok (.bipush 6, 2) := by decide +kernel
theorem dX0_tryRows_158 : decode cX0_tryRows 158 = .ok (.iastore, 1) := by decide +kernel
theorem dX0_tryRows_159 : decode cX0_tryRows 159 = .ok (.aload_n 0, 1) := by decide +kernel
theorem dX0_tryRows_160 : decode cX0_tryRows 160 = .ok (.iload_n 1, 1) := by decide +kernel
theorem dX0_tryRows_161 : decode cX0_tryRows 161 = .ok (.iconst 1, 1) := by decide +kernel
theorem dX0_tryRows_162 : decode cX0_tryRows 162 = .ok (.iadd, 1) := by decide +kernel
theorem dX0_tryRows_163 : decode cX0_tryRows 163 = .ok (.iload_n 2, 1) := by decide +kernel
theorem dX0_tryRows_164 : decode cX0_tryRows 164 = .ok (.iload_n 3, 1) := by decide +kernel
theorem dX0_tryRows_165 : decode cX0_tryRows 165 = .ok (.invokestatic 46, 3) := by decide +kernel
theorem dX0_tryRows_168 : decode cX0_tryRows 168 = .ok (.return_, 1) := by decide +kernel
theorem dX0_keepWay_0 : decode cX0_keepWay 0 = .ok (.aload_n 0, 1) := by decide +kernel
theorem dX0_keepWay_1 : decode cX0_keepWay 1 = .ok (.iload_n 1, 1) := by decide +kernel
theorem dX0_keepWay_2 : decode cX0_keepWay 2 = .ok (.putfield 40, 3) := by decide +kernel
theorem dX0_keepWay_5 : decode cX0_keepWay 5 = .ok (.aload_n 0, 1) := by decide +kernel
theorem dX0_keepWay_6 : decode cX0_keepWay 6 = .ok (.iload_n 2, 1) := by decide +kernel
theorem dX0_keepWay_7 : decode cX0_keepWay 7 = .ok (.putfield 43, 3) := by decide +kernel
theorem dX0_keepWay_10 : decode cX0_keepWay 10 = .ok (.aload_n 0, 1) := by decide +kernel
theorem dX0_keepWay_11 : decode cX0_keepWay 11 = .ok (.getfield 21, 3) := by decide +kernel
theorem dX0_keepWay_14 : decode cX0_keepWay 14 = .ok (.iconst 0, 1) := by decide +kernel
theorem dX0_keepWay_15 : decode cX0_keepWay 15 = .ok (.aload_n 0, 1) := by decide +kernel
theorem dX0_keepWay_16 : decode cX0_keepWay 16 = .ok (.getfield 15, 3) := by decide +kernel
theorem dX0_keepWay_19 : decode cX0_keepWay 19 = .ok (.iconst 0, 1) := by decide +kernel
theorem dX0_keepWay_20 : decode cX0_keepWay 20 = .ok (.aload_n 0, 1) := by decide +kernel
theorem dX0_keepWay_21 : decode cX0_keepWay 21 = .ok (.getfield 33, 3) := by decide +kernel
theorem dX0_keepWay_24 : decode cX0_keepWay 24 = .ok (.invokestatic 54, 3) := by decide +kernel
theorem dX0_keepWay_27 : decode cX0_keepWay 27 = .ok (.return_, 1) := by decide +kernel
theorem dX1_init_0 : decode cX1_init 0 = .ok (.aload_n 0, 1) := by decide +kernel
theorem dX1_init_1 : decode cX1_init 1 = .ok (.invokespecial 3, 3) := by decide +kernel
theorem dX1_init_4 : decode cX1_init 4 = .ok (.aload_n 0, 1) := by decide +kernel
theorem dX1_init_5 : decode cX1_init 5 = .ok (.bipush 6, 2) := by decide +kernel
theorem dX1_init_7 : decode cX1_init 7 = .ok (.newarray .long, 2) := by decide +kernel
theorem dX1_init_9 : decode cX1_init 9 = .ok (.putfield 9, 3) := by decide +kernel
theorem dX1_init_12 : decode cX1_init 12 = .ok (.aload_n 0, 1) := by decide +kernel
theorem dX1_init_13 : decode cX1_init 13 = .ok (.bipush 16, 2) := by decide +kernel
theorem dX1_init_15 : decode cX1_init 15 = .ok (.newarray .long, 2) := by decide +kernel
theorem dX1_init_17 : decode cX1_init 17 = .ok (.putfield 15, 3) := by decide +kernel
theorem dX1_init_20 : decode cX1_init 20 = .ok (.aload_n 0, 1) := by decide +kernel
theorem dX1_init_21 : decode cX1_init 21 = .ok (.bipush 16, 2) := by decide +kernel
theorem dX1_init_23 : decode cX1_init 23 = .ok (.newarray .int, 2) := by decide +kernel
theorem dX1_init_25 : decode cX1_init 25 = .ok (.putfield 18, 3) := by decide +kernel
theorem dX1_init_28 : decode cX1_init 28 = .ok (.aload_n 0, 1) := by decide +kernel
theorem dX1_init_29 : decode cX1_init 29 = .ok (.bipush 16, 2) := by decide +kernel
theorem dX1_init_31 : decode cX1_init 31 = .ok (.newarray .int, 2) := by decide +kernel
theorem dX1_init_33 : decode cX1_init 33 = .ok (.putfield 22, 3) := by decide +kernel
theorem dX1_init_36 : decode cX1_init 36 = .ok (.aload_n 0, 1) := by decide +kernel
theorem dX1_init_37 : decode cX1_init 37 = .ok (.bipush 12, 2) := by decide +kernel
theorem dX1_init_39 : decode cX1_init 39 = .ok (.newarray .int, 2) := by decide +kernel
theorem dX1_init_41 : decode cX1_init 41 = .ok (.putfield 25, 3) := by decide +kernel
theorem dX1_init_44 : decode cX1_init 44 = .ok (.aload_n 0, 1) := by decide +kernel
theorem dX1_init_45 : decode cX1_init 45 = .ok (.bipush 12, 2) := by decide +kernel
theorem dX1_init_47 : decode cX1_init 47 = .ok (.newarray .int, 2) := by decide +kernel
theorem dX1_init_49 : decode cX1_init 49 = .ok (.putfield 28, 3) := by decide +kernel
theorem dX1_init_52 : decode cX1_init 52 = .ok (.aload_n 0, 1) := by decide +kernel
theorem dX1_init_53 : decode cX1_init 53 = .ok (.bipush 12, 2) := by decide +kernel
theorem dX1_init_55 : decode cX1_init 55 = .ok (.newarray .int, 2) := by decide +kernel
theorem dX1_init_57 : decode cX1_init 57 = .ok (.putfield 31, 3) := by decide +kernel
theorem dX1_init_60 : decode cX1_init 60 = .ok (.aload_n 0, 1) := by decide +kernel
theorem dX1_init_61 : decode cX1_init 61 = .ok (.aload_n 1, 1) := by decide +kernel
theorem dX1_init_62 : decode cX1_init 62 = .ok (.putfield 34, 3) := by decide +kernel
theorem dX1_init_65 : decode cX1_init 65 = .ok (.return_, 1) := by decide +kernel
theorem dX1_give_0 : decode cX1_give 0 = .ok (.iload_n 3, 1) := by decide +kernel
theorem dX1_give_1 : decode cX1_give 1 = .ok (.aload_n 0, 1) := by decide +kernel
theorem dX1_give_2 : decode cX1_give 2 = .ok (.getfield 34, 3) := by decide +kernel
theorem dX1_give_5 : decode cX1_give 5 = .ok (.iconst 5, 1) := by decide +kernel
theorem dX1_give_6 : decode cX1_give 6 = .ok (.iaload, 1) := by decide +kernel
theorem dX1_give_7 : decode cX1_give 7 = .ok (.imul, 1) := by decide +kernel
theorem dX1_give_8 : decode cX1_give 8 = .ok (.bipush 100, 2) := by decide +kernel
theorem dX1_give_10 : decode cX1_give 10 = .ok (.idiv, 1) := by decide +kernel
theorem dX1_give_11 : decode cX1_give 11 = .ok (.istore 5, 2) := by decide +kernel
theorem dX1_give_13 : decode cX1_give 13 = .ok (.iload_n 3, 1) := by decide +kernel
theorem dX1_give_14 : decode cX1_give 14 = .ok (.aload_n 0, 1) := by decide +kernel
theorem dX1_give_15 : decode cX1_give 15 = .ok (.getfield 34, 3) := by decide +kernel
theorem dX1_give_18 : decode cX1_give 18 = .ok (.bipush 6, 2) := by decide +kernel
theorem dX1_give_20 : decode cX1_give 20 = .ok (.iaload, 1) := by decide +kernel
theorem dX1_give_21 : decode cX1_give 21 = .ok (.imul, 1) := by decide +kernel
theorem dX1_give_22 : decode cX1_give 22 = .ok (.bipush 100, 2) := by decide +kernel
theorem dX1_give_24 : decode cX1_give 24 = .ok (.idiv, 1) := by decide +kernel
theorem dX1_give_25 : decode cX1_give 25 = .ok (.istore 6, 2) := by decide +kernel
theorem dX1_give_27 : decode cX1_give 27 = .ok (.iload_n 3, 1) := by decide +kernel
theorem dX1_give_28 : decode cX1_give 28 = .ok (.iload 5, 2) := by decide +kernel
theorem dX1_give_30 : decode cX1_give 30 = .ok (.isub, 1) := by decide +kernel
theorem dX1_give_31 : decode cX1_give 31 = .ok (.iload 6, 2) := by decide +kernel
theorem dX1_give_33 : decode cX1_give 33 = .ok (.isub, 1) := by decide +kernel
theorem dX1_give_34 : decode cX1_give 34 = .ok (.istore 7, 2) := by decide +kernel
theorem dX1_give_36 : decode cX1_give 36 = .ok (.aload_n 0, 1) := by decide +kernel
theorem dX1_give_37 : decode cX1_give 37 = .ok (.iload_n 1, 1) := by decide +kernel
theorem dX1_give_38 : decode cX1_give 38 = .ok (.iload 4, 2) := by decide +kernel
theorem dX1_give_40 : decode cX1_give 40 = .ok (.invokevirtual 37, 3) := by decide +kernel
theorem dX1_give_43 : decode cX1_give 43 = .ok (.istore 8, 2) := by decide +kernel
theorem dX1_give_45 : decode cX1_give 45 = .ok (.iload 7, 2) := by decide +kernel
theorem dX1_give_47 : decode cX1_give 47 = .ok (.iconst 0, 1) := by decide +kernel
theorem dX1_give_48 : decode cX1_give 48 = .ok (.aload_n 0, 1) := by decide +kernel
theorem dX1_give_49 : decode cX1_give 49 = .ok (.getfield 34, 3) := by decide +kernel
theorem dX1_give_52 : decode cX1_give 52 = .ok (.bipush 7, 2) := by decide +kernel
theorem dX1_give_54 : decode cX1_give 54 = .ok (.iaload, 1) := by decide +kernel
theorem dX1_give_55 : decode cX1_give 55 = .ok (.iload 8, 2) := by decide +kernel
theorem dX1_give_57 : decode cX1_give 57 = .ok (.isub, 1) := by decide +kernel
theorem dX1_give_58 : decode cX1_give 58 = .ok (.invokestatic 41, 3) := by decide +kernel
theorem dX1_give_61 : decode cX1_give 61 = .ok (.invokestatic 46, 3) := by decide +kernel
theorem dX1_give_64 : decode cX1_give 64 = .ok (.istore 9, 2) := by decide +kernel
theorem dX1_give_66 : decode cX1_give 66 = .ok (.aload_n 0, 1) := by decide +kernel
theorem dX1_give_67 : decode cX1_give 67 = .ok (.dup, 1) := by decide +kernel
theorem dX1_give_68 : decode cX1_give 68 = .ok (.getfield 49, 3) := by decide +kernel
theorem dX1_give_71 : decode cX1_give 71 = .ok (.iload_n 3, 1) := by decide +kernel
theorem dX1_give_72 : decode cX1_give 72 = .ok (.i2l, 1) := by decide +kernel
theorem dX1_give_73 : decode cX1_give 73 = .ok (.ladd, 1) := by decide +kernel
theorem dX1_give_74 : decode cX1_give 74 = .ok (.putfield 49, 3) := by decide +kernel
theorem dX1_give_77 : decode cX1_give 77 = .ok (.aload_n 0, 1) := by decide +kernel
theorem dX1_give_78 : decode cX1_give 78 = .ok (.dup, 1) := by decide +kernel
theorem dX1_give_79 : decode cX1_give 79 = .ok (.getfield 53, 3) := by decide +kernel
theorem dX1_give_82 : decode cX1_give 82 = .ok (.iload 5, 2) := by decide +kernel
theorem dX1_give_84 : decode cX1_give 84 = .ok (.i2l, 1) := by decide +kernel
theorem dX1_give_85 : decode cX1_give 85 = .ok (.ladd, 1) := by decide +kernel
theorem dX1_give_86 : decode cX1_give 86 = .ok (.putfield 53, 3) := by decide +kernel
theorem dX1_give_89 : decode cX1_give 89 = .ok (.aload_n 0, 1) := by decide +kernel
theorem dX1_give_90 : decode cX1_give 90 = .ok (.getfield 9, 3) := by decide +kernel
theorem dX1_give_93 : decode cX1_give 93 = .ok (.iload_n 2, 1) := by decide +kernel
theorem dX1_give_94 : decode cX1_give 94 = .ok (.dup2, 1) := by decide +kernel
theorem dX1_give_95 : decode cX1_give 95 = .ok (.laload, 1) := by decide +kernel
theorem dX1_give_96 : decode cX1_give 96 = .ok (.iload 6, 2) := by decide +kernel
theorem dX1_give_98 : decode cX1_give 98 = .ok (.iload 7, 2) := by decide +kernel
theorem dX1_give_100 : decode cX1_give 100 = .ok (.iadd, 1) := by decide +kernel
theorem dX1_give_101 : decode cX1_give 101 = .ok (.iload 9, 2) := by decide +kernel
theorem dX1_give_103 : decode cX1_give 103 = .ok (.isub, 1) := by decide +kernel
theorem dX1_give_104 : decode cX1_give 104 = .ok (.i2l, 1) := by decide +kernel
theorem dX1_give_105 : decode cX1_give 105 = .ok (.ladd, 1) := by decide +kernel
theorem dX1_give_106 : decode cX1_give 106 = .ok (.lastore, 1) := by decide +kernel
theorem dX1_give_107 : decode cX1_give 107 = .ok (.aload_n 0, 1) := by decide +kernel
theorem dX1_give_108 : decode cX1_give 108 = .ok (.getfield 15, 3) := by decide +kernel
theorem dX1_give_111 : decode cX1_give 111 = .ok (.iload_n 1, 1) := by decide +kernel
theorem dX1_give_112 : decode cX1_give 112 = .ok (.dup2, 1) := by decide +kernel
theorem dX1_give_113 : decode cX1_give 113 = .ok (.laload, 1) := by decide +kernel
theorem dX1_give_114 : decode cX1_give 114 = .ok (.iload 9, 2) := by decide +kernel
theorem dX1_give_116 : decode cX1_give 116 = .ok (.i2l, 1) := by decide +kernel
theorem dX1_give_117 : decode cX1_give 117 = .ok (.ladd, 1) := by decide +kernel
theorem dX1_give_118 : decode cX1_give 118 = .ok (.lastore, 1) := by decide +kernel
theorem dX1_give_119 : decode cX1_give 119 = .ok (.aload_n 0, 1) := by decide +kernel
theorem dX1_give_120 : decode cX1_give 120 = .ok (.getfield 18, 3) := by decide +kernel
theorem dX1_give_123 : decode cX1_give 123 = .ok (.iload_n 1, 1) := by decide +kernel
theorem dX1_give_124 : decode cX1_give 124 = .ok (.iload 8, 2) := by decide +kernel
theorem dX1_give_126 : decode cX1_give 126 = .ok (.iload 9, 2) := by decide +kernel
theorem dX1_give_128 : decode cX1_give 128 = .ok (.iadd, 1) := by decide +kernel
theorem dX1_give_129 : decode cX1_give 129 = .ok (.iastore, 1) := by decide +kernel
theorem dX1_give_130 : decode cX1_give 130 = .ok (.aload_n 0, 1) := by decide +kernel
theorem dX1_give_131 : decode cX1_give 131 = .ok (.getfield 22, 3) := by decide +kernel
theorem dX1_give_134 : decode cX1_give 134 = .ok (.iload_n 1, 1) := by decide +kernel
theorem dX1_give_135 : decode cX1_give 135 = .ok (.iload 4, 2) := by decide +kernel
theorem dX1_give_137 : decode cX1_give 137 = .ok (.iastore, 1) := by decide +kernel
theorem dX1_give_138 : decode cX1_give 138 = .ok (.iload 9, 2) := by decide +kernel
theorem dX1_give_140 : decode cX1_give 140 = .ok (.ireturn, 1) := by decide +kernel
theorem dX1_inYear_0 : decode cX1_inYear 0 = .ok (.aload_n 0, 1) := by decide +kernel
theorem dX1_inYear_1 : decode cX1_inYear 1 = .ok (.getfield 22, 3) := by decide +kernel
theorem dX1_inYear_4 : decode cX1_inYear 4 = .ok (.iload_n 1, 1) := by decide +kernel
theorem dX1_inYear_5 : decode cX1_inYear 5 = .ok (.iaload, 1) := by decide +kernel
theorem dX1_inYear_6 : decode cX1_inYear 6 = .ok (.iload_n 2, 1) := by decide +kernel
theorem dX1_inYear_7 : decode cX1_inYear 7 = .ok (.if_icmp .ne 12, 3) := by decide +kernel
theorem dX1_inYear_10 : decode cX1_inYear 10 = .ok (.aload_n 0, 1) := by decide +kernel
theorem dX1_inYear_11 : decode cX1_inYear 11 = .ok (.getfield 18, 3) := by decide +kernel
theorem dX1_inYear_14 : decode cX1_inYear 14 = .ok (.iload_n 1, 1) := by decide +kernel
theorem dX1_inYear_15 : decode cX1_inYear 15 = .ok (.iaload, 1) := by decide +kernel
theorem dX1_inYear_16 : decode cX1_inYear 16 = .ok (.goto 4, 3) := by decide +kernel
theorem dX1_inYear_19 : decode cX1_inYear 19 = .ok (.iconst 0, 1) := by decide +kernel
theorem dX1_inYear_20 : decode cX1_inYear 20 = .ok (.ireturn, 1) := by decide +kernel
theorem dX1_tell_0 : decode cX1_tell 0 = .ok (.iload_n 1, 1) := by decide +kernel
theorem dX1_tell_1 : decode cX1_tell 1 = .ok (.bipush 10, 2) := by decide +kernel
theorem dX1_tell_3 : decode cX1_tell 3 = .ok (.bipush 15, 2) := by decide +kernel
theorem dX1_tell_5 : decode cX1_tell 5 = .ok (.invokestatic 56, 3) := by decide +kernel
theorem dX1_tell_8 : decode cX1_tell 8 = .ok (.ifCond .eq 13, 3) := by decide +kernel
theorem dX1_tell_11 : decode cX1_tell 11 = .ok (.aload_n 0, 1) := by decide +kernel
theorem dX1_tell_12 : decode cX1_tell 12 = .ok (.getfield 9, 3) := by decide +kernel
theorem dX1_tell_15 : decode cX1_tell 15 = .ok (.iload_n 1, 1) := by decide +kernel
theorem dX1_tell_16 : decode cX1_tell 16 = .ok (.bipush 10, 2) := by decide +kernel
theorem dX1_tell_18 : decode cX1_tell 18 = .ok (.isub, 1) := by decide +kernel
theorem dX1_tell_19 : decode cX1_tell 19 = .ok (.laload, 1) := by decide +kernel
theorem dX1_tell_20 : decode cX1_tell 20 = .ok (.lreturn, 1) := by decide +kernel
theorem dX1_tell_21 : decode cX1_tell 21 = .ok (.iload_n 1, 1) := by decide +kernel
theorem dX1_tell_22 : decode cX1_tell 22 = .ok (.bipush 20, 2) := by decide +kernel
theorem dX1_tell_24 : decode cX1_tell 24 = .ok (.bipush 35, 2) := by decide +kernel
theorem dX1_tell_26 : decode cX1_tell 26 = .ok (.invokestatic 56, 3) := by decide +kernel
theorem dX1_tell_29 : decode cX1_tell 29 = .ok (.ifCond .eq 13, 3) := by decide +kernel
theorem dX1_tell_32 : decode cX1_tell 32 = .ok (.aload_n 0, 1) := by decide +kernel
theorem dX1_tell_33 : decode cX1_tell 33 = .ok (.getfield 15, 3) := by decide +kernel
theorem dX1_tell_36 : decode cX1_tell 36 = .ok (.iload_n 1, 1) := by decide +kernel
theorem dX1_tell_37 : decode cX1_tell 37 = .ok (.bipush 20, 2) := by decide +kernel
theorem dX1_tell_39 : decode cX1_tell 39 = .ok (.isub, 1) := by decide +kernel
theorem dX1_tell_40 : decode cX1_tell 40 = .ok (.laload, 1) := by decide +kernel
theorem dX1_tell_41 : decode cX1_tell 41 = .ok (.lreturn, 1) := by decide +kernel
theorem dX1_tell_42 : decode cX1_tell 42 = .ok (.iload_n 1, 1) := by decide +kernel
theorem dX1_tell_43 : decode cX1_tell 43 = .ok (.bipush 40, 2) := by decide +kernel
theorem dX1_tell_45 : decode cX1_tell 45 = .ok (.bipush 55, 2) := by decide +kernel
theorem dX1_tell_47 : decode cX1_tell 47 = .ok (.invokestatic 56, 3) := by decide +kernel
theorem dX1_tell_50 : decode cX1_tell 50 = .ok (.ifCond .eq 14, 3) := by decide +kernel
theorem dX1_tell_53 : decode cX1_tell 53 = .ok (.aload_n 0, 1) := by decide +kernel
theorem dX1_tell_54 : decode cX1_tell 54 = .ok (.iload_n 1, 1) := by decide +kernel
theorem dX1_tell_55 : decode cX1_tell 55 = .ok (.bipush 40, 2) := by decide +kernel
theorem dX1_tell_57 : decode cX1_tell 57 = .ok (.isub, 1) := by decide +kernel
theorem dX1_tell_58 : decode cX1_tell 58 = .ok (.iload_n 2, 1) := by decide +kernel
theorem dX1_tell_59 : decode cX1_tell 59 = .ok (.invokevirtual 37, 3) := by decide +kernel
theorem dX1_tell_62 : decode cX1_tell 62 = .ok (.i2l, 1) := by decide +kernel
theorem dX1_tell_63 : decode cX1_tell 63 = .ok (.lreturn, 1) := by decide +kernel
theorem dX1_tell_64 : decode cX1_tell 64 = .ok (.iload_n 1, 1) := by decide +kernel
theorem dX1_tell_65 : decode cX1_tell 65 = .ok (.tableswitch 42 0 2 #[27, 32, 37], 27) := by decide +kernel
theorem dX1_tell_92 : decode cX1_tell 92 = .ok (.aload_n 0, 1) := by decide +kernel
theorem dX1_tell_93 : decode cX1_tell 93 = .ok (.getfield 53, 3) := by decide +kernel
theorem dX1_tell_96 : decode cX1_tell 96 = .ok (.lreturn, 1) := by decide +kernel
theorem dX1_tell_97 : decode cX1_tell 97 = .ok (.aload_n 0, 1) := by decide +kernel
theorem dX1_tell_98 : decode cX1_tell 98 = .ok (.getfield 49, 3) := by decide +kernel
theorem dX1_tell_101 : decode cX1_tell 101 = .ok (.lreturn, 1) := by decide +kernel
theorem dX1_tell_102 : decode cX1_tell 102 = .ok (.aload_n 0, 1) := by decide +kernel
theorem dX1_tell_103 : decode cX1_tell 103 = .ok (.getfield 60, 3) := by decide +kernel
theorem dX1_tell_106 : decode cX1_tell 106 = .ok (.lreturn, 1) := by decide +kernel
theorem dX1_tell_107 : decode cX1_tell 107 = .ok (.lconst 0, 1) := by decide +kernel
theorem dX1_tell_108 : decode cX1_tell 108 = .ok (.lreturn, 1) := by decide +kernel
theorem dX1_addProject_0 : decode cX1_addProject 0 = .ok (.aload_n 0, 1) := by decide +kernel
theorem dX1_addProject_1 : decode cX1_addProject 1 = .ok (.getfield 63, 3) := by decide +kernel
theorem dX1_addProject_4 : decode cX1_addProject 4 = .ok (.bipush 12, 2) := by decide +kernel
theorem dX1_addProject_6 : decode cX1_addProject 6 = .ok (.if_icmp .lt 5, 3) := by decide +kernel
theorem dX1_addProject_9 : decode cX1_addProject 9 = .ok (.iconst (-1), 1) := by decide +kernel
theorem dX1_addProject_10 : decode cX1_addProject 10 = .ok (.ireturn, 1) := by decide +kernel
theorem dX1_addProject_11 : decode cX1_addProject 11 = .ok (.aload_n 0, 1) := by decide +kernel
theorem dX1_addProject_12 : decode cX1_addProject 12 = .ok (.getfield 25, 3) := by decide +kernel
theorem dX1_addProject_15 : decode cX1_addProject 15 = .ok (.aload_n 0, 1) := by decide +kernel
theorem dX1_addProject_16 : decode cX1_addProject 16 = .ok (.getfield 63, 3) := by decide +kernel
theorem dX1_addProject_19 : decode cX1_addProject 19 = .ok (.iload_n 1, 1) := by decide +kernel
theorem dX1_addProject_20 : decode cX1_addProject 20 = .ok (.iastore, 1) := by decide +kernel
theorem dX1_addProject_21 : decode cX1_addProject 21 = .ok (.aload_n 0, 1) := by decide +kernel
theorem dX1_addProject_22 : decode cX1_addProject 22 = .ok (.getfield 28, 3) := by decide +kernel
theorem dX1_addProject_25 : decode cX1_addProject 25 = .ok (.aload_n 0, 1) := by decide +kernel
theorem dX1_addProject_26 : decode cX1_addProject 26 = .ok (.getfield 63, 3) := by decide +kernel
theorem dX1_addProject_29 : decode cX1_addProject 29 = .ok (.iload_n 2, 1) := by decide +kernel
theorem dX1_addProject_30 : decode cX1_addProject 30 = .ok (.iastore, 1) := by decide +kernel
theorem dX1_addProject_31 : decode cX1_addProject 31 = .ok (.aload_n 0, 1) := by decide +kernel
theorem dX1_addProject_32 : decode cX1_addProject 32 = .ok (.getfield 31, 3) := by decide +kernel
theorem dX1_addProject_35 : decode cX1_addProject 35 = .ok (.aload_n 0, 1) := by decide +kernel
theorem dX1_addProject_36 : decode cX1_addProject 36 = .ok (.getfield 63, 3) := by decide +kernel
theorem dX1_addProject_39 : decode cX1_addProject 39 = .ok (.iload_n 3, 1) := by decide +kernel
theorem dX1_addProject_40 : decode cX1_addProject 40 = .ok (.iastore, 1) := by decide +kernel
theorem dX1_addProject_41 : decode cX1_addProject 41 = .ok (.aload_n 0, 1) := by decide +kernel
theorem dX1_addProject_42 : decode cX1_addProject 42 = .ok (.dup, 1) := by decide +kernel
theorem dX1_addProject_43 : decode cX1_addProject 43 = .ok (.getfield 63, 3) := by decide +kernel
theorem dX1_addProject_46 : decode cX1_addProject 46 = .ok (.iconst 1, 1) := by decide +kernel
theorem dX1_addProject_47 : decode cX1_addProject 47 = .ok (.iadd, 1) := by decide +kernel
theorem dX1_addProject_48 : decode cX1_addProject 48 = .ok (.putfield 63, 3) := by decide +kernel
theorem dX1_addProject_51 : decode cX1_addProject 51 = .ok (.aload_n 0, 1) := by decide +kernel
theorem dX1_addProject_52 : decode cX1_addProject 52 = .ok (.getfield 63, 3) := by decide +kernel
theorem dX1_addProject_55 : decode cX1_addProject 55 = .ok (.iconst 1, 1) := by decide +kernel
theorem dX1_addProject_56 : decode cX1_addProject 56 = .ok (.isub, 1) := by decide +kernel
theorem dX1_addProject_57 : decode cX1_addProject 57 = .ok (.ireturn, 1) := by decide +kernel
theorem dX1_choose_0 : decode cX1_choose 0 = .ok (.aload_n 0, 1) := by decide +kernel
theorem dX1_choose_1 : decode cX1_choose 1 = .ok (.iload_n 1, 1) := by decide +kernel
theorem dX1_choose_2 : decode cX1_choose 2 = .ok (.invokevirtual 67, 3) := by decide +kernel
theorem dX1_choose_5 : decode cX1_choose 5 = .ok (.istore_n 2, 1) := by decide +kernel
theorem dX1_choose_6 : decode cX1_choose 6 = .ok (.iconst 0, 1) := by decide +kernel
theorem dX1_choose_7 : decode cX1_choose 7 = .ok (.istore_n 3, 1) := by decide +kernel
theorem dX1_choose_8 : decode cX1_choose 8 = .ok (.iconst 0, 1) := by decide +kernel
theorem dX1_choose_9 : decode cX1_choose 9 = .ok (.istore 4, 2) := by decide +kernel
theorem dX1_choose_11 : decode cX1_choose 11 = .ok (.iconst 0, 1) := by decide +kernel
theorem dX1_choose_12 : decode cX1_choose 12 = .ok (.istore 5, 2) := by decide +kernel
theorem dX1_choose_14 : decode cX1_choose 14 = .ok (.iconst 1, 1) := by decide +kernel
theorem dX1_choose_15 : decode cX1_choose 15 = .ok (.istore 6, 2) := by decide +kernel
theorem dX1_choose_17 : decode cX1_choose 17 = .ok (.iload 6, 2) := by decide +kernel
theorem dX1_choose_19 : decode cX1_choose 19 = .ok (.iload_n 2, 1) := by decide +kernel
theorem dX1_choose_20 : decode cX1_choose 20 = .ok (.if_icmp .gt 102, 3) := by decide +kernel
theorem dX1_choose_23 : decode cX1_choose 23 = .ok (.iload 6, 2) := by decide +kernel
theorem dX1_choose_25 : decode cX1_choose 25 = .ok (.iload_n 2, 1) := by decide +kernel
theorem dX1_choose_26 : decode cX1_choose 26 = .ok (.iconst (-1), 1) := by decide +kernel
theorem dX1_choose_27 : decode cX1_choose 27 = .ok (.ixor, 1) := by decide +kernel
theorem dX1_choose_28 : decode cX1_choose 28 = .ok (.iand, 1) := by decide +kernel
theorem dX1_choose_29 : decode cX1_choose 29 = .ok (.ifCond .eq 6, 3) := by decide +kernel
theorem dX1_choose_32 : decode cX1_choose 32 = .ok (.goto 84, 3) := by decide +kernel
theorem dX1_choose_35 : decode cX1_choose 35 = .ok (.aload_n 0, 1) := by decide +kernel
theorem dX1_choose_36 : decode cX1_choose 36 = .ok (.aload_n 0, 1) := by decide +kernel
theorem dX1_choose_37 : decode cX1_choose 37 = .ok (.getfield 28, 3) := by decide +kernel
theorem dX1_choose_40 : decode cX1_choose 40 = .ok (.iload 6, 2) := by decide +kernel
theorem dX1_choose_42 : decode cX1_choose 42 = .ok (.invokevirtual 71, 3) := by decide +kernel
theorem dX1_choose_45 : decode cX1_choose 45 = .ok (.istore 7, 2) := by decide +kernel
theorem dX1_choose_47 : decode cX1_choose 47 = .ok (.aload_n 0, 1) := by decide +kernel
theorem dX1_choose_48 : decode cX1_choose 48 = .ok (.aload_n 0, 1) := by decide +kernel
theorem dX1_choose_49 : decode cX1_choose 49 = .ok (.getfield 31, 3) := by decide +kernel
theorem dX1_choose_52 : decode cX1_choose 52 = .ok (.iload 6, 2) := by decide +kernel
theorem dX1_choose_54 : decode cX1_choose 54 = .ok (.invokevirtual 71, 3) := by decide +kernel
theorem dX1_choose_57 : decode cX1_choose 57 = .ok (.istore 8, 2) := by decide +kernel
theorem dX1_choose_59 : decode cX1_choose 59 = .ok (.iload 8, 2) := by decide +kernel
theorem dX1_choose_61 : decode cX1_choose 61 = .ok (.iload 4, 2) := by decide +kernel
theorem dX1_choose_63 : decode cX1_choose 63 = .ok (.if_icmp .gt 17, 3) := by decide +kernel
theorem dX1_choose_66 : decode cX1_choose 66 = .ok (.iload 8, 2) := by decide +kernel
theorem dX1_choose_68 : decode cX1_choose 68 = .ok (.iload 4, 2) := by decide +kernel
theorem dX1_choose_70 : decode cX1_choose 70 = .ok (.if_icmp .ne 14, 3) := by decide +kernel
theorem dX1_choose_73 : decode cX1_choose 73 = .ok (.iload 7, 2) := by decide +kernel
theorem dX1_choose_75 : decode cX1_choose 75 = .ok (.iload 5, 2) := by decide +kernel
theorem dX1_choose_77 : decode cX1_choose 77 = .ok (.if_icmp .ge 7, 3) := by decide +kernel
theorem dX1_choose_80 : decode cX1_choose 80 = .ok (.iconst 1, 1) := by decide +kernel
theorem dX1_choose_81 : decode cX1_choose 81 = .ok (.goto 4, 3) := by decide +kernel
theorem dX1_choose_84 : decode cX1_choose 84 = .ok (.iconst 0, 1) := by decide +kernel
theorem dX1_choose_85 : decode cX1_choose 85 = .ok (.istore 9, 2) := by decide +kernel
theorem dX1_choose_87 : decode cX1_choose 87 = .ok (.iload 9, 2) := by decide +kernel
theorem dX1_choose_89 : decode cX1_choose 89 = .ok (.ifCond .eq 27, 3) := by decide +kernel
theorem dX1_choose_92 : decode cX1_choose 92 = .ok (.iload 7, 2) := by decide +kernel
theorem dX1_choose_94 : decode cX1_choose 94 = .ok (.i2l, 1) := by decide +kernel
theorem dX1_choose_95 : decode cX1_choose 95 = .ok (.aload_n 0, 1) := by decide +kernel
theorem dX1_choose_96 : decode cX1_choose 96 = .ok (.getfield 9, 3) := by decide +kernel
theorem dX1_choose_99 : decode cX1_choose 99 = .ok (.iload_n 1, 1) := by decide +kernel
theorem dX1_choose_100 : decode cX1_choose 100 = .ok (.laload, 1) := by decide +kernel
theorem dX1_choose_101 : decode cX1_choose 101 = .ok (.lcmp, 1) := by decide +kernel
theorem dX1_choose_102 : decode cX1_choose 102 = .ok (.ifCond .gt 14, 3) := by decide +kernel
theorem dX1_choose_105 : decode cX1_choose 105 = .ok (.iload 6, 2) := by decide +kernel
theorem dX1_choose_107 : decode cX1_choose 107 = .ok (.istore_n 3, 1) := by decide +kernel
theorem dX1_choose_108 : decode cX1_choose 108 = .ok (.iload 8, 2) := by decide +kernel
theorem dX1_choose_110 : decode cX1_choose 110 = .ok (.istore 4, 2) := by decide +kernel
theorem dX1_choose_112 : decode cX1_choose 112 = .ok (.iload 7, 2) := by decide +kernel
theorem dX1_choose_114 : decode cX1_choose 114 = .ok (.istore 5, 2) := by decide +kernel
theorem dX1_choose_116 : decode cX1_choose 116 = .ok (.iinc 6 1, 3) := by decide +kernel
theorem dX1_choose_119 : decode cX1_choose 119 = .ok (.goto (-102), 3) := by decide +kernel
theorem dX1_choose_122 : decode cX1_choose 122 = .ok (.iload_n 3, 1) := by decide +kernel
theorem dX1_choose_123 : decode cX1_choose 123 = .ok (.ireturn, 1) := by decide +kernel
theorem dX1_openProjects_0 : decode cX1_openProjects 0 = .ok (.iconst 0, 1) := by decide +kernel
theorem dX1_openProjects_1 : decode cX1_openProjects 1 = .ok (.istore_n 2, 1) := by decide +kernel
theorem dX1_openProjects_2 : decode cX1_openProjects 2 = .ok (.iconst 0, 1) := by decide +kernel
theorem dX1_openProjects_3 : decode cX1_openProjects 3 = .ok (.istore_n 3, 1) := by decide +kernel
theorem dX1_openProjects_4 : decode cX1_openProjects 4 = .ok (.iload_n 3, 1) := by decide +kernel
theorem dX1_openProjects_5 : decode cX1_openProjects 5 = .ok (.aload_n 0, 1) := by decide +kernel
theorem dX1_openProjects_6 : decode cX1_openProjects 6 = .ok (.getfield 63, 3) := by decide +kernel
theorem dX1_openProjects_9 : decode cX1_openProjects 9 = .ok (.if_icmp .ge 25, 3) := by decide +kernel
theorem dX1_openProjects_12 : decode cX1_openProjects 12 = .ok (.aload_n 0, 1) := by decide +kernel
theorem dX1_openProjects_13 : decode cX1_openProjects 13 = .ok (.getfield 25, 3) := by decide +kernel
theorem dX1_openProjects_16 : decode cX1_openProjects 16 = .ok (.iload_n 3, 1) := by decide +kernel
theorem dX1_openProjects_17 : decode cX1_openProjects 17 = .ok (.iaload, 1) := by decide +kernel
theorem dX1_openProjects_18 : decode cX1_openProjects 18 = .ok (.iload_n 1, 1) := by decide +kernel
theorem dX1_openProjects_19 : decode cX1_openProjects 19 = .ok (.if_icmp .ne 9, 3) := by decide +kernel
theorem dX1_openProjects_22 : decode cX1_openProjects 22 = .ok (.iload_n 2, 1) := by decide +kernel
theorem dX1_openProjects_23 : decode cX1_openProjects 23 = .ok (.iconst 1, 1) := by decide +kernel
theorem dX1_openProjects_24 : decode cX1_openProjects 24 = .ok (.iload_n 3, 1) := by decide +kernel
theorem dX1_openProjects_25 : decode cX1_openProjects 25 = .ok (.ishl, 1) := by decide +kernel
theorem dX1_openProjects_26 : decode cX1_openProjects 26 = .ok (.ior, 1) := by decide +kernel
theorem dX1_openProjects_27 : decode cX1_openProjects 27 = .ok (.istore_n 2, 1) := by decide +kernel
theorem dX1_openProjects_28 : decode cX1_openProjects 28 = .ok (.iinc 3 1, 3) := by decide +kernel
theorem dX1_openProjects_31 : decode cX1_openProjects 31 = .ok (.goto (-27), 3) := by decide +kernel
theorem dX1_openProjects_34 : decode cX1_openProjects 34 = .ok (.iload_n 2, 1) := by decide +kernel
theorem dX1_openProjects_35 : decode cX1_openProjects 35 = .ok (.aload_n 0, 1) := by decide +kernel
theorem dX1_openProjects_36 : decode cX1_openProjects 36 = .ok (.getfield 75, 3) := by decide +kernel
theorem dX1_openProjects_39 : decode cX1_openProjects 39 = .ok (.iconst (-1), 1) := by decide +kernel
theorem dX1_openProjects_40 : decode cX1_openProjects 40 = .ok (.ixor, 1) := by decide +kernel
theorem dX1_openProjects_41 : decode cX1_openProjects 41 = .ok (.iand, 1) := by decide +kernel
theorem dX1_openProjects_42 : decode cX1_openProjects 42 = .ok (.ireturn, 1) := by decide +kernel
theorem dX1_sumOf_0 : decode cX1_sumOf 0 = .ok (.iconst 0, 1) := by decide +kernel
theorem dX1_sumOf_1 : decode cX1_sumOf 1 = .ok (.istore_n 3, 1) := by decide +kernel
theorem dX1_sumOf_2 : decode cX1_sumOf 2 = .ok (.iconst 0, 1) := by decide +kernel
theorem dX1_sumOf_3 : decode cX1_sumOf 3 = .ok (.istore 4, 2) := by decide +kernel
theorem dX1_sumOf_5 : decode cX1_sumOf 5 = .ok (.iload 4, 2) := by decide +kernel
theorem dX1_sumOf_7 : decode cX1_sumOf 7 = .ok (.aload_n 0, 1) := by decide +kernel
theorem dX1_sumOf_8 : decode cX1_sumOf 8 = .ok (.getfield 63, 3) := by decide +kernel
theorem dX1_sumOf_11 : decode cX1_sumOf 11 = .ok (.if_icmp .ge 29, 3) := by decide +kernel
theorem dX1_sumOf_14 : decode cX1_sumOf 14 = .ok (.iload_n 3, 1) := by decide +kernel
theorem dX1_sumOf_15 : decode cX1_sumOf 15 = .ok (.iload_n 2, 1) := by decide +kernel
theorem dX1_sumOf_16 : decode cX1_sumOf 16 = .ok (.iload 4, 2) := by decide +kernel
theorem dX1_sumOf_18 : decode cX1_sumOf 18 = .ok (.ishr, 1) := by decide +kernel
theorem dX1_sumOf_19 : decode cX1_sumOf 19 = .ok (.iconst 1, 1) := by decide +kernel
theorem dX1_sumOf_20 : decode cX1_sumOf 20 = .ok (.iand, 1) := by decide +kernel
theorem dX1_sumOf_21 : decode cX1_sumOf 21 = .ok (.ifCond .eq 10, 3) := by decide +kernel
theorem dX1_sumOf_24 : decode cX1_sumOf 24 = .ok (.aload_n 1, 1) := by decide +kernel
theorem dX1_sumOf_25 : decode cX1_sumOf 25 = .ok (.iload 4, 2) := by decide +kernel
theorem dX1_sumOf_27 : decode cX1_sumOf 27 = .ok (.iaload, 1) := by decide +kernel
theorem dX1_sumOf_28 : decode cX1_sumOf 28 = .ok (.goto 4, 3) := by decide +kernel
theorem dX1_sumOf_31 : decode cX1_sumOf 31 = .ok (.iconst 0, 1) := by decide +kernel
theorem dX1_sumOf_32 : decode cX1_sumOf 32 = .ok (.iadd, 1) := by decide +kernel
theorem dX1_sumOf_33 : decode cX1_sumOf 33 = .ok (.istore_n 3, 1) := by decide +kernel
theorem dX1_sumOf_34 : decode cX1_sumOf 34 = .ok (.iinc 4 1, 3) := by decide +kernel
theorem dX1_sumOf_37 : decode cX1_sumOf 37 = .ok (.goto (-32), 3) := by decide +kernel
theorem dX1_sumOf_40 : decode cX1_sumOf 40 = .ok (.iload_n 3, 1) := by decide +kernel
theorem dX1_sumOf_41 : decode cX1_sumOf 41 = .ok (.ireturn, 1) := by decide +kernel
theorem dX1_buildChosen_0 : decode cX1_buildChosen 0 = .ok (.aload_n 0, 1) := by decide +kernel
theorem dX1_buildChosen_1 : decode cX1_buildChosen 1 = .ok (.iload_n 1, 1) := by decide +kernel
theorem dX1_buildChosen_2 : decode cX1_buildChosen 2 = .ok (.invokevirtual 78, 3) := by decide +kernel
theorem dX1_buildChosen_5 : decode cX1_buildChosen 5 = .ok (.istore_n 2, 1) := by decide +kernel
theorem dX1_buildChosen_6 : decode cX1_buildChosen 6 = .ok (.iload_n 2, 1) := by decide +kernel
theorem dX1_buildChosen_7 : decode cX1_buildChosen 7 = .ok (.ifCond .ne 5, 3) := by decide +kernel
theorem dX1_buildChosen_10 : decode cX1_buildChosen 10 = .ok (.iconst (-1), 1) := by decide +kernel
theorem dX1_buildChosen_11 : decode cX1_buildChosen 11 = .ok (.ireturn, 1) := by decide +kernel
theorem dX1_buildChosen_12 : decode cX1_buildChosen 12 = .ok (.aload_n 0, 1) := by decide +kernel
theorem dX1_buildChosen_13 : decode cX1_buildChosen 13 = .ok (.aload_n 0, 1) := by decide +kernel
theorem dX1_buildChosen_14 : decode cX1_buildChosen 14 = .ok (.getfield 28, 3) := by decide +kernel
theorem dX1_buildChosen_17 : decode cX1_buildChosen 17 = .ok (.iload_n 2, 1) := by decide +kernel
theorem dX1_buildChosen_18 : decode cX1_buildChosen 18 = .ok (.invokevirtual 71, 3) := by decide +kernel
theorem dX1_buildChosen_21 : decode cX1_buildChosen 21 = .ok (.istore_n 3, 1) := by decide +kernel
theorem dX1_buildChosen_22 : decode cX1_buildChosen 22 = .ok (.aload_n 0, 1) := by decide +kernel
theorem dX1_buildChosen_23 : decode cX1_buildChosen 23 = .ok (.dup, 1) := by decide +kernel
theorem dX1_buildChosen_24 : decode cX1_buildChosen 24 = .ok (.getfield 75, 3) := by decide +kernel
theorem dX1_buildChosen_27 : decode cX1_buildChosen 27 = .ok (.iload_n 2, 1) := by decide +kernel
theorem dX1_buildChosen_28 : decode cX1_buildChosen 28 = .ok (.ior, 1) := by decide +kernel
theorem dX1_buildChosen_29 : decode cX1_buildChosen 29 = .ok (.putfield 75, 3) := by decide +kernel
theorem dX1_buildChosen_32 : decode cX1_buildChosen 32 = .ok (.aload_n 0, 1) := by decide +kernel
theorem dX1_buildChosen_33 : decode cX1_buildChosen 33 = .ok (.getfield 9, 3) := by decide +kernel
theorem dX1_buildChosen_36 : decode cX1_buildChosen 36 = .ok (.iload_n 1, 1) := by decide +kernel
theorem dX1_buildChosen_37 : decode cX1_buildChosen 37 = .ok (.dup2, 1) := by decide +kernel
theorem dX1_buildChosen_38 : decode cX1_buildChosen 38 = .ok (.laload, 1) := by decide +kernel
theorem dX1_buildChosen_39 : decode cX1_buildChosen 39 = .ok (.iload_n 3, 1) := by decide +kernel
theorem dX1_buildChosen_40 : decode cX1_buildChosen 40 = .ok (.i2l, 1) := by decide +kernel
theorem dX1_buildChosen_41 : decode cX1_buildChosen 41 = .ok (.lsub, 1) := by decide +kernel
theorem dX1_buildChosen_42 : decode cX1_buildChosen 42 = .ok (.lastore, 1) := by decide +kernel
theorem dX1_buildChosen_43 : decode cX1_buildChosen 43 = .ok (.aload_n 0, 1) := by decide +kernel
theorem dX1_buildChosen_44 : decode cX1_buildChosen 44 = .ok (.dup, 1) := by decide +kernel
theorem dX1_buildChosen_45 : decode cX1_buildChosen 45 = .ok (.getfield 60, 3) := by decide +kernel
theorem dX1_buildChosen_48 : decode cX1_buildChosen 48 = .ok (.iload_n 3, 1) := by decide +kernel
theorem dX1_buildChosen_49 : decode cX1_buildChosen 49 = .ok (.i2l, 1) := by decide +kernel
theorem dX1_buildChosen_50 : decode cX1_buildChosen 50 = .ok (.ladd, 1) := by decide +kernel
theorem dX1_buildChosen_51 : decode cX1_buildChosen 51 = .ok (.putfield 60, 3) := by decide +kernel
theorem dX1_buildChosen_54 : decode cX1_buildChosen 54 = .ok (.iload_n 3, 1) := by decide +kernel
theorem dX1_buildChosen_55 : decode cX1_buildChosen 55 = .ok (.ireturn, 1) := by decide +kernel
theorem dX2_init_0 : decode cX2_init 0 = .ok (.aload_n 0, 1) := by decide +kernel
theorem dX2_init_1 : decode cX2_init 1 = .ok (.invokespecial 3, 3) := by decide +kernel
theorem dX2_init_4 : decode cX2_init 4 = .ok (.aload_n 0, 1) := by decide +kernel
theorem dX2_init_5 : decode cX2_init 5 = .ok (.sipush 160, 3) := by decide +kernel
theorem dX2_init_8 : decode cX2_init 8 = .ok (.newarray .int, 2) := by decide +kernel
theorem dX2_init_10 : decode cX2_init 10 = .ok (.putfield 9, 3) := by decide +kernel
theorem dX2_init_13 : decode cX2_init 13 = .ok (.aload_n 0, 1) := by decide +kernel
theorem dX2_init_14 : decode cX2_init 14 = .ok (.sipush 160, 3) := by decide +kernel
theorem dX2_init_17 : decode cX2_init 17 = .ok (.newarray .int, 2) := by decide +kernel
theorem dX2_init_19 : decode cX2_init 19 = .ok (.putfield 15, 3) := by decide +kernel
theorem dX2_init_22 : decode cX2_init 22 = .ok (.aload_n 0, 1) := by decide +kernel
theorem dX2_init_23 : decode cX2_init 23 = .ok (.sipush 160, 3) := by decide +kernel
theorem dX2_init_26 : decode cX2_init 26 = .ok (.newarray .int, 2) := by decide +kernel
theorem dX2_init_28 : decode cX2_init 28 = .ok (.putfield 18, 3) := by decide +kernel
theorem dX2_init_31 : decode cX2_init 31 = .ok (.aload_n 0, 1) := by decide +kernel
theorem dX2_init_32 : decode cX2_init 32 = .ok (.sipush 160, 3) := by decide +kernel
theorem dX2_init_35 : decode cX2_init 35 = .ok (.newarray .int, 2) := by decide +kernel
theorem dX2_init_37 : decode cX2_init 37 = .ok (.putfield 21, 3) := by decide +kernel
theorem dX2_init_40 : decode cX2_init 40 = .ok (.aload_n 0, 1) := by decide +kernel
theorem dX2_init_41 : decode cX2_init 41 = .ok (.sipush 160, 3) := by decide +kernel
theorem dX2_init_44 : decode cX2_init 44 = .ok (.newarray .int, 2) := by decide +kernel
theorem dX2_init_46 : decode cX2_init 46 = .ok (.putfield 24, 3) := by decide +kernel
theorem dX2_init_49 : decode cX2_init 49 = .ok (.aload_n 0, 1) := by decide +kernel
theorem dX2_init_50 : decode cX2_init 50 = .ok (.sipush 160, 3) := by decide +kernel
theorem dX2_init_53 : decode cX2_init 53 = .ok (.newarray .int, 2) := by decide +kernel
theorem dX2_init_55 : decode cX2_init 55 = .ok (.putfield 27, 3) := by decide +kernel
theorem dX2_init_58 : decode cX2_init 58 = .ok (.aload_n 0, 1) := by decide +kernel
theorem dX2_init_59 : decode cX2_init 59 = .ok (.sipush 408, 3) := by decide +kernel
theorem dX2_init_62 : decode cX2_init 62 = .ok (.newarray .int, 2) := by decide +kernel
theorem dX2_init_64 : decode cX2_init 64 = .ok (.putfield 32, 3) := by decide +kernel
theorem dX2_init_67 : decode cX2_init 67 = .ok (.aload_n 0, 1) := by decide +kernel
theorem dX2_init_68 : decode cX2_init 68 = .ok (.sipush 408, 3) := by decide +kernel
theorem dX2_init_71 : decode cX2_init 71 = .ok (.newarray .int, 2) := by decide +kernel
theorem dX2_init_73 : decode cX2_init 73 = .ok (.putfield 35, 3) := by decide +kernel
theorem dX2_init_76 : decode cX2_init 76 = .ok (.return_, 1) := by decide +kernel
theorem dX2_search_0 : decode cX2_search 0 = .ok (.iload_n 3, 1) := by decide +kernel
theorem dX2_search_1 : decode cX2_search 1 = .ok (.aload_n 2, 1) := by decide +kernel
theorem dX2_search_2 : decode cX2_search 2 = .ok (.arraylength, 1) := by decide +kernel
theorem dX2_search_3 : decode cX2_search 3 = .ok (.sipush 160, 3) := by decide +kernel
theorem dX2_search_6 : decode cX2_search 6 = .ok (.invokestatic 38, 3) := by decide +kernel
theorem dX2_search_9 : decode cX2_search 9 = .ok (.invokestatic 38, 3) := by decide +kernel
theorem dX2_search_12 : decode cX2_search 12 = .ok (.istore 4, 2) := by decide +kernel
theorem dX2_search_14 : decode cX2_search 14 = .ok (.iload 4, 2) := by decide +kernel
theorem dX2_search_16 : decode cX2_search 16 = .ok (.istore 5, 2) := by decide +kernel
theorem dX2_search_18 : decode cX2_search 18 = .ok (.iload 5, 2) := by decide +kernel
theorem dX2_search_20 : decode cX2_search 20 = .ok (.ifCond .lt 66, 3) := by decide +kernel
theorem dX2_search_23 : decode cX2_search 23 = .ok (.aload_n 0, 1) := by decide +kernel
theorem dX2_search_24 : decode cX2_search 24 = .ok (.getfield 35, 3) := by decide +kernel
theorem dX2_search_27 : decode cX2_search 27 = .ok (.astore 6, 2) := by decide +kernel
theorem dX2_search_29 : decode cX2_search 29 = .ok (.aload_n 0, 1) := by decide +kernel
theorem dX2_search_30 : decode cX2_search 30 = .ok (.aload_n 0, 1) := by decide +kernel
theorem dX2_search_31 : decode cX2_search 31 = .ok (.getfield 32, 3) := by decide +kernel
theorem dX2_search_34 : decode cX2_search 34 = .ok (.putfield 35, 3) := by decide +kernel
theorem dX2_search_37 : decode cX2_search 37 = .ok (.aload_n 0, 1) := by decide +kernel
theorem dX2_search_38 : decode cX2_search 38 = .ok (.aload 6, 2) := by decide +kernel
theorem dX2_search_40 : decode cX2_search 40 = .ok (.putfield 32, 3) := by decide +kernel
theorem dX2_search_43 : decode cX2_search 43 = .ok (.aload_n 0, 1) := by decide +kernel
theorem dX2_search_44 : decode cX2_search 44 = .ok (.aload_n 1, 1) := by decide +kernel
theorem dX2_search_45 : decode cX2_search 45 = .ok (.aload_n 2, 1) := by decide +kernel
theorem dX2_search_46 : decode cX2_search 46 = .ok (.iload 4, 2) := by decide +kernel
theorem dX2_search_48 : decode cX2_search 48 = .ok (.iload 5, 2) := by decide +kernel
theorem dX2_search_50 : decode cX2_search 50 = .ok (.invokevirtual 44, 3) := by decide +kernel
theorem dX2_search_53 : decode cX2_search 53 = .ok (.aload_n 0, 1) := by decide +kernel
theorem dX2_search_54 : decode cX2_search 54 = .ok (.aload_n 1, 1) := by decide +kernel
theorem dX2_search_55 : decode cX2_search 55 = .ok (.aload_n 2, 1) := by decide +kernel
theorem dX2_search_56 : decode cX2_search 56 = .ok (.iload 4, 2) := by decide +kernel
theorem dX2_search_58 : decode cX2_search 58 = .ok (.iload 5, 2) := by decide +kernel
theorem dX2_search_60 : decode cX2_search 60 = .ok (.invokestatic 48, 3) := by decide +kernel
theorem dX2_search_63 : decode cX2_search 63 = .ok (.invokevirtual 52, 3) := by decide +kernel
theorem dX2_search_66 : decode cX2_search 66 = .ok (.iload 5, 2) := by decide +kernel
theorem dX2_search_68 : decode cX2_search 68 = .ok (.iload 4, 2) := by decide +kernel
theorem dX2_search_70 : decode cX2_search 70 = .ok (.if_icmp .ge 10, 3) := by decide +kernel
theorem dX2_search_73 : decode cX2_search 73 = .ok (.aload_n 0, 1) := by decide +kernel
theorem dX2_search_74 : decode cX2_search 74 = .ok (.aload_n 1, 1) := by decide +kernel
theorem dX2_search_75 : decode cX2_search 75 = .ok (.iload 5, 2) := by decide +kernel
theorem dX2_search_77 : decode cX2_search 77 = .ok (.invokevirtual 56, 3) := by decide +kernel
theorem dX2_search_80 : decode cX2_search 80 = .ok (.iinc 5 (-1), 3) := by decide +kernel
theorem dX2_search_83 : decode cX2_search 83 = .ok (.goto (-65), 3) := by decide +kernel
theorem dX2_search_86 : decode cX2_search 86 = .ok (.aload_n 0, 1) := by decide +kernel
theorem dX2_search_87 : decode cX2_search 87 = .ok (.aload_n 2, 1) := by decide +kernel
theorem dX2_search_88 : decode cX2_search 88 = .ok (.iload 4, 2) := by decide +kernel
theorem dX2_search_90 : decode cX2_search 90 = .ok (.invokevirtual 60, 3) := by decide +kernel
theorem dX2_search_93 : decode cX2_search 93 = .ok (.return_, 1) := by decide +kernel
theorem dX2_reachBySigns_0 : decode cX2_reachBySigns 0 = .ok (.iconst 0, 1) := by decide +kernel
theorem dX2_reachBySigns_1 : decode cX2_reachBySigns 1 = .ok (.istore 5, 2) := by decide +kernel
theorem dX2_reachBySigns_3 : decode cX2_reachBySigns 3 = .ok (.iload 5, 2) := by decide +kernel
theorem dX2_reachBySigns_5 : decode cX2_reachBySigns 5 = .ok (.aload_n 1, 1) := by decide +kernel
theorem dX2_reachBySigns_6 : decode cX2_reachBySigns 6 = .ok (.getfield 64, 3) := by decide +kernel
theorem dX2_reachBySigns_9 : decode cX2_reachBySigns 9 = .ok (.if_icmp .ge 85, 3) := by decide +kernel
theorem dX2_reachBySigns_12 : decode cX2_reachBySigns 12 = .ok (.aload_n 1, 1) := by decide +kernel
theorem dX2_reachBySigns_13 : decode cX2_reachBySigns 13 = .ok (.getfield 68, 3) := by decide +kernel
theorem dX2_reachBySigns_16 : decode cX2_reachBySigns 16 = .ok (.iload 5, 2) := by decide +kernel
theorem dX2_reachBySigns_18 : decode cX2_reachBySigns 18 = .ok (.iaload, 1) := by decide +kernel
theorem dX2_reachBySigns_19 : decode cX2_reachBySigns 19 = .ok (.istore 6, 2) := by decide +kernel
theorem dX2_reachBySigns_21 : decode cX2_reachBySigns 21 = .ok (.iconst (-1), 1) := by decide +kernel
theorem dX2_reachBySigns_22 : decode cX2_reachBySigns 22 = .ok (.istore 7, 2) := by decide +kernel
theorem dX2_reachBySigns_24 : decode cX2_reachBySigns 24 = .ok (.iload 6, 2) := by decide +kernel
theorem dX2_reachBySigns_26 : decode cX2_reachBySigns 26 = .ok (.iconst 1, 1) := by decide +kernel
theorem dX2_reachBySigns_27 : decode cX2_reachBySigns 27 = .ok (.if_icmp .ne 10, 3) := by decide +kernel
theorem dX2_reachBySigns_30 : decode cX2_reachBySigns 30 = .ok (.iload 4, 2) := by decide +kernel
theorem dX2_reachBySigns_32 : decode cX2_reachBySigns 32 = .ok (.istore 7, 2) := by decide +kernel
theorem dX2_reachBySigns_34 : decode cX2_reachBySigns 34 = .ok (.goto 45, 3) := by decide +kernel
theorem dX2_reachBySigns_37 : decode cX2_reachBySigns 37 = .ok (.iload 4, 2) := by decide +kernel
theorem dX2_reachBySigns_39 : decode cX2_reachBySigns 39 = .ok (.iload_n 3, 1) := by decide +kernel
theorem dX2_reachBySigns_40 : decode cX2_reachBySigns 40 = .ok (.if_icmp .ge 39, 3) := by decide +kernel
theorem dX2_reachBySigns_43 : decode cX2_reachBySigns 43 = .ok (.aload_n 1, 1) := by decide +kernel
theorem dX2_reachBySigns_44 : decode cX2_reachBySigns 44 = .ok (.getfield 71, 3) := by decide +kernel
theorem dX2_reachBySigns_47 : decode cX2_reachBySigns 47 = .ok (.iload 5, 2) := by decide +kernel
theorem dX2_reachBySigns_49 : decode cX2_reachBySigns 49 = .ok (.iaload, 1) := by decide +kernel
theorem dX2_reachBySigns_50 : decode cX2_reachBySigns 50 = .ok (.ifCond .lt 29, 3) := by decide +kernel
theorem dX2_reachBySigns_53 : decode cX2_reachBySigns 53 = .ok (.iload 6, 2) := by decide +kernel
theorem dX2_reachBySigns_55 : decode cX2_reachBySigns 55 = .ok (.aload_n 2, 1) := by decide +kernel
theorem dX2_reachBySigns_56 : decode cX2_reachBySigns 56 = .ok (.iload 4, 2) := by decide +kernel
theorem dX2_reachBySigns_58 : decode cX2_reachBySigns 58 = .ok (.caload, 1) := by decide +kernel
theorem dX2_reachBySigns_59 : decode cX2_reachBySigns 59 = .ok (.invokestatic 74, 3) := by decide +kernel
theorem dX2_reachBySigns_62 : decode cX2_reachBySigns 62 = .ok (.ifCond .eq 17, 3) := by decide +kernel
theorem dX2_reachBySigns_65 : decode cX2_reachBySigns 65 = .ok (.aload_n 0, 1) := by decide +kernel
theorem dX2_reachBySigns_66 : decode cX2_reachBySigns 66 = .ok (.getfield 35, 3) := by decide +kernel
theorem dX2_reachBySigns_69 : decode cX2_reachBySigns 69 = .ok (.aload_n 1, 1) := by decide +kernel
theorem dX2_reachBySigns_70 : decode cX2_reachBySigns 70 = .ok (.getfield 71, 3) := by decide +kernel
theorem dX2_reachBySigns_73 : decode cX2_reachBySigns 73 = .ok (.iload 5, 2) := by decide +kernel
theorem dX2_reachBySigns_75 : decode cX2_reachBySigns 75 = .ok (.iaload, 1) := by decide +kernel
theorem dX2_reachBySigns_76 : decode cX2_reachBySigns 76 = .ok (.iaload, 1) := by decide +kernel
theorem dX2_reachBySigns_77 : decode cX2_reachBySigns 77 = .ok (.istore 7, 2) := by decide +kernel
theorem dX2_reachBySigns_79 : decode cX2_reachBySigns 79 = .ok (.aload_n 0, 1) := by decide +kernel
theorem dX2_reachBySigns_80 : decode cX2_reachBySigns 80 = .ok (.getfield 32, 3) := by decide +kernel
theorem dX2_reachBySigns_83 : decode cX2_reachBySigns 83 = .ok (.iload 5, 2) := by decide +kernel
theorem dX2_reachBySigns_85 : decode cX2_reachBySigns 85 = .ok (.iload 7, 2) := by decide +kernel
theorem dX2_reachBySigns_87 : decode cX2_reachBySigns 87 = .ok (.iastore, 1) := by decide +kernel
theorem dX2_reachBySigns_88 : decode cX2_reachBySigns 88 = .ok (.iinc 5 1, 3) := by decide +kernel
theorem dX2_reachBySigns_91 : decode cX2_reachBySigns 91 = .ok (.goto (-88), 3) := by decide +kernel
theorem dX2_reachBySigns_94 : decode cX2_reachBySigns 94 = .ok (.return_, 1) := by decide +kernel
theorem dX2_reachByNothing_0 : decode cX2_reachByNothing 0 = .ok (.iconst 1, 1) := by decide +kernel
theorem dX2_reachByNothing_1 : decode cX2_reachByNothing 1 = .ok (.istore_n 3, 1) := by decide +kernel
theorem dX2_reachByNothing_2 : decode cX2_reachByNothing 2 = .ok (.iconst 0, 1) := by decide +kernel
theorem dX2_reachByNothing_3 : decode cX2_reachByNothing 3 = .ok (.istore 4, 2) := by decide +kernel
theorem dX2_reachByNothing_5 : decode cX2_reachByNothing 5 = .ok (.iload_n 3, 1) := by decide +kernel
theorem dX2_reachByNothing_6 : decode cX2_reachByNothing 6 = .ok (.ifCond .eq 175, 3) := by decide +kernel
theorem dX2_reachByNothing_9 : decode cX2_reachByNothing 9 = .ok (.iload 4, 2) := by decide +kernel
theorem dX2_reachByNothing_11 : decode cX2_reachByNothing 11 = .ok (.aload_n 1, 1) := by decide +kernel
theorem dX2_reachByNothing_12 : decode cX2_reachByNothing 12 = .ok (.getfield 64, 3) := by decide +kernel
theorem dX2_reachByNothing_15 : decode cX2_reachByNothing 15 = .ok (.if_icmp .gt 166, 3) := by decide +kernel
theorem dX2_reachByNothing_18 : decode cX2_reachByNothing 18 = .ok (.iconst 0, 1) := by decide +kernel
theorem dX2_reachByNothing_19 : decode cX2_reachByNothing 19 = .ok (.istore_n 3, 1) := by decide +kernel
theorem dX2_reachByNothing_20 : decode cX2_reachByNothing 20 = .ok (.aload_n 1, 1) := by decide +kernel
theorem dX2_reachByNothing_21 : decode cX2_reachByNothing 21 = .ok (.getfield 64, 3) := by decide +kernel
theorem dX2_reachByNothing_24 : decode cX2_reachByNothing 24 = .ok (.iconst 1, 1) := by decide +kernel
theorem dX2_reachByNothing_25 : decode cX2_reachByNothing 25 = .ok (.isub, 1) := by decide +kernel
theorem dX2_reachByNothing_26 : decode cX2_reachByNothing 26 = .ok (.istore 5, 2) := by decide +kernel
theorem dX2_reachByNothing_28 : decode cX2_reachByNothing 28 = .ok (.iload 5, 2) := by decide +kernel
theorem dX2_reachByNothing_30 : decode cX2_reachByNothing 30 = .ok (.ifCond .lt 145, 3) := by decide +kernel
theorem dX2_reachByNothing_33 : decode cX2_reachByNothing 33 = .ok (.aload_n 0, 1) := by decide +kernel
theorem dX2_reachByNothing_34 : decode cX2_reachByNothing 34 = .ok (.getfield 32, 3) := by decide +kernel
theorem dX2_reachByNothing_37 : decode cX2_reachByNothing 37 = .ok (.iload 5, 2) := by decide +kernel
theorem dX2_reachByNothing_39 : decode cX2_reachByNothing 39 = .ok (.iaload, 1) := by decide +kernel
theorem dX2_reachByNothing_40 : decode cX2_reachByNothing 40 = .ok (.istore 6, 2) := by decide +kernel
theorem dX2_reachByNothing_42 : decode cX2_reachByNothing 42 = .ok (.aload_n 1, 1) := by decide +kernel
theorem dX2_reachByNothing_43 : decode cX2_reachByNothing 43 = .ok (.getfield 68, 3) := by decide +kernel
theorem dX2_reachByNothing_46 : decode cX2_reachByNothing 46 = .ok (.iload 5, 2) := by decide +kernel
theorem dX2_reachByNothing_48 : decode cX2_reachByNothing 48 = .ok (.iaload, 1) := by decide +kernel
theorem dX2_reachByNothing_49 : decode cX2_reachByNothing 49 = .ok (.ifCond .eq 19, 3) := by decide +kernel
theorem dX2_reachByNothing_52 : decode cX2_reachByNothing 52 = .ok (.aload_n 1, 1) := by decide +kernel
theorem dX2_reachByNothing_53 : decode cX2_reachByNothing 53 = .ok (.getfield 68, 3) := by decide +kernel
theorem dX2_reachByNothing_56 : decode cX2_reachByNothing 56 = .ok (.iload 5, 2) := by decide +kernel
theorem dX2_reachByNothing_58 : decode cX2_reachByNothing 58 = .ok (.iaload, 1) := by decide +kernel
theorem dX2_reachByNothing_59 : decode cX2_reachByNothing 59 = .ok (.bipush 94, 2) := by decide +kernel
theorem dX2_reachByNothing_61 : decode cX2_reachByNothing 61 = .ok (.if_icmp .ne 11, 3) := by decide +kernel
theorem dX2_reachByNothing_64 : decode cX2_reachByNothing 64 = .ok (.iload_n 2, 1) := by decide +kernel
theorem dX2_reachByNothing_65 : decode cX2_reachByNothing 65 = .ok (.ifCond .eq 7, 3) := by decide +kernel
theorem dX2_reachByNothing_68 : decode cX2_reachByNothing 68 = .ok (.iconst 1, 1) := by decide +kernel
theorem dX2_reachByNothing_69 : decode cX2_reachByNothing 69 = .ok (.goto 4, 3) := by decide +kernel
theorem dX2_reachByNothing_72 : decode cX2_reachByNothing 72 = .ok (.iconst 0, 1) := by decide +kernel
theorem dX2_reachByNothing_73 : decode cX2_reachByNothing 73 = .ok (.istore 7, 2) := by decide +kernel
theorem dX2_reachByNothing_75 : decode cX2_reachByNothing 75 = .ok (.iload 7, 2) := by decide +kernel
theorem dX2_reachByNothing_77 : decode cX2_reachByNothing 77 = .ok (.ifCond .eq 32, 3) := by decide +kernel
theorem dX2_reachByNothing_80 : decode cX2_reachByNothing 80 = .ok (.aload_n 1, 1) := by decide +kernel
theorem dX2_reachByNothing_81 : decode cX2_reachByNothing 81 = .ok (.getfield 71, 3) := by decide +kernel
theorem dX2_reachByNothing_84 : decode cX2_reachByNothing 84 = .ok (.iload 5, 2) := by decide +kernel
theorem dX2_reachByNothing_86 : decode cX2_reachByNothing 86 = .ok (.iaload, 1) := by decide +kernel
theorem dX2_reachByNothing_87 : decode cX2_reachByNothing 87 = .ok (.ifCond .lt 22, 3) := by decide +kernel
theorem dX2_reachByNothing_90 : decode cX2_reachByNothing 90 = .ok (.iload 6, 2) := by decide +kernel
theorem dX2_reachByNothing_92 : decode cX2_reachByNothing 92 = .ok (.aload_n 0, 1) := by decide +kernel
theorem dX2_reachByNothing_93 : decode cX2_reachByNothing 93 = .ok (.getfield 32, 3) := by decide +kernel
theorem dX2_reachByNothing_96 : decode cX2_reachByNothing 96 = .ok (.aload_n 1, 1) := by decide +kernel
theorem dX2_reachByNothing_97 : decode cX2_reachByNothing 97 = .ok (.getfield 71, 3) := by decide +kernel
theorem dX2_reachByNothing_100 : decode cX2_reachByNothing 100 = .ok (.iload 5, 2) := by decide +kernel
theorem dX2_reachByNothing_102 : decode cX2_reachByNothing 102 = .ok (.iaload, 1) := by decide +kernel
theorem dX2_reachByNothing_103 : decode cX2_reachByNothing 103 = .ok (.iaload, 1) := by decide +kernel
theorem dX2_reachByNothing_104 : decode cX2_reachByNothing 104 = .ok (.invokestatic 78, 3) := by decide +kernel
theorem dX2_reachByNothing_107 : decode cX2_reachByNothing 107 = .ok (.istore 6, 2) := by decide +kernel
theorem dX2_reachByNothing_109 : decode cX2_reachByNothing 109 = .ok (.aload_n 1, 1) := by decide +kernel
theorem dX2_reachByNothing_110 : decode cX2_reachByNothing 110 = .ok (.getfield 81, 3) := by decide +kernel
theorem dX2_reachByNothing_113 : decode cX2_reachByNothing 113 = .ok (.iload 5, 2) := by decide +kernel
theorem dX2_reachByNothing_115 : decode cX2_reachByNothing 115 = .ok (.iaload, 1) := by decide +kernel
theorem dX2_reachByNothing_116 : decode cX2_reachByNothing 116 = .ok (.ifCond .lt 22, 3) := by decide +kernel
theorem dX2_reachByNothing_119 : decode cX2_reachByNothing 119 = .ok (.iload 6, 2) := by decide +kernel
theorem dX2_reachByNothing_121 : decode cX2_reachByNothing 121 = .ok (.aload_n 0, 1) := by decide +kernel
theorem dX2_reachByNothing_122 : decode cX2_reachByNothing 122 = .ok (.getfield 32, 3) := by decide +kernel
theorem dX2_reachByNothing_125 : decode cX2_reachByNothing 125 = .ok (.aload_n 1, 1) := by decide +kernel
theorem dX2_reachByNothing_126 : decode cX2_reachByNothing 126 = .ok (.getfield 81, 3) := by decide +kernel
theorem dX2_reachByNothing_129 : decode cX2_reachByNothing 129 = .ok (.iload 5, 2) := by decide +kernel
theorem dX2_reachByNothing_131 : decode cX2_reachByNothing 131 = .ok (.iaload, 1) := by decide +kernel
theorem dX2_reachByNothing_132 : decode cX2_reachByNothing 132 = .ok (.iaload, 1) := by decide +kernel
theorem dX2_reachByNothing_133 : decode cX2_reachByNothing 133 = .ok (.invokestatic 78, 3) := by decide +kernel
theorem dX2_reachByNothing_136 : decode cX2_reachByNothing 136 = .ok (.istore 6, 2) := by decide +kernel
theorem dX2_reachByNothing_138 : decode cX2_reachByNothing 138 = .ok (.iload_n 3, 1) := by decide +kernel
theorem dX2_reachByNothing_139 : decode cX2_reachByNothing 139 = .ok (.ifCond .ne 15, 3) := by decide +kernel
theorem dX2_reachByNothing_142 : decode cX2_reachByNothing 142 = .ok (.iload 6, 2) := by decide +kernel
theorem dX2_reachByNothing_144 : decode cX2_reachByNothing 144 = .ok (.aload_n 0, 1) := by decide +kernel
theorem dX2_reachByNothing_145 : decode cX2_reachByNothing 145 = .ok (.getfield 32, 3) := by decide +kernel
theorem dX2_reachByNothing_148 : decode cX2_reachByNothing 148 = .ok (.iload 5, 2) := by decide +kernel
theorem dX2_reachByNothing_150 : decode cX2_reachByNothing 150 = .ok (.iaload, 1) := by decide +kernel
theorem dX2_reachByNothing_151 : decode cX2_reachByNothing 151 = .ok (.if_icmp .le 7, 3) := by decide +kernel
theorem dX2_reachByNothing_154 : decode cX2_reachByNothing 154 = .ok (.iconst 1, 1) := by decide +kernel
theorem dX2_reachByNothing_155 : decode cX2_reachByNothing 155 = .ok (.goto 4, 3) := by decide +kernel
theorem dX2_reachByNothing_158 : decode cX2_reachByNothing 158 = .ok (.iconst 0, 1) := by decide +kernel
theorem dX2_reachByNothing_159 : decode cX2_reachByNothing 159 = .ok (.istore_n 3, 1) := by decide +kernel
theorem dX2_reachByNothing_160 : decode cX2_reachByNothing 160 = .ok (.aload_n 0, 1) := by decide +kernel
theorem dX2_reachByNothing_161 : decode cX2_reachByNothing 161 = .ok (.getfield 32, 3) := by decide +kernel
theorem dX2_reachByNothing_164 : decode cX2_reachByNothing 164 = .ok (.iload 5, 2) := by decide +kernel
theorem dX2_reachByNothing_166 : decode cX2_reachByNothing 166 = .ok (.iload 6, 2) := by decide +kernel
theorem dX2_reachByNothing_168 : decode cX2_reachByNothing 168 = .ok (.iastore, 1) := by decide +kernel
theorem dX2_reachByNothing_169 : decode cX2_reachByNothing 169 = .ok (.iinc 5 (-1), 3) := by decide +kernel
theorem dX2_reachByNothing_172 : decode cX2_reachByNothing 172 = .ok (.goto (-144), 3) := by decide +kernel
theorem dX2_reachByNothing_175 : decode cX2_reachByNothing 175 = .ok (.iinc 4 1, 3) := by decide +kernel
theorem dX2_reachByNothing_178 : decode cX2_reachByNothing 178 = .ok (.goto (-173), 3) := by decide +kernel
theorem dX2_reachByNothing_181 : decode cX2_reachByNothing 181 = .ok (.return_, 1) := by decide +kernel
theorem dX2_noteFirstRule_0 : decode cX2_noteFirstRule 0 = .ok (.aload_n 0, 1) := by decide +kernel
theorem dX2_noteFirstRule_1 : decode cX2_noteFirstRule 1 = .ok (.getfield 24, 3) := by decide +kernel
theorem dX2_noteFirstRule_4 : decode cX2_noteFirstRule 4 = .ok (.iload_n 2, 1) := by decide +kernel
theorem dX2_noteFirstRule_5 : decode cX2_noteFirstRule 5 = .ok (.iconst (-1), 1) := by decide +kernel
theorem dX2_noteFirstRule_6 : decode cX2_noteFirstRule 6 = .ok (.iastore, 1) := by decide +kernel
theorem dX2_noteFirstRule_7 : decode cX2_noteFirstRule 7 = .ok (.iconst 0, 1) := by decide +kernel
theorem dX2_noteFirstRule_8 : decode cX2_noteFirstRule 8 = .ok (.istore_n 3, 1) := by decide +kernel
theorem dX2_noteFirstRule_9 : decode cX2_noteFirstRule 9 = .ok (.iload_n 3, 1) := by decide +kernel
theorem dX2_noteFirstRule_10 : decode cX2_noteFirstRule 10 = .ok (.aload_n 1, 1) := by decide +kernel
theorem dX2_noteFirstRule_11 : decode cX2_noteFirstRule 11 = .ok (.getfield 84, 3) := by decide +kernel
theorem dX2_noteFirstRule_14 : decode cX2_noteFirstRule 14 = .ok (.if_icmp .ge 44, 3) := by decide +kernel
theorem dX2_noteFirstRule_17 : decode cX2_noteFirstRule 17 = .ok (.aload_n 0, 1) := by decide +kernel
theorem dX2_noteFirstRule_18 : decode cX2_noteFirstRule 18 = .ok (.getfield 32, 3) := by decide +kernel
theorem dX2_noteFirstRule_21 : decode cX2_noteFirstRule 21 = .ok (.aload_n 1, 1) := by decide +kernel
theorem dX2_noteFirstRule_22 : decode cX2_noteFirstRule 22 = .ok (.getfield 87, 3) := by decide +kernel
theorem dX2_noteFirstRule_25 : decode cX2_noteFirstRule 25 = .ok (.iload_n 3, 1) := by decide +kernel
theorem dX2_noteFirstRule_26 : decode cX2_noteFirstRule 26 = .ok (.iaload, 1) := by decide +kernel
theorem dX2_noteFirstRule_27 : decode cX2_noteFirstRule 27 = .ok (.iaload, 1) := by decide +kernel
theorem dX2_noteFirstRule_28 : decode cX2_noteFirstRule 28 = .ok (.istore 4, 2) := by decide +kernel
theorem dX2_noteFirstRule_30 : decode cX2_noteFirstRule 30 = .ok (.iload 4, 2) := by decide +kernel
theorem dX2_noteFirstRule_32 : decode cX2_noteFirstRule 32 = .ok (.iload_n 2, 1) := by decide +kernel
theorem dX2_noteFirstRule_33 : decode cX2_noteFirstRule 33 = .ok (.if_icmp .le 19, 3) := by decide +kernel
theorem dX2_noteFirstRule_36 : decode cX2_noteFirstRule 36 = .ok (.aload_n 0, 1) := by decide +kernel
theorem dX2_noteFirstRule_37 : decode cX2_noteFirstRule 37 = .ok (.getfield 24, 3) := by decide +kernel
theorem dX2_noteFirstRule_40 : decode cX2_noteFirstRule 40 = .ok (.iload_n 2, 1) := by decide +kernel
theorem dX2_noteFirstRule_41 : decode cX2_noteFirstRule 41 = .ok (.iload_n 3, 1) := by decide +kernel
theorem dX2_noteFirstRule_42 : decode cX2_noteFirstRule 42 = .ok (.iastore, 1) := by decide +kernel
theorem dX2_noteFirstRule_43 : decode cX2_noteFirstRule 43 = .ok (.aload_n 0, 1) := by decide +kernel
theorem dX2_noteFirstRule_44 : decode cX2_noteFirstRule 44 = .ok (.getfield 27, 3) := by decide +kernel
theorem dX2_noteFirstRule_47 : decode cX2_noteFirstRule 47 = .ok (.iload_n 2, 1) := by decide +kernel
theorem dX2_noteFirstRule_48 : decode cX2_noteFirstRule 48 = .ok (.iload 4, 2) := by decide +kernel
theorem dX2_noteFirstRule_50 : decode cX2_noteFirstRule 50 = .ok (.iastore, 1) := by decide +kernel
theorem dX2_noteFirstRule_51 : decode cX2_noteFirstRule 51 = .ok (.return_, 1) := by decide +kernel
theorem dX2_noteFirstRule_52 : decode cX2_noteFirstRule 52 = .ok (.iinc 3 1, 3) := by decide +kernel
theorem dX2_noteFirstRule_55 : decode cX2_noteFirstRule 55 = .ok (.goto (-46), 3) := by decide +kernel
theorem dX2_noteFirstRule_58 : decode cX2_noteFirstRule 58 = .ok (.return_, 1) := by decide +kernel
theorem dX2_gather_0 : decode cX2_gather 0 = .ok (.aload_n 0, 1) := by decide +kernel
theorem dX2_gather_1 : decode cX2_gather 1 = .ok (.iconst 0, 1) := by decide +kernel
theorem dX2_gather_2 : decode cX2_gather 2 = .ok (.putfield 90, 3) := by decide +kernel
theorem dX2_gather_5 : decode cX2_gather 5 = .ok (.iconst 0, 1) := by decide +kernel
theorem dX2_gather_6 : decode cX2_gather 6 = .ok (.istore_n 3, 1) := by decide +kernel
theorem dX2_gather_7 : decode cX2_gather 7 = .ok (.iconst 0, 1) := by decide +kernel
theorem dX2_gather_8 : decode cX2_gather 8 = .ok (.istore 4, 2) := by decide +kernel
theorem dX2_gather_10 : decode cX2_gather 10 = .ok (.iconst 0, 1) := by decide +kernel
theorem dX2_gather_11 : decode cX2_gather 11 = .ok (.istore 5, 2) := by decide +kernel
theorem dX2_gather_13 : decode cX2_gather 13 = .ok (.iload 5, 2) := by decide +kernel
theorem dX2_gather_15 : decode cX2_gather 15 = .ok (.iload_n 2, 1) := by decide +kernel
theorem dX2_gather_16 : decode cX2_gather 16 = .ok (.if_icmp .ge 109, 3) := by decide +kernel
theorem dX2_gather_19 : decode cX2_gather 19 = .ok (.iload 5, 2) := by decide +kernel
theorem dX2_gather_21 : decode cX2_gather 21 = .ok (.iload 4, 2) := by decide +kernel
theorem dX2_gather_23 : decode cX2_gather 23 = .ok (.if_icmp .lt 84, 3) := by decide +kernel
theorem dX2_gather_26 : decode cX2_gather 26 = .ok (.aload_n 0, 1) := by decide +kernel
theorem dX2_gather_27 : decode cX2_gather 27 = .ok (.getfield 24, 3) := by decide +kernel
theorem dX2_gather_30 : decode cX2_gather 30 = .ok (.iload 5, 2) := by decide +kernel
theorem dX2_gather_32 : decode cX2_gather 32 = .ok (.iaload, 1) := by decide +kernel
theorem dX2_gather_33 : decode cX2_gather 33 = .ok (.iconst (-1), 1) := by decide +kernel
theorem dX2_gather_34 : decode cX2_gather 34 = .ok (.if_icmp .eq 73, 3) := by decide +kernel
theorem dX2_gather_37 : decode cX2_gather 37 = .ok (.aload_n 0, 1) := by decide +kernel
theorem dX2_gather_38 : decode cX2_gather 38 = .ok (.getfield 27, 3) := by decide +kernel
theorem dX2_gather_41 : decode cX2_gather 41 = .ok (.iload 5, 2) := by decide +kernel
theorem dX2_gather_43 : decode cX2_gather 43 = .ok (.iaload, 1) := by decide +kernel
theorem dX2_gather_44 : decode cX2_gather 44 = .ok (.istore 4, 2) := by decide +kernel
theorem dX2_gather_46 : decode cX2_gather 46 = .ok (.aload_n 0, 1) := by decide +kernel
theorem dX2_gather_47 : decode cX2_gather 47 = .ok (.getfield 9, 3) := by decide +kernel
theorem dX2_gather_50 : decode cX2_gather 50 = .ok (.aload_n 0, 1) := by decide +kernel
theorem dX2_gather_51 : decode cX2_gather 51 = .ok (.getfield 90, 3) := by decide +kernel
theorem dX2_gather_54 : decode cX2_gather 54 = .ok (.aload_n 0, 1) := by decide +kernel
theorem dX2_gather_55 : decode cX2_gather 55 = .ok (.getfield 24, 3) := by decide +kernel
theorem dX2_gather_58 : decode cX2_gather 58 = .ok (.iload 5, 2) := by decide +kernel
theorem dX2_gather_60 : decode cX2_gather 60 = .ok (.iaload, 1) := by decide +kernel
theorem dX2_gather_61 : decode cX2_gather 61 = .ok (.iastore, 1) := by decide +kernel
theorem dX2_gather_62 : decode cX2_gather 62 = .ok (.aload_n 0, 1) := by decide +kernel
theorem dX2_gather_63 : decode cX2_gather 63 = .ok (.getfield 15, 3) := by decide +kernel
theorem dX2_gather_66 : decode cX2_gather 66 = .ok (.aload_n 0, 1) := by decide +kernel
theorem dX2_gather_67 : decode cX2_gather 67 = .ok (.getfield 90, 3) := by decide +kernel
theorem dX2_gather_70 : decode cX2_gather 70 = .ok (.iload 5, 2) := by decide +kernel
theorem dX2_gather_72 : decode cX2_gather 72 = .ok (.iastore, 1) := by decide +kernel
theorem dX2_gather_73 : decode cX2_gather 73 = .ok (.aload_n 0, 1) := by decide +kernel
theorem dX2_gather_74 : decode cX2_gather 74 = .ok (.getfield 18, 3) := by decide +kernel
theorem dX2_gather_77 : decode cX2_gather 77 = .ok (.aload_n 0, 1) := by decide +kernel
theorem dX2_gather_78 : decode cX2_gather 78 = .ok (.getfield 90, 3) := by decide +kernel
theorem dX2_gather_81 : decode cX2_gather 81 = .ok (.iload 4, 2) := by decide +kernel
theorem dX2_gather_83 : decode cX2_gather 83 = .ok (.iload 5, 2) := by decide +kernel
theorem dX2_gather_85 : decode cX2_gather 85 = .ok (.isub, 1) := by decide +kernel
theorem dX2_gather_86 : decode cX2_gather 86 = .ok (.iastore, 1) := by decide +kernel
theorem dX2_gather_87 : decode cX2_gather 87 = .ok (.aload_n 0, 1) := by decide +kernel
theorem dX2_gather_88 : decode cX2_gather 88 = .ok (.getfield 21, 3) := by decide +kernel
theorem dX2_gather_91 : decode cX2_gather 91 = .ok (.aload_n 0, 1) := by decide +kernel
theorem dX2_gather_92 : decode cX2_gather 92 = .ok (.getfield 90, 3) := by decide +kernel
theorem dX2_gather_95 : decode cX2_gather 95 = .ok (.iload_n 3, 1) := by decide +kernel
theorem dX2_gather_96 : decode cX2_gather 96 = .ok (.iastore, 1) := by decide +kernel
theorem dX2_gather_97 : decode cX2_gather 97 = .ok (.aload_n 0, 1) := by decide +kernel
theorem dX2_gather_98 : decode cX2_gather 98 = .ok (.dup, 1) := by decide +kernel
theorem dX2_gather_99 : decode cX2_gather 99 = .ok (.getfield 90, 3) := by decide +kernel
theorem dX2_gather_102 : decode cX2_gather 102 = .ok (.iconst 1, 1) := by decide +kernel
theorem dX2_gather_103 : decode cX2_gather 103 = .ok (.iadd, 1) := by decide +kernel
theorem dX2_gather_104 : decode cX2_gather 104 = .ok (.putfield 90, 3) := by decide +kernel
theorem dX2_gather_107 : decode cX2_gather 107 = .ok (.aload_n 1, 1) := by decide +kernel
theorem dX2_gather_108 : decode cX2_gather 108 = .ok (.iload 5, 2) := by decide +kernel
theorem dX2_gather_110 : decode cX2_gather 110 = .ok (.caload, 1) := by decide +kernel
theorem dX2_gather_111 : decode cX2_gather 111 = .ok (.bipush 10, 2) := by decide +kernel
theorem dX2_gather_113 : decode cX2_gather 113 = .ok (.if_icmp .ne 6, 3) := by decide +kernel
theorem dX2_gather_116 : decode cX2_gather 116 = .ok (.iinc 3 1, 3) := by decide +kernel
theorem dX2_gather_119 : decode cX2_gather 119 = .ok (.iinc 5 1, 3) := by decide +kernel
theorem dX2_gather_122 : decode cX2_gather 122 = .ok (.goto (-109), 3) := by decide +kernel
theorem dX2_gather_125 : decode cX2_gather 125 = .ok (.return_, 1) := by decide +kernel
theorem dX2_takes_0 : decode cX2_takes 0 = .ok (.iload_n 0, 1) := by decide +kernel
theorem dX2_takes_1 : decode cX2_takes 1 = .ok (.lookupswitch 93 #[(0, 59), (35, 65), (46, 63), (64, 70), (94, 61), (95, 75)], 59) := by decide +kernel
theorem dX2_takes_60 : decode cX2_takes 60 = .ok (.iconst 0, 1) := by decide +kernel
theorem dX2_takes_61 : decode cX2_takes 61 = .ok (.ireturn, 1) := by decide +kernel
theorem dX2_takes_62 : decode cX2_takes 62 = .ok (.iconst 0, 1) := by decide +kernel
theorem dX2_takes_63 : decode cX2_takes 63 = .ok (.ireturn, 1) := by decide +kernel
theorem dX2_takes_64 : decode cX2_takes 64 = .ok (.iconst 1, 1) := by decide +kernel
theorem dX2_takes_65 : decode cX2_takes 65 = .ok (.ireturn, 1) := by decide +kernel
theorem dX2_takes_66 : decode cX2_takes 66 = .ok (.iload_n 1, 1) := by decide +kernel
theorem dX2_takes_67 : decode cX2_takes 67 = .ok (.invokestatic 91, 3) := by decide +kernel
theorem dX2_takes_70 : decode cX2_takes 70 = .ok (.ireturn, 1) := by decide +kernel
theorem dX2_takes_71 : decode cX2_takes 71 = .ok (.iload_n 1, 1) := by decide +kernel
theorem dX2_takes_72 : decode cX2_takes 72 = .ok (.invokestatic 95, 3) := by decide +kernel
theorem dX2_takes_75 : decode cX2_takes 75 = .ok (.ireturn, 1) := by decide +kernel
theorem dX2_takes_76 : decode cX2_takes 76 = .ok (.iload_n 1, 1) := by decide +kernel
theorem dX2_takes_77 : decode cX2_takes 77 = .ok (.bipush 32, 2) := by decide +kernel
theorem dX2_takes_79 : decode cX2_takes 79 = .ok (.if_icmp .eq 9, 3) := by decide +kernel
theorem dX2_takes_82 : decode cX2_takes 82 = .ok (.iload_n 1, 1) := by decide +kernel
theorem dX2_takes_83 : decode cX2_takes 83 = .ok (.bipush 10, 2) := by decide +kernel
theorem dX2_takes_85 : decode cX2_takes 85 = .ok (.if_icmp .ne 7, 3) := by decide +kernel
theorem dX2_takes_88 : decode cX2_takes 88 = .ok (.iconst 1, 1) := by decide +kernel
theorem dX2_takes_89 : decode cX2_takes 89 = .ok (.goto 4, 3) := by decide +kernel
theorem dX2_takes_92 : decode cX2_takes 92 = .ok (.iconst 0, 1) := by decide +kernel
theorem dX2_takes_93 : decode cX2_takes 93 = .ok (.ireturn, 1) := by decide +kernel
theorem dX2_takes_94 : decode cX2_takes 94 = .ok (.iload_n 0, 1) := by decide +kernel
theorem dX2_takes_95 : decode cX2_takes 95 = .ok (.iload_n 1, 1) := by decide +kernel
theorem dX2_takes_96 : decode cX2_takes 96 = .ok (.if_icmp .ne 7, 3) := by decide +kernel
theorem dX2_takes_99 : decode cX2_takes 99 = .ok (.iconst 1, 1) := by decide +kernel
theorem dX2_takes_100 : decode cX2_takes 100 = .ok (.goto 4, 3) := by decide +kernel
theorem dX2_takes_103 : decode cX2_takes 103 = .ok (.iconst 0, 1) := by decide +kernel
theorem dX2_takes_104 : decode cX2_takes 104 = .ok (.ireturn, 1) := by decide +kernel
theorem dX2_isBorder_0 : decode cX2_isBorder 0 = .ok (.iload_n 2, 1) := by decide +kernel
theorem dX2_isBorder_1 : decode cX2_isBorder 1 = .ok (.ifCond .le 18, 3) := by decide +kernel
theorem dX2_isBorder_4 : decode cX2_isBorder 4 = .ok (.aload_n 0, 1) := by decide +kernel
theorem dX2_isBorder_5 : decode cX2_isBorder 5 = .ok (.iload_n 2, 1) := by decide +kernel
theorem dX2_isBorder_6 : decode cX2_isBorder 6 = .ok (.iconst 1, 1) := by decide +kernel
theorem dX2_isBorder_7 : decode cX2_isBorder 7 = .ok (.isub, 1) := by decide +kernel
theorem dX2_isBorder_8 : decode cX2_isBorder 8 = .ok (.caload, 1) := by decide +kernel
theorem dX2_isBorder_9 : decode cX2_isBorder 9 = .ok (.invokestatic 98, 3) := by decide +kernel
theorem dX2_isBorder_12 : decode cX2_isBorder 12 = .ok (.ifCond .eq 7, 3) := by decide +kernel
theorem dX2_isBorder_15 : decode cX2_isBorder 15 = .ok (.iconst 1, 1) := by decide +kernel
theorem dX2_isBorder_16 : decode cX2_isBorder 16 = .ok (.goto 4, 3) := by decide +kernel
theorem dX2_isBorder_19 : decode cX2_isBorder 19 = .ok (.iconst 0, 1) := by decide +kernel
theorem dX2_isBorder_20 : decode cX2_isBorder 20 = .ok (.istore_n 3, 1) := by decide +kernel
theorem dX2_isBorder_21 : decode cX2_isBorder 21 = .ok (.iload_n 2, 1) := by decide +kernel
theorem dX2_isBorder_22 : decode cX2_isBorder 22 = .ok (.iload_n 1, 1) := by decide +kernel
theorem dX2_isBorder_23 : decode cX2_isBorder 23 = .ok (.if_icmp .ge 16, 3) := by decide +kernel
theorem dX2_isBorder_26 : decode cX2_isBorder 26 = .ok (.aload_n 0, 1) := by decide +kernel
theorem dX2_isBorder_27 : decode cX2_isBorder 27 = .ok (.iload_n 2, 1) := by decide +kernel
theorem dX2_isBorder_28 : decode cX2_isBorder 28 = .ok (.caload, 1) := by decide +kernel
theorem dX2_isBorder_29 : decode cX2_isBorder 29 = .ok (.invokestatic 98, 3) := by decide +kernel
theorem dX2_isBorder_32 : decode cX2_isBorder 32 = .ok (.ifCond .eq 7, 3) := by decide +kernel
theorem dX2_isBorder_35 : decode cX2_isBorder 35 = .ok (.iconst 1, 1) := by decide +kernel
theorem dX2_isBorder_36 : decode cX2_isBorder 36 = .ok (.goto 4, 3) := by decide +kernel
theorem dX2_isBorder_39 : decode cX2_isBorder 39 = .ok (.iconst 0, 1) := by decide +kernel
theorem dX2_isBorder_40 : decode cX2_isBorder 40 = .ok (.istore 4, 2) := by decide +kernel
theorem dX2_isBorder_42 : decode cX2_isBorder 42 = .ok (.iload_n 3, 1) := by decide +kernel
theorem dX2_isBorder_43 : decode cX2_isBorder 43 = .ok (.iload 4, 2) := by decide +kernel
theorem dX2_isBorder_45 : decode cX2_isBorder 45 = .ok (.if_icmp .eq 7, 3) := by decide +kernel
theorem dX2_isBorder_48 : decode cX2_isBorder 48 = .ok (.iconst 1, 1) := by decide +kernel
theorem dX2_isBorder_49 : decode cX2_isBorder 49 = .ok (.goto 4, 3) := by decide +kernel
theorem dX2_isBorder_52 : decode cX2_isBorder 52 = .ok (.iconst 0, 1) := by decide +kernel
theorem dX2_isBorder_53 : decode cX2_isBorder 53 = .ok (.ireturn, 1) := by decide +kernel
theorem dX2_hasAny_0 : decode cX2_hasAny 0 = .ok (.iconst 0, 1) := by decide +kernel
theorem dX2_hasAny_1 : decode cX2_hasAny 1 = .ok (.istore_n 3, 1) := by decide +kernel
theorem dX2_hasAny_2 : decode cX2_hasAny 2 = .ok (.iload_n 3, 1) := by decide +kernel
theorem dX2_hasAny_3 : decode cX2_hasAny 3 = .ok (.aload_n 0, 1) := by decide +kernel
theorem dX2_hasAny_4 : decode cX2_hasAny 4 = .ok (.getfield 90, 3) := by decide +kernel
theorem dX2_hasAny_7 : decode cX2_hasAny 7 = .ok (.if_icmp .ge 26, 3) := by decide +kernel
theorem dX2_hasAny_10 : decode cX2_hasAny 10 = .ok (.aload_n 1, 1) := by decide +kernel
theorem dX2_hasAny_11 : decode cX2_hasAny 11 = .ok (.getfield 101, 3) := by decide +kernel
theorem dX2_hasAny_14 : decode cX2_hasAny 14 = .ok (.aload_n 0, 1) := by decide +kernel
theorem dX2_hasAny_15 : decode cX2_hasAny 15 = .ok (.getfield 9, 3) := by decide +kernel
theorem dX2_hasAny_18 : decode cX2_hasAny 18 = .ok (.iload_n 3, 1) := by decide +kernel
theorem dX2_hasAny_19 : decode cX2_hasAny 19 = .ok (.iaload, 1) := by decide +kernel
theorem dX2_hasAny_20 : decode cX2_hasAny 20 = .ok (.iaload, 1) := by decide +kernel
theorem dX2_hasAny_21 : decode cX2_hasAny 21 = .ok (.iload_n 2, 1) := by decide +kernel
theorem dX2_hasAny_22 : decode cX2_hasAny 22 = .ok (.if_icmp .ne 5, 3) := by decide +kernel
theorem dX2_hasAny_25 : decode cX2_hasAny 25 = .ok (.iconst 1, 1) := by decide +kernel
theorem dX2_hasAny_26 : decode cX2_hasAny 26 = .ok (.ireturn, 1) := by decide +kernel
theorem dX2_hasAny_27 : decode cX2_hasAny 27 = .ok (.iinc 3 1, 3) := by decide +kernel
theorem dX2_hasAny_30 : decode cX2_hasAny 30 = .ok (.goto (-28), 3) := by decide +kernel
theorem dX2_hasAny_33 : decode cX2_hasAny 33 = .ok (.iconst 0, 1) := by decide +kernel
theorem dX2_hasAny_34 : decode cX2_hasAny 34 = .ok (.ireturn, 1) := by decide +kernel
theorem dX2_hintBits_0 : decode cX2_hintBits 0 = .ok (.iconst 0, 1) := by decide +kernel
theorem dX2_hintBits_1 : decode cX2_hintBits 1 = .ok (.istore_n 2, 1) := by decide +kernel
theorem dX2_hintBits_2 : decode cX2_hintBits 2 = .ok (.iconst 0, 1) := by decide +kernel
theorem dX2_hintBits_3 : decode cX2_hintBits 3 = .ok (.istore_n 3, 1) := by decide +kernel
theorem dX2_hintBits_4 : decode cX2_hintBits 4 = .ok (.iload_n 3, 1) := by decide +kernel
theorem dX2_hintBits_5 : decode cX2_hintBits 5 = .ok (.aload_n 0, 1) := by decide +kernel
theorem dX2_hintBits_6 : decode cX2_hintBits 6 = .ok (.getfield 90, 3) := by decide +kernel
theorem dX2_hintBits_9 : decode cX2_hintBits 9 = .ok (.if_icmp .ge 23, 3) := by decide +kernel
theorem dX2_hintBits_12 : decode cX2_hintBits 12 = .ok (.iload_n 2, 1) := by decide +kernel
theorem dX2_hintBits_13 : decode cX2_hintBits 13 = .ok (.aload_n 1, 1) := by decide +kernel
theorem dX2_hintBits_14 : decode cX2_hintBits 14 = .ok (.getfield 104, 3) := by decide +kernel
theorem dX2_hintBits_17 : decode cX2_hintBits 17 = .ok (.aload_n 0, 1) := by decide +kernel
theorem dX2_hintBits_18 : decode cX2_hintBits 18 = .ok (.getfield 9, 3) := by decide +kernel
theorem dX2_hintBits_21 : decode cX2_hintBits 21 = .ok (.iload_n 3, 1) := by decide +kernel
theorem dX2_hintBits_22 : decode cX2_hintBits 22 = .ok (.iaload, 1) := by decide +kernel
theorem dX2_hintBits_23 : decode cX2_hintBits 23 = .ok (.iaload, 1) := by decide +kernel
theorem dX2_hintBits_24 : decode cX2_hintBits 24 = .ok (.ior, 1) := by decide +kernel
theorem dX2_hintBits_25 : decode cX2_hintBits 25 = .ok (.istore_n 2, 1) := by decide +kernel
theorem dX2_hintBits_26 : decode cX2_hintBits 26 = .ok (.iinc 3 1, 3) := by decide +kernel
theorem dX2_hintBits_29 : decode cX2_hintBits 29 = .ok (.goto (-25), 3) := by decide +kernel
theorem dX2_hintBits_32 : decode cX2_hintBits 32 = .ok (.iload_n 2, 1) := by decide +kernel
theorem dX2_hintBits_33 : decode cX2_hintBits 33 = .ok (.ireturn, 1) := by decide +kernel
theorem dX3_init_0 : decode cX3_init 0 = .ok (.aload_n 0, 1) := by decide +kernel
theorem dX3_init_1 : decode cX3_init 1 = .ok (.invokespecial 3, 3) := by decide +kernel
theorem dX3_init_4 : decode cX3_init 4 = .ok (.aload_n 0, 1) := by decide +kernel
theorem dX3_init_5 : decode cX3_init 5 = .ok (.bipush 6, 2) := by decide +kernel
theorem dX3_init_7 : decode cX3_init 7 = .ok (.newarray .int, 2) := by decide +kernel
theorem dX3_init_9 : decode cX3_init 9 = .ok (.putfield 9, 3) := by decide +kernel
theorem dX3_init_12 : decode cX3_init 12 = .ok (.aload_n 0, 1) := by decide +kernel
theorem dX3_init_13 : decode cX3_init 13 = .ok (.bipush 6, 2) := by decide +kernel
theorem dX3_init_15 : decode cX3_init 15 = .ok (.newarray .int, 2) := by decide +kernel
theorem dX3_init_17 : decode cX3_init 17 = .ok (.putfield 15, 3) := by decide +kernel
theorem dX3_init_20 : decode cX3_init 20 = .ok (.aload_n 0, 1) := by decide +kernel
theorem dX3_init_21 : decode cX3_init 21 = .ok (.bipush 16, 2) := by decide +kernel
theorem dX3_init_23 : decode cX3_init 23 = .ok (.newarray .int, 2) := by decide +kernel
theorem dX3_init_25 : decode cX3_init 25 = .ok (.putfield 18, 3) := by decide +kernel
theorem dX3_init_28 : decode cX3_init 28 = .ok (.aload_n 0, 1) := by decide +kernel
theorem dX3_init_29 : decode cX3_init 29 = .ok (.bipush 16, 2) := by decide +kernel
theorem dX3_init_31 : decode cX3_init 31 = .ok (.newarray .int, 2) := by decide +kernel
theorem dX3_init_33 : decode cX3_init 33 = .ok (.putfield 21, 3) := by decide +kernel
theorem dX3_init_36 : decode cX3_init 36 = .ok (.aload_n 0, 1) := by decide +kernel
theorem dX3_init_37 : decode cX3_init 37 = .ok (.bipush 16, 2) := by decide +kernel
theorem dX3_init_39 : decode cX3_init 39 = .ok (.newarray .int, 2) := by decide +kernel
theorem dX3_init_41 : decode cX3_init 41 = .ok (.putfield 24, 3) := by decide +kernel
theorem dX3_init_44 : decode cX3_init 44 = .ok (.aload_n 0, 1) := by decide +kernel
theorem dX3_init_45 : decode cX3_init 45 = .ok (.bipush 16, 2) := by decide +kernel
theorem dX3_init_47 : decode cX3_init 47 = .ok (.newarray .int, 2) := by decide +kernel
theorem dX3_init_49 : decode cX3_init 49 = .ok (.putfield 27, 3) := by decide +kernel
theorem dX3_init_52 : decode cX3_init 52 = .ok (.aload_n 0, 1) := by decide +kernel
theorem dX3_init_53 : decode cX3_init 53 = .ok (.bipush 16, 2) := by decide +kernel
theorem dX3_init_55 : decode cX3_init 55 = .ok (.newarray .int, 2) := by decide +kernel
theorem dX3_init_57 : decode cX3_init 57 = .ok (.putfield 30, 3) := by decide +kernel
theorem dX3_init_60 : decode cX3_init 60 = .ok (.aload_n 0, 1) := by decide +kernel
theorem dX3_init_61 : decode cX3_init 61 = .ok (.bipush 40, 2) := by decide +kernel
theorem dX3_init_63 : decode cX3_init 63 = .ok (.anewarray 33, 3) := by decide +kernel
theorem dX3_init_66 : decode cX3_init 66 = .ok (.putfield 35, 3) := by decide +kernel
theorem dX3_init_69 : decode cX3_init 69 = .ok (.aload_n 0, 1) := by decide +kernel
theorem dX3_init_70 : decode cX3_init 70 = .ok (.bipush 100, 2) := by decide +kernel
theorem dX3_init_72 : decode cX3_init 72 = .ok (.newarray .int, 2) := by decide +kernel
theorem dX3_init_74 : decode cX3_init 74 = .ok (.putfield 39, 3) := by decide +kernel
theorem dX3_init_77 : decode cX3_init 77 = .ok (.aload_n 0, 1) := by decide +kernel
theorem dX3_init_78 : decode cX3_init 78 = .ok (.bipush 100, 2) := by decide +kernel
theorem dX3_init_80 : decode cX3_init 80 = .ok (.newarray .int, 2) := by decide +kernel
theorem dX3_init_82 : decode cX3_init 82 = .ok (.putfield 42, 3) := by decide +kernel
theorem dX3_init_85 : decode cX3_init 85 = .ok (.aload_n 0, 1) := by decide +kernel
theorem dX3_init_86 : decode cX3_init 86 = .ok (.bipush 100, 2) := by decide +kernel
theorem dX3_init_88 : decode cX3_init 88 = .ok (.newarray .int, 2) := by decide +kernel
theorem dX3_init_90 : decode cX3_init 90 = .ok (.putfield 45, 3) := by decide +kernel
theorem dX3_init_93 : decode cX3_init 93 = .ok (.return_, 1) := by decide +kernel
theorem dX3_hasVillage_0 : decode cX3_hasVillage 0 = .ok (.iload_n 1, 1) := by decide +kernel
theorem dX3_hasVillage_1 : decode cX3_hasVillage 1 = .ok (.iconst 0, 1) := by decide +kernel
theorem dX3_hasVillage_2 : decode cX3_hasVillage 2 = .ok (.aload_n 0, 1) := by decide +kernel
theorem dX3_hasVillage_3 : decode cX3_hasVillage 3 = .ok (.getfield 48, 3) := by decide +kernel
theorem dX3_hasVillage_6 : decode cX3_hasVillage 6 = .ok (.iconst 1, 1) := by decide +kernel
theorem dX3_hasVillage_7 : decode cX3_hasVillage 7 = .ok (.isub, 1) := by decide +kernel
theorem dX3_hasVillage_8 : decode cX3_hasVillage 8 = .ok (.invokestatic 52, 3) := by decide +kernel
theorem dX3_hasVillage_11 : decode cX3_hasVillage 11 = .ok (.ireturn, 1) := by decide +kernel
theorem dX3_hasGiver_0 : decode cX3_hasGiver 0 = .ok (.iload_n 1, 1) := by decide +kernel
theorem dX3_hasGiver_1 : decode cX3_hasGiver 1 = .ok (.iconst 0, 1) := by decide +kernel
theorem dX3_hasGiver_2 : decode cX3_hasGiver 2 = .ok (.aload_n 0, 1) := by decide +kernel
theorem dX3_hasGiver_3 : decode cX3_hasGiver 3 = .ok (.getfield 56, 3) := by decide +kernel
theorem dX3_hasGiver_6 : decode cX3_hasGiver 6 = .ok (.iconst 1, 1) := by decide +kernel
theorem dX3_hasGiver_7 : decode cX3_hasGiver 7 = .ok (.isub, 1) := by decide +kernel
theorem dX3_hasGiver_8 : decode cX3_hasGiver 8 = .ok (.invokestatic 52, 3) := by decide +kernel
theorem dX3_hasGiver_11 : decode cX3_hasGiver 11 = .ok (.ireturn, 1) := by decide +kernel
theorem dX3_hasChild_0 : decode cX3_hasChild 0 = .ok (.iload_n 1, 1) := by decide +kernel
theorem dX3_hasChild_1 : decode cX3_hasChild 1 = .ok (.iconst 0, 1) := by decide +kernel
theorem dX3_hasChild_2 : decode cX3_hasChild 2 = .ok (.aload_n 0, 1) := by decide +kernel
theorem dX3_hasChild_3 : decode cX3_hasChild 3 = .ok (.getfield 59, 3) := by decide +kernel
theorem dX3_hasChild_6 : decode cX3_hasChild 6 = .ok (.iconst 1, 1) := by decide +kernel
theorem dX3_hasChild_7 : decode cX3_hasChild 7 = .ok (.isub, 1) := by decide +kernel
theorem dX3_hasChild_8 : decode cX3_hasChild 8 = .ok (.invokestatic 52, 3) := by decide +kernel
theorem dX3_hasChild_11 : decode cX3_hasChild 11 = .ok (.ireturn, 1) := by decide +kernel
theorem dX3_addVillage_0 : decode cX3_addVillage 0 = .ok (.aload_n 0, 1) := by decide +kernel
theorem dX3_addVillage_1 : decode cX3_addVillage 1 = .ok (.getfield 48, 3) := by decide +kernel
theorem dX3_addVillage_4 : decode cX3_addVillage 4 = .ok (.bipush 6, 2) := by decide +kernel
theorem dX3_addVillage_6 : decode cX3_addVillage 6 = .ok (.if_icmp .lt 5, 3) := by decide +kernel
theorem dX3_addVillage_9 : decode cX3_addVillage 9 = .ok (.iconst (-1), 1) := by decide +kernel
theorem dX3_addVillage_10 : decode cX3_addVillage 10 = .ok (.ireturn, 1) := by decide +kernel
theorem dX3_addVillage_11 : decode cX3_addVillage 11 = .ok (.aload_n 0, 1) := by decide +kernel
theorem dX3_addVillage_12 : decode cX3_addVillage 12 = .ok (.getfield 9, 3) := by decide +kernel
theorem dX3_addVillage_15 : decode cX3_addVillage 15 = .ok (.aload_n 0, 1) := by decide +kernel
theorem dX3_addVillage_16 : decode cX3_addVillage 16 = .ok (.getfield 48, 3) := by decide +kernel
theorem dX3_addVillage_19 : decode cX3_addVillage 19 = .ok (.iload_n 1, 1) := by decide +kernel
theorem dX3_addVillage_20 : decode cX3_addVillage 20 = .ok (.iastore, 1) := by decide +kernel
theorem dX3_addVillage_21 : decode cX3_addVillage 21 = .ok (.aload_n 0, 1) := by decide +kernel
theorem dX3_addVillage_22 : decode cX3_addVillage 22 = .ok (.getfield 15, 3) := by decide +kernel
theorem dX3_addVillage_25 : decode cX3_addVillage 25 = .ok (.aload_n 0, 1) := by decide +kernel
theorem dX3_addVillage_26 : decode cX3_addVillage 26 = .ok (.getfield 48, 3) := by decide +kernel
theorem dX3_addVillage_29 : decode cX3_addVillage 29 = .ok (.iload_n 2, 1) := by decide +kernel
theorem dX3_addVillage_30 : decode cX3_addVillage 30 = .ok (.iastore, 1) := by decide +kernel
theorem dX3_addVillage_31 : decode cX3_addVillage 31 = .ok (.aload_n 0, 1) := by decide +kernel
theorem dX3_addVillage_32 : decode cX3_addVillage 32 = .ok (.dup, 1) := by decide +kernel
theorem dX3_addVillage_33 : decode cX3_addVillage 33 = .ok (.getfield 48, 3) := by decide +kernel
theorem dX3_addVillage_36 : decode cX3_addVillage 36 = .ok (.iconst 1, 1) := by decide +kernel
theorem dX3_addVillage_37 : decode cX3_addVillage 37 = .ok (.iadd, 1) := by decide +kernel
theorem dX3_addVillage_38 : decode cX3_addVillage 38 = .ok (.putfield 48, 3) := by decide +kernel
theorem dX3_addVillage_41 : decode cX3_addVillage 41 = .ok (.aload_n 0, 1) := by decide +kernel
theorem dX3_addVillage_42 : decode cX3_addVillage 42 = .ok (.getfield 48, 3) := by decide +kernel
theorem dX3_addVillage_45 : decode cX3_addVillage 45 = .ok (.iconst 1, 1) := by decide +kernel
theorem dX3_addVillage_46 : decode cX3_addVillage 46 = .ok (.isub, 1) := by decide +kernel
theorem dX3_addVillage_47 : decode cX3_addVillage 47 = .ok (.ireturn, 1) := by decide +kernel
theorem dX3_addGiver_0 : decode cX3_addGiver 0 = .ok (.aload_n 0, 1) := by decide +kernel
theorem dX3_addGiver_1 : decode cX3_addGiver 1 = .ok (.getfield 56, 3) := by decide +kernel
theorem dX3_addGiver_4 : decode cX3_addGiver 4 = .ok (.bipush 16, 2) := by decide +kernel
theorem dX3_addGiver_6 : decode cX3_addGiver 6 = .ok (.if_icmp .lt 5, 3) := by decide +kernel
theorem dX3_addGiver_9 : decode cX3_addGiver 9 = .ok (.iconst (-1), 1) := by decide +kernel
theorem dX3_addGiver_10 : decode cX3_addGiver 10 = .ok (.ireturn, 1) := by decide +kernel
theorem dX3_addGiver_11 : decode cX3_addGiver 11 = .ok (.aload_n 0, 1) := by decide +kernel
theorem dX3_addGiver_12 : decode cX3_addGiver 12 = .ok (.getfield 18, 3) := by decide +kernel
theorem dX3_addGiver_15 : decode cX3_addGiver 15 = .ok (.aload_n 0, 1) := by decide +kernel
theorem dX3_addGiver_16 : decode cX3_addGiver 16 = .ok (.getfield 56, 3) := by decide +kernel
theorem dX3_addGiver_19 : decode cX3_addGiver 19 = .ok (.iload_n 1, 1) := by decide +kernel
theorem dX3_addGiver_20 : decode cX3_addGiver 20 = .ok (.iastore, 1) := by decide +kernel
theorem dX3_addGiver_21 : decode cX3_addGiver 21 = .ok (.aload_n 0, 1) := by decide +kernel
theorem dX3_addGiver_22 : decode cX3_addGiver 22 = .ok (.dup, 1) := by decide +kernel
theorem dX3_addGiver_23 : decode cX3_addGiver 23 = .ok (.getfield 56, 3) := by decide +kernel
theorem dX3_addGiver_26 : decode cX3_addGiver 26 = .ok (.iconst 1, 1) := by decide +kernel
theorem dX3_addGiver_27 : decode cX3_addGiver 27 = .ok (.iadd, 1) := by decide +kernel
theorem dX3_addGiver_28 : decode cX3_addGiver 28 = .ok (.putfield 56, 3) := by decide +kernel
theorem dX3_addGiver_31 : decode cX3_addGiver 31 = .ok (.aload_n 0, 1) := by decide +kernel
theorem dX3_addGiver_32 : decode cX3_addGiver 32 = .ok (.getfield 56, 3) := by decide +kernel
theorem dX3_addGiver_35 : decode cX3_addGiver 35 = .ok (.iconst 1, 1) := by decide +kernel
theorem dX3_addGiver_36 : decode cX3_addGiver 36 = .ok (.isub, 1) := by decide +kernel
theorem dX3_addGiver_37 : decode cX3_addGiver 37 = .ok (.ireturn, 1) := by decide +kernel
theorem dX3_addChild_0 : decode cX3_addChild 0 = .ok (.aload_n 0, 1) := by decide +kernel
theorem dX3_addChild_1 : decode cX3_addChild 1 = .ok (.getfield 59, 3) := by decide +kernel
theorem dX3_addChild_4 : decode cX3_addChild 4 = .ok (.bipush 16, 2) := by decide +kernel
theorem dX3_addChild_6 : decode cX3_addChild 6 = .ok (.if_icmp .lt 5, 3) := by decide +kernel
theorem dX3_addChild_9 : decode cX3_addChild 9 = .ok (.iconst (-1), 1) := by decide +kernel
theorem dX3_addChild_10 : decode cX3_addChild 10 = .ok (.ireturn, 1) := by decide +kernel
theorem dX3_addChild_11 : decode cX3_addChild 11 = .ok (.aload_n 0, 1) := by decide +kernel
theorem dX3_addChild_12 : decode cX3_addChild 12 = .ok (.getfield 21, 3) := by decide +kernel
theorem dX3_addChild_15 : decode cX3_addChild 15 = .ok (.aload_n 0, 1) := by decide +kernel
theorem dX3_addChild_16 : decode cX3_addChild 16 = .ok (.getfield 59, 3) := by decide +kernel
theorem dX3_addChild_19 : decode cX3_addChild 19 = .ok (.iload_n 1, 1) := by decide +kernel
theorem dX3_addChild_20 : decode cX3_addChild 20 = .ok (.iastore, 1) := by decide +kernel
theorem dX3_addChild_21 : decode cX3_addChild 21 = .ok (.aload_n 0, 1) := by decide +kernel
theorem dX3_addChild_22 : decode cX3_addChild 22 = .ok (.getfield 24, 3) := by decide +kernel
theorem dX3_addChild_25 : decode cX3_addChild 25 = .ok (.aload_n 0, 1) := by decide +kernel
theorem dX3_addChild_26 : decode cX3_addChild 26 = .ok (.getfield 59, 3) := by decide +kernel
theorem dX3_addChild_29 : decode cX3_addChild 29 = .ok (.iload_n 2, 1) := by decide +kernel
theorem dX3_addChild_30 : decode cX3_addChild 30 = .ok (.iastore, 1) := by decide +kernel
theorem dX3_addChild_31 : decode cX3_addChild 31 = .ok (.aload_n 0, 1) := by decide +kernel
theorem dX3_addChild_32 : decode cX3_addChild 32 = .ok (.getfield 27, 3) := by decide +kernel
theorem dX3_addChild_35 : decode cX3_addChild 35 = .ok (.aload_n 0, 1) := by decide +kernel
theorem dX3_addChild_36 : decode cX3_addChild 36 = .ok (.getfield 59, 3) := by decide +kernel
theorem dX3_addChild_39 : decode cX3_addChild 39 = .ok (.iload_n 3, 1) := by decide +kernel
theorem dX3_addChild_40 : decode cX3_addChild 40 = .ok (.iastore, 1) := by decide +kernel
theorem dX3_addChild_41 : decode cX3_addChild 41 = .ok (.aload_n 0, 1) := by decide +kernel
theorem dX3_addChild_42 : decode cX3_addChild 42 = .ok (.getfield 30, 3) := by decide +kernel
theorem dX3_addChild_45 : decode cX3_addChild 45 = .ok (.aload_n 0, 1) := by decide +kernel
theorem dX3_addChild_46 : decode cX3_addChild 46 = .ok (.getfield 59, 3) := by decide +kernel
theorem dX3_addChild_49 : decode cX3_addChild 49 = .ok (.iload 4, 2) := by decide +kernel
theorem dX3_addChild_51 : decode cX3_addChild 51 = .ok (.iastore, 1) := by decide +kernel
theorem dX3_addChild_52 : decode cX3_addChild 52 = .ok (.aload_n 0, 1) := by decide +kernel
theorem dX3_addChild_53 : decode cX3_addChild 53 = .ok (.dup, 1) := by decide +kernel
theorem dX3_addChild_54 : decode cX3_addChild 54 = .ok (.getfield 59, 3) := by decide +kernel
theorem dX3_addChild_57 : decode cX3_addChild 57 = .ok (.iconst 1, 1) := by decide +kernel
theorem dX3_addChild_58 : decode cX3_addChild 58 = .ok (.iadd, 1) := by decide +kernel
theorem dX3_addChild_59 : decode cX3_addChild 59 = .ok (.putfield 59, 3) := by decide +kernel
theorem dX3_addChild_62 : decode cX3_addChild 62 = .ok (.aload_n 0, 1) := by decide +kernel
theorem dX3_addChild_63 : decode cX3_addChild 63 = .ok (.getfield 59, 3) := by decide +kernel
theorem dX3_addChild_66 : decode cX3_addChild 66 = .ok (.iconst 1, 1) := by decide +kernel
theorem dX3_addChild_67 : decode cX3_addChild 67 = .ok (.isub, 1) := by decide +kernel
theorem dX3_addChild_68 : decode cX3_addChild 68 = .ok (.ireturn, 1) := by decide +kernel
theorem dX3_addPair_0 : decode cX3_addPair 0 = .ok (.aload_n 0, 1) := by decide +kernel
theorem dX3_addPair_1 : decode cX3_addPair 1 = .ok (.getfield 62, 3) := by decide +kernel
theorem dX3_addPair_4 : decode cX3_addPair 4 = .ok (.bipush 40, 2) := by decide +kernel
theorem dX3_addPair_6 : decode cX3_addPair 6 = .ok (.if_icmp .lt 5, 3) := by decide +kernel
theorem dX3_addPair_9 : decode cX3_addPair 9 = .ok (.iconst (-1), 1) := by decide +kernel
theorem dX3_addPair_10 : decode cX3_addPair 10 = .ok (.ireturn, 1) := by decide +kernel
theorem dX3_addPair_11 : decode cX3_addPair 11 = .ok (.aload_n 0, 1) := by decide +kernel
theorem dX3_addPair_12 : decode cX3_addPair 12 = .ok (.getfield 35, 3) := by decide +kernel
theorem dX3_addPair_15 : decode cX3_addPair 15 = .ok (.aload_n 0, 1) := by decide +kernel
theorem dX3_addPair_16 : decode cX3_addPair 16 = .ok (.getfield 62, 3) := by decide +kernel
theorem dX3_addPair_19 : decode cX3_addPair 19 = .ok (.new 33, 3) := by decide +kernel
theorem dX3_addPair_22 : decode cX3_addPair 22 = .ok (.dup, 1) := by decide +kernel
theorem dX3_addPair_23 : decode cX3_addPair 23 = .ok (.aload_n 0, 1) := by decide +kernel
theorem dX3_addPair_24 : decode cX3_addPair 24 = .ok (.getfield 62, 3) := by decide +kernel
theorem dX3_addPair_27 : decode cX3_addPair 27 = .ok (.iload_n 1, 1) := by decide +kernel
theorem dX3_addPair_28 : decode cX3_addPair 28 = .ok (.iload_n 2, 1) := by decide +kernel
theorem dX3_addPair_29 : decode cX3_addPair 29 = .ok (.iload_n 3, 1) := by decide +kernel
theorem dX3_addPair_30 : decode cX3_addPair 30 = .ok (.invokespecial 65, 3) := by decide +kernel
theorem dX3_addPair_33 : decode cX3_addPair 33 = .ok (.aastore, 1) := by decide +kernel
theorem dX3_addPair_34 : decode cX3_addPair 34 = .ok (.aload_n 0, 1) := by decide +kernel
theorem dX3_addPair_35 : decode cX3_addPair 35 = .ok (.dup, 1) := by decide +kernel
theorem dX3_addPair_36 : decode cX3_addPair 36 = .ok (.getfield 62, 3) := by decide +kernel
theorem dX3_addPair_39 : decode cX3_addPair 39 = .ok (.iconst 1, 1) := by decide +kernel
theorem dX3_addPair_40 : decode cX3_addPair 40 = .ok (.iadd, 1) := by decide +kernel
theorem dX3_addPair_41 : decode cX3_addPair 41 = .ok (.putfield 62, 3) := by decide +kernel
theorem dX3_addPair_44 : decode cX3_addPair 44 = .ok (.aload_n 0, 1) := by decide +kernel
theorem dX3_addPair_45 : decode cX3_addPair 45 = .ok (.getfield 62, 3) := by decide +kernel
theorem dX3_addPair_48 : decode cX3_addPair 48 = .ok (.iconst 1, 1) := by decide +kernel
theorem dX3_addPair_49 : decode cX3_addPair 49 = .ok (.isub, 1) := by decide +kernel
theorem dX3_addPair_50 : decode cX3_addPair 50 = .ok (.ireturn, 1) := by decide +kernel
theorem dX3_pairAt_0 : decode cX3_pairAt 0 = .ok (.iload_n 1, 1) := by decide +kernel
theorem dX3_pairAt_1 : decode cX3_pairAt 1 = .ok (.iconst 0, 1) := by decide +kernel
theorem dX3_pairAt_2 : decode cX3_pairAt 2 = .ok (.aload_n 0, 1) := by decide +kernel
theorem dX3_pairAt_3 : decode cX3_pairAt 3 = .ok (.getfield 62, 3) := by decide +kernel
theorem dX3_pairAt_6 : decode cX3_pairAt 6 = .ok (.iconst 1, 1) := by decide +kernel
theorem dX3_pairAt_7 : decode cX3_pairAt 7 = .ok (.isub, 1) := by decide +kernel
theorem dX3_pairAt_8 : decode cX3_pairAt 8 = .ok (.invokestatic 52, 3) := by decide +kernel
theorem dX3_pairAt_11 : decode cX3_pairAt 11 = .ok (.ifCond .eq 12, 3) := by decide +kernel
theorem dX3_pairAt_14 : decode cX3_pairAt 14 = .ok (.aload_n 0, 1) := by decide +kernel
theorem dX3_pairAt_15 : decode cX3_pairAt 15 = .ok (.getfield 35, 3) := by decide +kernel
theorem dX3_pairAt_18 : decode cX3_pairAt 18 = .ok (.iload_n 1, 1) := by decide +kernel
theorem dX3_pairAt_19 : decode cX3_pairAt 19 = .ok (.aaload, 1) := by decide +kernel
theorem dX3_pairAt_20 : decode cX3_pairAt 20 = .ok (.goto 4, 3) := by decide +kernel
theorem dX3_pairAt_23 : decode cX3_pairAt 23 = .ok (.aconst_null, 1) := by decide +kernel
theorem dX3_pairAt_24 : decode cX3_pairAt 24 = .ok (.areturn, 1) := by decide +kernel
theorem dX3_openPairAt_0 : decode cX3_openPairAt 0 = .ok (.aload_n 0, 1) := by decide +kernel
theorem dX3_openPairAt_1 : decode cX3_openPairAt 1 = .ok (.iload_n 1, 1) := by decide +kernel
theorem dX3_openPairAt_2 : decode cX3_openPairAt 2 = .ok (.invokevirtual 68, 3) := by decide +kernel
theorem dX3_openPairAt_5 : decode cX3_openPairAt 5 = .ok (.astore_n 2, 1) := by decide +kernel
theorem dX3_openPairAt_6 : decode cX3_openPairAt 6 = .ok (.aload_n 2, 1) := by decide +kernel
theorem dX3_openPairAt_7 : decode cX3_openPairAt 7 = .ok (.ifnull 14, 3) := by decide +kernel
theorem dX3_openPairAt_10 : decode cX3_openPairAt 10 = .ok (.aload_n 2, 1) := by decide +kernel
theorem dX3_openPairAt_11 : decode cX3_openPairAt 11 = .ok (.invokevirtual 72, 3) := by decide +kernel
theorem dX3_openPairAt_14 : decode cX3_openPairAt 14 = .ok (.ifCond .eq 7, 3) := by decide +kernel
theorem dX3_openPairAt_17 : decode cX3_openPairAt 17 = .ok (.aload_n 2, 1) := by decide +kernel
theorem dX3_openPairAt_18 : decode cX3_openPairAt 18 = .ok (.goto 4, 3) := by decide +kernel
theorem dX3_openPairAt_21 : decode cX3_openPairAt 21 = .ok (.aconst_null, 1) := by decide +kernel
theorem dX3_openPairAt_22 : decode cX3_openPairAt 22 = .ok (.areturn, 1) := by decide +kernel
theorem dX3_openPairOf_0 : decode cX3_openPairOf 0 = .ok (.iconst 0, 1) := by decide +kernel
theorem dX3_openPairOf_1 : decode cX3_openPairOf 1 = .ok (.istore_n 2, 1) := by decide +kernel
theorem dX3_openPairOf_2 : decode cX3_openPairOf 2 = .ok (.iload_n 2, 1) := by decide +kernel
theorem dX3_openPairOf_3 : decode cX3_openPairOf 3 = .ok (.aload_n 0, 1) := by decide +kernel
theorem dX3_openPairOf_4 : decode cX3_openPairOf 4 = .ok (.getfield 62, 3) := by decide +kernel
theorem dX3_openPairOf_7 : decode cX3_openPairOf 7 = .ok (.if_icmp .ge 41, 3) := by decide +kernel
theorem dX3_openPairOf_10 : decode cX3_openPairOf 10 = .ok (.aload_n 0, 1) := by decide +kernel
theorem dX3_openPairOf_11 : decode cX3_openPairOf 11 = .ok (.getfield 35, 3) := by decide +kernel
theorem dX3_openPairOf_14 : decode cX3_openPairOf 14 = .ok (.iload_n 2, 1) := by decide +kernel
theorem dX3_openPairOf_15 : decode cX3_openPairOf 15 = .ok (.aaload, 1) := by decide +kernel
theorem dX3_openPairOf_16 : decode cX3_openPairOf 16 = .ok (.getfield 76, 3) := by decide +kernel
theorem dX3_openPairOf_19 : decode cX3_openPairOf 19 = .ok (.iload_n 1, 1) := by decide +kernel
theorem dX3_openPairOf_20 : decode cX3_openPairOf 20 = .ok (.if_icmp .ne 22, 3) := by decide +kernel
theorem dX3_openPairOf_23 : decode cX3_openPairOf 23 = .ok (.aload_n 0, 1) := by decide +kernel
theorem dX3_openPairOf_24 : decode cX3_openPairOf 24 = .ok (.getfield 35, 3) := by decide +kernel
theorem dX3_openPairOf_27 : decode cX3_openPairOf 27 = .ok (.iload_n 2, 1) := by decide +kernel
theorem dX3_openPairOf_28 : decode cX3_openPairOf 28 = .ok (.aaload, 1) := by decide +kernel
theorem dX3_openPairOf_29 : decode cX3_openPairOf 29 = .ok (.invokevirtual 72, 3) := by decide +kernel
theorem dX3_openPairOf_32 : decode cX3_openPairOf 32 = .ok (.ifCond .eq 10, 3) := by decide +kernel
theorem dX3_openPairOf_35 : decode cX3_openPairOf 35 = .ok (.aload_n 0, 1) := by decide +kernel
theorem dX3_openPairOf_36 : decode cX3_openPairOf 36 = .ok (.getfield 35, 3) := by decide +kernel
theorem dX3_openPairOf_39 : decode cX3_openPairOf 39 = .ok (.iload_n 2, 1) := by decide +kernel
theorem dX3_openPairOf_40 : decode cX3_openPairOf 40 = .ok (.aaload, 1) := by decide +kernel
theorem dX3_openPairOf_41 : decode cX3_openPairOf 41 = .ok (.areturn, 1) := by decide +kernel
theorem dX3_openPairOf_42 : decode cX3_openPairOf 42 = .ok (.iinc 2 1, 3) := by decide +kernel
theorem dX3_openPairOf_45 : decode cX3_openPairOf 45 = .ok (.goto (-43), 3) := by decide +kernel
theorem dX3_openPairOf_48 : decode cX3_openPairOf 48 = .ok (.aconst_null, 1) := by decide +kernel
theorem dX3_openPairOf_49 : decode cX3_openPairOf 49 = .ok (.areturn, 1) := by decide +kernel
theorem dX3_openPairs_0 : decode cX3_openPairs 0 = .ok (.iconst 0, 1) := by decide +kernel
theorem dX3_openPairs_1 : decode cX3_openPairs 1 = .ok (.istore_n 1, 1) := by decide +kernel
theorem dX3_openPairs_2 : decode cX3_openPairs 2 = .ok (.iconst 0, 1) := by decide +kernel
theorem dX3_openPairs_3 : decode cX3_openPairs 3 = .ok (.istore_n 2, 1) := by decide +kernel
theorem dX3_openPairs_4 : decode cX3_openPairs 4 = .ok (.iload_n 2, 1) := by decide +kernel
theorem dX3_openPairs_5 : decode cX3_openPairs 5 = .ok (.aload_n 0, 1) := by decide +kernel
theorem dX3_openPairs_6 : decode cX3_openPairs 6 = .ok (.getfield 62, 3) := by decide +kernel
theorem dX3_openPairs_9 : decode cX3_openPairs 9 = .ok (.if_icmp .ge 29, 3) := by decide +kernel
theorem dX3_openPairs_12 : decode cX3_openPairs 12 = .ok (.iload_n 1, 1) := by decide +kernel
theorem dX3_openPairs_13 : decode cX3_openPairs 13 = .ok (.aload_n 0, 1) := by decide +kernel
theorem dX3_openPairs_14 : decode cX3_openPairs 14 = .ok (.getfield 35, 3) := by decide +kernel
theorem dX3_openPairs_17 : decode cX3_openPairs 17 = .ok (.iload_n 2, 1) := by decide +kernel
theorem dX3_openPairs_18 : decode cX3_openPairs 18 = .ok (.aaload, 1) := by decide +kernel
theorem dX3_openPairs_19 : decode cX3_openPairs 19 = .ok (.invokevirtual 72, 3) := by decide +kernel
theorem dX3_openPairs_22 : decode cX3_openPairs 22 = .ok (.ifCond .eq 7, 3) := by decide +kernel
theorem dX3_openPairs_25 : decode cX3_openPairs 25 = .ok (.iconst 1, 1) := by decide +kernel
theorem dX3_openPairs_26 : decode cX3_openPairs 26 = .ok (.goto 4, 3) := by decide +kernel
theorem dX3_openPairs_29 : decode cX3_openPairs 29 = .ok (.iconst 0, 1) := by decide +kernel
theorem dX3_openPairs_30 : decode cX3_openPairs 30 = .ok (.iadd, 1) := by decide +kernel
theorem dX3_openPairs_31 : decode cX3_openPairs 31 = .ok (.istore_n 1, 1) := by decide +kernel
theorem dX3_openPairs_32 : decode cX3_openPairs 32 = .ok (.iinc 2 1, 3) := by decide +kernel
theorem dX3_openPairs_35 : decode cX3_openPairs 35 = .ok (.goto (-31), 3) := by decide +kernel
theorem dX3_openPairs_38 : decode cX3_openPairs 38 = .ok (.iload_n 1, 1) := by decide +kernel
theorem dX3_openPairs_39 : decode cX3_openPairs 39 = .ok (.ireturn, 1) := by decide +kernel
theorem dX3_hasRoom_0 : decode cX3_hasRoom 0 = .ok (.iconst 0, 1) := by decide +kernel
theorem dX3_hasRoom_1 : decode cX3_hasRoom 1 = .ok (.istore_n 2, 1) := by decide +kernel
theorem dX3_hasRoom_2 : decode cX3_hasRoom 2 = .ok (.iconst 0, 1) := by decide +kernel
theorem dX3_hasRoom_3 : decode cX3_hasRoom 3 = .ok (.istore_n 3, 1) := by decide +kernel
theorem dX3_hasRoom_4 : decode cX3_hasRoom 4 = .ok (.iload_n 3, 1) := by decide +kernel
theorem dX3_hasRoom_5 : decode cX3_hasRoom 5 = .ok (.aload_n 0, 1) := by decide +kernel
theorem dX3_hasRoom_6 : decode cX3_hasRoom 6 = .ok (.getfield 62, 3) := by decide +kernel
theorem dX3_hasRoom_9 : decode cX3_hasRoom 9 = .ok (.if_icmp .ge 42, 3) := by decide +kernel
theorem dX3_hasRoom_12 : decode cX3_hasRoom 12 = .ok (.iload_n 2, 1) := by decide +kernel
theorem dX3_hasRoom_13 : decode cX3_hasRoom 13 = .ok (.aload_n 0, 1) := by decide +kernel
theorem dX3_hasRoom_14 : decode cX3_hasRoom 14 = .ok (.getfield 35, 3) := by decide +kernel
theorem dX3_hasRoom_17 : decode cX3_hasRoom 17 = .ok (.iload_n 3, 1) := by decide +kernel
theorem dX3_hasRoom_18 : decode cX3_hasRoom 18 = .ok (.aaload, 1) := by decide +kernel
theorem dX3_hasRoom_19 : decode cX3_hasRoom 19 = .ok (.getfield 79, 3) := by decide +kernel
theorem dX3_hasRoom_22 : decode cX3_hasRoom 22 = .ok (.iload_n 1, 1) := by decide +kernel
theorem dX3_hasRoom_23 : decode cX3_hasRoom 23 = .ok (.if_icmp .ne 19, 3) := by decide +kernel
theorem dX3_hasRoom_26 : decode cX3_hasRoom 26 = .ok (.aload_n 0, 1) := by decide +kernel
theorem dX3_hasRoom_27 : decode cX3_hasRoom 27 = .ok (.getfield 35, 3) := by decide +kernel
theorem dX3_hasRoom_30 : decode cX3_hasRoom 30 = .ok (.iload_n 3, 1) := by decide +kernel
theorem dX3_hasRoom_31 : decode cX3_hasRoom 31 = .ok (.aaload, 1) := by decide +kernel
theorem dX3_hasRoom_32 : decode cX3_hasRoom 32 = .ok (.invokevirtual 72, 3) := by decide +kernel
theorem dX3_hasRoom_35 : decode cX3_hasRoom 35 = .ok (.ifCond .eq 7, 3) := by decide +kernel
theorem dX3_hasRoom_38 : decode cX3_hasRoom 38 = .ok (.iconst 1, 1) := by decide +kernel
theorem dX3_hasRoom_39 : decode cX3_hasRoom 39 = .ok (.goto 4, 3) := by decide +kernel
theorem dX3_hasRoom_42 : decode cX3_hasRoom 42 = .ok (.iconst 0, 1) := by decide +kernel
theorem dX3_hasRoom_43 : decode cX3_hasRoom 43 = .ok (.iadd, 1) := by decide +kernel
theorem dX3_hasRoom_44 : decode cX3_hasRoom 44 = .ok (.istore_n 2, 1) := by decide +kernel
theorem dX3_hasRoom_45 : decode cX3_hasRoom 45 = .ok (.iinc 3 1, 3) := by decide +kernel
theorem dX3_hasRoom_48 : decode cX3_hasRoom 48 = .ok (.goto (-44), 3) := by decide +kernel
theorem dX3_hasRoom_51 : decode cX3_hasRoom 51 = .ok (.iload_n 2, 1) := by decide +kernel
theorem dX3_hasRoom_52 : decode cX3_hasRoom 52 = .ok (.iconst 2, 1) := by decide +kernel
theorem dX3_hasRoom_53 : decode cX3_hasRoom 53 = .ok (.if_icmp .ge 7, 3) := by decide +kernel
theorem dX3_hasRoom_56 : decode cX3_hasRoom 56 = .ok (.iconst 1, 1) := by decide +kernel
theorem dX3_hasRoom_57 : decode cX3_hasRoom 57 = .ok (.goto 4, 3) := by decide +kernel
theorem dX3_hasRoom_60 : decode cX3_hasRoom 60 = .ok (.iconst 0, 1) := by decide +kernel
theorem dX3_hasRoom_61 : decode cX3_hasRoom 61 = .ok (.ireturn, 1) := by decide +kernel
theorem dX3_isFree_0 : decode cX3_isFree 0 = .ok (.aload_n 0, 1) := by decide +kernel
theorem dX3_isFree_1 : decode cX3_isFree 1 = .ok (.iload_n 1, 1) := by decide +kernel
theorem dX3_isFree_2 : decode cX3_isFree 2 = .ok (.invokevirtual 82, 3) := by decide +kernel
theorem dX3_isFree_5 : decode cX3_isFree 5 = .ok (.ifCond .eq 25, 3) := by decide +kernel
theorem dX3_isFree_8 : decode cX3_isFree 8 = .ok (.aload_n 0, 1) := by decide +kernel
theorem dX3_isFree_9 : decode cX3_isFree 9 = .ok (.iload_n 1, 1) := by decide +kernel
theorem dX3_isFree_10 : decode cX3_isFree 10 = .ok (.invokevirtual 86, 3) := by decide +kernel
theorem dX3_isFree_13 : decode cX3_isFree 13 = .ok (.ifnonnull 17, 3) := by decide +kernel
theorem dX3_isFree_16 : decode cX3_isFree 16 = .ok (.aload_n 0, 1) := by decide +kernel
theorem dX3_isFree_17 : decode cX3_isFree 17 = .ok (.iload_n 1, 1) := by decide +kernel
theorem dX3_isFree_18 : decode cX3_isFree 18 = .ok (.iload_n 2, 1) := by decide +kernel
theorem dX3_isFree_19 : decode cX3_isFree 19 = .ok (.invokevirtual 89, 3) := by decide +kernel
theorem dX3_isFree_22 : decode cX3_isFree 22 = .ok (.iconst (-1), 1) := by decide +kernel
theorem dX3_isFree_23 : decode cX3_isFree 23 = .ok (.if_icmp .ne 7, 3) := by decide +kernel
theorem dX3_isFree_26 : decode cX3_isFree 26 = .ok (.iconst 1, 1) := by decide +kernel
theorem dX3_isFree_27 : decode cX3_isFree 27 = .ok (.goto 4, 3) := by decide +kernel
theorem dX3_isFree_30 : decode cX3_isFree 30 = .ok (.iconst 0, 1) := by decide +kernel
theorem dX3_isFree_31 : decode cX3_isFree 31 = .ok (.ireturn, 1) := by decide +kernel
theorem dX3_isPaired_0 : decode cX3_isPaired 0 = .ok (.aload_n 0, 1) := by decide +kernel
theorem dX3_isPaired_1 : decode cX3_isPaired 1 = .ok (.iload_n 2, 1) := by decide +kernel
theorem dX3_isPaired_2 : decode cX3_isPaired 2 = .ok (.invokevirtual 86, 3) := by decide +kernel
theorem dX3_isPaired_5 : decode cX3_isPaired 5 = .ok (.astore_n 3, 1) := by decide +kernel
theorem dX3_isPaired_6 : decode cX3_isPaired 6 = .ok (.aload_n 3, 1) := by decide +kernel
theorem dX3_isPaired_7 : decode cX3_isPaired 7 = .ok (.ifnull 15, 3) := by decide +kernel
theorem dX3_isPaired_10 : decode cX3_isPaired 10 = .ok (.aload_n 3, 1) := by decide +kernel
theorem dX3_isPaired_11 : decode cX3_isPaired 11 = .ok (.getfield 79, 3) := by decide +kernel
theorem dX3_isPaired_14 : decode cX3_isPaired 14 = .ok (.iload_n 1, 1) := by decide +kernel
theorem dX3_isPaired_15 : decode cX3_isPaired 15 = .ok (.if_icmp .ne 7, 3) := by decide +kernel
theorem dX3_isPaired_18 : decode cX3_isPaired 18 = .ok (.iconst 1, 1) := by decide +kernel
theorem dX3_isPaired_19 : decode cX3_isPaired 19 = .ok (.goto 4, 3) := by decide +kernel
theorem dX3_isPaired_22 : decode cX3_isPaired 22 = .ok (.iconst 0, 1) := by decide +kernel
theorem dX3_isPaired_23 : decode cX3_isPaired 23 = .ok (.ireturn, 1) := by decide +kernel
theorem dX3_hasSiblingOf_0 : decode cX3_hasSiblingOf 0 = .ok (.aload_n 0, 1) := by decide +kernel
theorem dX3_hasSiblingOf_1 : decode cX3_hasSiblingOf 1 = .ok (.aload_n 0, 1) := by decide +kernel
theorem dX3_hasSiblingOf_2 : decode cX3_hasSiblingOf 2 = .ok (.getfield 30, 3) := by decide +kernel
theorem dX3_hasSiblingOf_5 : decode cX3_hasSiblingOf 5 = .ok (.iload_n 2, 1) := by decide +kernel
theorem dX3_hasSiblingOf_6 : decode cX3_hasSiblingOf 6 = .ok (.iaload, 1) := by decide +kernel
theorem dX3_hasSiblingOf_7 : decode cX3_hasSiblingOf 7 = .ok (.invokevirtual 82, 3) := by decide +kernel
theorem dX3_hasSiblingOf_10 : decode cX3_hasSiblingOf 10 = .ok (.ifCond .eq 19, 3) := by decide +kernel
theorem dX3_hasSiblingOf_13 : decode cX3_hasSiblingOf 13 = .ok (.aload_n 0, 1) := by decide +kernel
theorem dX3_hasSiblingOf_14 : decode cX3_hasSiblingOf 14 = .ok (.iload_n 1, 1) := by decide +kernel
theorem dX3_hasSiblingOf_15 : decode cX3_hasSiblingOf 15 = .ok (.aload_n 0, 1) := by decide +kernel
theorem dX3_hasSiblingOf_16 : decode cX3_hasSiblingOf 16 = .ok (.getfield 30, 3) := by decide +kernel
theorem dX3_hasSiblingOf_19 : decode cX3_hasSiblingOf 19 = .ok (.iload_n 2, 1) := by decide +kernel
theorem dX3_hasSiblingOf_20 : decode cX3_hasSiblingOf 20 = .ok (.iaload, 1) := by decide +kernel
theorem dX3_hasSiblingOf_21 : decode cX3_hasSiblingOf 21 = .ok (.invokevirtual 93, 3) := by decide +kernel
theorem dX3_hasSiblingOf_24 : decode cX3_hasSiblingOf 24 = .ok (.ifCond .eq 5, 3) := by decide +kernel
theorem dX3_hasSiblingOf_27 : decode cX3_hasSiblingOf 27 = .ok (.iconst 1, 1) := by decide +kernel
theorem dX3_hasSiblingOf_28 : decode cX3_hasSiblingOf 28 = .ok (.ireturn, 1) := by decide +kernel
theorem dX3_hasSiblingOf_29 : decode cX3_hasSiblingOf 29 = .ok (.iconst 0, 1) := by decide +kernel
theorem dX3_hasSiblingOf_30 : decode cX3_hasSiblingOf 30 = .ok (.istore_n 3, 1) := by decide +kernel
theorem dX3_hasSiblingOf_31 : decode cX3_hasSiblingOf 31 = .ok (.iload_n 3, 1) := by decide +kernel
theorem dX3_hasSiblingOf_32 : decode cX3_hasSiblingOf 32 = .ok (.aload_n 0, 1) := by decide +kernel
theorem dX3_hasSiblingOf_33 : decode cX3_hasSiblingOf 33 = .ok (.getfield 59, 3) := by decide +kernel
theorem dX3_hasSiblingOf_36 : decode cX3_hasSiblingOf 36 = .ok (.if_icmp .ge 30, 3) := by decide +kernel
theorem dX3_hasSiblingOf_39 : decode cX3_hasSiblingOf 39 = .ok (.aload_n 0, 1) := by decide +kernel
theorem dX3_hasSiblingOf_40 : decode cX3_hasSiblingOf 40 = .ok (.getfield 30, 3) := by decide +kernel
theorem dX3_hasSiblingOf_43 : decode cX3_hasSiblingOf 43 = .ok (.iload_n 3, 1) := by decide +kernel
theorem dX3_hasSiblingOf_44 : decode cX3_hasSiblingOf 44 = .ok (.iaload, 1) := by decide +kernel
theorem dX3_hasSiblingOf_45 : decode cX3_hasSiblingOf 45 = .ok (.iload_n 2, 1) := by decide +kernel
theorem dX3_hasSiblingOf_46 : decode cX3_hasSiblingOf 46 = .ok (.if_icmp .ne 14, 3) := by decide +kernel
theorem dX3_hasSiblingOf_49 : decode cX3_hasSiblingOf 49 = .ok (.aload_n 0, 1) := by decide +kernel
theorem dX3_hasSiblingOf_50 : decode cX3_hasSiblingOf 50 = .ok (.iload_n 1, 1) := by decide +kernel
theorem dX3_hasSiblingOf_51 : decode cX3_hasSiblingOf 51 = .ok (.iload_n 3, 1) := by decide +kernel
theorem dX3_hasSiblingOf_52 : decode cX3_hasSiblingOf 52 = .ok (.invokevirtual 93, 3) := by decide +kernel
theorem dX3_hasSiblingOf_55 : decode cX3_hasSiblingOf 55 = .ok (.ifCond .eq 5, 3) := by decide +kernel
theorem dX3_hasSiblingOf_58 : decode cX3_hasSiblingOf 58 = .ok (.iconst 1, 1) := by decide +kernel
theorem dX3_hasSiblingOf_59 : decode cX3_hasSiblingOf 59 = .ok (.ireturn, 1) := by decide +kernel
theorem dX3_hasSiblingOf_60 : decode cX3_hasSiblingOf 60 = .ok (.iinc 3 1, 3) := by decide +kernel
theorem dX3_hasSiblingOf_63 : decode cX3_hasSiblingOf 63 = .ok (.goto (-32), 3) := by decide +kernel
theorem dX3_hasSiblingOf_66 : decode cX3_hasSiblingOf 66 = .ok (.iconst 0, 1) := by decide +kernel
theorem dX3_hasSiblingOf_67 : decode cX3_hasSiblingOf 67 = .ok (.ireturn, 1) := by decide +kernel
theorem dX3_tellLeaving_0 : decode cX3_tellLeaving 0 = .ok (.aload_n 0, 1) := by decide +kernel
theorem dX3_tellLeaving_1 : decode cX3_tellLeaving 1 = .ok (.getfield 97, 3) := by decide +kernel
theorem dX3_tellLeaving_4 : decode cX3_tellLeaving 4 = .ok (.bipush 100, 2) := by decide +kernel
theorem dX3_tellLeaving_6 : decode cX3_tellLeaving 6 = .ok (.if_icmp .lt 4, 3) := by decide +kernel
theorem dX3_tellLeaving_9 : decode cX3_tellLeaving 9 = .ok (.return_, 1) := by decide +kernel
theorem dX3_tellLeaving_10 : decode cX3_tellLeaving 10 = .ok (.aload_n 0, 1) := by decide +kernel
theorem dX3_tellLeaving_11 : decode cX3_tellLeaving 11 = .ok (.getfield 39, 3) := by decide +kernel
theorem dX3_tellLeaving_14 : decode cX3_tellLeaving 14 = .ok (.aload_n 0, 1) := by decide +kernel
theorem dX3_tellLeaving_15 : decode cX3_tellLeaving 15 = .ok (.getfield 97, 3) := by decide +kernel
theorem dX3_tellLeaving_18 : decode cX3_tellLeaving 18 = .ok (.iload_n 1, 1) := by decide +kernel
theorem dX3_tellLeaving_19 : decode cX3_tellLeaving 19 = .ok (.iastore, 1) := by decide +kernel
theorem dX3_tellLeaving_20 : decode cX3_tellLeaving 20 = .ok (.aload_n 0, 1) := by decide +kernel
theorem dX3_tellLeaving_21 : decode cX3_tellLeaving 21 = .ok (.getfield 42, 3) := by decide +kernel
theorem dX3_tellLeaving_24 : decode cX3_tellLeaving 24 = .ok (.aload_n 0, 1) := by decide +kernel
theorem dX3_tellLeaving_25 : decode cX3_tellLeaving 25 = .ok (.getfield 97, 3) := by decide +kernel
theorem dX3_tellLeaving_28 : decode cX3_tellLeaving 28 = .ok (.iload_n 3, 1) := by decide +kernel
theorem dX3_tellLeaving_29 : decode cX3_tellLeaving 29 = .ok (.iastore, 1) := by decide +kernel
theorem dX3_tellLeaving_30 : decode cX3_tellLeaving 30 = .ok (.aload_n 0, 1) := by decide +kernel
theorem dX3_tellLeaving_31 : decode cX3_tellLeaving 31 = .ok (.getfield 45, 3) := by decide +kernel
theorem dX3_tellLeaving_34 : decode cX3_tellLeaving 34 = .ok (.aload_n 0, 1) := by decide +kernel
theorem dX3_tellLeaving_35 : decode cX3_tellLeaving 35 = .ok (.getfield 97, 3) := by decide +kernel
theorem dX3_tellLeaving_38 : decode cX3_tellLeaving 38 = .ok (.iload_n 2, 1) := by decide +kernel
theorem dX3_tellLeaving_39 : decode cX3_tellLeaving 39 = .ok (.iastore, 1) := by decide +kernel
theorem dX3_tellLeaving_40 : decode cX3_tellLeaving 40 = .ok (.aload_n 0, 1) := by decide +kernel
theorem dX3_tellLeaving_41 : decode cX3_tellLeaving 41 = .ok (.dup, 1) := by decide +kernel
theorem dX3_tellLeaving_42 : decode cX3_tellLeaving 42 = .ok (.getfield 97, 3) := by decide +kernel
theorem dX3_tellLeaving_45 : decode cX3_tellLeaving 45 = .ok (.iconst 1, 1) := by decide +kernel
theorem dX3_tellLeaving_46 : decode cX3_tellLeaving 46 = .ok (.iadd, 1) := by decide +kernel
theorem dX3_tellLeaving_47 : decode cX3_tellLeaving 47 = .ok (.putfield 97, 3) := by decide +kernel
theorem dX3_tellLeaving_50 : decode cX3_tellLeaving 50 = .ok (.aload_n 0, 1) := by decide +kernel
theorem dX3_tellLeaving_51 : decode cX3_tellLeaving 51 = .ok (.iload_n 1, 1) := by decide +kernel
theorem dX3_tellLeaving_52 : decode cX3_tellLeaving 52 = .ok (.invokevirtual 86, 3) := by decide +kernel
theorem dX3_tellLeaving_55 : decode cX3_tellLeaving 55 = .ok (.astore 4, 2) := by decide +kernel
theorem dX3_tellLeaving_57 : decode cX3_tellLeaving 57 = .ok (.iload_n 2, 1) := by decide +kernel
theorem dX3_tellLeaving_58 : decode cX3_tellLeaving 58 = .ok (.iconst (-1), 1) := by decide +kernel
theorem dX3_tellLeaving_59 : decode cX3_tellLeaving 59 = .ok (.if_icmp .eq 14, 3) := by decide +kernel
theorem dX3_tellLeaving_62 : decode cX3_tellLeaving 62 = .ok (.aload 4, 2) := by decide +kernel
theorem dX3_tellLeaving_64 : decode cX3_tellLeaving 64 = .ok (.ifnull 9, 3) := by decide +kernel
theorem dX3_tellLeaving_67 : decode cX3_tellLeaving 67 = .ok (.aload 4, 2) := by decide +kernel
theorem dX3_tellLeaving_69 : decode cX3_tellLeaving 69 = .ok (.iload_n 3, 1) := by decide +kernel
theorem dX3_tellLeaving_70 : decode cX3_tellLeaving 70 = .ok (.putfield 100, 3) := by decide +kernel
theorem dX3_tellLeaving_73 : decode cX3_tellLeaving 73 = .ok (.return_, 1) := by decide +kernel
theorem dX3_leftAsKnown_0 : decode cX3_leftAsKnown 0 = .ok (.aload_n 0, 1) := by decide +kernel
theorem dX3_leftAsKnown_1 : decode cX3_leftAsKnown 1 = .ok (.getfield 97, 3) := by decide +kernel
theorem dX3_leftAsKnown_4 : decode cX3_leftAsKnown 4 = .ok (.iconst 1, 1) := by decide +kernel
theorem dX3_leftAsKnown_5 : decode cX3_leftAsKnown 5 = .ok (.isub, 1) := by decide +kernel
theorem dX3_leftAsKnown_6 : decode cX3_leftAsKnown 6 = .ok (.istore_n 3, 1) := by decide +kernel
theorem dX3_leftAsKnown_7 : decode cX3_leftAsKnown 7 = .ok (.iload_n 3, 1) := by decide +kernel
theorem dX3_leftAsKnown_8 : decode cX3_leftAsKnown 8 = .ok (.ifCond .lt 36, 3) := by decide +kernel
theorem dX3_leftAsKnown_11 : decode cX3_leftAsKnown 11 = .ok (.aload_n 0, 1) := by decide +kernel
theorem dX3_leftAsKnown_12 : decode cX3_leftAsKnown 12 = .ok (.getfield 39, 3) := by decide +kernel
theorem dX3_leftAsKnown_15 : decode cX3_leftAsKnown 15 = .ok (.iload_n 3, 1) := by decide +kernel
theorem dX3_leftAsKnown_16 : decode cX3_leftAsKnown 16 = .ok (.iaload, 1) := by decide +kernel
theorem dX3_leftAsKnown_17 : decode cX3_leftAsKnown 17 = .ok (.iload_n 1, 1) := by decide +kernel
theorem dX3_leftAsKnown_18 : decode cX3_leftAsKnown 18 = .ok (.if_icmp .ne 20, 3) := by decide +kernel
theorem dX3_leftAsKnown_21 : decode cX3_leftAsKnown 21 = .ok (.aload_n 0, 1) := by decide +kernel
theorem dX3_leftAsKnown_22 : decode cX3_leftAsKnown 22 = .ok (.getfield 42, 3) := by decide +kernel
theorem dX3_leftAsKnown_25 : decode cX3_leftAsKnown 25 = .ok (.iload_n 3, 1) := by decide +kernel
theorem dX3_leftAsKnown_26 : decode cX3_leftAsKnown 26 = .ok (.iaload, 1) := by decide +kernel
theorem dX3_leftAsKnown_27 : decode cX3_leftAsKnown 27 = .ok (.iload_n 2, 1) := by decide +kernel
theorem dX3_leftAsKnown_28 : decode cX3_leftAsKnown 28 = .ok (.if_icmp .gt 10, 3) := by decide +kernel
theorem dX3_leftAsKnown_31 : decode cX3_leftAsKnown 31 = .ok (.aload_n 0, 1) := by decide +kernel
theorem dX3_leftAsKnown_32 : decode cX3_leftAsKnown 32 = .ok (.getfield 45, 3) := by decide +kernel
theorem dX3_leftAsKnown_35 : decode cX3_leftAsKnown 35 = .ok (.iload_n 3, 1) := by decide +kernel
theorem dX3_leftAsKnown_36 : decode cX3_leftAsKnown 36 = .ok (.iaload, 1) := by decide +kernel
theorem dX3_leftAsKnown_37 : decode cX3_leftAsKnown 37 = .ok (.ireturn, 1) := by decide +kernel
theorem dX3_leftAsKnown_38 : decode cX3_leftAsKnown 38 = .ok (.iinc 3 (-1), 3) := by decide +kernel
theorem dX3_leftAsKnown_41 : decode cX3_leftAsKnown 41 = .ok (.goto (-34), 3) := by decide +kernel
theorem dX3_leftAsKnown_44 : decode cX3_leftAsKnown 44 = .ok (.iconst (-1), 1) := by decide +kernel
theorem dX3_leftAsKnown_45 : decode cX3_leftAsKnown 45 = .ok (.ireturn, 1) := by decide +kernel
theorem dX3_isOneTongue_0 : decode cX3_isOneTongue 0 = .ok (.aload_n 0, 1) := by decide +kernel
theorem dX3_isOneTongue_1 : decode cX3_isOneTongue 1 = .ok (.getfield 18, 3) := by decide +kernel
theorem dX3_isOneTongue_4 : decode cX3_isOneTongue 4 = .ok (.aload_n 1, 1) := by decide +kernel
theorem dX3_isOneTongue_5 : decode cX3_isOneTongue 5 = .ok (.getfield 79, 3) := by decide +kernel
theorem dX3_isOneTongue_8 : decode cX3_isOneTongue 8 = .ok (.iaload, 1) := by decide +kernel
theorem dX3_isOneTongue_9 : decode cX3_isOneTongue 9 = .ok (.aload_n 0, 1) := by decide +kernel
theorem dX3_isOneTongue_10 : decode cX3_isOneTongue 10 = .ok (.getfield 24, 3) := by decide +kernel
theorem dX3_isOneTongue_13 : decode cX3_isOneTongue 13 = .ok (.aload_n 1, 1) := by decide +kernel
theorem dX3_isOneTongue_14 : decode cX3_isOneTongue 14 = .ok (.getfield 76, 3) := by decide +kernel
theorem dX3_isOneTongue_17 : decode cX3_isOneTongue 17 = .ok (.iaload, 1) := by decide +kernel
theorem dX3_isOneTongue_18 : decode cX3_isOneTongue 18 = .ok (.if_icmp .ne 7, 3) := by decide +kernel
theorem dX3_isOneTongue_21 : decode cX3_isOneTongue 21 = .ok (.iconst 1, 1) := by decide +kernel
theorem dX3_isOneTongue_22 : decode cX3_isOneTongue 22 = .ok (.goto 4, 3) := by decide +kernel
theorem dX3_isOneTongue_25 : decode cX3_isOneTongue 25 = .ok (.iconst 0, 1) := by decide +kernel
theorem dX3_isOneTongue_26 : decode cX3_isOneTongue 26 = .ok (.ireturn, 1) := by decide +kernel
theorem dX3_tonguesBit_0 : decode cX3_tonguesBit 0 = .ok (.aload_n 0, 1) := by decide +kernel
theorem dX3_tonguesBit_1 : decode cX3_tonguesBit 1 = .ok (.getfield 18, 3) := by decide +kernel
theorem dX3_tonguesBit_4 : decode cX3_tonguesBit 4 = .ok (.aload_n 1, 1) := by decide +kernel
theorem dX3_tonguesBit_5 : decode cX3_tonguesBit 5 = .ok (.getfield 103, 3) := by decide +kernel
theorem dX3_tonguesBit_8 : decode cX3_tonguesBit 8 = .ok (.getfield 79, 3) := by decide +kernel
theorem dX3_tonguesBit_11 : decode cX3_tonguesBit 11 = .ok (.iaload, 1) := by decide +kernel
theorem dX3_tonguesBit_12 : decode cX3_tonguesBit 12 = .ok (.istore_n 2, 1) := by decide +kernel
theorem dX3_tonguesBit_13 : decode cX3_tonguesBit 13 = .ok (.aload_n 0, 1) := by decide +kernel
theorem dX3_tonguesBit_14 : decode cX3_tonguesBit 14 = .ok (.getfield 24, 3) := by decide +kernel
theorem dX3_tonguesBit_17 : decode cX3_tonguesBit 17 = .ok (.aload_n 1, 1) := by decide +kernel
theorem dX3_tonguesBit_18 : decode cX3_tonguesBit 18 = .ok (.getfield 103, 3) := by decide +kernel
theorem dX3_tonguesBit_21 : decode cX3_tonguesBit 21 = .ok (.getfield 76, 3) := by decide +kernel
theorem dX3_tonguesBit_24 : decode cX3_tonguesBit 24 = .ok (.iaload, 1) := by decide +kernel
theorem dX3_tonguesBit_25 : decode cX3_tonguesBit 25 = .ok (.istore_n 3, 1) := by decide +kernel
theorem dX3_tonguesBit_26 : decode cX3_tonguesBit 26 = .ok (.aload_n 1, 1) := by decide +kernel
theorem dX3_tonguesBit_27 : decode cX3_tonguesBit 27 = .ok (.getfield 109, 3) := by decide +kernel
theorem dX3_tonguesBit_30 : decode cX3_tonguesBit 30 = .ok (.ifCond .ne 12, 3) := by decide +kernel
theorem dX3_tonguesBit_33 : decode cX3_tonguesBit 33 = .ok (.bipush 6, 2) := by decide +kernel
theorem dX3_tonguesBit_35 : decode cX3_tonguesBit 35 = .ok (.iload_n 2, 1) := by decide +kernel
theorem dX3_tonguesBit_36 : decode cX3_tonguesBit 36 = .ok (.imul, 1) := by decide +kernel
theorem dX3_tonguesBit_37 : decode cX3_tonguesBit 37 = .ok (.iload_n 3, 1) := by decide +kernel
theorem dX3_tonguesBit_38 : decode cX3_tonguesBit 38 = .ok (.iadd, 1) := by decide +kernel
theorem dX3_tonguesBit_39 : decode cX3_tonguesBit 39 = .ok (.goto 9, 3) := by decide +kernel
theorem dX3_tonguesBit_42 : decode cX3_tonguesBit 42 = .ok (.bipush 6, 2) := by decide +kernel
theorem dX3_tonguesBit_44 : decode cX3_tonguesBit 44 = .ok (.iload_n 3, 1) := by decide +kernel
theorem dX3_tonguesBit_45 : decode cX3_tonguesBit 45 = .ok (.imul, 1) := by decide +kernel
theorem dX3_tonguesBit_46 : decode cX3_tonguesBit 46 = .ok (.iload_n 2, 1) := by decide +kernel
theorem dX3_tonguesBit_47 : decode cX3_tonguesBit 47 = .ok (.iadd, 1) := by decide +kernel
theorem dX3_tonguesBit_48 : decode cX3_tonguesBit 48 = .ok (.ireturn, 1) := by decide +kernel
theorem dX3_isFlooded_0 : decode cX3_isFlooded 0 = .ok (.aload_n 0, 1) := by decide +kernel
theorem dX3_isFlooded_1 : decode cX3_isFlooded 1 = .ok (.getfield 15, 3) := by decide +kernel
theorem dX3_isFlooded_4 : decode cX3_isFlooded 4 = .ok (.iload_n 1, 1) := by decide +kernel
theorem dX3_isFlooded_5 : decode cX3_isFlooded 5 = .ok (.iaload, 1) := by decide +kernel
theorem dX3_isFlooded_6 : decode cX3_isFlooded 6 = .ok (.iload_n 2, 1) := by decide +kernel
theorem dX3_isFlooded_7 : decode cX3_isFlooded 7 = .ok (.bipush 30, 2) := by decide +kernel
theorem dX3_isFlooded_9 : decode cX3_isFlooded 9 = .ok (.idiv, 1) := by decide +kernel
theorem dX3_isFlooded_10 : decode cX3_isFlooded 10 = .ok (.bipush 12, 2) := by decide +kernel
theorem dX3_isFlooded_12 : decode cX3_isFlooded 12 = .ok (.irem, 1) := by decide +kernel
theorem dX3_isFlooded_13 : decode cX3_isFlooded 13 = .ok (.ishr, 1) := by decide +kernel
theorem dX3_isFlooded_14 : decode cX3_isFlooded 14 = .ok (.iconst 1, 1) := by decide +kernel
theorem dX3_isFlooded_15 : decode cX3_isFlooded 15 = .ok (.iand, 1) := by decide +kernel
theorem dX3_isFlooded_16 : decode cX3_isFlooded 16 = .ok (.ifCond .eq 7, 3) := by decide +kernel
theorem dX3_isFlooded_19 : decode cX3_isFlooded 19 = .ok (.iconst 1, 1) := by decide +kernel
theorem dX3_isFlooded_20 : decode cX3_isFlooded 20 = .ok (.goto 4, 3) := by decide +kernel
theorem dX3_isFlooded_23 : decode cX3_isFlooded 23 = .ok (.iconst 0, 1) := by decide +kernel
theorem dX3_isFlooded_24 : decode cX3_isFlooded 24 = .ok (.ireturn, 1) := by decide +kernel
theorem dX4_init_0 : decode cX4_init 0 = .ok (.aload_n 0, 1) := by decide +kernel
theorem dX4_init_1 : decode cX4_init 1 = .ok (.invokespecial 3, 3) := by decide +kernel
theorem dX4_init_4 : decode cX4_init 4 = .ok (.aload_n 0, 1) := by decide +kernel
theorem dX4_init_5 : decode cX4_init 5 = .ok (.iconst 4, 1) := by decide +kernel
theorem dX4_init_6 : decode cX4_init 6 = .ok (.newarray .int, 2) := by decide +kernel
theorem dX4_init_8 : decode cX4_init 8 = .ok (.putfield 9, 3) := by decide +kernel
theorem dX4_init_11 : decode cX4_init 11 = .ok (.aload_n 0, 1) := by decide +kernel
theorem dX4_init_12 : decode cX4_init 12 = .ok (.bipush 6, 2) := by decide +kernel
theorem dX4_init_14 : decode cX4_init 14 = .ok (.newarray .int, 2) := by decide +kernel
theorem dX4_init_16 : decode cX4_init 16 = .ok (.putfield 15, 3) := by decide +kernel
theorem dX4_init_19 : decode cX4_init 19 = .ok (.aload_n 0, 1) := by decide +kernel
theorem dX4_init_20 : decode cX4_init 20 = .ok (.aload_n 1, 1) := by decide +kernel
theorem dX4_init_21 : decode cX4_init 21 = .ok (.putfield 18, 3) := by decide +kernel
theorem dX4_init_24 : decode cX4_init 24 = .ok (.aload_n 0, 1) := by decide +kernel
theorem dX4_init_25 : decode cX4_init 25 = .ok (.iload_n 2, 1) := by decide +kernel
theorem dX4_init_26 : decode cX4_init 26 = .ok (.putfield 22, 3) := by decide +kernel
theorem dX4_init_29 : decode cX4_init 29 = .ok (.aload_n 0, 1) := by decide +kernel
theorem dX4_init_30 : decode cX4_init 30 = .ok (.iconst 0, 1) := by decide +kernel
theorem dX4_init_31 : decode cX4_init 31 = .ok (.iload 5, 2) := by decide +kernel
theorem dX4_init_33 : decode cX4_init 33 = .ok (.aload 4, 2) := by decide +kernel
theorem dX4_init_35 : decode cX4_init 35 = .ok (.arraylength, 1) := by decide +kernel
theorem dX4_init_36 : decode cX4_init 36 = .ok (.invokestatic 26, 3) := by decide +kernel
theorem dX4_init_39 : decode cX4_init 39 = .ok (.invokestatic 32, 3) := by decide +kernel
theorem dX4_init_42 : decode cX4_init 42 = .ok (.putfield 35, 3) := by decide +kernel
theorem dX4_init_45 : decode cX4_init 45 = .ok (.aload_n 0, 1) := by decide +kernel
theorem dX4_init_46 : decode cX4_init 46 = .ok (.aload_n 0, 1) := by decide +kernel
theorem dX4_init_47 : decode cX4_init 47 = .ok (.getfield 35, 3) := by decide +kernel
theorem dX4_init_50 : decode cX4_init 50 = .ok (.newarray .char, 2) := by decide +kernel
theorem dX4_init_52 : decode cX4_init 52 = .ok (.putfield 38, 3) := by decide +kernel
theorem dX4_init_55 : decode cX4_init 55 = .ok (.aload 4, 2) := by decide +kernel
theorem dX4_init_57 : decode cX4_init 57 = .ok (.iconst 0, 1) := by decide +kernel
theorem dX4_init_58 : decode cX4_init 58 = .ok (.aload_n 0, 1) := by decide +kernel
theorem dX4_init_59 : decode cX4_init 59 = .ok (.getfield 38, 3) := by decide +kernel
theorem dX4_init_62 : decode cX4_init 62 = .ok (.iconst 0, 1) := by decide +kernel
theorem dX4_init_63 : decode cX4_init 63 = .ok (.aload_n 0, 1) := by decide +kernel
theorem dX4_init_64 : decode cX4_init 64 = .ok (.getfield 35, 3) := by decide +kernel
theorem dX4_init_67 : decode cX4_init 67 = .ok (.invokestatic 42, 3) := by decide +kernel
theorem dX4_init_70 : decode cX4_init 70 = .ok (.aload_n 0, 1) := by decide +kernel
theorem dX4_init_71 : decode cX4_init 71 = .ok (.iload_n 3, 1) := by decide +kernel
theorem dX4_init_72 : decode cX4_init 72 = .ok (.putfield 48, 3) := by decide +kernel
theorem dX4_init_75 : decode cX4_init 75 = .ok (.aload_n 0, 1) := by decide +kernel
theorem dX4_init_76 : decode cX4_init 76 = .ok (.iconst 0, 1) := by decide +kernel
theorem dX4_init_77 : decode cX4_init 77 = .ok (.putfield 51, 3) := by decide +kernel
theorem dX4_init_80 : decode cX4_init 80 = .ok (.aload_n 0, 1) := by decide +kernel
theorem dX4_init_81 : decode cX4_init 81 = .ok (.iload_n 3, 1) := by decide +kernel
theorem dX4_init_82 : decode cX4_init 82 = .ok (.putfield 54, 3) := by decide +kernel
theorem dX4_init_85 : decode cX4_init 85 = .ok (.aload_n 0, 1) := by decide +kernel
theorem dX4_init_86 : decode cX4_init 86 = .ok (.iconst (-1), 1) := by decide +kernel
theorem dX4_init_87 : decode cX4_init 87 = .ok (.putfield 57, 3) := by decide +kernel
theorem dX4_init_90 : decode cX4_init 90 = .ok (.aload_n 0, 1) := by decide +kernel
theorem dX4_init_91 : decode cX4_init 91 = .ok (.iconst (-1), 1) := by decide +kernel
theorem dX4_init_92 : decode cX4_init 92 = .ok (.putfield 60, 3) := by decide +kernel
theorem dX4_init_95 : decode cX4_init 95 = .ok (.return_, 1) := by decide +kernel
theorem dX4_move_0 : decode cX4_move 0 = .ok (.aload_n 0, 1) := by decide +kernel
theorem dX4_move_1 : decode cX4_move 1 = .ok (.iload_n 1, 1) := by decide +kernel
theorem dX4_move_2 : decode cX4_move 2 = .ok (.putfield 51, 3) := by decide +kernel
theorem dX4_move_5 : decode cX4_move 5 = .ok (.aload_n 0, 1) := by decide +kernel
theorem dX4_move_6 : decode cX4_move 6 = .ok (.iload_n 2, 1) := by decide +kernel
theorem dX4_move_7 : decode cX4_move 7 = .ok (.putfield 54, 3) := by decide +kernel
theorem dX4_move_10 : decode cX4_move 10 = .ok (.return_, 1) := by decide +kernel
theorem dX4_cut_0 : decode cX4_cut 0 = .ok (.iconst 0, 1) := by decide +kernel
theorem dX4_cut_1 : decode cX4_cut 1 = .ok (.istore_n 3, 1) := by decide +kernel
theorem dX4_cut_2 : decode cX4_cut 2 = .ok (.iconst 0, 1) := by decide +kernel
theorem dX4_cut_3 : decode cX4_cut 3 = .ok (.istore 4, 2) := by decide +kernel
theorem dX4_cut_5 : decode cX4_cut 5 = .ok (.iconst 0, 1) := by decide +kernel
theorem dX4_cut_6 : decode cX4_cut 6 = .ok (.istore 5, 2) := by decide +kernel
theorem dX4_cut_8 : decode cX4_cut 8 = .ok (.iload 5, 2) := by decide +kernel
theorem dX4_cut_10 : decode cX4_cut 10 = .ok (.aload_n 2, 1) := by decide +kernel
theorem dX4_cut_11 : decode cX4_cut 11 = .ok (.getfield 63, 3) := by decide +kernel
theorem dX4_cut_14 : decode cX4_cut 14 = .ok (.if_icmp .ge 82, 3) := by decide +kernel
theorem dX4_cut_17 : decode cX4_cut 17 = .ok (.aload_n 1, 1) := by decide +kernel
theorem dX4_cut_18 : decode cX4_cut 18 = .ok (.getfield 68, 3) := by decide +kernel
theorem dX4_cut_21 : decode cX4_cut 21 = .ok (.aload_n 2, 1) := by decide +kernel
theorem dX4_cut_22 : decode cX4_cut 22 = .ok (.getfield 73, 3) := by decide +kernel
theorem dX4_cut_25 : decode cX4_cut 25 = .ok (.iload 5, 2) := by decide +kernel
theorem dX4_cut_27 : decode cX4_cut 27 = .ok (.iaload, 1) := by decide +kernel
theorem dX4_cut_28 : decode cX4_cut 28 = .ok (.iaload, 1) := by decide +kernel
theorem dX4_cut_29 : decode cX4_cut 29 = .ok (.bipush 99, 2) := by decide +kernel
theorem dX4_cut_31 : decode cX4_cut 31 = .ok (.if_icmp .eq 6, 3) := by decide +kernel
theorem dX4_cut_34 : decode cX4_cut 34 = .ok (.goto 56, 3) := by decide +kernel
theorem dX4_cut_37 : decode cX4_cut 37 = .ok (.aload_n 0, 1) := by decide +kernel
theorem dX4_cut_38 : decode cX4_cut 38 = .ok (.iload_n 3, 1) := by decide +kernel
theorem dX4_cut_39 : decode cX4_cut 39 = .ok (.iload 4, 2) := by decide +kernel
theorem dX4_cut_41 : decode cX4_cut 41 = .ok (.aload_n 2, 1) := by decide +kernel
theorem dX4_cut_42 : decode cX4_cut 42 = .ok (.getfield 76, 3) := by decide +kernel
theorem dX4_cut_45 : decode cX4_cut 45 = .ok (.iload 5, 2) := by decide +kernel
theorem dX4_cut_47 : decode cX4_cut 47 = .ok (.iaload, 1) := by decide +kernel
theorem dX4_cut_48 : decode cX4_cut 48 = .ok (.invokevirtual 79, 3) := by decide +kernel
theorem dX4_cut_51 : decode cX4_cut 51 = .ok (.istore_n 3, 1) := by decide +kernel
theorem dX4_cut_52 : decode cX4_cut 52 = .ok (.aload_n 0, 1) := by decide +kernel
theorem dX4_cut_53 : decode cX4_cut 53 = .ok (.getfield 38, 3) := by decide +kernel
theorem dX4_cut_56 : decode cX4_cut 56 = .ok (.iload_n 3, 1) := by decide +kernel
theorem dX4_cut_57 : decode cX4_cut 57 = .ok (.bipush 120, 2) := by decide +kernel
theorem dX4_cut_59 : decode cX4_cut 59 = .ok (.castore, 1) := by decide +kernel
theorem dX4_cut_60 : decode cX4_cut 60 = .ok (.iinc 3 1, 3) := by decide +kernel
theorem dX4_cut_63 : decode cX4_cut 63 = .ok (.aload_n 2, 1) := by decide +kernel
theorem dX4_cut_64 : decode cX4_cut 64 = .ok (.getfield 76, 3) := by decide +kernel
theorem dX4_cut_67 : decode cX4_cut 67 = .ok (.iload 5, 2) := by decide +kernel
theorem dX4_cut_69 : decode cX4_cut 69 = .ok (.iaload, 1) := by decide +kernel
theorem dX4_cut_70 : decode cX4_cut 70 = .ok (.aload_n 2, 1) := by decide +kernel
theorem dX4_cut_71 : decode cX4_cut 71 = .ok (.getfield 83, 3) := by decide +kernel
theorem dX4_cut_74 : decode cX4_cut 74 = .ok (.iload 5, 2) := by decide +kernel
theorem dX4_cut_76 : decode cX4_cut 76 = .ok (.iaload, 1) := by decide +kernel
theorem dX4_cut_77 : decode cX4_cut 77 = .ok (.iadd, 1) := by decide +kernel
theorem dX4_cut_78 : decode cX4_cut 78 = .ok (.istore 4, 2) := by decide +kernel
theorem dX4_cut_80 : decode cX4_cut 80 = .ok (.aload_n 0, 1) := by decide +kernel
theorem dX4_cut_81 : decode cX4_cut 81 = .ok (.dup, 1) := by decide +kernel
theorem dX4_cut_82 : decode cX4_cut 82 = .ok (.getfield 85, 3) := by decide +kernel
theorem dX4_cut_85 : decode cX4_cut 85 = .ok (.iconst 1, 1) := by decide +kernel
theorem dX4_cut_86 : decode cX4_cut 86 = .ok (.iadd, 1) := by decide +kernel
theorem dX4_cut_87 : decode cX4_cut 87 = .ok (.putfield 85, 3) := by decide +kernel
theorem dX4_cut_90 : decode cX4_cut 90 = .ok (.iinc 5 1, 3) := by decide +kernel
theorem dX4_cut_93 : decode cX4_cut 93 = .ok (.goto (-85), 3) := by decide +kernel
theorem dX4_cut_96 : decode cX4_cut 96 = .ok (.aload_n 0, 1) := by decide +kernel
theorem dX4_cut_97 : decode cX4_cut 97 = .ok (.aload_n 0, 1) := by decide +kernel
theorem dX4_cut_98 : decode cX4_cut 98 = .ok (.iload_n 3, 1) := by decide +kernel
theorem dX4_cut_99 : decode cX4_cut 99 = .ok (.iload 4, 2) := by decide +kernel
theorem dX4_cut_101 : decode cX4_cut 101 = .ok (.aload_n 0, 1) := by decide +kernel
theorem dX4_cut_102 : decode cX4_cut 102 = .ok (.getfield 35, 3) := by decide +kernel
theorem dX4_cut_105 : decode cX4_cut 105 = .ok (.invokevirtual 79, 3) := by decide +kernel
theorem dX4_cut_108 : decode cX4_cut 108 = .ok (.putfield 35, 3) := by decide +kernel
theorem dX4_cut_111 : decode cX4_cut 111 = .ok (.return_, 1) := by decide +kernel
theorem dX4_keep_0 : decode cX4_keep 0 = .ok (.iload_n 1, 1) := by decide +kernel
theorem dX4_keep_1 : decode cX4_keep 1 = .ok (.istore 4, 2) := by decide +kernel
theorem dX4_keep_3 : decode cX4_keep 3 = .ok (.iload_n 2, 1) := by decide +kernel
theorem dX4_keep_4 : decode cX4_keep 4 = .ok (.istore 5, 2) := by decide +kernel
theorem dX4_keep_6 : decode cX4_keep 6 = .ok (.iload 5, 2) := by decide +kernel
theorem dX4_keep_8 : decode cX4_keep 8 = .ok (.iload_n 3, 1) := by decide +kernel
theorem dX4_keep_9 : decode cX4_keep 9 = .ok (.if_icmp .ge 26, 3) := by decide +kernel
theorem dX4_keep_12 : decode cX4_keep 12 = .ok (.aload_n 0, 1) := by decide +kernel
theorem dX4_keep_13 : decode cX4_keep 13 = .ok (.getfield 38, 3) := by decide +kernel
theorem dX4_keep_16 : decode cX4_keep 16 = .ok (.iload 4, 2) := by decide +kernel
theorem dX4_keep_18 : decode cX4_keep 18 = .ok (.aload_n 0, 1) := by decide +kernel
theorem dX4_keep_19 : decode cX4_keep 19 = .ok (.getfield 38, 3) := by decide +kernel
theorem dX4_keep_22 : decode cX4_keep 22 = .ok (.iload 5, 2) := by decide +kernel
theorem dX4_keep_24 : decode cX4_keep 24 = .ok (.caload, 1) := by decide +kernel
theorem dX4_keep_25 : decode cX4_keep 25 = .ok (.castore, 1) := by decide +kernel
theorem dX4_keep_26 : decode cX4_keep 26 = .ok (.iinc 4 1, 3) := by decide +kernel
theorem dX4_keep_29 : decode cX4_keep 29 = .ok (.iinc 5 1, 3) := by decide +kernel
theorem dX4_keep_32 : decode cX4_keep 32 = .ok (.goto (-26), 3) := by decide +kernel
theorem dX4_keep_35 : decode cX4_keep 35 = .ok (.iload 4, 2) := by decide +kernel
theorem dX4_keep_37 : decode cX4_keep 37 = .ok (.ireturn, 1) := by decide +kernel
theorem dX4_tell_0 : decode cX4_tell 0 = .ok (.iload_n 1, 1) := by decide +kernel
theorem dX4_tell_1 : decode cX4_tell 1 = .ok (.bipush 10, 2) := by decide +kernel
theorem dX4_tell_3 : decode cX4_tell 3 = .ok (.bipush 15, 2) := by decide +kernel
theorem dX4_tell_5 : decode cX4_tell 5 = .ok (.invokestatic 88, 3) := by decide +kernel
theorem dX4_tell_8 : decode cX4_tell 8 = .ok (.ifCond .eq 13, 3) := by decide +kernel
theorem dX4_tell_11 : decode cX4_tell 11 = .ok (.aload_n 0, 1) := by decide +kernel
theorem dX4_tell_12 : decode cX4_tell 12 = .ok (.getfield 15, 3) := by decide +kernel
theorem dX4_tell_15 : decode cX4_tell 15 = .ok (.iload_n 1, 1) := by decide +kernel
theorem dX4_tell_16 : decode cX4_tell 16 = .ok (.bipush 10, 2) := by decide +kernel
theorem dX4_tell_18 : decode cX4_tell 18 = .ok (.isub, 1) := by decide +kernel
theorem dX4_tell_19 : decode cX4_tell 19 = .ok (.iaload, 1) := by decide +kernel
theorem dX4_tell_20 : decode cX4_tell 20 = .ok (.ireturn, 1) := by decide +kernel
theorem dX4_tell_21 : decode cX4_tell 21 = .ok (.iload_n 1, 1) := by decide +kernel
theorem dX4_tell_22 : decode cX4_tell 22 = .ok (.bipush 20, 2) := by decide +kernel
theorem dX4_tell_24 : decode cX4_tell 24 = .ok (.if_icmp .lt 24, 3) := by decide +kernel
theorem dX4_tell_27 : decode cX4_tell 27 = .ok (.iload_n 1, 1) := by decide +kernel
theorem dX4_tell_28 : decode cX4_tell 28 = .ok (.bipush 20, 2) := by decide +kernel
theorem dX4_tell_30 : decode cX4_tell 30 = .ok (.isub, 1) := by decide +kernel
theorem dX4_tell_31 : decode cX4_tell 31 = .ok (.aload_n 0, 1) := by decide +kernel
theorem dX4_tell_32 : decode cX4_tell 32 = .ok (.getfield 35, 3) := by decide +kernel
theorem dX4_tell_35 : decode cX4_tell 35 = .ok (.if_icmp .ge 13, 3) := by decide +kernel
theorem dX4_tell_38 : decode cX4_tell 38 = .ok (.aload_n 0, 1) := by decide +kernel
theorem dX4_tell_39 : decode cX4_tell 39 = .ok (.getfield 38, 3) := by decide +kernel
theorem dX4_tell_42 : decode cX4_tell 42 = .ok (.iload_n 1, 1) := by decide +kernel
theorem dX4_tell_43 : decode cX4_tell 43 = .ok (.bipush 20, 2) := by decide +kernel
theorem dX4_tell_45 : decode cX4_tell 45 = .ok (.isub, 1) := by decide +kernel
theorem dX4_tell_46 : decode cX4_tell 46 = .ok (.caload, 1) := by decide +kernel
theorem dX4_tell_47 : decode cX4_tell 47 = .ok (.ireturn, 1) := by decide +kernel
theorem dX4_tell_48 : decode cX4_tell 48 = .ok (.iload_n 1, 1) := by decide +kernel
theorem dX4_tell_49 : decode cX4_tell 49 = .ok (.tableswitch 99 0 8 #[51, 56, 64, 69, 74, 79, 84, 89, 94], 51) := by decide +kernel
theorem dX4_tell_100 : decode cX4_tell 100 = .ok (.aload_n 0, 1) := by decide +kernel
theorem dX4_tell_101 : decode cX4_tell 101 = .ok (.getfield 51, 3) := by decide +kernel
theorem dX4_tell_104 : decode cX4_tell 104 = .ok (.ireturn, 1) := by decide +kernel
theorem dX4_tell_105 : decode cX4_tell 105 = .ok (.aload_n 0, 1) := by decide +kernel
theorem dX4_tell_106 : decode cX4_tell 106 = .ok (.getfield 18, 3) := by decide +kernel
theorem dX4_tell_109 : decode cX4_tell 109 = .ok (.getfield 92, 3) := by decide +kernel
theorem dX4_tell_112 : decode cX4_tell 112 = .ok (.ireturn, 1) := by decide +kernel
theorem dX4_tell_113 : decode cX4_tell 113 = .ok (.aload_n 0, 1) := by decide +kernel
theorem dX4_tell_114 : decode cX4_tell 114 = .ok (.getfield 22, 3) := by decide +kernel
theorem dX4_tell_117 : decode cX4_tell 117 = .ok (.ireturn, 1) := by decide +kernel
theorem dX4_tell_118 : decode cX4_tell 118 = .ok (.aload_n 0, 1) := by decide +kernel
theorem dX4_tell_119 : decode cX4_tell 119 = .ok (.getfield 48, 3) := by decide +kernel
theorem dX4_tell_122 : decode cX4_tell 122 = .ok (.ireturn, 1) := by decide +kernel
theorem dX4_tell_123 : decode cX4_tell 123 = .ok (.aload_n 0, 1) := by decide +kernel
theorem dX4_tell_124 : decode cX4_tell 124 = .ok (.getfield 54, 3) := by decide +kernel
theorem dX4_tell_127 : decode cX4_tell 127 = .ok (.ireturn, 1) := by decide +kernel
theorem dX4_tell_128 : decode cX4_tell 128 = .ok (.aload_n 0, 1) := by decide +kernel
theorem dX4_tell_129 : decode cX4_tell 129 = .ok (.getfield 57, 3) := by decide +kernel
theorem dX4_tell_132 : decode cX4_tell 132 = .ok (.ireturn, 1) := by decide +kernel
theorem dX4_tell_133 : decode cX4_tell 133 = .ok (.aload_n 0, 1) := by decide +kernel
theorem dX4_tell_134 : decode cX4_tell 134 = .ok (.getfield 60, 3) := by decide +kernel
theorem dX4_tell_137 : decode cX4_tell 137 = .ok (.ireturn, 1) := by decide +kernel
theorem dX4_tell_138 : decode cX4_tell 138 = .ok (.aload_n 0, 1) := by decide +kernel
theorem dX4_tell_139 : decode cX4_tell 139 = .ok (.getfield 35, 3) := by decide +kernel
theorem dX4_tell_142 : decode cX4_tell 142 = .ok (.ireturn, 1) := by decide +kernel
theorem dX4_tell_143 : decode cX4_tell 143 = .ok (.aload_n 0, 1) := by decide +kernel
theorem dX4_tell_144 : decode cX4_tell 144 = .ok (.getfield 85, 3) := by decide +kernel
theorem dX4_tell_147 : decode cX4_tell 147 = .ok (.ireturn, 1) := by decide +kernel
theorem dX4_tell_148 : decode cX4_tell 148 = .ok (.iconst (-1), 1) := by decide +kernel
theorem dX4_tell_149 : decode cX4_tell 149 = .ok (.ireturn, 1) := by decide +kernel
theorem dX5_init_0 : decode cX5_init 0 = .ok (.aload_n 0, 1) := by decide +kernel
theorem dX5_init_1 : decode cX5_init 1 = .ok (.invokespecial 3, 3) := by decide +kernel
theorem dX5_init_4 : decode cX5_init 4 = .ok (.aload_n 0, 1) := by decide +kernel
theorem dX5_init_5 : decode cX5_init 5 = .ok (.iload_n 1, 1) := by decide +kernel
theorem dX5_init_6 : decode cX5_init 6 = .ok (.putfield 9, 3) := by decide +kernel
theorem dX5_init_9 : decode cX5_init 9 = .ok (.aload_n 0, 1) := by decide +kernel
theorem dX5_init_10 : decode cX5_init 10 = .ok (.iload_n 2, 1) := by decide +kernel
theorem dX5_init_11 : decode cX5_init 11 = .ok (.putfield 15, 3) := by decide +kernel
theorem dX5_init_14 : decode cX5_init 14 = .ok (.aload_n 0, 1) := by decide +kernel
theorem dX5_init_15 : decode cX5_init 15 = .ok (.iload_n 3, 1) := by decide +kernel
theorem dX5_init_16 : decode cX5_init 16 = .ok (.putfield 18, 3) := by decide +kernel
theorem dX5_init_19 : decode cX5_init 19 = .ok (.aload_n 0, 1) := by decide +kernel
theorem dX5_init_20 : decode cX5_init 20 = .ok (.iload 4, 2) := by decide +kernel
theorem dX5_init_22 : decode cX5_init 22 = .ok (.putfield 21, 3) := by decide +kernel
theorem dX5_init_25 : decode cX5_init 25 = .ok (.aload_n 0, 1) := by decide +kernel
theorem dX5_init_26 : decode cX5_init 26 = .ok (.iconst (-1), 1) := by decide +kernel
theorem dX5_init_27 : decode cX5_init 27 = .ok (.putfield 24, 3) := by decide +kernel
theorem dX5_init_30 : decode cX5_init 30 = .ok (.aload_n 0, 1) := by decide +kernel
theorem dX5_init_31 : decode cX5_init 31 = .ok (.iconst (-1), 1) := by decide +kernel
theorem dX5_init_32 : decode cX5_init 32 = .ok (.putfield 27, 3) := by decide +kernel
theorem dX5_init_35 : decode cX5_init 35 = .ok (.aload_n 0, 1) := by decide +kernel
theorem dX5_init_36 : decode cX5_init 36 = .ok (.iconst (-1), 1) := by decide +kernel
theorem dX5_init_37 : decode cX5_init 37 = .ok (.putfield 30, 3) := by decide +kernel
theorem dX5_init_40 : decode cX5_init 40 = .ok (.return_, 1) := by decide +kernel
theorem dX5_isOpen_0 : decode cX5_isOpen 0 = .ok (.aload_n 0, 1) := by decide +kernel
theorem dX5_isOpen_1 : decode cX5_isOpen 1 = .ok (.getfield 24, 3) := by decide +kernel
theorem dX5_isOpen_4 : decode cX5_isOpen 4 = .ok (.iconst (-1), 1) := by decide +kernel
theorem dX5_isOpen_5 : decode cX5_isOpen 5 = .ok (.if_icmp .ne 7, 3) := by decide +kernel
theorem dX5_isOpen_8 : decode cX5_isOpen 8 = .ok (.iconst 1, 1) := by decide +kernel
theorem dX5_isOpen_9 : decode cX5_isOpen 9 = .ok (.goto 4, 3) := by decide +kernel
theorem dX5_isOpen_12 : decode cX5_isOpen 12 = .ok (.iconst 0, 1) := by decide +kernel
theorem dX5_isOpen_13 : decode cX5_isOpen 13 = .ok (.ireturn, 1) := by decide +kernel
theorem dX5_tell_0 : decode cX5_tell 0 = .ok (.iload_n 1, 1) := by decide +kernel
theorem dX5_tell_1 : decode cX5_tell 1 = .ok (.tableswitch 69 0 5 #[39, 44, 49, 54, 59, 64], 39) := by decide +kernel
theorem dX5_tell_40 : decode cX5_tell 40 = .ok (.aload_n 0, 1) := by decide +kernel
theorem dX5_tell_41 : decode cX5_tell 41 = .ok (.getfield 15, 3) := by decide +kernel
theorem dX5_tell_44 : decode cX5_tell 44 = .ok (.ireturn, 1) := by decide +kernel
theorem dX5_tell_45 : decode cX5_tell 45 = .ok (.aload_n 0, 1) := by decide +kernel
theorem dX5_tell_46 : decode cX5_tell 46 = .ok (.getfield 18, 3) := by decide +kernel
theorem dX5_tell_49 : decode cX5_tell 49 = .ok (.ireturn, 1) := by decide +kernel
theorem dX5_tell_50 : decode cX5_tell 50 = .ok (.aload_n 0, 1) := by decide +kernel
theorem dX5_tell_51 : decode cX5_tell 51 = .ok (.getfield 21, 3) := by decide +kernel
theorem dX5_tell_54 : decode cX5_tell 54 = .ok (.ireturn, 1) := by decide +kernel
theorem dX5_tell_55 : decode cX5_tell 55 = .ok (.aload_n 0, 1) := by decide +kernel
theorem dX5_tell_56 : decode cX5_tell 56 = .ok (.getfield 24, 3) := by decide +kernel
theorem dX5_tell_59 : decode cX5_tell 59 = .ok (.ireturn, 1) := by decide +kernel
theorem dX5_tell_60 : decode cX5_tell 60 = .ok (.aload_n 0, 1) := by decide +kernel
theorem dX5_tell_61 : decode cX5_tell 61 = .ok (.getfield 27, 3) := by decide +kernel
theorem dX5_tell_64 : decode cX5_tell 64 = .ok (.ireturn, 1) := by decide +kernel
theorem dX5_tell_65 : decode cX5_tell 65 = .ok (.aload_n 0, 1) := by decide +kernel
theorem dX5_tell_66 : decode cX5_tell 66 = .ok (.getfield 33, 3) := by decide +kernel
theorem dX5_tell_69 : decode cX5_tell 69 = .ok (.ireturn, 1) := by decide +kernel
theorem dX5_tell_70 : decode cX5_tell 70 = .ok (.iconst (-1), 1) := by decide +kernel
theorem dX5_tell_71 : decode cX5_tell 71 = .ok (.ireturn, 1) := by decide +kernel
theorem dX6_init_0 : decode cX6_init 0 = .ok (.aload_n 0, 1) := by decide +kernel
theorem dX6_init_1 : decode cX6_init 1 = .ok (.invokespecial 3, 3) := by decide +kernel
theorem dX6_init_4 : decode cX6_init 4 = .ok (.aload_n 0, 1) := by decide +kernel
theorem dX6_init_5 : decode cX6_init 5 = .ok (.sipush 200, 3) := by decide +kernel
theorem dX6_init_8 : decode cX6_init 8 = .ok (.anewarray 9, 3) := by decide +kernel
theorem dX6_init_11 : decode cX6_init 11 = .ok (.putfield 11, 3) := by decide +kernel
theorem dX6_init_14 : decode cX6_init 14 = .ok (.aload_n 0, 1) := by decide +kernel
theorem dX6_init_15 : decode cX6_init 15 = .ok (.sipush 200, 3) := by decide +kernel
theorem dX6_init_18 : decode cX6_init 18 = .ok (.newarray .int, 2) := by decide +kernel
theorem dX6_init_20 : decode cX6_init 20 = .ok (.putfield 17, 3) := by decide +kernel
theorem dX6_init_23 : decode cX6_init 23 = .ok (.aload_n 0, 1) := by decide +kernel
theorem dX6_init_24 : decode cX6_init 24 = .ok (.sipush 200, 3) := by decide +kernel
theorem dX6_init_27 : decode cX6_init 27 = .ok (.newarray .int, 2) := by decide +kernel
theorem dX6_init_29 : decode cX6_init 29 = .ok (.putfield 21, 3) := by decide +kernel
theorem dX6_init_32 : decode cX6_init 32 = .ok (.aload_n 0, 1) := by decide +kernel
theorem dX6_init_33 : decode cX6_init 33 = .ok (.sipush 200, 3) := by decide +kernel
theorem dX6_init_36 : decode cX6_init 36 = .ok (.newarray .boolean, 2) := by decide +kernel
theorem dX6_init_38 : decode cX6_init 38 = .ok (.putfield 24, 3) := by decide +kernel
theorem dX6_init_41 : decode cX6_init 41 = .ok (.aload_n 0, 1) := by decide +kernel
theorem dX6_init_42 : decode cX6_init 42 = .ok (.bipush 32, 2) := by decide +kernel
theorem dX6_init_44 : decode cX6_init 44 = .ok (.newarray .int, 2) := by decide +kernel
theorem dX6_init_46 : decode cX6_init 46 = .ok (.putfield 28, 3) := by decide +kernel
theorem dX6_init_49 : decode cX6_init 49 = .ok (.aload_n 0, 1) := by decide +kernel
theorem dX6_init_50 : decode cX6_init 50 = .ok (.sipush 128, 3) := by decide +kernel
theorem dX6_init_53 : decode cX6_init 53 = .ok (.newarray .int, 2) := by decide +kernel
theorem dX6_init_55 : decode cX6_init 55 = .ok (.putfield 31, 3) := by decide +kernel
theorem dX6_init_58 : decode cX6_init 58 = .ok (.aload_n 0, 1) := by decide +kernel
theorem dX6_init_59 : decode cX6_init 59 = .ok (.new 34, 3) := by decide +kernel
theorem dX6_init_62 : decode cX6_init 62 = .ok (.dup, 1) := by decide +kernel
theorem dX6_init_63 : decode cX6_init 63 = .ok (.invokespecial 36, 3) := by decide +kernel
theorem dX6_init_66 : decode cX6_init 66 = .ok (.putfield 37, 3) := by decide +kernel
theorem dX6_init_69 : decode cX6_init 69 = .ok (.aload_n 0, 1) := by decide +kernel
theorem dX6_init_70 : decode cX6_init 70 = .ok (.aload_n 1, 1) := by decide +kernel
theorem dX6_init_71 : decode cX6_init 71 = .ok (.putfield 41, 3) := by decide +kernel
theorem dX6_init_74 : decode cX6_init 74 = .ok (.aload_n 0, 1) := by decide +kernel
theorem dX6_init_75 : decode cX6_init 75 = .ok (.aload_n 2, 1) := by decide +kernel
theorem dX6_init_76 : decode cX6_init 76 = .ok (.putfield 45, 3) := by decide +kernel
theorem dX6_init_79 : decode cX6_init 79 = .ok (.return_, 1) := by decide +kernel
theorem dX6_add_0 : decode cX6_add 0 = .ok (.aload_n 0, 1) := by decide +kernel
theorem dX6_add_1 : decode cX6_add 1 = .ok (.getfield 48, 3) := by decide +kernel
theorem dX6_add_4 : decode cX6_add 4 = .ok (.sipush 200, 3) := by decide +kernel
theorem dX6_add_7 : decode cX6_add 7 = .ok (.if_icmp .lt 5, 3) := by decide +kernel
theorem dX6_add_10 : decode cX6_add 10 = .ok (.iconst (-1), 1) := by decide +kernel
theorem dX6_add_11 : decode cX6_add 11 = .ok (.ireturn, 1) := by decide +kernel
theorem dX6_add_12 : decode cX6_add 12 = .ok (.aload_n 0, 1) := by decide +kernel
theorem dX6_add_13 : decode cX6_add 13 = .ok (.getfield 11, 3) := by decide +kernel
theorem dX6_add_16 : decode cX6_add 16 = .ok (.aload_n 0, 1) := by decide +kernel
theorem dX6_add_17 : decode cX6_add 17 = .ok (.getfield 48, 3) := by decide +kernel
theorem dX6_add_20 : decode cX6_add 20 = .ok (.aload_n 1, 1) := by decide +kernel
theorem dX6_add_21 : decode cX6_add 21 = .ok (.aastore, 1) := by decide +kernel
theorem dX6_add_22 : decode cX6_add 22 = .ok (.aload_n 0, 1) := by decide +kernel
theorem dX6_add_23 : decode cX6_add 23 = .ok (.dup, 1) := by decide +kernel
theorem dX6_add_24 : decode cX6_add 24 = .ok (.getfield 48, 3) := by decide +kernel
theorem dX6_add_27 : decode cX6_add 27 = .ok (.iconst 1, 1) := by decide +kernel
theorem dX6_add_28 : decode cX6_add 28 = .ok (.iadd, 1) := by decide +kernel
theorem dX6_add_29 : decode cX6_add 29 = .ok (.putfield 48, 3) := by decide +kernel
theorem dX6_add_32 : decode cX6_add 32 = .ok (.aload_n 1, 1) := by decide +kernel
theorem dX6_add_33 : decode cX6_add 33 = .ok (.getfield 52, 3) := by decide +kernel
theorem dX6_add_36 : decode cX6_add 36 = .ok (.dup, 1) := by decide +kernel
theorem dX6_add_37 : decode cX6_add 37 = .ok (.getfield 56, 3) := by decide +kernel
theorem dX6_add_40 : decode cX6_add 40 = .ok (.iconst 1, 1) := by decide +kernel
theorem dX6_add_41 : decode cX6_add 41 = .ok (.iadd, 1) := by decide +kernel
theorem dX6_add_42 : decode cX6_add 42 = .ok (.putfield 56, 3) := by decide +kernel
theorem dX6_add_45 : decode cX6_add 45 = .ok (.aload_n 0, 1) := by decide +kernel
theorem dX6_add_46 : decode cX6_add 46 = .ok (.getfield 48, 3) := by decide +kernel
theorem dX6_add_49 : decode cX6_add 49 = .ok (.iconst 1, 1) := by decide +kernel
theorem dX6_add_50 : decode cX6_add 50 = .ok (.isub, 1) := by decide +kernel
theorem dX6_add_51 : decode cX6_add 51 = .ok (.ireturn, 1) := by decide +kernel
theorem dX6_letterAt_0 : decode cX6_letterAt 0 = .ok (.iload_n 1, 1) := by decide +kernel
theorem dX6_letterAt_1 : decode cX6_letterAt 1 = .ok (.iconst 0, 1) := by decide +kernel
theorem dX6_letterAt_2 : decode cX6_letterAt 2 = .ok (.aload_n 0, 1) := by decide +kernel
theorem dX6_letterAt_3 : decode cX6_letterAt 3 = .ok (.getfield 48, 3) := by decide +kernel
theorem dX6_letterAt_6 : decode cX6_letterAt 6 = .ok (.iconst 1, 1) := by decide +kernel
theorem dX6_letterAt_7 : decode cX6_letterAt 7 = .ok (.isub, 1) := by decide +kernel
theorem dX6_letterAt_8 : decode cX6_letterAt 8 = .ok (.invokestatic 60, 3) := by decide +kernel
theorem dX6_letterAt_11 : decode cX6_letterAt 11 = .ok (.ifCond .eq 12, 3) := by decide +kernel
theorem dX6_letterAt_14 : decode cX6_letterAt 14 = .ok (.aload_n 0, 1) := by decide +kernel
theorem dX6_letterAt_15 : decode cX6_letterAt 15 = .ok (.getfield 11, 3) := by decide +kernel
theorem dX6_letterAt_18 : decode cX6_letterAt 18 = .ok (.iload_n 1, 1) := by decide +kernel
theorem dX6_letterAt_19 : decode cX6_letterAt 19 = .ok (.aaload, 1) := by decide +kernel
theorem dX6_letterAt_20 : decode cX6_letterAt 20 = .ok (.goto 4, 3) := by decide +kernel
theorem dX6_letterAt_23 : decode cX6_letterAt 23 = .ok (.aconst_null, 1) := by decide +kernel
theorem dX6_letterAt_24 : decode cX6_letterAt 24 = .ok (.areturn, 1) := by decide +kernel
theorem dX6_inState_0 : decode cX6_inState 0 = .ok (.iconst 0, 1) := by decide +kernel
theorem dX6_inState_1 : decode cX6_inState 1 = .ok (.istore_n 2, 1) := by decide +kernel
theorem dX6_inState_2 : decode cX6_inState 2 = .ok (.iconst 0, 1) := by decide +kernel
theorem dX6_inState_3 : decode cX6_inState 3 = .ok (.istore_n 3, 1) := by decide +kernel
theorem dX6_inState_4 : decode cX6_inState 4 = .ok (.iload_n 3, 1) := by decide +kernel
theorem dX6_inState_5 : decode cX6_inState 5 = .ok (.aload_n 0, 1) := by decide +kernel
theorem dX6_inState_6 : decode cX6_inState 6 = .ok (.getfield 48, 3) := by decide +kernel
theorem dX6_inState_9 : decode cX6_inState 9 = .ok (.if_icmp .ge 30, 3) := by decide +kernel
theorem dX6_inState_12 : decode cX6_inState 12 = .ok (.iload_n 2, 1) := by decide +kernel
theorem dX6_inState_13 : decode cX6_inState 13 = .ok (.aload_n 0, 1) := by decide +kernel
theorem dX6_inState_14 : decode cX6_inState 14 = .ok (.getfield 11, 3) := by decide +kernel
theorem dX6_inState_17 : decode cX6_inState 17 = .ok (.iload_n 3, 1) := by decide +kernel
theorem dX6_inState_18 : decode cX6_inState 18 = .ok (.aaload, 1) := by decide +kernel
theorem dX6_inState_19 : decode cX6_inState 19 = .ok (.getfield 64, 3) := by decide +kernel
theorem dX6_inState_22 : decode cX6_inState 22 = .ok (.iload_n 1, 1) := by decide +kernel
theorem dX6_inState_23 : decode cX6_inState 23 = .ok (.if_icmp .ne 7, 3) := by decide +kernel
theorem dX6_inState_26 : decode cX6_inState 26 = .ok (.iconst 1, 1) := by decide +kernel
theorem dX6_inState_27 : decode cX6_inState 27 = .ok (.goto 4, 3) := by decide +kernel
theorem dX6_inState_30 : decode cX6_inState 30 = .ok (.iconst 0, 1) := by decide +kernel
theorem dX6_inState_31 : decode cX6_inState 31 = .ok (.iadd, 1) := by decide +kernel
theorem dX6_inState_32 : decode cX6_inState 32 = .ok (.istore_n 2, 1) := by decide +kernel
theorem dX6_inState_33 : decode cX6_inState 33 = .ok (.iinc 3 1, 3) := by decide +kernel
theorem dX6_inState_36 : decode cX6_inState 36 = .ok (.goto (-32), 3) := by decide +kernel
theorem dX6_inState_39 : decode cX6_inState 39 = .ok (.iload_n 2, 1) := by decide +kernel
theorem dX6_inState_40 : decode cX6_inState 40 = .ok (.ireturn, 1) := by decide +kernel
theorem dX6_lagIn_0 : decode cX6_lagIn 0 = .ok (.iconst 0, 1) := by decide +kernel
theorem dX6_lagIn_1 : decode cX6_lagIn 1 = .ok (.istore_n 2, 1) := by decide +kernel
theorem dX6_lagIn_2 : decode cX6_lagIn 2 = .ok (.iconst 0, 1) := by decide +kernel
theorem dX6_lagIn_3 : decode cX6_lagIn 3 = .ok (.istore_n 3, 1) := by decide +kernel
theorem dX6_lagIn_4 : decode cX6_lagIn 4 = .ok (.iload_n 3, 1) := by decide +kernel
theorem dX6_lagIn_5 : decode cX6_lagIn 5 = .ok (.aload_n 0, 1) := by decide +kernel
theorem dX6_lagIn_6 : decode cX6_lagIn 6 = .ok (.getfield 48, 3) := by decide +kernel
theorem dX6_lagIn_9 : decode cX6_lagIn 9 = .ok (.if_icmp .ge 23, 3) := by decide +kernel
theorem dX6_lagIn_12 : decode cX6_lagIn 12 = .ok (.iload_n 2, 1) := by decide +kernel
theorem dX6_lagIn_13 : decode cX6_lagIn 13 = .ok (.aload_n 0, 1) := by decide +kernel
theorem dX6_lagIn_14 : decode cX6_lagIn 14 = .ok (.getfield 11, 3) := by decide +kernel
theorem dX6_lagIn_17 : decode cX6_lagIn 17 = .ok (.iload_n 3, 1) := by decide +kernel
theorem dX6_lagIn_18 : decode cX6_lagIn 18 = .ok (.aaload, 1) := by decide +kernel
theorem dX6_lagIn_19 : decode cX6_lagIn 19 = .ok (.getfield 67, 3) := by decide +kernel
theorem dX6_lagIn_22 : decode cX6_lagIn 22 = .ok (.iload_n 1, 1) := by decide +kernel
theorem dX6_lagIn_23 : decode cX6_lagIn 23 = .ok (.iaload, 1) := by decide +kernel
theorem dX6_lagIn_24 : decode cX6_lagIn 24 = .ok (.iadd, 1) := by decide +kernel
theorem dX6_lagIn_25 : decode cX6_lagIn 25 = .ok (.istore_n 2, 1) := by decide +kernel
theorem dX6_lagIn_26 : decode cX6_lagIn 26 = .ok (.iinc 3 1, 3) := by decide +kernel
theorem dX6_lagIn_29 : decode cX6_lagIn 29 = .ok (.goto (-25), 3) := by decide +kernel
theorem dX6_lagIn_32 : decode cX6_lagIn 32 = .ok (.iload_n 2, 1) := by decide +kernel
theorem dX6_lagIn_33 : decode cX6_lagIn 33 = .ok (.ireturn, 1) := by decide +kernel
theorem dX6_firstIn_0 : decode cX6_firstIn 0 = .ok (.aconst_null, 1) := by decide +kernel
theorem dX6_firstIn_1 : decode cX6_firstIn 1 = .ok (.astore_n 3, 1) := by decide +kernel
theorem dX6_firstIn_2 : decode cX6_firstIn 2 = .ok (.aload_n 2, 1) := by decide +kernel
theorem dX6_firstIn_3 : decode cX6_firstIn 3 = .ok (.ifnonnull 7, 3) := by decide +kernel
theorem dX6_firstIn_6 : decode cX6_firstIn 6 = .ok (.iconst 1, 1) := by decide +kernel
theorem dX6_firstIn_7 : decode cX6_firstIn 7 = .ok (.goto 4, 3) := by decide +kernel
theorem dX6_firstIn_10 : decode cX6_firstIn 10 = .ok (.iconst 0, 1) := by decide +kernel
theorem dX6_firstIn_11 : decode cX6_firstIn 11 = .ok (.istore 4, 2) := by decide +kernel
theorem dX6_firstIn_13 : decode cX6_firstIn 13 = .ok (.iconst 0, 1) := by decide +kernel
theorem dX6_firstIn_14 : decode cX6_firstIn 14 = .ok (.istore 5, 2) := by decide +kernel
theorem dX6_firstIn_16 : decode cX6_firstIn 16 = .ok (.iload 5, 2) := by decide +kernel
theorem dX6_firstIn_18 : decode cX6_firstIn 18 = .ok (.aload_n 0, 1) := by decide +kernel
theorem dX6_firstIn_19 : decode cX6_firstIn 19 = .ok (.getfield 48, 3) := by decide +kernel
theorem dX6_firstIn_22 : decode cX6_firstIn 22 = .ok (.if_icmp .ge 109, 3) := by decide +kernel
theorem dX6_firstIn_25 : decode cX6_firstIn 25 = .ok (.aload_n 0, 1) := by decide +kernel
theorem dX6_firstIn_26 : decode cX6_firstIn 26 = .ok (.getfield 11, 3) := by decide +kernel
theorem dX6_firstIn_29 : decode cX6_firstIn 29 = .ok (.iload 5, 2) := by decide +kernel
theorem dX6_firstIn_31 : decode cX6_firstIn 31 = .ok (.aaload, 1) := by decide +kernel
theorem dX6_firstIn_32 : decode cX6_firstIn 32 = .ok (.astore 6, 2) := by decide +kernel
theorem dX6_firstIn_34 : decode cX6_firstIn 34 = .ok (.aload 6, 2) := by decide +kernel
theorem dX6_firstIn_36 : decode cX6_firstIn 36 = .ok (.getfield 64, 3) := by decide +kernel
theorem dX6_firstIn_39 : decode cX6_firstIn 39 = .ok (.iload_n 1, 1) := by decide +kernel
theorem dX6_firstIn_40 : decode cX6_firstIn 40 = .ok (.if_icmp .ne 40, 3) := by decide +kernel
theorem dX6_firstIn_43 : decode cX6_firstIn 43 = .ok (.aload_n 2, 1) := by decide +kernel
theorem dX6_firstIn_44 : decode cX6_firstIn 44 = .ok (.ifnull 32, 3) := by decide +kernel
theorem dX6_firstIn_47 : decode cX6_firstIn 47 = .ok (.aload 6, 2) := by decide +kernel
theorem dX6_firstIn_49 : decode cX6_firstIn 49 = .ok (.getfield 70, 3) := by decide +kernel
theorem dX6_firstIn_52 : decode cX6_firstIn 52 = .ok (.aload_n 2, 1) := by decide +kernel
theorem dX6_firstIn_53 : decode cX6_firstIn 53 = .ok (.getfield 70, 3) := by decide +kernel
theorem dX6_firstIn_56 : decode cX6_firstIn 56 = .ok (.if_icmp .gt 20, 3) := by decide +kernel
theorem dX6_firstIn_59 : decode cX6_firstIn 59 = .ok (.iload 4, 2) := by decide +kernel
theorem dX6_firstIn_61 : decode cX6_firstIn 61 = .ok (.ifCond .eq 19, 3) := by decide +kernel
theorem dX6_firstIn_64 : decode cX6_firstIn 64 = .ok (.aload 6, 2) := by decide +kernel
theorem dX6_firstIn_66 : decode cX6_firstIn 66 = .ok (.getfield 70, 3) := by decide +kernel
theorem dX6_firstIn_69 : decode cX6_firstIn 69 = .ok (.aload_n 2, 1) := by decide +kernel
theorem dX6_firstIn_70 : decode cX6_firstIn 70 = .ok (.getfield 70, 3) := by decide +kernel
theorem dX6_firstIn_73 : decode cX6_firstIn 73 = .ok (.if_icmp .ne 7, 3) := by decide +kernel
theorem dX6_firstIn_76 : decode cX6_firstIn 76 = .ok (.iconst 1, 1) := by decide +kernel
theorem dX6_firstIn_77 : decode cX6_firstIn 77 = .ok (.goto 4, 3) := by decide +kernel
theorem dX6_firstIn_80 : decode cX6_firstIn 80 = .ok (.iconst 0, 1) := by decide +kernel
theorem dX6_firstIn_81 : decode cX6_firstIn 81 = .ok (.istore 7, 2) := by decide +kernel
theorem dX6_firstIn_83 : decode cX6_firstIn 83 = .ok (.iload 7, 2) := by decide +kernel
theorem dX6_firstIn_85 : decode cX6_firstIn 85 = .ok (.ifCond .eq 22, 3) := by decide +kernel
theorem dX6_firstIn_88 : decode cX6_firstIn 88 = .ok (.aload_n 3, 1) := by decide +kernel
theorem dX6_firstIn_89 : decode cX6_firstIn 89 = .ok (.ifnull 15, 3) := by decide +kernel
theorem dX6_firstIn_92 : decode cX6_firstIn 92 = .ok (.aload 6, 2) := by decide +kernel
theorem dX6_firstIn_94 : decode cX6_firstIn 94 = .ok (.getfield 70, 3) := by decide +kernel
theorem dX6_firstIn_97 : decode cX6_firstIn 97 = .ok (.aload_n 3, 1) := by decide +kernel
theorem dX6_firstIn_98 : decode cX6_firstIn 98 = .ok (.getfield 70, 3) := by decide +kernel
theorem dX6_firstIn_101 : decode cX6_firstIn 101 = .ok (.if_icmp .ge 6, 3) := by decide +kernel
theorem dX6_firstIn_104 : decode cX6_firstIn 104 = .ok (.aload 6, 2) := by decide +kernel
theorem dX6_firstIn_106 : decode cX6_firstIn 106 = .ok (.astore_n 3, 1) := by decide +kernel
theorem dX6_firstIn_107 : decode cX6_firstIn 107 = .ok (.iload 4, 2) := by decide +kernel
theorem dX6_firstIn_109 : decode cX6_firstIn 109 = .ok (.ifCond .ne 9, 3) := by decide +kernel
theorem dX6_firstIn_112 : decode cX6_firstIn 112 = .ok (.aload 6, 2) := by decide +kernel
theorem dX6_firstIn_114 : decode cX6_firstIn 114 = .ok (.aload_n 2, 1) := by decide +kernel
theorem dX6_firstIn_115 : decode cX6_firstIn 115 = .ok (.if_acmp .ne 7, 3) := by decide +kernel
theorem dX6_firstIn_118 : decode cX6_firstIn 118 = .ok (.iconst 1, 1) := by decide +kernel
theorem dX6_firstIn_119 : decode cX6_firstIn 119 = .ok (.goto 4, 3) := by decide +kernel
theorem dX6_firstIn_122 : decode cX6_firstIn 122 = .ok (.iconst 0, 1) := by decide +kernel
theorem dX6_firstIn_123 : decode cX6_firstIn 123 = .ok (.istore 4, 2) := by decide +kernel
theorem dX6_firstIn_125 : decode cX6_firstIn 125 = .ok (.iinc 5 1, 3) := by decide +kernel
theorem dX6_firstIn_128 : decode cX6_firstIn 128 = .ok (.goto (-112), 3) := by decide +kernel
theorem dX6_firstIn_131 : decode cX6_firstIn 131 = .ok (.aload_n 3, 1) := by decide +kernel
theorem dX6_firstIn_132 : decode cX6_firstIn 132 = .ok (.areturn, 1) := by decide +kernel
theorem dX6_isOnWay_0 : decode cX6_isOnWay 0 = .ok (.iload_n 1, 1) := by decide +kernel
theorem dX6_isOnWay_1 : decode cX6_isOnWay 1 = .ok (.iconst 0, 1) := by decide +kernel
theorem dX6_isOnWay_2 : decode cX6_isOnWay 2 = .ok (.aload_n 0, 1) := by decide +kernel
theorem dX6_isOnWay_3 : decode cX6_isOnWay 3 = .ok (.getfield 73, 3) := by decide +kernel
theorem dX6_isOnWay_6 : decode cX6_isOnWay 6 = .ok (.iconst 1, 1) := by decide +kernel
theorem dX6_isOnWay_7 : decode cX6_isOnWay 7 = .ok (.isub, 1) := by decide +kernel
theorem dX6_isOnWay_8 : decode cX6_isOnWay 8 = .ok (.invokestatic 60, 3) := by decide +kernel
theorem dX6_isOnWay_11 : decode cX6_isOnWay 11 = .ok (.ifCond .eq 16, 3) := by decide +kernel
theorem dX6_isOnWay_14 : decode cX6_isOnWay 14 = .ok (.aload_n 0, 1) := by decide +kernel
theorem dX6_isOnWay_15 : decode cX6_isOnWay 15 = .ok (.getfield 24, 3) := by decide +kernel
theorem dX6_isOnWay_18 : decode cX6_isOnWay 18 = .ok (.iload_n 1, 1) := by decide +kernel
theorem dX6_isOnWay_19 : decode cX6_isOnWay 19 = .ok (.baload, 1) := by decide +kernel
theorem dX6_isOnWay_20 : decode cX6_isOnWay 20 = .ok (.ifCond .eq 7, 3) := by decide +kernel
theorem dX6_isOnWay_23 : decode cX6_isOnWay 23 = .ok (.iconst 1, 1) := by decide +kernel
theorem dX6_isOnWay_24 : decode cX6_isOnWay 24 = .ok (.goto 4, 3) := by decide +kernel
theorem dX6_isOnWay_27 : decode cX6_isOnWay 27 = .ok (.iconst 0, 1) := by decide +kernel
theorem dX6_isOnWay_28 : decode cX6_isOnWay 28 = .ok (.ireturn, 1) := by decide +kernel
theorem dX6_sacksOnWay_0 : decode cX6_sacksOnWay 0 = .ok (.iconst 0, 1) := by decide +kernel
theorem dX6_sacksOnWay_1 : decode cX6_sacksOnWay 1 = .ok (.istore_n 1, 1) := by decide +kernel
theorem dX6_sacksOnWay_2 : decode cX6_sacksOnWay 2 = .ok (.iconst 0, 1) := by decide +kernel
theorem dX6_sacksOnWay_3 : decode cX6_sacksOnWay 3 = .ok (.istore_n 2, 1) := by decide +kernel
theorem dX6_sacksOnWay_4 : decode cX6_sacksOnWay 4 = .ok (.iload_n 2, 1) := by decide +kernel
theorem dX6_sacksOnWay_5 : decode cX6_sacksOnWay 5 = .ok (.aload_n 0, 1) := by decide +kernel
theorem dX6_sacksOnWay_6 : decode cX6_sacksOnWay 6 = .ok (.getfield 73, 3) := by decide +kernel
theorem dX6_sacksOnWay_9 : decode cX6_sacksOnWay 9 = .ok (.if_icmp .ge 26, 3) := by decide +kernel
theorem dX6_sacksOnWay_12 : decode cX6_sacksOnWay 12 = .ok (.iload_n 1, 1) := by decide +kernel
theorem dX6_sacksOnWay_13 : decode cX6_sacksOnWay 13 = .ok (.aload_n 0, 1) := by decide +kernel
theorem dX6_sacksOnWay_14 : decode cX6_sacksOnWay 14 = .ok (.getfield 24, 3) := by decide +kernel
theorem dX6_sacksOnWay_17 : decode cX6_sacksOnWay 17 = .ok (.iload_n 2, 1) := by decide +kernel
theorem dX6_sacksOnWay_18 : decode cX6_sacksOnWay 18 = .ok (.baload, 1) := by decide +kernel
theorem dX6_sacksOnWay_19 : decode cX6_sacksOnWay 19 = .ok (.ifCond .eq 7, 3) := by decide +kernel
theorem dX6_sacksOnWay_22 : decode cX6_sacksOnWay 22 = .ok (.iconst 1, 1) := by decide +kernel
theorem dX6_sacksOnWay_23 : decode cX6_sacksOnWay 23 = .ok (.goto 4, 3) := by decide +kernel
theorem dX6_sacksOnWay_26 : decode cX6_sacksOnWay 26 = .ok (.iconst 0, 1) := by decide +kernel
theorem dX6_sacksOnWay_27 : decode cX6_sacksOnWay 27 = .ok (.iadd, 1) := by decide +kernel
theorem dX6_sacksOnWay_28 : decode cX6_sacksOnWay 28 = .ok (.istore_n 1, 1) := by decide +kernel
theorem dX6_sacksOnWay_29 : decode cX6_sacksOnWay 29 = .ok (.iinc 2 1, 3) := by decide +kernel
theorem dX6_sacksOnWay_32 : decode cX6_sacksOnWay 32 = .ok (.goto (-28), 3) := by decide +kernel
theorem dX6_sacksOnWay_35 : decode cX6_sacksOnWay 35 = .ok (.iload_n 1, 1) := by decide +kernel
theorem dX6_sacksOnWay_36 : decode cX6_sacksOnWay 36 = .ok (.ireturn, 1) := by decide +kernel
theorem dX6_empty_0 : decode cX6_empty 0 = .ok (.aload_n 0, 1) := by decide +kernel
theorem dX6_empty_1 : decode cX6_empty 1 = .ok (.iload_n 1, 1) := by decide +kernel
theorem dX6_empty_2 : decode cX6_empty 2 = .ok (.invokevirtual 76, 3) := by decide +kernel
theorem dX6_empty_5 : decode cX6_empty 5 = .ok (.ifCond .ne 5, 3) := by decide +kernel
theorem dX6_empty_8 : decode cX6_empty 8 = .ok (.iconst 0, 1) := by decide +kernel
theorem dX6_empty_9 : decode cX6_empty 9 = .ok (.ireturn, 1) := by decide +kernel
theorem dX6_empty_10 : decode cX6_empty 10 = .ok (.iconst 0, 1) := by decide +kernel
theorem dX6_empty_11 : decode cX6_empty 11 = .ok (.istore 4, 2) := by decide +kernel
theorem dX6_empty_13 : decode cX6_empty 13 = .ok (.iconst 0, 1) := by decide +kernel
theorem dX6_empty_14 : decode cX6_empty 14 = .ok (.istore 5, 2) := by decide +kernel
theorem dX6_empty_16 : decode cX6_empty 16 = .ok (.iload 5, 2) := by decide +kernel
theorem dX6_empty_18 : decode cX6_empty 18 = .ok (.aload_n 0, 1) := by decide +kernel
theorem dX6_empty_19 : decode cX6_empty 19 = .ok (.getfield 48, 3) := by decide +kernel
theorem dX6_empty_22 : decode cX6_empty 22 = .ok (.if_icmp .ge 52, 3) := by decide +kernel
theorem dX6_empty_25 : decode cX6_empty 25 = .ok (.aload_n 0, 1) := by decide +kernel
theorem dX6_empty_26 : decode cX6_empty 26 = .ok (.getfield 11, 3) := by decide +kernel
theorem dX6_empty_29 : decode cX6_empty 29 = .ok (.iload 5, 2) := by decide +kernel
theorem dX6_empty_31 : decode cX6_empty 31 = .ok (.aaload, 1) := by decide +kernel
theorem dX6_empty_32 : decode cX6_empty 32 = .ok (.getfield 64, 3) := by decide +kernel
theorem dX6_empty_35 : decode cX6_empty 35 = .ok (.iconst 1, 1) := by decide +kernel
theorem dX6_empty_36 : decode cX6_empty 36 = .ok (.if_icmp .ne 32, 3) := by decide +kernel
theorem dX6_empty_39 : decode cX6_empty 39 = .ok (.aload_n 0, 1) := by decide +kernel
theorem dX6_empty_40 : decode cX6_empty 40 = .ok (.getfield 11, 3) := by decide +kernel
theorem dX6_empty_43 : decode cX6_empty 43 = .ok (.iload 5, 2) := by decide +kernel
theorem dX6_empty_45 : decode cX6_empty 45 = .ok (.aaload, 1) := by decide +kernel
theorem dX6_empty_46 : decode cX6_empty 46 = .ok (.getfield 80, 3) := by decide +kernel
theorem dX6_empty_49 : decode cX6_empty 49 = .ok (.iload_n 1, 1) := by decide +kernel
theorem dX6_empty_50 : decode cX6_empty 50 = .ok (.if_icmp .ne 18, 3) := by decide +kernel
theorem dX6_empty_53 : decode cX6_empty 53 = .ok (.aload_n 0, 1) := by decide +kernel
theorem dX6_empty_54 : decode cX6_empty 54 = .ok (.getfield 11, 3) := by decide +kernel
theorem dX6_empty_57 : decode cX6_empty 57 = .ok (.iload 5, 2) := by decide +kernel
theorem dX6_empty_59 : decode cX6_empty 59 = .ok (.aaload, 1) := by decide +kernel
theorem dX6_empty_60 : decode cX6_empty 60 = .ok (.iload_n 2, 1) := by decide +kernel
theorem dX6_empty_61 : decode cX6_empty 61 = .ok (.iload_n 3, 1) := by decide +kernel
theorem dX6_empty_62 : decode cX6_empty 62 = .ok (.invokevirtual 83, 3) := by decide +kernel
theorem dX6_empty_65 : decode cX6_empty 65 = .ok (.iinc 4 1, 3) := by decide +kernel
theorem dX6_empty_68 : decode cX6_empty 68 = .ok (.iinc 5 1, 3) := by decide +kernel
theorem dX6_empty_71 : decode cX6_empty 71 = .ok (.goto (-55), 3) := by decide +kernel
theorem dX6_empty_74 : decode cX6_empty 74 = .ok (.aload_n 0, 1) := by decide +kernel
theorem dX6_empty_75 : decode cX6_empty 75 = .ok (.getfield 24, 3) := by decide +kernel
theorem dX6_empty_78 : decode cX6_empty 78 = .ok (.iload_n 1, 1) := by decide +kernel
theorem dX6_empty_79 : decode cX6_empty 79 = .ok (.iconst 0, 1) := by decide +kernel
theorem dX6_empty_80 : decode cX6_empty 80 = .ok (.bastore, 1) := by decide +kernel
theorem dX6_empty_81 : decode cX6_empty 81 = .ok (.iload 4, 2) := by decide +kernel
theorem dX6_empty_83 : decode cX6_empty 83 = .ok (.ireturn, 1) := by decide +kernel
theorem dX6_unpack_0 : decode cX6_unpack 0 = .ok (.iconst 0, 1) := by decide +kernel
theorem dX6_unpack_1 : decode cX6_unpack 1 = .ok (.istore_n 2, 1) := by decide +kernel
theorem dX6_unpack_2 : decode cX6_unpack 2 = .ok (.iload_n 2, 1) := by decide +kernel
theorem dX6_unpack_3 : decode cX6_unpack 3 = .ok (.aload_n 0, 1) := by decide +kernel
theorem dX6_unpack_4 : decode cX6_unpack 4 = .ok (.getfield 73, 3) := by decide +kernel
theorem dX6_unpack_7 : decode cX6_unpack 7 = .ok (.if_icmp .ge 43, 3) := by decide +kernel
theorem dX6_unpack_10 : decode cX6_unpack 10 = .ok (.aload_n 0, 1) := by decide +kernel
theorem dX6_unpack_11 : decode cX6_unpack 11 = .ok (.getfield 24, 3) := by decide +kernel
theorem dX6_unpack_14 : decode cX6_unpack 14 = .ok (.iload_n 2, 1) := by decide +kernel
theorem dX6_unpack_15 : decode cX6_unpack 15 = .ok (.baload, 1) := by decide +kernel
theorem dX6_unpack_16 : decode cX6_unpack 16 = .ok (.ifCond .eq 28, 3) := by decide +kernel
theorem dX6_unpack_19 : decode cX6_unpack 19 = .ok (.iload_n 1, 1) := by decide +kernel
theorem dX6_unpack_20 : decode cX6_unpack 20 = .ok (.aload_n 0, 1) := by decide +kernel
theorem dX6_unpack_21 : decode cX6_unpack 21 = .ok (.getfield 17, 3) := by decide +kernel
theorem dX6_unpack_24 : decode cX6_unpack 24 = .ok (.iload_n 2, 1) := by decide +kernel
theorem dX6_unpack_25 : decode cX6_unpack 25 = .ok (.iaload, 1) := by decide +kernel
theorem dX6_unpack_26 : decode cX6_unpack 26 = .ok (.isub, 1) := by decide +kernel
theorem dX6_unpack_27 : decode cX6_unpack 27 = .ok (.aload_n 0, 1) := by decide +kernel
theorem dX6_unpack_28 : decode cX6_unpack 28 = .ok (.getfield 21, 3) := by decide +kernel
theorem dX6_unpack_31 : decode cX6_unpack 31 = .ok (.iload_n 2, 1) := by decide +kernel
theorem dX6_unpack_32 : decode cX6_unpack 32 = .ok (.iaload, 1) := by decide +kernel
theorem dX6_unpack_33 : decode cX6_unpack 33 = .ok (.if_icmp .lt 11, 3) := by decide +kernel
theorem dX6_unpack_36 : decode cX6_unpack 36 = .ok (.aload_n 0, 1) := by decide +kernel
theorem dX6_unpack_37 : decode cX6_unpack 37 = .ok (.iload_n 2, 1) := by decide +kernel
theorem dX6_unpack_38 : decode cX6_unpack 38 = .ok (.iconst 2, 1) := by decide +kernel
theorem dX6_unpack_39 : decode cX6_unpack 39 = .ok (.iload_n 1, 1) := by decide +kernel
theorem dX6_unpack_40 : decode cX6_unpack 40 = .ok (.invokevirtual 87, 3) := by decide +kernel
theorem dX6_unpack_43 : decode cX6_unpack 43 = .ok (.pop, 1) := by decide +kernel
theorem dX6_unpack_44 : decode cX6_unpack 44 = .ok (.iinc 2 1, 3) := by decide +kernel
theorem dX6_unpack_47 : decode cX6_unpack 47 = .ok (.goto (-45), 3) := by decide +kernel
theorem dX6_unpack_50 : decode cX6_unpack 50 = .ok (.return_, 1) := by decide +kernel
theorem dX6_readSome_0 : decode cX6_readSome 0 = .ok (.iconst 0, 1) := by decide +kernel
theorem dX6_readSome_1 : decode cX6_readSome 1 = .ok (.istore_n 3, 1) := by decide +kernel
theorem dX6_readSome_2 : decode cX6_readSome 2 = .ok (.iload_n 3, 1) := by decide +kernel
theorem dX6_readSome_3 : decode cX6_readSome 3 = .ok (.aload_n 0, 1) := by decide +kernel
theorem dX6_readSome_4 : decode cX6_readSome 4 = .ok (.getfield 45, 3) := by decide +kernel
theorem dX6_readSome_7 : decode cX6_readSome 7 = .ok (.iconst 2, 1) := by decide +kernel
theorem dX6_readSome_8 : decode cX6_readSome 8 = .ok (.iaload, 1) := by decide +kernel
theorem dX6_readSome_9 : decode cX6_readSome 9 = .ok (.if_icmp .ge 31, 3) := by decide +kernel
theorem dX6_readSome_12 : decode cX6_readSome 12 = .ok (.aload_n 0, 1) := by decide +kernel
theorem dX6_readSome_13 : decode cX6_readSome 13 = .ok (.iconst 2, 1) := by decide +kernel
theorem dX6_readSome_14 : decode cX6_readSome 14 = .ok (.aconst_null, 1) := by decide +kernel
theorem dX6_readSome_15 : decode cX6_readSome 15 = .ok (.invokevirtual 91, 3) := by decide +kernel
theorem dX6_readSome_18 : decode cX6_readSome 18 = .ok (.astore 4, 2) := by decide +kernel
theorem dX6_readSome_20 : decode cX6_readSome 20 = .ok (.aload 4, 2) := by decide +kernel
theorem dX6_readSome_22 : decode cX6_readSome 22 = .ok (.ifnonnull 4, 3) := by decide +kernel
theorem dX6_readSome_25 : decode cX6_readSome 25 = .ok (.return_, 1) := by decide +kernel
theorem dX6_readSome_26 : decode cX6_readSome 26 = .ok (.aload_n 0, 1) := by decide +kernel
theorem dX6_readSome_27 : decode cX6_readSome 27 = .ok (.aload 4, 2) := by decide +kernel
theorem dX6_readSome_29 : decode cX6_readSome 29 = .ok (.aload_n 1, 1) := by decide +kernel
theorem dX6_readSome_30 : decode cX6_readSome 30 = .ok (.iload_n 2, 1) := by decide +kernel
theorem dX6_readSome_31 : decode cX6_readSome 31 = .ok (.invokevirtual 95, 3) := by decide +kernel
theorem dX6_readSome_34 : decode cX6_readSome 34 = .ok (.iinc 3 1, 3) := by decide +kernel
theorem dX6_readSome_37 : decode cX6_readSome 37 = .ok (.goto (-35), 3) := by decide +kernel
theorem dX6_readSome_40 : decode cX6_readSome 40 = .ok (.return_, 1) := by decide +kernel
theorem dX6_readOne_0 : decode cX6_readOne 0 = .ok (.aload_n 1, 1) := by decide +kernel
theorem dX6_readOne_1 : decode cX6_readOne 1 = .ok (.getfield 52, 3) := by decide +kernel
theorem dX6_readOne_4 : decode cX6_readOne 4 = .ok (.invokevirtual 99, 3) := by decide +kernel
theorem dX6_readOne_7 : decode cX6_readOne 7 = .ok (.ifCond .ne 11, 3) := by decide +kernel
theorem dX6_readOne_10 : decode cX6_readOne 10 = .ok (.aload_n 1, 1) := by decide +kernel
theorem dX6_readOne_11 : decode cX6_readOne 11 = .ok (.bipush 7, 2) := by decide +kernel
theorem dX6_readOne_13 : decode cX6_readOne 13 = .ok (.iload_n 3, 1) := by decide +kernel
theorem dX6_readOne_14 : decode cX6_readOne 14 = .ok (.invokevirtual 83, 3) := by decide +kernel
theorem dX6_readOne_17 : decode cX6_readOne 17 = .ok (.return_, 1) := by decide +kernel
theorem dX6_readOne_18 : decode cX6_readOne 18 = .ok (.aload_n 0, 1) := by decide +kernel
theorem dX6_readOne_19 : decode cX6_readOne 19 = .ok (.getfield 37, 3) := by decide +kernel
theorem dX6_readOne_22 : decode cX6_readOne 22 = .ok (.aload_n 2, 1) := by decide +kernel
theorem dX6_readOne_23 : decode cX6_readOne 23 = .ok (.aload_n 1, 1) := by decide +kernel
theorem dX6_readOne_24 : decode cX6_readOne 24 = .ok (.getfield 103, 3) := by decide +kernel
theorem dX6_readOne_27 : decode cX6_readOne 27 = .ok (.aload_n 1, 1) := by decide +kernel
theorem dX6_readOne_28 : decode cX6_readOne 28 = .ok (.getfield 107, 3) := by decide +kernel
theorem dX6_readOne_31 : decode cX6_readOne 31 = .ok (.invokevirtual 110, 3) := by decide +kernel
theorem dX6_readOne_34 : decode cX6_readOne 34 = .ok (.aload_n 0, 1) := by decide +kernel
theorem dX6_readOne_35 : decode cX6_readOne 35 = .ok (.getfield 37, 3) := by decide +kernel
theorem dX6_readOne_38 : decode cX6_readOne 38 = .ok (.aload_n 2, 1) := by decide +kernel
theorem dX6_readOne_39 : decode cX6_readOne 39 = .ok (.bipush 114, 2) := by decide +kernel
theorem dX6_readOne_41 : decode cX6_readOne 41 = .ok (.invokevirtual 114, 3) := by decide +kernel
theorem dX6_readOne_44 : decode cX6_readOne 44 = .ok (.ifCond .eq 13, 3) := by decide +kernel
theorem dX6_readOne_47 : decode cX6_readOne 47 = .ok (.aload_n 1, 1) := by decide +kernel
theorem dX6_readOne_48 : decode cX6_readOne 48 = .ok (.bipush 7, 2) := by decide +kernel
theorem dX6_readOne_50 : decode cX6_readOne 50 = .ok (.iload_n 3, 1) := by decide +kernel
theorem dX6_readOne_51 : decode cX6_readOne 51 = .ok (.invokevirtual 83, 3) := by decide +kernel
theorem dX6_readOne_54 : decode cX6_readOne 54 = .ok (.goto 28, 3) := by decide +kernel
theorem dX6_readOne_57 : decode cX6_readOne 57 = .ok (.aload_n 0, 1) := by decide +kernel
theorem dX6_readOne_58 : decode cX6_readOne 58 = .ok (.aload_n 1, 1) := by decide +kernel
theorem dX6_readOne_59 : decode cX6_readOne 59 = .ok (.aload_n 2, 1) := by decide +kernel
theorem dX6_readOne_60 : decode cX6_readOne 60 = .ok (.invokevirtual 118, 3) := by decide +kernel
theorem dX6_readOne_63 : decode cX6_readOne 63 = .ok (.ifCond .eq 12, 3) := by decide +kernel
theorem dX6_readOne_66 : decode cX6_readOne 66 = .ok (.aload_n 1, 1) := by decide +kernel
theorem dX6_readOne_67 : decode cX6_readOne 67 = .ok (.iconst 3, 1) := by decide +kernel
theorem dX6_readOne_68 : decode cX6_readOne 68 = .ok (.iload_n 3, 1) := by decide +kernel
theorem dX6_readOne_69 : decode cX6_readOne 69 = .ok (.invokevirtual 83, 3) := by decide +kernel
theorem dX6_readOne_72 : decode cX6_readOne 72 = .ok (.goto 10, 3) := by decide +kernel
theorem dX6_readOne_75 : decode cX6_readOne 75 = .ok (.aload_n 0, 1) := by decide +kernel
theorem dX6_readOne_76 : decode cX6_readOne 76 = .ok (.aload_n 1, 1) := by decide +kernel
theorem dX6_readOne_77 : decode cX6_readOne 77 = .ok (.aload_n 2, 1) := by decide +kernel
theorem dX6_readOne_78 : decode cX6_readOne 78 = .ok (.iload_n 3, 1) := by decide +kernel
theorem dX6_readOne_79 : decode cX6_readOne 79 = .ok (.invokevirtual 122, 3) := by decide +kernel
theorem dX6_readOne_82 : decode cX6_readOne 82 = .ok (.return_, 1) := by decide +kernel
theorem dX6_isToHold_0 : decode cX6_isToHold 0 = .ok (.aload_n 1, 1) := by decide +kernel
theorem dX6_isToHold_1 : decode cX6_isToHold 1 = .ok (.getfield 52, 3) := by decide +kernel
theorem dX6_isToHold_4 : decode cX6_isToHold 4 = .ok (.getfield 125, 3) := by decide +kernel
theorem dX6_isToHold_7 : decode cX6_isToHold 7 = .ok (.aload_n 0, 1) := by decide +kernel
theorem dX6_isToHold_8 : decode cX6_isToHold 8 = .ok (.getfield 37, 3) := by decide +kernel
theorem dX6_isToHold_11 : decode cX6_isToHold 11 = .ok (.aload_n 2, 1) := by decide +kernel
theorem dX6_isToHold_12 : decode cX6_isToHold 12 = .ok (.invokevirtual 128, 3) := by decide +kernel
theorem dX6_isToHold_15 : decode cX6_isToHold 15 = .ok (.ior, 1) := by decide +kernel
theorem dX6_isToHold_16 : decode cX6_isToHold 16 = .ok (.invokestatic 132, 3) := by decide +kernel
theorem dX6_isToHold_19 : decode cX6_isToHold 19 = .ok (.istore_n 3, 1) := by decide +kernel
theorem dX6_isToHold_20 : decode cX6_isToHold 20 = .ok (.aload_n 0, 1) := by decide +kernel
theorem dX6_isToHold_21 : decode cX6_isToHold 21 = .ok (.getfield 37, 3) := by decide +kernel
theorem dX6_isToHold_24 : decode cX6_isToHold 24 = .ok (.aload_n 2, 1) := by decide +kernel
theorem dX6_isToHold_25 : decode cX6_isToHold 25 = .ok (.bipush 104, 2) := by decide +kernel
theorem dX6_isToHold_27 : decode cX6_isToHold 27 = .ok (.invokevirtual 114, 3) := by decide +kernel
theorem dX6_isToHold_30 : decode cX6_isToHold 30 = .ok (.ifCond .ne 21, 3) := by decide +kernel
theorem dX6_isToHold_33 : decode cX6_isToHold 33 = .ok (.aload_n 0, 1) := by decide +kernel
theorem dX6_isToHold_34 : decode cX6_isToHold 34 = .ok (.aload_n 1, 1) := by decide +kernel
theorem dX6_isToHold_35 : decode cX6_isToHold 35 = .ok (.invokevirtual 138, 3) := by decide +kernel
theorem dX6_isToHold_38 : decode cX6_isToHold 38 = .ok (.ifCond .ne 13, 3) := by decide +kernel
theorem dX6_isToHold_41 : decode cX6_isToHold 41 = .ok (.iload_n 3, 1) := by decide +kernel
theorem dX6_isToHold_42 : decode cX6_isToHold 42 = .ok (.aload_n 0, 1) := by decide +kernel
theorem dX6_isToHold_43 : decode cX6_isToHold 43 = .ok (.getfield 45, 3) := by decide +kernel
theorem dX6_isToHold_46 : decode cX6_isToHold 46 = .ok (.iconst 3, 1) := by decide +kernel
theorem dX6_isToHold_47 : decode cX6_isToHold 47 = .ok (.iaload, 1) := by decide +kernel
theorem dX6_isToHold_48 : decode cX6_isToHold 48 = .ok (.if_icmp .lt 7, 3) := by decide +kernel
theorem dX6_isToHold_51 : decode cX6_isToHold 51 = .ok (.iconst 1, 1) := by decide +kernel
theorem dX6_isToHold_52 : decode cX6_isToHold 52 = .ok (.goto 4, 3) := by decide +kernel
theorem dX6_isToHold_55 : decode cX6_isToHold 55 = .ok (.iconst 0, 1) := by decide +kernel
theorem dX6_isToHold_56 : decode cX6_isToHold 56 = .ok (.ireturn, 1) := by decide +kernel
theorem dX6_passHeld_0 : decode cX6_passHeld 0 = .ok (.aload_n 0, 1) := by decide +kernel
theorem dX6_passHeld_1 : decode cX6_passHeld 1 = .ok (.getfield 37, 3) := by decide +kernel
theorem dX6_passHeld_4 : decode cX6_passHeld 4 = .ok (.aload_n 2, 1) := by decide +kernel
theorem dX6_passHeld_5 : decode cX6_passHeld 5 = .ok (.aload_n 1, 1) := by decide +kernel
theorem dX6_passHeld_6 : decode cX6_passHeld 6 = .ok (.getfield 103, 3) := by decide +kernel
theorem dX6_passHeld_9 : decode cX6_passHeld 9 = .ok (.aload_n 1, 1) := by decide +kernel
theorem dX6_passHeld_10 : decode cX6_passHeld 10 = .ok (.getfield 107, 3) := by decide +kernel
theorem dX6_passHeld_13 : decode cX6_passHeld 13 = .ok (.invokevirtual 110, 3) := by decide +kernel
theorem dX6_passHeld_16 : decode cX6_passHeld 16 = .ok (.aload_n 0, 1) := by decide +kernel
theorem dX6_passHeld_17 : decode cX6_passHeld 17 = .ok (.aload_n 1, 1) := by decide +kernel
theorem dX6_passHeld_18 : decode cX6_passHeld 18 = .ok (.aload_n 2, 1) := by decide +kernel
theorem dX6_passHeld_19 : decode cX6_passHeld 19 = .ok (.iload_n 3, 1) := by decide +kernel
theorem dX6_passHeld_20 : decode cX6_passHeld 20 = .ok (.invokevirtual 122, 3) := by decide +kernel
theorem dX6_passHeld_23 : decode cX6_passHeld 23 = .ok (.return_, 1) := by decide +kernel
theorem dX6_pass_0 : decode cX6_pass 0 = .ok (.aload_n 1, 1) := by decide +kernel
theorem dX6_pass_1 : decode cX6_pass 1 = .ok (.getfield 52, 3) := by decide +kernel
theorem dX6_pass_4 : decode cX6_pass 4 = .ok (.dup, 1) := by decide +kernel
theorem dX6_pass_5 : decode cX6_pass 5 = .ok (.getfield 125, 3) := by decide +kernel
theorem dX6_pass_8 : decode cX6_pass 8 = .ok (.aload_n 0, 1) := by decide +kernel
theorem dX6_pass_9 : decode cX6_pass 9 = .ok (.getfield 37, 3) := by decide +kernel
theorem dX6_pass_12 : decode cX6_pass 12 = .ok (.aload_n 2, 1) := by decide +kernel
theorem dX6_pass_13 : decode cX6_pass 13 = .ok (.invokevirtual 128, 3) := by decide +kernel
theorem dX6_pass_16 : decode cX6_pass 16 = .ok (.ior, 1) := by decide +kernel
theorem dX6_pass_17 : decode cX6_pass 17 = .ok (.putfield 125, 3) := by decide +kernel
theorem dX6_pass_20 : decode cX6_pass 20 = .ok (.aload_n 0, 1) := by decide +kernel
theorem dX6_pass_21 : decode cX6_pass 21 = .ok (.aload_n 1, 1) := by decide +kernel
theorem dX6_pass_22 : decode cX6_pass 22 = .ok (.invokevirtual 142, 3) := by decide +kernel
theorem dX6_pass_25 : decode cX6_pass 25 = .ok (.aload_n 1, 1) := by decide +kernel
theorem dX6_pass_26 : decode cX6_pass 26 = .ok (.aload_n 2, 1) := by decide +kernel
theorem dX6_pass_27 : decode cX6_pass 27 = .ok (.aload_n 0, 1) := by decide +kernel
theorem dX6_pass_28 : decode cX6_pass 28 = .ok (.getfield 37, 3) := by decide +kernel
theorem dX6_pass_31 : decode cX6_pass 31 = .ok (.invokevirtual 146, 3) := by decide +kernel
theorem dX6_pass_34 : decode cX6_pass 34 = .ok (.aload_n 1, 1) := by decide +kernel
theorem dX6_pass_35 : decode cX6_pass 35 = .ok (.aload_n 0, 1) := by decide +kernel
theorem dX6_pass_36 : decode cX6_pass 36 = .ok (.getfield 41, 3) := by decide +kernel
theorem dX6_pass_39 : decode cX6_pass 39 = .ok (.aload_n 1, 1) := by decide +kernel
theorem dX6_pass_40 : decode cX6_pass 40 = .ok (.getfield 52, 3) := by decide +kernel
theorem dX6_pass_43 : decode cX6_pass 43 = .ok (.invokevirtual 150, 3) := by decide +kernel
theorem dX6_pass_46 : decode cX6_pass 46 = .ok (.ifCond .eq 7, 3) := by decide +kernel
theorem dX6_pass_49 : decode cX6_pass 49 = .ok (.iconst 5, 1) := by decide +kernel
theorem dX6_pass_50 : decode cX6_pass 50 = .ok (.goto 4, 3) := by decide +kernel
theorem dX6_pass_53 : decode cX6_pass 53 = .ok (.iconst 4, 1) := by decide +kernel
theorem dX6_pass_54 : decode cX6_pass 54 = .ok (.iload_n 3, 1) := by decide +kernel
theorem dX6_pass_55 : decode cX6_pass 55 = .ok (.invokevirtual 83, 3) := by decide +kernel
theorem dX6_pass_58 : decode cX6_pass 58 = .ok (.return_, 1) := by decide +kernel
theorem dX6_handOf_0 : decode cX6_handOf 0 = .ok (.aload_n 0, 1) := by decide +kernel
theorem dX6_handOf_1 : decode cX6_handOf 1 = .ok (.getfield 156, 3) := by decide +kernel
theorem dX6_handOf_4 : decode cX6_handOf 4 = .ok (.ifCond .ne 13, 3) := by decide +kernel
theorem dX6_handOf_7 : decode cX6_handOf 7 = .ok (.aload_n 0, 1) := by decide +kernel
theorem dX6_handOf_8 : decode cX6_handOf 8 = .ok (.getfield 52, 3) := by decide +kernel
theorem dX6_handOf_11 : decode cX6_handOf 11 = .ok (.getfield 159, 3) := by decide +kernel
theorem dX6_handOf_14 : decode cX6_handOf 14 = .ok (.goto 13, 3) := by decide +kernel
theorem dX6_handOf_17 : decode cX6_handOf 17 = .ok (.bipush 16, 2) := by decide +kernel
theorem dX6_handOf_19 : decode cX6_handOf 19 = .ok (.aload_n 0, 1) := by decide +kernel
theorem dX6_handOf_20 : decode cX6_handOf 20 = .ok (.getfield 52, 3) := by decide +kernel
theorem dX6_handOf_23 : decode cX6_handOf 23 = .ok (.getfield 162, 3) := by decide +kernel
theorem dX6_handOf_26 : decode cX6_handOf 26 = .ok (.iadd, 1) := by decide +kernel
theorem dX6_handOf_27 : decode cX6_handOf 27 = .ok (.ireturn, 1) := by decide +kernel
theorem dX6_countMarks_0 : decode cX6_countMarks 0 = .ok (.aload_n 1, 1) := by decide +kernel
theorem dX6_countMarks_1 : decode cX6_countMarks 1 = .ok (.invokestatic 165, 3) := by decide +kernel
theorem dX6_countMarks_4 : decode cX6_countMarks 4 = .ok (.istore_n 2, 1) := by decide +kernel
theorem dX6_countMarks_5 : decode cX6_countMarks 5 = .ok (.aload_n 0, 1) := by decide +kernel
theorem dX6_countMarks_6 : decode cX6_countMarks 6 = .ok (.getfield 28, 3) := by decide +kernel
theorem dX6_countMarks_9 : decode cX6_countMarks 9 = .ok (.iload_n 2, 1) := by decide +kernel
theorem dX6_countMarks_10 : decode cX6_countMarks 10 = .ok (.dup2, 1) := by decide +kernel
theorem dX6_countMarks_11 : decode cX6_countMarks 11 = .ok (.iaload, 1) := by decide +kernel
theorem dX6_countMarks_12 : decode cX6_countMarks 12 = .ok (.iconst 1, 1) := by decide +kernel
theorem dX6_countMarks_13 : decode cX6_countMarks 13 = .ok (.iadd, 1) := by decide +kernel
theorem dX6_countMarks_14 : decode cX6_countMarks 14 = .ok (.iastore, 1) := by decide +kernel
theorem dX6_countMarks_15 : decode cX6_countMarks 15 = .ok (.iconst 0, 1) := by decide +kernel
theorem dX6_countMarks_16 : decode cX6_countMarks 16 = .ok (.istore_n 3, 1) := by decide +kernel
theorem dX6_countMarks_17 : decode cX6_countMarks 17 = .ok (.iload_n 3, 1) := by decide +kernel
theorem dX6_countMarks_18 : decode cX6_countMarks 18 = .ok (.iconst 4, 1) := by decide +kernel
theorem dX6_countMarks_19 : decode cX6_countMarks 19 = .ok (.if_icmp .ge 28, 3) := by decide +kernel
theorem dX6_countMarks_22 : decode cX6_countMarks 22 = .ok (.aload_n 0, 1) := by decide +kernel
theorem dX6_countMarks_23 : decode cX6_countMarks 23 = .ok (.getfield 31, 3) := by decide +kernel
theorem dX6_countMarks_26 : decode cX6_countMarks 26 = .ok (.iload_n 2, 1) := by decide +kernel
theorem dX6_countMarks_27 : decode cX6_countMarks 27 = .ok (.iconst 4, 1) := by decide +kernel
theorem dX6_countMarks_28 : decode cX6_countMarks 28 = .ok (.imul, 1) := by decide +kernel
theorem dX6_countMarks_29 : decode cX6_countMarks 29 = .ok (.iload_n 3, 1) := by decide +kernel
theorem dX6_countMarks_30 : decode cX6_countMarks 30 = .ok (.iadd, 1) := by decide +kernel
theorem dX6_countMarks_31 : decode cX6_countMarks 31 = .ok (.dup2, 1) := by decide +kernel
theorem dX6_countMarks_32 : decode cX6_countMarks 32 = .ok (.iaload, 1) := by decide +kernel
theorem dX6_countMarks_33 : decode cX6_countMarks 33 = .ok (.aload_n 1, 1) := by decide +kernel
theorem dX6_countMarks_34 : decode cX6_countMarks 34 = .ok (.getfield 169, 3) := by decide +kernel
theorem dX6_countMarks_37 : decode cX6_countMarks 37 = .ok (.iload_n 3, 1) := by decide +kernel
theorem dX6_countMarks_38 : decode cX6_countMarks 38 = .ok (.iaload, 1) := by decide +kernel
theorem dX6_countMarks_39 : decode cX6_countMarks 39 = .ok (.iadd, 1) := by decide +kernel
theorem dX6_countMarks_40 : decode cX6_countMarks 40 = .ok (.iastore, 1) := by decide +kernel
theorem dX6_countMarks_41 : decode cX6_countMarks 41 = .ok (.iinc 3 1, 3) := by decide +kernel
theorem dX6_countMarks_44 : decode cX6_countMarks 44 = .ok (.goto (-27), 3) := by decide +kernel
theorem dX6_countMarks_47 : decode cX6_countMarks 47 = .ok (.return_, 1) := by decide +kernel
theorem dX6_isUnlike_0 : decode cX6_isUnlike 0 = .ok (.aload_n 1, 1) := by decide +kernel
theorem dX6_isUnlike_1 : decode cX6_isUnlike 1 = .ok (.invokestatic 165, 3) := by decide +kernel
theorem dX6_isUnlike_4 : decode cX6_isUnlike 4 = .ok (.istore_n 2, 1) := by decide +kernel
theorem dX6_isUnlike_5 : decode cX6_isUnlike 5 = .ok (.aload_n 0, 1) := by decide +kernel
theorem dX6_isUnlike_6 : decode cX6_isUnlike 6 = .ok (.getfield 28, 3) := by decide +kernel
theorem dX6_isUnlike_9 : decode cX6_isUnlike 9 = .ok (.iload_n 2, 1) := by decide +kernel
theorem dX6_isUnlike_10 : decode cX6_isUnlike 10 = .ok (.iaload, 1) := by decide +kernel
theorem dX6_isUnlike_11 : decode cX6_isUnlike 11 = .ok (.istore_n 3, 1) := by decide +kernel
theorem dX6_isUnlike_12 : decode cX6_isUnlike 12 = .ok (.iconst 0, 1) := by decide +kernel
theorem dX6_isUnlike_13 : decode cX6_isUnlike 13 = .ok (.istore 4, 2) := by decide +kernel
theorem dX6_isUnlike_15 : decode cX6_isUnlike 15 = .ok (.iconst 0, 1) := by decide +kernel
theorem dX6_isUnlike_16 : decode cX6_isUnlike 16 = .ok (.istore 5, 2) := by decide +kernel
theorem dX6_isUnlike_18 : decode cX6_isUnlike 18 = .ok (.iload 5, 2) := by decide +kernel
theorem dX6_isUnlike_20 : decode cX6_isUnlike 20 = .ok (.iconst 4, 1) := by decide +kernel
theorem dX6_isUnlike_21 : decode cX6_isUnlike 21 = .ok (.if_icmp .ge 38, 3) := by decide +kernel
theorem dX6_isUnlike_24 : decode cX6_isUnlike 24 = .ok (.iload 4, 2) := by decide +kernel
theorem dX6_isUnlike_26 : decode cX6_isUnlike 26 = .ok (.iload_n 3, 1) := by decide +kernel
theorem dX6_isUnlike_27 : decode cX6_isUnlike 27 = .ok (.aload_n 1, 1) := by decide +kernel
theorem dX6_isUnlike_28 : decode cX6_isUnlike 28 = .ok (.getfield 169, 3) := by decide +kernel
theorem dX6_isUnlike_31 : decode cX6_isUnlike 31 = .ok (.iload 5, 2) := by decide +kernel
theorem dX6_isUnlike_33 : decode cX6_isUnlike 33 = .ok (.iaload, 1) := by decide +kernel
theorem dX6_isUnlike_34 : decode cX6_isUnlike 34 = .ok (.imul, 1) := by decide +kernel
theorem dX6_isUnlike_35 : decode cX6_isUnlike 35 = .ok (.aload_n 0, 1) := by decide +kernel
theorem dX6_isUnlike_36 : decode cX6_isUnlike 36 = .ok (.getfield 31, 3) := by decide +kernel
theorem dX6_isUnlike_39 : decode cX6_isUnlike 39 = .ok (.iload_n 2, 1) := by decide +kernel
theorem dX6_isUnlike_40 : decode cX6_isUnlike 40 = .ok (.iconst 4, 1) := by decide +kernel
theorem dX6_isUnlike_41 : decode cX6_isUnlike 41 = .ok (.imul, 1) := by decide +kernel
theorem dX6_isUnlike_42 : decode cX6_isUnlike 42 = .ok (.iload 5, 2) := by decide +kernel
theorem dX6_isUnlike_44 : decode cX6_isUnlike 44 = .ok (.iadd, 1) := by decide +kernel
theorem dX6_isUnlike_45 : decode cX6_isUnlike 45 = .ok (.iaload, 1) := by decide +kernel
theorem dX6_isUnlike_46 : decode cX6_isUnlike 46 = .ok (.isub, 1) := by decide +kernel
theorem dX6_isUnlike_47 : decode cX6_isUnlike 47 = .ok (.invokestatic 172, 3) := by decide +kernel
theorem dX6_isUnlike_50 : decode cX6_isUnlike 50 = .ok (.iadd, 1) := by decide +kernel
theorem dX6_isUnlike_51 : decode cX6_isUnlike 51 = .ok (.istore 4, 2) := by decide +kernel
theorem dX6_isUnlike_53 : decode cX6_isUnlike 53 = .ok (.iinc 5 1, 3) := by decide +kernel
theorem dX6_isUnlike_56 : decode cX6_isUnlike 56 = .ok (.goto (-38), 3) := by decide +kernel
theorem dX6_isUnlike_59 : decode cX6_isUnlike 59 = .ok (.iload_n 3, 1) := by decide +kernel
theorem dX6_isUnlike_60 : decode cX6_isUnlike 60 = .ok (.iconst 3, 1) := by decide +kernel
theorem dX6_isUnlike_61 : decode cX6_isUnlike 61 = .ok (.if_icmp .lt 20, 3) := by decide +kernel
theorem dX6_isUnlike_64 : decode cX6_isUnlike 64 = .ok (.iload 4, 2) := by decide +kernel
theorem dX6_isUnlike_66 : decode cX6_isUnlike 66 = .ok (.iload_n 3, 1) := by decide +kernel
theorem dX6_isUnlike_67 : decode cX6_isUnlike 67 = .ok (.aload_n 0, 1) := by decide +kernel
theorem dX6_isUnlike_68 : decode cX6_isUnlike 68 = .ok (.getfield 45, 3) := by decide +kernel
theorem dX6_isUnlike_71 : decode cX6_isUnlike 71 = .ok (.iconst 4, 1) := by decide +kernel
theorem dX6_isUnlike_72 : decode cX6_isUnlike 72 = .ok (.iaload, 1) := by decide +kernel
theorem dX6_isUnlike_73 : decode cX6_isUnlike 73 = .ok (.imul, 1) := by decide +kernel
theorem dX6_isUnlike_74 : decode cX6_isUnlike 74 = .ok (.if_icmp .le 7, 3) := by decide +kernel
theorem dX6_isUnlike_77 : decode cX6_isUnlike 77 = .ok (.iconst 1, 1) := by decide +kernel
theorem dX6_isUnlike_78 : decode cX6_isUnlike 78 = .ok (.goto 4, 3) := by decide +kernel
theorem dX6_isUnlike_81 : decode cX6_isUnlike 81 = .ok (.iconst 0, 1) := by decide +kernel
theorem dX6_isUnlike_82 : decode cX6_isUnlike 82 = .ok (.ireturn, 1) := by decide +kernel
theorem dX6_bring_0 : decode cX6_bring 0 = .ok (.iconst 0, 1) := by decide +kernel
theorem dX6_bring_1 : decode cX6_bring 1 = .ok (.istore_n 2, 1) := by decide +kernel
theorem dX6_bring_2 : decode cX6_bring 2 = .ok (.iload_n 2, 1) := by decide +kernel
theorem dX6_bring_3 : decode cX6_bring 3 = .ok (.aload_n 0, 1) := by decide +kernel
theorem dX6_bring_4 : decode cX6_bring 4 = .ok (.getfield 48, 3) := by decide +kernel
theorem dX6_bring_7 : decode cX6_bring 7 = .ok (.if_icmp .ge 122, 3) := by decide +kernel
theorem dX6_bring_10 : decode cX6_bring 10 = .ok (.aload_n 0, 1) := by decide +kernel
theorem dX6_bring_11 : decode cX6_bring 11 = .ok (.getfield 11, 3) := by decide +kernel
theorem dX6_bring_14 : decode cX6_bring 14 = .ok (.iload_n 2, 1) := by decide +kernel
theorem dX6_bring_15 : decode cX6_bring 15 = .ok (.aaload, 1) := by decide +kernel
theorem dX6_bring_16 : decode cX6_bring 16 = .ok (.astore_n 3, 1) := by decide +kernel
theorem dX6_bring_17 : decode cX6_bring 17 = .ok (.aload_n 0, 1) := by decide +kernel
theorem dX6_bring_18 : decode cX6_bring 18 = .ok (.getfield 41, 3) := by decide +kernel
theorem dX6_bring_21 : decode cX6_bring 21 = .ok (.getfield 177, 3) := by decide +kernel
theorem dX6_bring_24 : decode cX6_bring 24 = .ok (.aload_n 3, 1) := by decide +kernel
theorem dX6_bring_25 : decode cX6_bring 25 = .ok (.getfield 52, 3) := by decide +kernel
theorem dX6_bring_28 : decode cX6_bring 28 = .ok (.getfield 162, 3) := by decide +kernel
theorem dX6_bring_31 : decode cX6_bring 31 = .ok (.iaload, 1) := by decide +kernel
theorem dX6_bring_32 : decode cX6_bring 32 = .ok (.istore 4, 2) := by decide +kernel
theorem dX6_bring_34 : decode cX6_bring 34 = .ok (.aload_n 3, 1) := by decide +kernel
theorem dX6_bring_35 : decode cX6_bring 35 = .ok (.getfield 64, 3) := by decide +kernel
theorem dX6_bring_38 : decode cX6_bring 38 = .ok (.iconst 5, 1) := by decide +kernel
theorem dX6_bring_39 : decode cX6_bring 39 = .ok (.if_icmp .ne 84, 3) := by decide +kernel
theorem dX6_bring_42 : decode cX6_bring 42 = .ok (.iload_n 1, 1) := by decide +kernel
theorem dX6_bring_43 : decode cX6_bring 43 = .ok (.aload_n 3, 1) := by decide +kernel
theorem dX6_bring_44 : decode cX6_bring 44 = .ok (.getfield 70, 3) := by decide +kernel
theorem dX6_bring_47 : decode cX6_bring 47 = .ok (.isub, 1) := by decide +kernel
theorem dX6_bring_48 : decode cX6_bring 48 = .ok (.aload_n 0, 1) := by decide +kernel
theorem dX6_bring_49 : decode cX6_bring 49 = .ok (.getfield 41, 3) := by decide +kernel
theorem dX6_bring_52 : decode cX6_bring 52 = .ok (.getfield 180, 3) := by decide +kernel
theorem dX6_bring_55 : decode cX6_bring 55 = .ok (.iload 4, 2) := by decide +kernel
theorem dX6_bring_57 : decode cX6_bring 57 = .ok (.iaload, 1) := by decide +kernel
theorem dX6_bring_58 : decode cX6_bring 58 = .ok (.if_icmp .lt 65, 3) := by decide +kernel
theorem dX6_bring_61 : decode cX6_bring 61 = .ok (.aload_n 0, 1) := by decide +kernel
theorem dX6_bring_62 : decode cX6_bring 62 = .ok (.getfield 41, 3) := by decide +kernel
theorem dX6_bring_65 : decode cX6_bring 65 = .ok (.iload 4, 2) := by decide +kernel
theorem dX6_bring_67 : decode cX6_bring 67 = .ok (.iload_n 1, 1) := by decide +kernel
theorem dX6_bring_68 : decode cX6_bring 68 = .ok (.invokevirtual 183, 3) := by decide +kernel
theorem dX6_bring_71 : decode cX6_bring 71 = .ok (.ifCond .eq 6, 3) := by decide +kernel
theorem dX6_bring_74 : decode cX6_bring 74 = .ok (.goto 49, 3) := by decide +kernel
theorem dX6_bring_77 : decode cX6_bring 77 = .ok (.aload_n 3, 1) := by decide +kernel
theorem dX6_bring_78 : decode cX6_bring 78 = .ok (.aload_n 3, 1) := by decide +kernel
theorem dX6_bring_79 : decode cX6_bring 79 = .ok (.getfield 52, 3) := by decide +kernel
theorem dX6_bring_82 : decode cX6_bring 82 = .ok (.invokevirtual 99, 3) := by decide +kernel
theorem dX6_bring_85 : decode cX6_bring 85 = .ok (.ifCond .eq 8, 3) := by decide +kernel
theorem dX6_bring_88 : decode cX6_bring 88 = .ok (.bipush 6, 2) := by decide +kernel
theorem dX6_bring_90 : decode cX6_bring 90 = .ok (.goto 5, 3) := by decide +kernel
theorem dX6_bring_93 : decode cX6_bring 93 = .ok (.bipush 7, 2) := by decide +kernel
theorem dX6_bring_95 : decode cX6_bring 95 = .ok (.iload_n 1, 1) := by decide +kernel
theorem dX6_bring_96 : decode cX6_bring 96 = .ok (.invokevirtual 83, 3) := by decide +kernel
theorem dX6_bring_99 : decode cX6_bring 99 = .ok (.aload_n 3, 1) := by decide +kernel
theorem dX6_bring_100 : decode cX6_bring 100 = .ok (.getfield 64, 3) := by decide +kernel
theorem dX6_bring_103 : decode cX6_bring 103 = .ok (.bipush 6, 2) := by decide +kernel
theorem dX6_bring_105 : decode cX6_bring 105 = .ok (.if_icmp .ne 18, 3) := by decide +kernel
theorem dX6_bring_108 : decode cX6_bring 108 = .ok (.aload_n 3, 1) := by decide +kernel
theorem dX6_bring_109 : decode cX6_bring 109 = .ok (.getfield 156, 3) := by decide +kernel
theorem dX6_bring_112 : decode cX6_bring 112 = .ok (.ifCond .ne 11, 3) := by decide +kernel
theorem dX6_bring_115 : decode cX6_bring 115 = .ok (.aload_n 3, 1) := by decide +kernel
theorem dX6_bring_116 : decode cX6_bring 116 = .ok (.getfield 52, 3) := by decide +kernel
theorem dX6_bring_119 : decode cX6_bring 119 = .ok (.iload_n 1, 1) := by decide +kernel
theorem dX6_bring_120 : decode cX6_bring 120 = .ok (.putfield 187, 3) := by decide +kernel
theorem dX6_bring_123 : decode cX6_bring 123 = .ok (.iinc 2 1, 3) := by decide +kernel
theorem dX6_bring_126 : decode cX6_bring 126 = .ok (.goto (-124), 3) := by decide +kernel
theorem dX6_bring_129 : decode cX6_bring 129 = .ok (.return_, 1) := by decide +kernel
theorem dX6_send_0 : decode cX6_send 0 = .ok (.aload_n 0, 1) := by decide +kernel
theorem dX6_send_1 : decode cX6_send 1 = .ok (.getfield 45, 3) := by decide +kernel
theorem dX6_send_4 : decode cX6_send 4 = .ok (.iconst 1, 1) := by decide +kernel
theorem dX6_send_5 : decode cX6_send 5 = .ok (.iaload, 1) := by decide +kernel
theorem dX6_send_6 : decode cX6_send 6 = .ok (.iload_n 1, 1) := by decide +kernel
theorem dX6_send_7 : decode cX6_send 7 = .ok (.bipush 7, 2) := by decide +kernel
theorem dX6_send_9 : decode cX6_send 9 = .ok (.irem, 1) := by decide +kernel
theorem dX6_send_10 : decode cX6_send 10 = .ok (.ishr, 1) := by decide +kernel
theorem dX6_send_11 : decode cX6_send 11 = .ok (.iconst 1, 1) := by decide +kernel
theorem dX6_send_12 : decode cX6_send 12 = .ok (.iand, 1) := by decide +kernel
theorem dX6_send_13 : decode cX6_send 13 = .ok (.ifCond .eq 7, 3) := by decide +kernel
theorem dX6_send_16 : decode cX6_send 16 = .ok (.iconst 1, 1) := by decide +kernel
theorem dX6_send_17 : decode cX6_send 17 = .ok (.goto 4, 3) := by decide +kernel
theorem dX6_send_20 : decode cX6_send 20 = .ok (.iconst 0, 1) := by decide +kernel
theorem dX6_send_21 : decode cX6_send 21 = .ok (.istore_n 2, 1) := by decide +kernel
theorem dX6_send_22 : decode cX6_send 22 = .ok (.iload_n 2, 1) := by decide +kernel
theorem dX6_send_23 : decode cX6_send 23 = .ok (.ifCond .eq 21, 3) := by decide +kernel
theorem dX6_send_26 : decode cX6_send 26 = .ok (.aload_n 0, 1) := by decide +kernel
theorem dX6_send_27 : decode cX6_send 27 = .ok (.iconst 0, 1) := by decide +kernel
theorem dX6_send_28 : decode cX6_send 28 = .ok (.invokevirtual 190, 3) := by decide +kernel
theorem dX6_send_31 : decode cX6_send 31 = .ok (.ifCond .eq 13, 3) := by decide +kernel
theorem dX6_send_34 : decode cX6_send 34 = .ok (.aload_n 0, 1) := by decide +kernel
theorem dX6_send_35 : decode cX6_send 35 = .ok (.getfield 73, 3) := by decide +kernel
theorem dX6_send_38 : decode cX6_send 38 = .ok (.sipush 200, 3) := by decide +kernel
theorem dX6_send_41 : decode cX6_send 41 = .ok (.if_icmp .lt 4, 3) := by decide +kernel
theorem dX6_send_44 : decode cX6_send 44 = .ok (.return_, 1) := by decide +kernel
theorem dX6_send_45 : decode cX6_send 45 = .ok (.iconst 0, 1) := by decide +kernel
theorem dX6_send_46 : decode cX6_send 46 = .ok (.istore_n 3, 1) := by decide +kernel
theorem dX6_send_47 : decode cX6_send 47 = .ok (.iload_n 3, 1) := by decide +kernel
theorem dX6_send_48 : decode cX6_send 48 = .ok (.aload_n 0, 1) := by decide +kernel
theorem dX6_send_49 : decode cX6_send 49 = .ok (.getfield 48, 3) := by decide +kernel
theorem dX6_send_52 : decode cX6_send 52 = .ok (.if_icmp .ge 45, 3) := by decide +kernel
theorem dX6_send_55 : decode cX6_send 55 = .ok (.aload_n 0, 1) := by decide +kernel
theorem dX6_send_56 : decode cX6_send 56 = .ok (.getfield 11, 3) := by decide +kernel
theorem dX6_send_59 : decode cX6_send 59 = .ok (.iload_n 3, 1) := by decide +kernel
theorem dX6_send_60 : decode cX6_send 60 = .ok (.aaload, 1) := by decide +kernel
theorem dX6_send_61 : decode cX6_send 61 = .ok (.getfield 64, 3) := by decide +kernel
theorem dX6_send_64 : decode cX6_send 64 = .ok (.ifCond .ne 27, 3) := by decide +kernel
theorem dX6_send_67 : decode cX6_send 67 = .ok (.aload_n 0, 1) := by decide +kernel
theorem dX6_send_68 : decode cX6_send 68 = .ok (.getfield 11, 3) := by decide +kernel
theorem dX6_send_71 : decode cX6_send 71 = .ok (.iload_n 3, 1) := by decide +kernel
theorem dX6_send_72 : decode cX6_send 72 = .ok (.aaload, 1) := by decide +kernel
theorem dX6_send_73 : decode cX6_send 73 = .ok (.iconst 1, 1) := by decide +kernel
theorem dX6_send_74 : decode cX6_send 74 = .ok (.iload_n 1, 1) := by decide +kernel
theorem dX6_send_75 : decode cX6_send 75 = .ok (.invokevirtual 83, 3) := by decide +kernel
theorem dX6_send_78 : decode cX6_send 78 = .ok (.aload_n 0, 1) := by decide +kernel
theorem dX6_send_79 : decode cX6_send 79 = .ok (.getfield 11, 3) := by decide +kernel
theorem dX6_send_82 : decode cX6_send 82 = .ok (.iload_n 3, 1) := by decide +kernel
theorem dX6_send_83 : decode cX6_send 83 = .ok (.aaload, 1) := by decide +kernel
theorem dX6_send_84 : decode cX6_send 84 = .ok (.aload_n 0, 1) := by decide +kernel
theorem dX6_send_85 : decode cX6_send 85 = .ok (.getfield 73, 3) := by decide +kernel
theorem dX6_send_88 : decode cX6_send 88 = .ok (.putfield 80, 3) := by decide +kernel
theorem dX6_send_91 : decode cX6_send 91 = .ok (.iinc 3 1, 3) := by decide +kernel
theorem dX6_send_94 : decode cX6_send 94 = .ok (.goto (-47), 3) := by decide +kernel
theorem dX6_send_97 : decode cX6_send 97 = .ok (.aload_n 0, 1) := by decide +kernel
theorem dX6_send_98 : decode cX6_send 98 = .ok (.getfield 17, 3) := by decide +kernel
theorem dX6_send_101 : decode cX6_send 101 = .ok (.aload_n 0, 1) := by decide +kernel
theorem dX6_send_102 : decode cX6_send 102 = .ok (.getfield 73, 3) := by decide +kernel
theorem dX6_send_105 : decode cX6_send 105 = .ok (.iload_n 1, 1) := by decide +kernel
theorem dX6_send_106 : decode cX6_send 106 = .ok (.iastore, 1) := by decide +kernel
theorem dX6_send_107 : decode cX6_send 107 = .ok (.aload_n 0, 1) := by decide +kernel
theorem dX6_send_108 : decode cX6_send 108 = .ok (.getfield 21, 3) := by decide +kernel
theorem dX6_send_111 : decode cX6_send 111 = .ok (.aload_n 0, 1) := by decide +kernel
theorem dX6_send_112 : decode cX6_send 112 = .ok (.getfield 73, 3) := by decide +kernel
theorem dX6_send_115 : decode cX6_send 115 = .ok (.aload_n 0, 1) := by decide +kernel
theorem dX6_send_116 : decode cX6_send 116 = .ok (.getfield 45, 3) := by decide +kernel
theorem dX6_send_119 : decode cX6_send 119 = .ok (.iconst 0, 1) := by decide +kernel
theorem dX6_send_120 : decode cX6_send 120 = .ok (.iaload, 1) := by decide +kernel
theorem dX6_send_121 : decode cX6_send 121 = .ok (.iastore, 1) := by decide +kernel
theorem dX6_send_122 : decode cX6_send 122 = .ok (.aload_n 0, 1) := by decide +kernel
theorem dX6_send_123 : decode cX6_send 123 = .ok (.getfield 24, 3) := by decide +kernel
theorem dX6_send_126 : decode cX6_send 126 = .ok (.aload_n 0, 1) := by decide +kernel
theorem dX6_send_127 : decode cX6_send 127 = .ok (.getfield 73, 3) := by decide +kernel
theorem dX6_send_130 : decode cX6_send 130 = .ok (.iconst 1, 1) := by decide +kernel
theorem dX6_send_131 : decode cX6_send 131 = .ok (.bastore, 1) := by decide +kernel
theorem dX6_send_132 : decode cX6_send 132 = .ok (.aload_n 0, 1) := by decide +kernel
theorem dX6_send_133 : decode cX6_send 133 = .ok (.dup, 1) := by decide +kernel
theorem dX6_send_134 : decode cX6_send 134 = .ok (.getfield 73, 3) := by decide +kernel
theorem dX6_send_137 : decode cX6_send 137 = .ok (.iconst 1, 1) := by decide +kernel
theorem dX6_send_138 : decode cX6_send 138 = .ok (.iadd, 1) := by decide +kernel
theorem dX6_send_139 : decode cX6_send 139 = .ok (.putfield 73, 3) := by decide +kernel
theorem dX6_send_142 : decode cX6_send 142 = .ok (.return_, 1) := by decide +kernel
theorem dX6_addLags_0 : decode cX6_addLags 0 = .ok (.iconst 0, 1) := by decide +kernel
theorem dX6_addLags_1 : decode cX6_addLags 1 = .ok (.istore_n 1, 1) := by decide +kernel
theorem dX6_addLags_2 : decode cX6_addLags 2 = .ok (.iload_n 1, 1) := by decide +kernel
theorem dX6_addLags_3 : decode cX6_addLags 3 = .ok (.aload_n 0, 1) := by decide +kernel
theorem dX6_addLags_4 : decode cX6_addLags 4 = .ok (.getfield 48, 3) := by decide +kernel
theorem dX6_addLags_7 : decode cX6_addLags 7 = .ok (.if_icmp .ge 46, 3) := by decide +kernel
theorem dX6_addLags_10 : decode cX6_addLags 10 = .ok (.aload_n 0, 1) := by decide +kernel
theorem dX6_addLags_11 : decode cX6_addLags 11 = .ok (.getfield 11, 3) := by decide +kernel
theorem dX6_addLags_14 : decode cX6_addLags 14 = .ok (.iload_n 1, 1) := by decide +kernel
theorem dX6_addLags_15 : decode cX6_addLags 15 = .ok (.aaload, 1) := by decide +kernel
theorem dX6_addLags_16 : decode cX6_addLags 16 = .ok (.getfield 64, 3) := by decide +kernel
theorem dX6_addLags_19 : decode cX6_addLags 19 = .ok (.bipush 6, 2) := by decide +kernel
theorem dX6_addLags_21 : decode cX6_addLags 21 = .ok (.if_icmp .ge 26, 3) := by decide +kernel
theorem dX6_addLags_24 : decode cX6_addLags 24 = .ok (.aload_n 0, 1) := by decide +kernel
theorem dX6_addLags_25 : decode cX6_addLags 25 = .ok (.getfield 11, 3) := by decide +kernel
theorem dX6_addLags_28 : decode cX6_addLags 28 = .ok (.iload_n 1, 1) := by decide +kernel
theorem dX6_addLags_29 : decode cX6_addLags 29 = .ok (.aaload, 1) := by decide +kernel
theorem dX6_addLags_30 : decode cX6_addLags 30 = .ok (.getfield 67, 3) := by decide +kernel
theorem dX6_addLags_33 : decode cX6_addLags 33 = .ok (.aload_n 0, 1) := by decide +kernel
theorem dX6_addLags_34 : decode cX6_addLags 34 = .ok (.getfield 11, 3) := by decide +kernel
theorem dX6_addLags_37 : decode cX6_addLags 37 = .ok (.iload_n 1, 1) := by decide +kernel
theorem dX6_addLags_38 : decode cX6_addLags 38 = .ok (.aaload, 1) := by decide +kernel
theorem dX6_addLags_39 : decode cX6_addLags 39 = .ok (.getfield 64, 3) := by decide +kernel
theorem dX6_addLags_42 : decode cX6_addLags 42 = .ok (.dup2, 1) := by decide +kernel
theorem dX6_addLags_43 : decode cX6_addLags 43 = .ok (.iaload, 1) := by decide +kernel
theorem dX6_addLags_44 : decode cX6_addLags 44 = .ok (.iconst 1, 1) := by decide +kernel
theorem dX6_addLags_45 : decode cX6_addLags 45 = .ok (.iadd, 1) := by decide +kernel
theorem dX6_addLags_46 : decode cX6_addLags 46 = .ok (.iastore, 1) := by decide +kernel
theorem dX6_addLags_47 : decode cX6_addLags 47 = .ok (.iinc 1 1, 3) := by decide +kernel
theorem dX6_addLags_50 : decode cX6_addLags 50 = .ok (.goto (-48), 3) := by decide +kernel
theorem dX6_addLags_53 : decode cX6_addLags 53 = .ok (.return_, 1) := by decide +kernel
theorem dX6_cameAmiss_0 : decode cX6_cameAmiss 0 = .ok (.iconst 0, 1) := by decide +kernel
theorem dX6_cameAmiss_1 : decode cX6_cameAmiss 1 = .ok (.istore_n 2, 1) := by decide +kernel
theorem dX6_cameAmiss_2 : decode cX6_cameAmiss 2 = .ok (.iconst 0, 1) := by decide +kernel
theorem dX6_cameAmiss_3 : decode cX6_cameAmiss 3 = .ok (.istore_n 3, 1) := by decide +kernel
theorem dX6_cameAmiss_4 : decode cX6_cameAmiss 4 = .ok (.iload_n 3, 1) := by decide +kernel
theorem dX6_cameAmiss_5 : decode cX6_cameAmiss 5 = .ok (.aload_n 0, 1) := by decide +kernel
theorem dX6_cameAmiss_6 : decode cX6_cameAmiss 6 = .ok (.getfield 48, 3) := by decide +kernel
theorem dX6_cameAmiss_9 : decode cX6_cameAmiss 9 = .ok (.if_icmp .ge 68, 3) := by decide +kernel
theorem dX6_cameAmiss_12 : decode cX6_cameAmiss 12 = .ok (.aload_n 0, 1) := by decide +kernel
theorem dX6_cameAmiss_13 : decode cX6_cameAmiss 13 = .ok (.getfield 41, 3) := by decide +kernel
theorem dX6_cameAmiss_16 : decode cX6_cameAmiss 16 = .ok (.aload_n 0, 1) := by decide +kernel
theorem dX6_cameAmiss_17 : decode cX6_cameAmiss 17 = .ok (.getfield 11, 3) := by decide +kernel
theorem dX6_cameAmiss_20 : decode cX6_cameAmiss 20 = .ok (.iload_n 3, 1) := by decide +kernel
theorem dX6_cameAmiss_21 : decode cX6_cameAmiss 21 = .ok (.aaload, 1) := by decide +kernel
theorem dX6_cameAmiss_22 : decode cX6_cameAmiss 22 = .ok (.getfield 52, 3) := by decide +kernel
theorem dX6_cameAmiss_25 : decode cX6_cameAmiss 25 = .ok (.getfield 162, 3) := by decide +kernel
theorem dX6_cameAmiss_28 : decode cX6_cameAmiss 28 = .ok (.iload_n 1, 1) := by decide +kernel
theorem dX6_cameAmiss_29 : decode cX6_cameAmiss 29 = .ok (.invokevirtual 193, 3) := by decide +kernel
theorem dX6_cameAmiss_32 : decode cX6_cameAmiss 32 = .ok (.istore 4, 2) := by decide +kernel
theorem dX6_cameAmiss_34 : decode cX6_cameAmiss 34 = .ok (.aload_n 0, 1) := by decide +kernel
theorem dX6_cameAmiss_35 : decode cX6_cameAmiss 35 = .ok (.getfield 11, 3) := by decide +kernel
theorem dX6_cameAmiss_38 : decode cX6_cameAmiss 38 = .ok (.iload_n 3, 1) := by decide +kernel
theorem dX6_cameAmiss_39 : decode cX6_cameAmiss 39 = .ok (.aaload, 1) := by decide +kernel
theorem dX6_cameAmiss_40 : decode cX6_cameAmiss 40 = .ok (.getfield 64, 3) := by decide +kernel
theorem dX6_cameAmiss_43 : decode cX6_cameAmiss 43 = .ok (.bipush 6, 2) := by decide +kernel
theorem dX6_cameAmiss_45 : decode cX6_cameAmiss 45 = .ok (.if_icmp .ne 26, 3) := by decide +kernel
theorem dX6_cameAmiss_48 : decode cX6_cameAmiss 48 = .ok (.iload 4, 2) := by decide +kernel
theorem dX6_cameAmiss_50 : decode cX6_cameAmiss 50 = .ok (.iconst (-1), 1) := by decide +kernel
theorem dX6_cameAmiss_51 : decode cX6_cameAmiss 51 = .ok (.if_icmp .eq 20, 3) := by decide +kernel
theorem dX6_cameAmiss_54 : decode cX6_cameAmiss 54 = .ok (.aload_n 0, 1) := by decide +kernel
theorem dX6_cameAmiss_55 : decode cX6_cameAmiss 55 = .ok (.getfield 11, 3) := by decide +kernel
theorem dX6_cameAmiss_58 : decode cX6_cameAmiss 58 = .ok (.iload_n 3, 1) := by decide +kernel
theorem dX6_cameAmiss_59 : decode cX6_cameAmiss 59 = .ok (.aaload, 1) := by decide +kernel
theorem dX6_cameAmiss_60 : decode cX6_cameAmiss 60 = .ok (.getfield 70, 3) := by decide +kernel
theorem dX6_cameAmiss_63 : decode cX6_cameAmiss 63 = .ok (.iload 4, 2) := by decide +kernel
theorem dX6_cameAmiss_65 : decode cX6_cameAmiss 65 = .ok (.if_icmp .lt 6, 3) := by decide +kernel
theorem dX6_cameAmiss_68 : decode cX6_cameAmiss 68 = .ok (.iinc 2 1, 3) := by decide +kernel
theorem dX6_cameAmiss_71 : decode cX6_cameAmiss 71 = .ok (.iinc 3 1, 3) := by decide +kernel
theorem dX6_cameAmiss_74 : decode cX6_cameAmiss 74 = .ok (.goto (-70), 3) := by decide +kernel
theorem dX6_cameAmiss_77 : decode cX6_cameAmiss 77 = .ok (.iload_n 2, 1) := by decide +kernel
theorem dX6_cameAmiss_78 : decode cX6_cameAmiss 78 = .ok (.ireturn, 1) := by decide +kernel
theorem dX7_init_0 : decode cX7_init 0 = .ok (.aload_n 0, 1) := by decide +kernel
theorem dX7_init_1 : decode cX7_init 1 = .ok (.invokespecial 3, 3) := by decide +kernel
theorem dX7_init_4 : decode cX7_init 4 = .ok (.aload_n 0, 1) := by decide +kernel
theorem dX7_init_5 : decode cX7_init 5 = .ok (.sipush 408, 3) := by decide +kernel
theorem dX7_init_8 : decode cX7_init 8 = .ok (.newarray .int, 2) := by decide +kernel
theorem dX7_init_10 : decode cX7_init 10 = .ok (.putfield 11, 3) := by decide +kernel
theorem dX7_init_13 : decode cX7_init 13 = .ok (.aload_n 0, 1) := by decide +kernel
theorem dX7_init_14 : decode cX7_init 14 = .ok (.sipush 408, 3) := by decide +kernel
theorem dX7_init_17 : decode cX7_init 17 = .ok (.newarray .int, 2) := by decide +kernel
theorem dX7_init_19 : decode cX7_init 19 = .ok (.putfield 15, 3) := by decide +kernel
theorem dX7_init_22 : decode cX7_init 22 = .ok (.aload_n 0, 1) := by decide +kernel
theorem dX7_init_23 : decode cX7_init 23 = .ok (.sipush 408, 3) := by decide +kernel
theorem dX7_init_26 : decode cX7_init 26 = .ok (.newarray .int, 2) := by decide +kernel
theorem dX7_init_28 : decode cX7_init 28 = .ok (.putfield 18, 3) := by decide +kernel
theorem dX7_init_31 : decode cX7_init 31 = .ok (.aload_n 0, 1) := by decide +kernel
theorem dX7_init_32 : decode cX7_init 32 = .ok (.bipush 12, 2) := by decide +kernel
theorem dX7_init_34 : decode cX7_init 34 = .ok (.newarray .int, 2) := by decide +kernel
theorem dX7_init_36 : decode cX7_init 36 = .ok (.putfield 21, 3) := by decide +kernel
theorem dX7_init_39 : decode cX7_init 39 = .ok (.aload_n 0, 1) := by decide +kernel
theorem dX7_init_40 : decode cX7_init 40 = .ok (.bipush 12, 2) := by decide +kernel
theorem dX7_init_42 : decode cX7_init 42 = .ok (.newarray .int, 2) := by decide +kernel
theorem dX7_init_44 : decode cX7_init 44 = .ok (.putfield 24, 3) := by decide +kernel
theorem dX7_init_47 : decode cX7_init 47 = .ok (.aload_n 0, 1) := by decide +kernel
theorem dX7_init_48 : decode cX7_init 48 = .ok (.bipush 12, 2) := by decide +kernel
theorem dX7_init_50 : decode cX7_init 50 = .ok (.newarray .int, 2) := by decide +kernel
theorem dX7_init_52 : decode cX7_init 52 = .ok (.putfield 27, 3) := by decide +kernel
theorem dX7_init_55 : decode cX7_init 55 = .ok (.aload_n 0, 1) := by decide +kernel
theorem dX7_init_56 : decode cX7_init 56 = .ok (.bipush 7, 2) := by decide +kernel
theorem dX7_init_58 : decode cX7_init 58 = .ok (.newarray .int, 2) := by decide +kernel
theorem dX7_init_60 : decode cX7_init 60 = .ok (.putfield 30, 3) := by decide +kernel
theorem dX7_init_63 : decode cX7_init 63 = .ok (.aload_n 0, 1) := by decide +kernel
theorem dX7_init_64 : decode cX7_init 64 = .ok (.bipush 7, 2) := by decide +kernel
theorem dX7_init_66 : decode cX7_init 66 = .ok (.newarray .int, 2) := by decide +kernel
theorem dX7_init_68 : decode cX7_init 68 = .ok (.putfield 33, 3) := by decide +kernel
theorem dX7_init_71 : decode cX7_init 71 = .ok (.aload_n 0, 1) := by decide +kernel
theorem dX7_init_72 : decode cX7_init 72 = .ok (.bipush 7, 2) := by decide +kernel
theorem dX7_init_74 : decode cX7_init 74 = .ok (.newarray .int, 2) := by decide +kernel
theorem dX7_init_76 : decode cX7_init 76 = .ok (.putfield 36, 3) := by decide +kernel
theorem dX7_init_79 : decode cX7_init 79 = .ok (.return_, 1) := by decide +kernel
theorem dX7_parse_0 : decode cX7_parse 0 = .ok (.aload_n 0, 1) := by decide +kernel
theorem dX7_parse_1 : decode cX7_parse 1 = .ok (.aload_n 1, 1) := by decide +kernel
theorem dX7_parse_2 : decode cX7_parse 2 = .ok (.putfield 39, 3) := by decide +kernel
theorem dX7_parse_5 : decode cX7_parse 5 = .ok (.aload_n 0, 1) := by decide +kernel
theorem dX7_parse_6 : decode cX7_parse 6 = .ok (.iload_n 2, 1) := by decide +kernel
theorem dX7_parse_7 : decode cX7_parse 7 = .ok (.aload_n 1, 1) := by decide +kernel
theorem dX7_parse_8 : decode cX7_parse 8 = .ok (.arraylength, 1) := by decide +kernel
theorem dX7_parse_9 : decode cX7_parse 9 = .ok (.invokestatic 43, 3) := by decide +kernel
theorem dX7_parse_12 : decode cX7_parse 12 = .ok (.putfield 49, 3) := by decide +kernel
theorem dX7_parse_15 : decode cX7_parse 15 = .ok (.aload_n 0, 1) := by decide +kernel
theorem dX7_parse_16 : decode cX7_parse 16 = .ok (.iconst 0, 1) := by decide +kernel
theorem dX7_parse_17 : decode cX7_parse 17 = .ok (.putfield 53, 3) := by decide +kernel
theorem dX7_parse_20 : decode cX7_parse 20 = .ok (.aload_n 0, 1) := by decide +kernel
theorem dX7_parse_21 : decode cX7_parse 21 = .ok (.iconst 0, 1) := by decide +kernel
theorem dX7_parse_22 : decode cX7_parse 22 = .ok (.putfield 56, 3) := by decide +kernel
theorem dX7_parse_25 : decode cX7_parse 25 = .ok (.aload_n 0, 1) := by decide +kernel
theorem dX7_parse_26 : decode cX7_parse 26 = .ok (.iconst 0, 1) := by decide +kernel
theorem dX7_parse_27 : decode cX7_parse 27 = .ok (.putfield 59, 3) := by decide +kernel
theorem dX7_parse_30 : decode cX7_parse 30 = .ok (.aload_n 0, 1) := by decide +kernel
theorem dX7_parse_31 : decode cX7_parse 31 = .ok (.iconst 0, 1) := by decide +kernel
theorem dX7_parse_32 : decode cX7_parse 32 = .ok (.putfield 62, 3) := by decide +kernel
theorem dX7_parse_35 : decode cX7_parse 35 = .ok (.aload_n 0, 1) := by decide +kernel
theorem dX7_parse_36 : decode cX7_parse 36 = .ok (.getfield 49, 3) := by decide +kernel
theorem dX7_parse_39 : decode cX7_parse 39 = .ok (.ifCond .le 7, 3) := by decide +kernel
theorem dX7_parse_42 : decode cX7_parse 42 = .ok (.iconst 1, 1) := by decide +kernel
theorem dX7_parse_43 : decode cX7_parse 43 = .ok (.goto 4, 3) := by decide +kernel
theorem dX7_parse_46 : decode cX7_parse 46 = .ok (.iconst 0, 1) := by decide +kernel
theorem dX7_parse_47 : decode cX7_parse 47 = .ok (.istore_n 3, 1) := by decide +kernel
theorem dX7_parse_48 : decode cX7_parse 48 = .ok (.iconst 0, 1) := by decide +kernel
theorem dX7_parse_49 : decode cX7_parse 49 = .ok (.istore 4, 2) := by decide +kernel
theorem dX7_parse_51 : decode cX7_parse 51 = .ok (.iload_n 3, 1) := by decide +kernel
theorem dX7_parse_52 : decode cX7_parse 52 = .ok (.ifCond .eq 36, 3) := by decide +kernel
theorem dX7_parse_55 : decode cX7_parse 55 = .ok (.iload 4, 2) := by decide +kernel
theorem dX7_parse_57 : decode cX7_parse 57 = .ok (.bipush 12, 2) := by decide +kernel
theorem dX7_parse_59 : decode cX7_parse 59 = .ok (.if_icmp .gt 29, 3) := by decide +kernel
theorem dX7_parse_62 : decode cX7_parse 62 = .ok (.aload_n 0, 1) := by decide +kernel
theorem dX7_parse_63 : decode cX7_parse 63 = .ok (.invokevirtual 65, 3) := by decide +kernel
theorem dX7_parse_66 : decode cX7_parse 66 = .ok (.ifCond .eq 14, 3) := by decide +kernel
theorem dX7_parse_69 : decode cX7_parse 69 = .ok (.aload_n 0, 1) := by decide +kernel
theorem dX7_parse_70 : decode cX7_parse 70 = .ok (.invokevirtual 69, 3) := by decide +kernel
theorem dX7_parse_73 : decode cX7_parse 73 = .ok (.ifCond .eq 7, 3) := by decide +kernel
theorem dX7_parse_76 : decode cX7_parse 76 = .ok (.iconst 1, 1) := by decide +kernel
theorem dX7_parse_77 : decode cX7_parse 77 = .ok (.goto 4, 3) := by decide +kernel
theorem dX7_parse_80 : decode cX7_parse 80 = .ok (.iconst 0, 1) := by decide +kernel
theorem dX7_parse_81 : decode cX7_parse 81 = .ok (.istore_n 3, 1) := by decide +kernel
theorem dX7_parse_82 : decode cX7_parse 82 = .ok (.iinc 4 1, 3) := by decide +kernel
theorem dX7_parse_85 : decode cX7_parse 85 = .ok (.goto (-34), 3) := by decide +kernel
theorem dX7_parse_88 : decode cX7_parse 88 = .ok (.aload_n 0, 1) := by decide +kernel
theorem dX7_parse_89 : decode cX7_parse 89 = .ok (.getfield 56, 3) := by decide +kernel
theorem dX7_parse_92 : decode cX7_parse 92 = .ok (.ireturn, 1) := by decide +kernel
theorem dX7_sign_0 : decode cX7_sign 0 = .ok (.aload_n 0, 1) := by decide +kernel
theorem dX7_sign_1 : decode cX7_sign 1 = .ok (.getfield 53, 3) := by decide +kernel
theorem dX7_sign_4 : decode cX7_sign 4 = .ok (.aload_n 0, 1) := by decide +kernel
theorem dX7_sign_5 : decode cX7_sign 5 = .ok (.getfield 49, 3) := by decide +kernel
theorem dX7_sign_8 : decode cX7_sign 8 = .ok (.if_icmp .ge 15, 3) := by decide +kernel
theorem dX7_sign_11 : decode cX7_sign 11 = .ok (.aload_n 0, 1) := by decide +kernel
theorem dX7_sign_12 : decode cX7_sign 12 = .ok (.getfield 39, 3) := by decide +kernel
theorem dX7_sign_15 : decode cX7_sign 15 = .ok (.aload_n 0, 1) := by decide +kernel
theorem dX7_sign_16 : decode cX7_sign 16 = .ok (.getfield 53, 3) := by decide +kernel
theorem dX7_sign_19 : decode cX7_sign 19 = .ok (.caload, 1) := by decide +kernel
theorem dX7_sign_20 : decode cX7_sign 20 = .ok (.goto 4, 3) := by decide +kernel
theorem dX7_sign_23 : decode cX7_sign 23 = .ok (.iconst (-1), 1) := by decide +kernel
theorem dX7_sign_24 : decode cX7_sign 24 = .ok (.ireturn, 1) := by decide +kernel
theorem dX7_refuse_0 : decode cX7_refuse 0 = .ok (.aload_n 0, 1) := by decide +kernel
theorem dX7_refuse_1 : decode cX7_refuse 1 = .ok (.sipush 1000, 3) := by decide +kernel
theorem dX7_refuse_4 : decode cX7_refuse 4 = .ok (.iload_n 1, 1) := by decide +kernel
theorem dX7_refuse_5 : decode cX7_refuse 5 = .ok (.imul, 1) := by decide +kernel
theorem dX7_refuse_6 : decode cX7_refuse 6 = .ok (.aload_n 0, 1) := by decide +kernel
theorem dX7_refuse_7 : decode cX7_refuse 7 = .ok (.getfield 53, 3) := by decide +kernel
theorem dX7_refuse_10 : decode cX7_refuse 10 = .ok (.iadd, 1) := by decide +kernel
theorem dX7_refuse_11 : decode cX7_refuse 11 = .ok (.putfield 56, 3) := by decide +kernel
theorem dX7_refuse_14 : decode cX7_refuse 14 = .ok (.iconst 0, 1) := by decide +kernel
theorem dX7_refuse_15 : decode cX7_refuse 15 = .ok (.ireturn, 1) := by decide +kernel
theorem dX7_parseHead_0 : decode cX7_parseHead 0 = .ok (.aload_n 0, 1) := by decide +kernel
theorem dX7_parseHead_1 : decode cX7_parseHead 1 = .ok (.invokevirtual 72, 3) := by decide +kernel
theorem dX7_parseHead_4 : decode cX7_parseHead 4 = .ok (.istore_n 1, 1) := by decide +kernel
theorem dX7_parseHead_5 : decode cX7_parseHead 5 = .ok (.iload_n 1, 1) := by decide +kernel
theorem dX7_parseHead_6 : decode cX7_parseHead 6 = .ok (.bipush 99, 2) := by decide +kernel
theorem dX7_parseHead_8 : decode cX7_parseHead 8 = .ok (.if_icmp .eq 27, 3) := by decide +kernel
theorem dX7_parseHead_11 : decode cX7_parseHead 11 = .ok (.iload_n 1, 1) := by decide +kernel
theorem dX7_parseHead_12 : decode cX7_parseHead 12 = .ok (.bipush 104, 2) := by decide +kernel
theorem dX7_parseHead_14 : decode cX7_parseHead 14 = .ok (.if_icmp .eq 21, 3) := by decide +kernel
theorem dX7_parseHead_17 : decode cX7_parseHead 17 = .ok (.iload_n 1, 1) := by decide +kernel
theorem dX7_parseHead_18 : decode cX7_parseHead 18 = .ok (.bipush 114, 2) := by decide +kernel
theorem dX7_parseHead_20 : decode cX7_parseHead 20 = .ok (.if_icmp .eq 15, 3) := by decide +kernel
theorem dX7_parseHead_23 : decode cX7_parseHead 23 = .ok (.iload_n 1, 1) := by decide +kernel
theorem dX7_parseHead_24 : decode cX7_parseHead 24 = .ok (.bipush 110, 2) := by decide +kernel
theorem dX7_parseHead_26 : decode cX7_parseHead 26 = .ok (.if_icmp .eq 9, 3) := by decide +kernel
theorem dX7_parseHead_29 : decode cX7_parseHead 29 = .ok (.aload_n 0, 1) := by decide +kernel
theorem dX7_parseHead_30 : decode cX7_parseHead 30 = .ok (.iconst 1, 1) := by decide +kernel
theorem dX7_parseHead_31 : decode cX7_parseHead 31 = .ok (.invokevirtual 76, 3) := by decide +kernel
theorem dX7_parseHead_34 : decode cX7_parseHead 34 = .ok (.ireturn, 1) := by decide +kernel
theorem dX7_parseHead_35 : decode cX7_parseHead 35 = .ok (.aload_n 0, 1) := by decide +kernel
theorem dX7_parseHead_36 : decode cX7_parseHead 36 = .ok (.getfield 62, 3) := by decide +kernel
theorem dX7_parseHead_39 : decode cX7_parseHead 39 = .ok (.bipush 12, 2) := by decide +kernel
theorem dX7_parseHead_41 : decode cX7_parseHead 41 = .ok (.if_icmp .lt 9, 3) := by decide +kernel
theorem dX7_parseHead_44 : decode cX7_parseHead 44 = .ok (.aload_n 0, 1) := by decide +kernel
theorem dX7_parseHead_45 : decode cX7_parseHead 45 = .ok (.iconst 2, 1) := by decide +kernel
theorem dX7_parseHead_46 : decode cX7_parseHead 46 = .ok (.invokevirtual 76, 3) := by decide +kernel
theorem dX7_parseHead_49 : decode cX7_parseHead 49 = .ok (.ireturn, 1) := by decide +kernel
theorem dX7_parseHead_50 : decode cX7_parseHead 50 = .ok (.aload_n 0, 1) := by decide +kernel
theorem dX7_parseHead_51 : decode cX7_parseHead 51 = .ok (.dup, 1) := by decide +kernel
theorem dX7_parseHead_52 : decode cX7_parseHead 52 = .ok (.getfield 53, 3) := by decide +kernel
theorem dX7_parseHead_55 : decode cX7_parseHead 55 = .ok (.iconst 1, 1) := by decide +kernel
theorem dX7_parseHead_56 : decode cX7_parseHead 56 = .ok (.iadd, 1) := by decide +kernel
theorem dX7_parseHead_57 : decode cX7_parseHead 57 = .ok (.putfield 53, 3) := by decide +kernel
theorem dX7_parseHead_60 : decode cX7_parseHead 60 = .ok (.iconst 0, 1) := by decide +kernel
theorem dX7_parseHead_61 : decode cX7_parseHead 61 = .ok (.istore_n 2, 1) := by decide +kernel
theorem dX7_parseHead_62 : decode cX7_parseHead 62 = .ok (.iload_n 1, 1) := by decide +kernel
theorem dX7_parseHead_63 : decode cX7_parseHead 63 = .ok (.bipush 110, 2) := by decide +kernel
theorem dX7_parseHead_65 : decode cX7_parseHead 65 = .ok (.if_icmp .ne 41, 3) := by decide +kernel
theorem dX7_parseHead_68 : decode cX7_parseHead 68 = .ok (.aload_n 0, 1) := by decide +kernel
theorem dX7_parseHead_69 : decode cX7_parseHead 69 = .ok (.invokevirtual 72, 3) := by decide +kernel
theorem dX7_parseHead_72 : decode cX7_parseHead 72 = .ok (.bipush 48, 2) := by decide +kernel
theorem dX7_parseHead_74 : decode cX7_parseHead 74 = .ok (.isub, 1) := by decide +kernel
theorem dX7_parseHead_75 : decode cX7_parseHead 75 = .ok (.istore_n 3, 1) := by decide +kernel
theorem dX7_parseHead_76 : decode cX7_parseHead 76 = .ok (.iload_n 3, 1) := by decide +kernel
theorem dX7_parseHead_77 : decode cX7_parseHead 77 = .ok (.iconst 0, 1) := by decide +kernel
theorem dX7_parseHead_78 : decode cX7_parseHead 78 = .ok (.bipush 7, 2) := by decide +kernel
theorem dX7_parseHead_80 : decode cX7_parseHead 80 = .ok (.invokestatic 80, 3) := by decide +kernel
theorem dX7_parseHead_83 : decode cX7_parseHead 83 = .ok (.ifCond .ne 9, 3) := by decide +kernel
theorem dX7_parseHead_86 : decode cX7_parseHead 86 = .ok (.aload_n 0, 1) := by decide +kernel
theorem dX7_parseHead_87 : decode cX7_parseHead 87 = .ok (.iconst 1, 1) := by decide +kernel
theorem dX7_parseHead_88 : decode cX7_parseHead 88 = .ok (.invokevirtual 76, 3) := by decide +kernel
theorem dX7_parseHead_91 : decode cX7_parseHead 91 = .ok (.ireturn, 1) := by decide +kernel
theorem dX7_parseHead_92 : decode cX7_parseHead 92 = .ok (.iconst 1, 1) := by decide +kernel
theorem dX7_parseHead_93 : decode cX7_parseHead 93 = .ok (.iload_n 3, 1) := by decide +kernel
theorem dX7_parseHead_94 : decode cX7_parseHead 94 = .ok (.ishl, 1) := by decide +kernel
theorem dX7_parseHead_95 : decode cX7_parseHead 95 = .ok (.istore_n 2, 1) := by decide +kernel
theorem dX7_parseHead_96 : decode cX7_parseHead 96 = .ok (.aload_n 0, 1) := by decide +kernel
theorem dX7_parseHead_97 : decode cX7_parseHead 97 = .ok (.dup, 1) := by decide +kernel
theorem dX7_parseHead_98 : decode cX7_parseHead 98 = .ok (.getfield 53, 3) := by decide +kernel
theorem dX7_parseHead_101 : decode cX7_parseHead 101 = .ok (.iconst 1, 1) := by decide +kernel
theorem dX7_parseHead_102 : decode cX7_parseHead 102 = .ok (.iadd, 1) := by decide +kernel
theorem dX7_parseHead_103 : decode cX7_parseHead 103 = .ok (.putfield 53, 3) := by decide +kernel
theorem dX7_parseHead_106 : decode cX7_parseHead 106 = .ok (.aload_n 0, 1) := by decide +kernel
theorem dX7_parseHead_107 : decode cX7_parseHead 107 = .ok (.invokevirtual 72, 3) := by decide +kernel
theorem dX7_parseHead_110 : decode cX7_parseHead 110 = .ok (.bipush 58, 2) := by decide +kernel
theorem dX7_parseHead_112 : decode cX7_parseHead 112 = .ok (.if_icmp .eq 9, 3) := by decide +kernel
theorem dX7_parseHead_115 : decode cX7_parseHead 115 = .ok (.aload_n 0, 1) := by decide +kernel
theorem dX7_parseHead_116 : decode cX7_parseHead 116 = .ok (.iconst 1, 1) := by decide +kernel
theorem dX7_parseHead_117 : decode cX7_parseHead 117 = .ok (.invokevirtual 76, 3) := by decide +kernel
theorem dX7_parseHead_120 : decode cX7_parseHead 120 = .ok (.ireturn, 1) := by decide +kernel
theorem dX7_parseHead_121 : decode cX7_parseHead 121 = .ok (.aload_n 0, 1) := by decide +kernel
theorem dX7_parseHead_122 : decode cX7_parseHead 122 = .ok (.dup, 1) := by decide +kernel
theorem dX7_parseHead_123 : decode cX7_parseHead 123 = .ok (.getfield 53, 3) := by decide +kernel
theorem dX7_parseHead_126 : decode cX7_parseHead 126 = .ok (.iconst 1, 1) := by decide +kernel
theorem dX7_parseHead_127 : decode cX7_parseHead 127 = .ok (.iadd, 1) := by decide +kernel
theorem dX7_parseHead_128 : decode cX7_parseHead 128 = .ok (.putfield 53, 3) := by decide +kernel
theorem dX7_parseHead_131 : decode cX7_parseHead 131 = .ok (.aload_n 0, 1) := by decide +kernel
theorem dX7_parseHead_132 : decode cX7_parseHead 132 = .ok (.getfield 24, 3) := by decide +kernel
theorem dX7_parseHead_135 : decode cX7_parseHead 135 = .ok (.aload_n 0, 1) := by decide +kernel
theorem dX7_parseHead_136 : decode cX7_parseHead 136 = .ok (.getfield 62, 3) := by decide +kernel
theorem dX7_parseHead_139 : decode cX7_parseHead 139 = .ok (.iload_n 1, 1) := by decide +kernel
theorem dX7_parseHead_140 : decode cX7_parseHead 140 = .ok (.iastore, 1) := by decide +kernel
theorem dX7_parseHead_141 : decode cX7_parseHead 141 = .ok (.aload_n 0, 1) := by decide +kernel
theorem dX7_parseHead_142 : decode cX7_parseHead 142 = .ok (.getfield 27, 3) := by decide +kernel
theorem dX7_parseHead_145 : decode cX7_parseHead 145 = .ok (.aload_n 0, 1) := by decide +kernel
theorem dX7_parseHead_146 : decode cX7_parseHead 146 = .ok (.getfield 62, 3) := by decide +kernel
theorem dX7_parseHead_149 : decode cX7_parseHead 149 = .ok (.iload_n 2, 1) := by decide +kernel
theorem dX7_parseHead_150 : decode cX7_parseHead 150 = .ok (.iastore, 1) := by decide +kernel
theorem dX7_parseHead_151 : decode cX7_parseHead 151 = .ok (.iconst 1, 1) := by decide +kernel
theorem dX7_parseHead_152 : decode cX7_parseHead 152 = .ok (.ireturn, 1) := by decide +kernel
theorem dX7_parsePattern_0 : decode cX7_parsePattern 0 = .ok (.aload_n 0, 1) := by decide +kernel
theorem dX7_parsePattern_1 : decode cX7_parsePattern 1 = .ok (.invokevirtual 84, 3) := by decide +kernel
theorem dX7_parsePattern_4 : decode cX7_parsePattern 4 = .ok (.aload_n 0, 1) := by decide +kernel
theorem dX7_parsePattern_5 : decode cX7_parsePattern 5 = .ok (.getfield 53, 3) := by decide +kernel
theorem dX7_parsePattern_8 : decode cX7_parsePattern 8 = .ok (.aload_n 0, 1) := by decide +kernel
theorem dX7_parsePattern_9 : decode cX7_parsePattern 9 = .ok (.getfield 49, 3) := by decide +kernel
theorem dX7_parsePattern_12 : decode cX7_parsePattern 12 = .ok (.if_icmp .ge 80, 3) := by decide +kernel
theorem dX7_parsePattern_15 : decode cX7_parsePattern 15 = .ok (.aload_n 0, 1) := by decide +kernel
theorem dX7_parsePattern_16 : decode cX7_parsePattern 16 = .ok (.invokevirtual 72, 3) := by decide +kernel
theorem dX7_parsePattern_19 : decode cX7_parsePattern 19 = .ok (.bipush 59, 2) := by decide +kernel
theorem dX7_parsePattern_21 : decode cX7_parsePattern 21 = .ok (.if_icmp .ne 45, 3) := by decide +kernel
theorem dX7_parsePattern_24 : decode cX7_parsePattern 24 = .ok (.aload_n 0, 1) := by decide +kernel
theorem dX7_parsePattern_25 : decode cX7_parsePattern 25 = .ok (.getfield 87, 3) := by decide +kernel
theorem dX7_parsePattern_28 : decode cX7_parsePattern 28 = .ok (.ifCond .ne 38, 3) := by decide +kernel
theorem dX7_parsePattern_31 : decode cX7_parsePattern 31 = .ok (.aload_n 0, 1) := by decide +kernel
theorem dX7_parsePattern_32 : decode cX7_parsePattern 32 = .ok (.getfield 90, 3) := by decide +kernel
theorem dX7_parsePattern_35 : decode cX7_parsePattern 35 = .ok (.iconst (-1), 1) := by decide +kernel
theorem dX7_parsePattern_36 : decode cX7_parsePattern 36 = .ok (.if_icmp .eq 30, 3) := by decide +kernel
theorem dX7_parsePattern_39 : decode cX7_parsePattern 39 = .ok (.aload_n 0, 1) := by decide +kernel
theorem dX7_parsePattern_40 : decode cX7_parsePattern 40 = .ok (.getfield 15, 3) := by decide +kernel
theorem dX7_parsePattern_43 : decode cX7_parsePattern 43 = .ok (.aload_n 0, 1) := by decide +kernel
theorem dX7_parsePattern_44 : decode cX7_parsePattern 44 = .ok (.getfield 93, 3) := by decide +kernel
theorem dX7_parsePattern_47 : decode cX7_parsePattern 47 = .ok (.aload_n 0, 1) := by decide +kernel
theorem dX7_parsePattern_48 : decode cX7_parsePattern 48 = .ok (.getfield 33, 3) := by decide +kernel
theorem dX7_parsePattern_51 : decode cX7_parsePattern 51 = .ok (.iconst 0, 1) := by decide +kernel
theorem dX7_parsePattern_52 : decode cX7_parsePattern 52 = .ok (.iaload, 1) := by decide +kernel
theorem dX7_parsePattern_53 : decode cX7_parsePattern 53 = .ok (.iastore, 1) := by decide +kernel
theorem dX7_parsePattern_54 : decode cX7_parsePattern 54 = .ok (.aload_n 0, 1) := by decide +kernel
theorem dX7_parsePattern_55 : decode cX7_parsePattern 55 = .ok (.dup, 1) := by decide +kernel
theorem dX7_parsePattern_56 : decode cX7_parsePattern 56 = .ok (.getfield 53, 3) := by decide +kernel
theorem dX7_parsePattern_59 : decode cX7_parsePattern 59 = .ok (.iconst 1, 1) := by decide +kernel
theorem dX7_parsePattern_60 : decode cX7_parsePattern 60 = .ok (.iadd, 1) := by decide +kernel
theorem dX7_parsePattern_61 : decode cX7_parsePattern 61 = .ok (.putfield 53, 3) := by decide +kernel
theorem dX7_parsePattern_64 : decode cX7_parsePattern 64 = .ok (.iconst 1, 1) := by decide +kernel
theorem dX7_parsePattern_65 : decode cX7_parsePattern 65 = .ok (.ireturn, 1) := by decide +kernel
theorem dX7_parsePattern_66 : decode cX7_parsePattern 66 = .ok (.aload_n 0, 1) := by decide +kernel
theorem dX7_parsePattern_67 : decode cX7_parsePattern 67 = .ok (.aload_n 0, 1) := by decide +kernel
theorem dX7_parsePattern_68 : decode cX7_parsePattern 68 = .ok (.invokevirtual 72, 3) := by decide +kernel
theorem dX7_parsePattern_71 : decode cX7_parsePattern 71 = .ok (.invokevirtual 96, 3) := by decide +kernel
theorem dX7_parsePattern_74 : decode cX7_parsePattern 74 = .ok (.ifCond .ne 5, 3) := by decide +kernel
theorem dX7_parsePattern_77 : decode cX7_parsePattern 77 = .ok (.iconst 0, 1) := by decide +kernel
theorem dX7_parsePattern_78 : decode cX7_parsePattern 78 = .ok (.ireturn, 1) := by decide +kernel
theorem dX7_parsePattern_79 : decode cX7_parsePattern 79 = .ok (.aload_n 0, 1) := by decide +kernel
theorem dX7_parsePattern_80 : decode cX7_parsePattern 80 = .ok (.dup, 1) := by decide +kernel
theorem dX7_parsePattern_81 : decode cX7_parsePattern 81 = .ok (.getfield 53, 3) := by decide +kernel
theorem dX7_parsePattern_84 : decode cX7_parsePattern 84 = .ok (.iconst 1, 1) := by decide +kernel
theorem dX7_parsePattern_85 : decode cX7_parsePattern 85 = .ok (.iadd, 1) := by decide +kernel
theorem dX7_parsePattern_86 : decode cX7_parsePattern 86 = .ok (.putfield 53, 3) := by decide +kernel
theorem dX7_parsePattern_89 : decode cX7_parsePattern 89 = .ok (.goto (-85), 3) := by decide +kernel
theorem dX7_parsePattern_92 : decode cX7_parsePattern 92 = .ok (.aload_n 0, 1) := by decide +kernel
theorem dX7_parsePattern_93 : decode cX7_parsePattern 93 = .ok (.getfield 87, 3) := by decide +kernel
theorem dX7_parsePattern_96 : decode cX7_parsePattern 96 = .ok (.ifCond .gt 11, 3) := by decide +kernel
theorem dX7_parsePattern_99 : decode cX7_parsePattern 99 = .ok (.aload_n 0, 1) := by decide +kernel
theorem dX7_parsePattern_100 : decode cX7_parsePattern 100 = .ok (.getfield 90, 3) := by decide +kernel
theorem dX7_parsePattern_103 : decode cX7_parsePattern 103 = .ok (.iconst (-1), 1) := by decide +kernel
theorem dX7_parsePattern_104 : decode cX7_parsePattern 104 = .ok (.if_icmp .ne 9, 3) := by decide +kernel
theorem dX7_parsePattern_107 : decode cX7_parsePattern 107 = .ok (.aload_n 0, 1) := by decide +kernel
theorem dX7_parsePattern_108 : decode cX7_parsePattern 108 = .ok (.iconst 1, 1) := by decide +kernel
theorem dX7_parsePattern_109 : decode cX7_parsePattern 109 = .ok (.invokevirtual 76, 3) := by decide +kernel
theorem dX7_parsePattern_112 : decode cX7_parsePattern 112 = .ok (.ireturn, 1) := by decide +kernel
theorem dX7_parsePattern_113 : decode cX7_parsePattern 113 = .ok (.aload_n 0, 1) := by decide +kernel
theorem dX7_parsePattern_114 : decode cX7_parsePattern 114 = .ok (.getfield 15, 3) := by decide +kernel
theorem dX7_parsePattern_117 : decode cX7_parsePattern 117 = .ok (.aload_n 0, 1) := by decide +kernel
theorem dX7_parsePattern_118 : decode cX7_parsePattern 118 = .ok (.getfield 93, 3) := by decide +kernel
theorem dX7_parsePattern_121 : decode cX7_parsePattern 121 = .ok (.aload_n 0, 1) := by decide +kernel
theorem dX7_parsePattern_122 : decode cX7_parsePattern 122 = .ok (.getfield 33, 3) := by decide +kernel
theorem dX7_parsePattern_125 : decode cX7_parsePattern 125 = .ok (.iconst 0, 1) := by decide +kernel
theorem dX7_parsePattern_126 : decode cX7_parsePattern 126 = .ok (.iaload, 1) := by decide +kernel
theorem dX7_parsePattern_127 : decode cX7_parsePattern 127 = .ok (.iastore, 1) := by decide +kernel
theorem dX7_parsePattern_128 : decode cX7_parsePattern 128 = .ok (.iconst 0, 1) := by decide +kernel
theorem dX7_parsePattern_129 : decode cX7_parsePattern 129 = .ok (.ireturn, 1) := by decide +kernel
theorem dX7_openPattern_0 : decode cX7_openPattern 0 = .ok (.aload_n 0, 1) := by decide +kernel
theorem dX7_openPattern_1 : decode cX7_openPattern 1 = .ok (.iconst 0, 1) := by decide +kernel
theorem dX7_openPattern_2 : decode cX7_openPattern 2 = .ok (.putfield 87, 3) := by decide +kernel
theorem dX7_openPattern_5 : decode cX7_openPattern 5 = .ok (.aload_n 0, 1) := by decide +kernel
theorem dX7_openPattern_6 : decode cX7_openPattern 6 = .ok (.getfield 33, 3) := by decide +kernel
theorem dX7_openPattern_9 : decode cX7_openPattern 9 = .ok (.iconst 0, 1) := by decide +kernel
theorem dX7_openPattern_10 : decode cX7_openPattern 10 = .ok (.aload_n 0, 1) := by decide +kernel
theorem dX7_openPattern_11 : decode cX7_openPattern 11 = .ok (.iconst 1, 1) := by decide +kernel
theorem dX7_openPattern_12 : decode cX7_openPattern 12 = .ok (.invokevirtual 99, 3) := by decide +kernel
theorem dX7_openPattern_15 : decode cX7_openPattern 15 = .ok (.iastore, 1) := by decide +kernel
theorem dX7_openPattern_16 : decode cX7_openPattern 16 = .ok (.aload_n 0, 1) := by decide +kernel
theorem dX7_openPattern_17 : decode cX7_openPattern 17 = .ok (.invokevirtual 103, 3) := by decide +kernel
theorem dX7_openPattern_20 : decode cX7_openPattern 20 = .ok (.aload_n 0, 1) := by decide +kernel
theorem dX7_openPattern_21 : decode cX7_openPattern 21 = .ok (.getfield 21, 3) := by decide +kernel
theorem dX7_openPattern_24 : decode cX7_openPattern 24 = .ok (.aload_n 0, 1) := by decide +kernel
theorem dX7_openPattern_25 : decode cX7_openPattern 25 = .ok (.getfield 62, 3) := by decide +kernel
theorem dX7_openPattern_28 : decode cX7_openPattern 28 = .ok (.aload_n 0, 1) := by decide +kernel
theorem dX7_openPattern_29 : decode cX7_openPattern 29 = .ok (.getfield 93, 3) := by decide +kernel
theorem dX7_openPattern_32 : decode cX7_openPattern 32 = .ok (.iastore, 1) := by decide +kernel
theorem dX7_openPattern_33 : decode cX7_openPattern 33 = .ok (.aload_n 0, 1) := by decide +kernel
theorem dX7_openPattern_34 : decode cX7_openPattern 34 = .ok (.dup, 1) := by decide +kernel
theorem dX7_openPattern_35 : decode cX7_openPattern 35 = .ok (.getfield 62, 3) := by decide +kernel
theorem dX7_openPattern_38 : decode cX7_openPattern 38 = .ok (.iconst 1, 1) := by decide +kernel
theorem dX7_openPattern_39 : decode cX7_openPattern 39 = .ok (.iadd, 1) := by decide +kernel
theorem dX7_openPattern_40 : decode cX7_openPattern 40 = .ok (.putfield 62, 3) := by decide +kernel
theorem dX7_openPattern_43 : decode cX7_openPattern 43 = .ok (.return_, 1) := by decide +kernel
theorem dX7_takeSign_0 : decode cX7_takeSign 0 = .ok (.iload_n 1, 1) := by decide +kernel
theorem dX7_takeSign_1 : decode cX7_takeSign 1 = .ok (.invokestatic 106, 3) := by decide +kernel
theorem dX7_takeSign_4 : decode cX7_takeSign 4 = .ok (.ifCond .eq 31, 3) := by decide +kernel
theorem dX7_takeSign_7 : decode cX7_takeSign 7 = .ok (.aload_n 0, 1) := by decide +kernel
theorem dX7_takeSign_8 : decode cX7_takeSign 8 = .ok (.iload_n 1, 1) := by decide +kernel
theorem dX7_takeSign_9 : decode cX7_takeSign 9 = .ok (.invokevirtual 99, 3) := by decide +kernel
theorem dX7_takeSign_12 : decode cX7_takeSign 12 = .ok (.istore_n 2, 1) := by decide +kernel
theorem dX7_takeSign_13 : decode cX7_takeSign 13 = .ok (.aload_n 0, 1) := by decide +kernel
theorem dX7_takeSign_14 : decode cX7_takeSign 14 = .ok (.iload_n 2, 1) := by decide +kernel
theorem dX7_takeSign_15 : decode cX7_takeSign 15 = .ok (.aload_n 0, 1) := by decide +kernel
theorem dX7_takeSign_16 : decode cX7_takeSign 16 = .ok (.iconst 0, 1) := by decide +kernel
theorem dX7_takeSign_17 : decode cX7_takeSign 17 = .ok (.invokevirtual 99, 3) := by decide +kernel
theorem dX7_takeSign_20 : decode cX7_takeSign 20 = .ok (.invokevirtual 109, 3) := by decide +kernel
theorem dX7_takeSign_23 : decode cX7_takeSign 23 = .ok (.aload_n 0, 1) := by decide +kernel
theorem dX7_takeSign_24 : decode cX7_takeSign 24 = .ok (.getfield 15, 3) := by decide +kernel
theorem dX7_takeSign_27 : decode cX7_takeSign 27 = .ok (.iload_n 2, 1) := by decide +kernel
theorem dX7_takeSign_28 : decode cX7_takeSign 28 = .ok (.aload_n 0, 1) := by decide +kernel
theorem dX7_takeSign_29 : decode cX7_takeSign 29 = .ok (.getfield 93, 3) := by decide +kernel
theorem dX7_takeSign_32 : decode cX7_takeSign 32 = .ok (.iastore, 1) := by decide +kernel
theorem dX7_takeSign_33 : decode cX7_takeSign 33 = .ok (.iconst 1, 1) := by decide +kernel
theorem dX7_takeSign_34 : decode cX7_takeSign 34 = .ok (.ireturn, 1) := by decide +kernel
theorem dX7_takeSign_35 : decode cX7_takeSign 35 = .ok (.iload_n 1, 1) := by decide +kernel
theorem dX7_takeSign_36 : decode cX7_takeSign 36 = .ok (.bipush 40, 2) := by decide +kernel
theorem dX7_takeSign_38 : decode cX7_takeSign 38 = .ok (.if_icmp .ne 8, 3) := by decide +kernel
theorem dX7_takeSign_41 : decode cX7_takeSign 41 = .ok (.aload_n 0, 1) := by decide +kernel
theorem dX7_takeSign_42 : decode cX7_takeSign 42 = .ok (.invokevirtual 113, 3) := by decide +kernel
theorem dX7_takeSign_45 : decode cX7_takeSign 45 = .ok (.ireturn, 1) := by decide +kernel
theorem dX7_takeSign_46 : decode cX7_takeSign 46 = .ok (.aload_n 0, 1) := by decide +kernel
theorem dX7_takeSign_47 : decode cX7_takeSign 47 = .ok (.getfield 90, 3) := by decide +kernel
theorem dX7_takeSign_50 : decode cX7_takeSign 50 = .ok (.iconst (-1), 1) := by decide +kernel
theorem dX7_takeSign_51 : decode cX7_takeSign 51 = .ok (.if_icmp .ne 9, 3) := by decide +kernel
theorem dX7_takeSign_54 : decode cX7_takeSign 54 = .ok (.aload_n 0, 1) := by decide +kernel
theorem dX7_takeSign_55 : decode cX7_takeSign 55 = .ok (.iconst 1, 1) := by decide +kernel
theorem dX7_takeSign_56 : decode cX7_takeSign 56 = .ok (.invokevirtual 76, 3) := by decide +kernel
theorem dX7_takeSign_59 : decode cX7_takeSign 59 = .ok (.ireturn, 1) := by decide +kernel
theorem dX7_takeSign_60 : decode cX7_takeSign 60 = .ok (.iload_n 1, 1) := by decide +kernel
theorem dX7_takeSign_61 : decode cX7_takeSign 61 = .ok (.bipush 124, 2) := by decide +kernel
theorem dX7_takeSign_63 : decode cX7_takeSign 63 = .ok (.if_icmp .ne 9, 3) := by decide +kernel
theorem dX7_takeSign_66 : decode cX7_takeSign 66 = .ok (.aload_n 0, 1) := by decide +kernel
theorem dX7_takeSign_67 : decode cX7_takeSign 67 = .ok (.invokevirtual 116, 3) := by decide +kernel
theorem dX7_takeSign_70 : decode cX7_takeSign 70 = .ok (.iconst 1, 1) := by decide +kernel
theorem dX7_takeSign_71 : decode cX7_takeSign 71 = .ok (.ireturn, 1) := by decide +kernel
theorem dX7_takeSign_72 : decode cX7_takeSign 72 = .ok (.iload_n 1, 1) := by decide +kernel
theorem dX7_takeSign_73 : decode cX7_takeSign 73 = .ok (.bipush 41, 2) := by decide +kernel
theorem dX7_takeSign_75 : decode cX7_takeSign 75 = .ok (.if_icmp .ne 16, 3) := by decide +kernel
theorem dX7_takeSign_78 : decode cX7_takeSign 78 = .ok (.aload_n 0, 1) := by decide +kernel
theorem dX7_takeSign_79 : decode cX7_takeSign 79 = .ok (.getfield 87, 3) := by decide +kernel
theorem dX7_takeSign_82 : decode cX7_takeSign 82 = .ok (.ifCond .le 9, 3) := by decide +kernel
theorem dX7_takeSign_85 : decode cX7_takeSign 85 = .ok (.aload_n 0, 1) := by decide +kernel
theorem dX7_takeSign_86 : decode cX7_takeSign 86 = .ok (.invokevirtual 119, 3) := by decide +kernel
theorem dX7_takeSign_89 : decode cX7_takeSign 89 = .ok (.iconst 1, 1) := by decide +kernel
theorem dX7_takeSign_90 : decode cX7_takeSign 90 = .ok (.ireturn, 1) := by decide +kernel
theorem dX7_takeSign_91 : decode cX7_takeSign 91 = .ok (.iload_n 1, 1) := by decide +kernel
theorem dX7_takeSign_92 : decode cX7_takeSign 92 = .ok (.bipush 42, 2) := by decide +kernel
theorem dX7_takeSign_94 : decode cX7_takeSign 94 = .ok (.if_icmp .eq 15, 3) := by decide +kernel
theorem dX7_takeSign_97 : decode cX7_takeSign 97 = .ok (.iload_n 1, 1) := by decide +kernel
theorem dX7_takeSign_98 : decode cX7_takeSign 98 = .ok (.bipush 43, 2) := by decide +kernel
theorem dX7_takeSign_100 : decode cX7_takeSign 100 = .ok (.if_icmp .eq 9, 3) := by decide +kernel
theorem dX7_takeSign_103 : decode cX7_takeSign 103 = .ok (.iload_n 1, 1) := by decide +kernel
theorem dX7_takeSign_104 : decode cX7_takeSign 104 = .ok (.bipush 63, 2) := by decide +kernel
theorem dX7_takeSign_106 : decode cX7_takeSign 106 = .ok (.if_icmp .ne 17, 3) := by decide +kernel
theorem dX7_takeSign_109 : decode cX7_takeSign 109 = .ok (.aload_n 0, 1) := by decide +kernel
theorem dX7_takeSign_110 : decode cX7_takeSign 110 = .ok (.getfield 122, 3) := by decide +kernel
theorem dX7_takeSign_113 : decode cX7_takeSign 113 = .ok (.ifCond .ne 10, 3) := by decide +kernel
theorem dX7_takeSign_116 : decode cX7_takeSign 116 = .ok (.aload_n 0, 1) := by decide +kernel
theorem dX7_takeSign_117 : decode cX7_takeSign 117 = .ok (.iload_n 1, 1) := by decide +kernel
theorem dX7_takeSign_118 : decode cX7_takeSign 118 = .ok (.invokevirtual 126, 3) := by decide +kernel
theorem dX7_takeSign_121 : decode cX7_takeSign 121 = .ok (.iconst 1, 1) := by decide +kernel
theorem dX7_takeSign_122 : decode cX7_takeSign 122 = .ok (.ireturn, 1) := by decide +kernel
theorem dX7_takeSign_123 : decode cX7_takeSign 123 = .ok (.aload_n 0, 1) := by decide +kernel
theorem dX7_takeSign_124 : decode cX7_takeSign 124 = .ok (.iconst 1, 1) := by decide +kernel
theorem dX7_takeSign_125 : decode cX7_takeSign 125 = .ok (.invokevirtual 76, 3) := by decide +kernel
theorem dX7_takeSign_128 : decode cX7_takeSign 128 = .ok (.ireturn, 1) := by decide +kernel
theorem dX7_isAtom_0 : decode cX7_isAtom 0 = .ok (.iload_n 0, 1) := by decide +kernel
theorem dX7_isAtom_1 : decode cX7_isAtom 1 = .ok (.invokestatic 130, 3) := by decide +kernel
theorem dX7_isAtom_4 : decode cX7_isAtom 4 = .ok (.ifCond .ne 33, 3) := by decide +kernel
theorem dX7_isAtom_7 : decode cX7_isAtom 7 = .ok (.iload_n 0, 1) := by decide +kernel
theorem dX7_isAtom_8 : decode cX7_isAtom 8 = .ok (.bipush 35, 2) := by decide +kernel
theorem dX7_isAtom_10 : decode cX7_isAtom 10 = .ok (.if_icmp .eq 27, 3) := by decide +kernel
theorem dX7_isAtom_13 : decode cX7_isAtom 13 = .ok (.iload_n 0, 1) := by decide +kernel
theorem dX7_isAtom_14 : decode cX7_isAtom 14 = .ok (.bipush 64, 2) := by decide +kernel
theorem dX7_isAtom_16 : decode cX7_isAtom 16 = .ok (.if_icmp .eq 21, 3) := by decide +kernel
theorem dX7_isAtom_19 : decode cX7_isAtom 19 = .ok (.iload_n 0, 1) := by decide +kernel
theorem dX7_isAtom_20 : decode cX7_isAtom 20 = .ok (.bipush 95, 2) := by decide +kernel
theorem dX7_isAtom_22 : decode cX7_isAtom 22 = .ok (.if_icmp .eq 15, 3) := by decide +kernel
theorem dX7_isAtom_25 : decode cX7_isAtom 25 = .ok (.iload_n 0, 1) := by decide +kernel
theorem dX7_isAtom_26 : decode cX7_isAtom 26 = .ok (.bipush 46, 2) := by decide +kernel
theorem dX7_isAtom_28 : decode cX7_isAtom 28 = .ok (.if_icmp .eq 9, 3) := by decide +kernel
theorem dX7_isAtom_31 : decode cX7_isAtom 31 = .ok (.iload_n 0, 1) := by decide +kernel
theorem dX7_isAtom_32 : decode cX7_isAtom 32 = .ok (.bipush 94, 2) := by decide +kernel
theorem dX7_isAtom_34 : decode cX7_isAtom 34 = .ok (.if_icmp .ne 7, 3) := by decide +kernel
theorem dX7_isAtom_37 : decode cX7_isAtom 37 = .ok (.iconst 1, 1) := by decide +kernel
theorem dX7_isAtom_38 : decode cX7_isAtom 38 = .ok (.goto 4, 3) := by decide +kernel
theorem dX7_isAtom_41 : decode cX7_isAtom 41 = .ok (.iconst 0, 1) := by decide +kernel
theorem dX7_isAtom_42 : decode cX7_isAtom 42 = .ok (.ireturn, 1) := by decide +kernel
theorem dX7_addItem_0 : decode cX7_addItem 0 = .ok (.aload_n 0, 1) := by decide +kernel
theorem dX7_addItem_1 : decode cX7_addItem 1 = .ok (.getfield 15, 3) := by decide +kernel
theorem dX7_addItem_4 : decode cX7_addItem 4 = .ok (.aload_n 0, 1) := by decide +kernel
theorem dX7_addItem_5 : decode cX7_addItem 5 = .ok (.getfield 93, 3) := by decide +kernel
theorem dX7_addItem_8 : decode cX7_addItem 8 = .ok (.iload_n 1, 1) := by decide +kernel
theorem dX7_addItem_9 : decode cX7_addItem 9 = .ok (.iastore, 1) := by decide +kernel
theorem dX7_addItem_10 : decode cX7_addItem 10 = .ok (.aload_n 0, 1) := by decide +kernel
theorem dX7_addItem_11 : decode cX7_addItem 11 = .ok (.iload_n 2, 1) := by decide +kernel
theorem dX7_addItem_12 : decode cX7_addItem 12 = .ok (.putfield 93, 3) := by decide +kernel
theorem dX7_addItem_15 : decode cX7_addItem 15 = .ok (.aload_n 0, 1) := by decide +kernel
theorem dX7_addItem_16 : decode cX7_addItem 16 = .ok (.iload_n 1, 1) := by decide +kernel
theorem dX7_addItem_17 : decode cX7_addItem 17 = .ok (.putfield 90, 3) := by decide +kernel
theorem dX7_addItem_20 : decode cX7_addItem 20 = .ok (.aload_n 0, 1) := by decide +kernel
theorem dX7_addItem_21 : decode cX7_addItem 21 = .ok (.iconst 0, 1) := by decide +kernel
theorem dX7_addItem_22 : decode cX7_addItem 22 = .ok (.putfield 122, 3) := by decide +kernel
theorem dX7_addItem_25 : decode cX7_addItem 25 = .ok (.return_, 1) := by decide +kernel
theorem dX7_repeat_0 : decode cX7_repeat 0 = .ok (.iload_n 1, 1) := by decide +kernel
theorem dX7_repeat_1 : decode cX7_repeat 1 = .ok (.bipush 43, 2) := by decide +kernel
theorem dX7_repeat_3 : decode cX7_repeat 3 = .ok (.if_icmp .eq 16, 3) := by decide +kernel
theorem dX7_repeat_6 : decode cX7_repeat 6 = .ok (.aload_n 0, 1) := by decide +kernel
theorem dX7_repeat_7 : decode cX7_repeat 7 = .ok (.getfield 18, 3) := by decide +kernel
theorem dX7_repeat_10 : decode cX7_repeat 10 = .ok (.aload_n 0, 1) := by decide +kernel
theorem dX7_repeat_11 : decode cX7_repeat 11 = .ok (.getfield 90, 3) := by decide +kernel
theorem dX7_repeat_14 : decode cX7_repeat 14 = .ok (.aload_n 0, 1) := by decide +kernel
theorem dX7_repeat_15 : decode cX7_repeat 15 = .ok (.getfield 93, 3) := by decide +kernel
theorem dX7_repeat_18 : decode cX7_repeat 18 = .ok (.iastore, 1) := by decide +kernel
theorem dX7_repeat_19 : decode cX7_repeat 19 = .ok (.iload_n 1, 1) := by decide +kernel
theorem dX7_repeat_20 : decode cX7_repeat 20 = .ok (.bipush 63, 2) := by decide +kernel
theorem dX7_repeat_22 : decode cX7_repeat 22 = .ok (.if_icmp .eq 16, 3) := by decide +kernel
theorem dX7_repeat_25 : decode cX7_repeat 25 = .ok (.aload_n 0, 1) := by decide +kernel
theorem dX7_repeat_26 : decode cX7_repeat 26 = .ok (.getfield 18, 3) := by decide +kernel
theorem dX7_repeat_29 : decode cX7_repeat 29 = .ok (.aload_n 0, 1) := by decide +kernel
theorem dX7_repeat_30 : decode cX7_repeat 30 = .ok (.getfield 93, 3) := by decide +kernel
theorem dX7_repeat_33 : decode cX7_repeat 33 = .ok (.aload_n 0, 1) := by decide +kernel
theorem dX7_repeat_34 : decode cX7_repeat 34 = .ok (.getfield 90, 3) := by decide +kernel
theorem dX7_repeat_37 : decode cX7_repeat 37 = .ok (.iastore, 1) := by decide +kernel
theorem dX7_repeat_38 : decode cX7_repeat 38 = .ok (.aload_n 0, 1) := by decide +kernel
theorem dX7_repeat_39 : decode cX7_repeat 39 = .ok (.iconst 1, 1) := by decide +kernel
theorem dX7_repeat_40 : decode cX7_repeat 40 = .ok (.putfield 122, 3) := by decide +kernel
theorem dX7_repeat_43 : decode cX7_repeat 43 = .ok (.return_, 1) := by decide +kernel
theorem dX7_openGroup_0 : decode cX7_openGroup 0 = .ok (.aload_n 0, 1) := by decide +kernel
theorem dX7_openGroup_1 : decode cX7_openGroup 1 = .ok (.getfield 87, 3) := by decide +kernel
theorem dX7_openGroup_4 : decode cX7_openGroup 4 = .ok (.bipush 6, 2) := by decide +kernel
theorem dX7_openGroup_6 : decode cX7_openGroup 6 = .ok (.if_icmp .lt 9, 3) := by decide +kernel
theorem dX7_openGroup_9 : decode cX7_openGroup 9 = .ok (.aload_n 0, 1) := by decide +kernel
theorem dX7_openGroup_10 : decode cX7_openGroup 10 = .ok (.iconst 3, 1) := by decide +kernel
theorem dX7_openGroup_11 : decode cX7_openGroup 11 = .ok (.invokevirtual 76, 3) := by decide +kernel
theorem dX7_openGroup_14 : decode cX7_openGroup 14 = .ok (.ireturn, 1) := by decide +kernel
theorem dX7_openGroup_15 : decode cX7_openGroup 15 = .ok (.aload_n 0, 1) := by decide +kernel
theorem dX7_openGroup_16 : decode cX7_openGroup 16 = .ok (.iconst 0, 1) := by decide +kernel
theorem dX7_openGroup_17 : decode cX7_openGroup 17 = .ok (.invokevirtual 99, 3) := by decide +kernel
theorem dX7_openGroup_20 : decode cX7_openGroup 20 = .ok (.istore_n 1, 1) := by decide +kernel
theorem dX7_openGroup_21 : decode cX7_openGroup 21 = .ok (.aload_n 0, 1) := by decide +kernel
theorem dX7_openGroup_22 : decode cX7_openGroup 22 = .ok (.getfield 15, 3) := by decide +kernel
theorem dX7_openGroup_25 : decode cX7_openGroup 25 = .ok (.aload_n 0, 1) := by decide +kernel
theorem dX7_openGroup_26 : decode cX7_openGroup 26 = .ok (.getfield 93, 3) := by decide +kernel
theorem dX7_openGroup_29 : decode cX7_openGroup 29 = .ok (.iload_n 1, 1) := by decide +kernel
theorem dX7_openGroup_30 : decode cX7_openGroup 30 = .ok (.iastore, 1) := by decide +kernel
theorem dX7_openGroup_31 : decode cX7_openGroup 31 = .ok (.aload_n 0, 1) := by decide +kernel
theorem dX7_openGroup_32 : decode cX7_openGroup 32 = .ok (.dup, 1) := by decide +kernel
theorem dX7_openGroup_33 : decode cX7_openGroup 33 = .ok (.getfield 87, 3) := by decide +kernel
theorem dX7_openGroup_36 : decode cX7_openGroup 36 = .ok (.iconst 1, 1) := by decide +kernel
theorem dX7_openGroup_37 : decode cX7_openGroup 37 = .ok (.iadd, 1) := by decide +kernel
theorem dX7_openGroup_38 : decode cX7_openGroup 38 = .ok (.putfield 87, 3) := by decide +kernel
theorem dX7_openGroup_41 : decode cX7_openGroup 41 = .ok (.aload_n 0, 1) := by decide +kernel
theorem dX7_openGroup_42 : decode cX7_openGroup 42 = .ok (.getfield 30, 3) := by decide +kernel
theorem dX7_openGroup_45 : decode cX7_openGroup 45 = .ok (.aload_n 0, 1) := by decide +kernel
theorem dX7_openGroup_46 : decode cX7_openGroup 46 = .ok (.getfield 87, 3) := by decide +kernel
theorem dX7_openGroup_49 : decode cX7_openGroup 49 = .ok (.iload_n 1, 1) := by decide +kernel
theorem dX7_openGroup_50 : decode cX7_openGroup 50 = .ok (.iastore, 1) := by decide +kernel
theorem dX7_openGroup_51 : decode cX7_openGroup 51 = .ok (.aload_n 0, 1) := by decide +kernel
theorem dX7_openGroup_52 : decode cX7_openGroup 52 = .ok (.getfield 33, 3) := by decide +kernel
theorem dX7_openGroup_55 : decode cX7_openGroup 55 = .ok (.aload_n 0, 1) := by decide +kernel
theorem dX7_openGroup_56 : decode cX7_openGroup 56 = .ok (.getfield 87, 3) := by decide +kernel
theorem dX7_openGroup_59 : decode cX7_openGroup 59 = .ok (.aload_n 0, 1) := by decide +kernel
theorem dX7_openGroup_60 : decode cX7_openGroup 60 = .ok (.iconst 0, 1) := by decide +kernel
theorem dX7_openGroup_61 : decode cX7_openGroup 61 = .ok (.invokevirtual 99, 3) := by decide +kernel
theorem dX7_openGroup_64 : decode cX7_openGroup 64 = .ok (.iastore, 1) := by decide +kernel
theorem dX7_openGroup_65 : decode cX7_openGroup 65 = .ok (.aload_n 0, 1) := by decide +kernel
theorem dX7_openGroup_66 : decode cX7_openGroup 66 = .ok (.invokevirtual 103, 3) := by decide +kernel
theorem dX7_openGroup_69 : decode cX7_openGroup 69 = .ok (.aload_n 0, 1) := by decide +kernel
theorem dX7_openGroup_70 : decode cX7_openGroup 70 = .ok (.getfield 15, 3) := by decide +kernel
theorem dX7_openGroup_73 : decode cX7_openGroup 73 = .ok (.iload_n 1, 1) := by decide +kernel
theorem dX7_openGroup_74 : decode cX7_openGroup 74 = .ok (.aload_n 0, 1) := by decide +kernel
theorem dX7_openGroup_75 : decode cX7_openGroup 75 = .ok (.getfield 93, 3) := by decide +kernel
theorem dX7_openGroup_78 : decode cX7_openGroup 78 = .ok (.iastore, 1) := by decide +kernel
theorem dX7_openGroup_79 : decode cX7_openGroup 79 = .ok (.iconst 1, 1) := by decide +kernel
theorem dX7_openGroup_80 : decode cX7_openGroup 80 = .ok (.ireturn, 1) := by decide +kernel
theorem dX7_closeGroup_0 : decode cX7_closeGroup 0 = .ok (.aload_n 0, 1) := by decide +kernel
theorem dX7_closeGroup_1 : decode cX7_closeGroup 1 = .ok (.getfield 15, 3) := by decide +kernel
theorem dX7_closeGroup_4 : decode cX7_closeGroup 4 = .ok (.aload_n 0, 1) := by decide +kernel
theorem dX7_closeGroup_5 : decode cX7_closeGroup 5 = .ok (.getfield 93, 3) := by decide +kernel
theorem dX7_closeGroup_8 : decode cX7_closeGroup 8 = .ok (.aload_n 0, 1) := by decide +kernel
theorem dX7_closeGroup_9 : decode cX7_closeGroup 9 = .ok (.getfield 33, 3) := by decide +kernel
theorem dX7_closeGroup_12 : decode cX7_closeGroup 12 = .ok (.aload_n 0, 1) := by decide +kernel
theorem dX7_closeGroup_13 : decode cX7_closeGroup 13 = .ok (.getfield 87, 3) := by decide +kernel
theorem dX7_closeGroup_16 : decode cX7_closeGroup 16 = .ok (.iaload, 1) := by decide +kernel
theorem dX7_closeGroup_17 : decode cX7_closeGroup 17 = .ok (.iastore, 1) := by decide +kernel
theorem dX7_closeGroup_18 : decode cX7_closeGroup 18 = .ok (.aload_n 0, 1) := by decide +kernel
theorem dX7_closeGroup_19 : decode cX7_closeGroup 19 = .ok (.aload_n 0, 1) := by decide +kernel
theorem dX7_closeGroup_20 : decode cX7_closeGroup 20 = .ok (.getfield 33, 3) := by decide +kernel
theorem dX7_closeGroup_23 : decode cX7_closeGroup 23 = .ok (.aload_n 0, 1) := by decide +kernel
theorem dX7_closeGroup_24 : decode cX7_closeGroup 24 = .ok (.getfield 87, 3) := by decide +kernel
theorem dX7_closeGroup_27 : decode cX7_closeGroup 27 = .ok (.iaload, 1) := by decide +kernel
theorem dX7_closeGroup_28 : decode cX7_closeGroup 28 = .ok (.putfield 93, 3) := by decide +kernel
theorem dX7_closeGroup_31 : decode cX7_closeGroup 31 = .ok (.aload_n 0, 1) := by decide +kernel
theorem dX7_closeGroup_32 : decode cX7_closeGroup 32 = .ok (.aload_n 0, 1) := by decide +kernel
theorem dX7_closeGroup_33 : decode cX7_closeGroup 33 = .ok (.getfield 30, 3) := by decide +kernel
theorem dX7_closeGroup_36 : decode cX7_closeGroup 36 = .ok (.aload_n 0, 1) := by decide +kernel
theorem dX7_closeGroup_37 : decode cX7_closeGroup 37 = .ok (.getfield 87, 3) := by decide +kernel
theorem dX7_closeGroup_40 : decode cX7_closeGroup 40 = .ok (.iaload, 1) := by decide +kernel
theorem dX7_closeGroup_41 : decode cX7_closeGroup 41 = .ok (.putfield 90, 3) := by decide +kernel
theorem dX7_closeGroup_44 : decode cX7_closeGroup 44 = .ok (.aload_n 0, 1) := by decide +kernel
theorem dX7_closeGroup_45 : decode cX7_closeGroup 45 = .ok (.iconst 0, 1) := by decide +kernel
theorem dX7_closeGroup_46 : decode cX7_closeGroup 46 = .ok (.putfield 122, 3) := by decide +kernel
theorem dX7_closeGroup_49 : decode cX7_closeGroup 49 = .ok (.aload_n 0, 1) := by decide +kernel
theorem dX7_closeGroup_50 : decode cX7_closeGroup 50 = .ok (.dup, 1) := by decide +kernel
theorem dX7_closeGroup_51 : decode cX7_closeGroup 51 = .ok (.getfield 87, 3) := by decide +kernel
theorem dX7_closeGroup_54 : decode cX7_closeGroup 54 = .ok (.iconst 1, 1) := by decide +kernel
theorem dX7_closeGroup_55 : decode cX7_closeGroup 55 = .ok (.isub, 1) := by decide +kernel
theorem dX7_closeGroup_56 : decode cX7_closeGroup 56 = .ok (.putfield 87, 3) := by decide +kernel
theorem dX7_closeGroup_59 : decode cX7_closeGroup 59 = .ok (.return_, 1) := by decide +kernel
theorem dX7_openRow_0 : decode cX7_openRow 0 = .ok (.aload_n 0, 1) := by decide +kernel
theorem dX7_openRow_1 : decode cX7_openRow 1 = .ok (.getfield 36, 3) := by decide +kernel
theorem dX7_openRow_4 : decode cX7_openRow 4 = .ok (.aload_n 0, 1) := by decide +kernel
theorem dX7_openRow_5 : decode cX7_openRow 5 = .ok (.getfield 87, 3) := by decide +kernel
theorem dX7_openRow_8 : decode cX7_openRow 8 = .ok (.aload_n 0, 1) := by decide +kernel
theorem dX7_openRow_9 : decode cX7_openRow 9 = .ok (.iconst 0, 1) := by decide +kernel
theorem dX7_openRow_10 : decode cX7_openRow 10 = .ok (.invokevirtual 99, 3) := by decide +kernel
theorem dX7_openRow_13 : decode cX7_openRow 13 = .ok (.iastore, 1) := by decide +kernel
theorem dX7_openRow_14 : decode cX7_openRow 14 = .ok (.aload_n 0, 1) := by decide +kernel
theorem dX7_openRow_15 : decode cX7_openRow 15 = .ok (.aload_n 0, 1) := by decide +kernel
theorem dX7_openRow_16 : decode cX7_openRow 16 = .ok (.getfield 36, 3) := by decide +kernel
theorem dX7_openRow_19 : decode cX7_openRow 19 = .ok (.aload_n 0, 1) := by decide +kernel
theorem dX7_openRow_20 : decode cX7_openRow 20 = .ok (.getfield 87, 3) := by decide +kernel
theorem dX7_openRow_23 : decode cX7_openRow 23 = .ok (.iaload, 1) := by decide +kernel
theorem dX7_openRow_24 : decode cX7_openRow 24 = .ok (.putfield 93, 3) := by decide +kernel
theorem dX7_openRow_27 : decode cX7_openRow 27 = .ok (.aload_n 0, 1) := by decide +kernel
theorem dX7_openRow_28 : decode cX7_openRow 28 = .ok (.iconst (-1), 1) := by decide +kernel
theorem dX7_openRow_29 : decode cX7_openRow 29 = .ok (.putfield 90, 3) := by decide +kernel
theorem dX7_openRow_32 : decode cX7_openRow 32 = .ok (.return_, 1) := by decide +kernel
theorem dX7_addRow_0 : decode cX7_addRow 0 = .ok (.aload_n 0, 1) := by decide +kernel
theorem dX7_addRow_1 : decode cX7_addRow 1 = .ok (.getfield 15, 3) := by decide +kernel
theorem dX7_addRow_4 : decode cX7_addRow 4 = .ok (.aload_n 0, 1) := by decide +kernel
theorem dX7_addRow_5 : decode cX7_addRow 5 = .ok (.getfield 93, 3) := by decide +kernel
theorem dX7_addRow_8 : decode cX7_addRow 8 = .ok (.aload_n 0, 1) := by decide +kernel
theorem dX7_addRow_9 : decode cX7_addRow 9 = .ok (.getfield 33, 3) := by decide +kernel
theorem dX7_addRow_12 : decode cX7_addRow 12 = .ok (.aload_n 0, 1) := by decide +kernel
theorem dX7_addRow_13 : decode cX7_addRow 13 = .ok (.getfield 87, 3) := by decide +kernel
theorem dX7_addRow_16 : decode cX7_addRow 16 = .ok (.iaload, 1) := by decide +kernel
theorem dX7_addRow_17 : decode cX7_addRow 17 = .ok (.iastore, 1) := by decide +kernel
theorem dX7_addRow_18 : decode cX7_addRow 18 = .ok (.aload_n 0, 1) := by decide +kernel
theorem dX7_addRow_19 : decode cX7_addRow 19 = .ok (.getfield 36, 3) := by decide +kernel
theorem dX7_addRow_22 : decode cX7_addRow 22 = .ok (.aload_n 0, 1) := by decide +kernel
theorem dX7_addRow_23 : decode cX7_addRow 23 = .ok (.getfield 87, 3) := by decide +kernel
theorem dX7_addRow_26 : decode cX7_addRow 26 = .ok (.iaload, 1) := by decide +kernel
theorem dX7_addRow_27 : decode cX7_addRow 27 = .ok (.istore_n 1, 1) := by decide +kernel
theorem dX7_addRow_28 : decode cX7_addRow 28 = .ok (.aload_n 0, 1) := by decide +kernel
theorem dX7_addRow_29 : decode cX7_addRow 29 = .ok (.invokevirtual 103, 3) := by decide +kernel
theorem dX7_addRow_32 : decode cX7_addRow 32 = .ok (.aload_n 0, 1) := by decide +kernel
theorem dX7_addRow_33 : decode cX7_addRow 33 = .ok (.getfield 18, 3) := by decide +kernel
theorem dX7_addRow_36 : decode cX7_addRow 36 = .ok (.iload_n 1, 1) := by decide +kernel
theorem dX7_addRow_37 : decode cX7_addRow 37 = .ok (.aload_n 0, 1) := by decide +kernel
theorem dX7_addRow_38 : decode cX7_addRow 38 = .ok (.getfield 93, 3) := by decide +kernel
theorem dX7_addRow_41 : decode cX7_addRow 41 = .ok (.iastore, 1) := by decide +kernel
theorem dX7_addRow_42 : decode cX7_addRow 42 = .ok (.return_, 1) := by decide +kernel
theorem dX7_addState_0 : decode cX7_addState 0 = .ok (.aload_n 0, 1) := by decide +kernel
theorem dX7_addState_1 : decode cX7_addState 1 = .ok (.getfield 59, 3) := by decide +kernel
theorem dX7_addState_4 : decode cX7_addState 4 = .ok (.sipush 408, 3) := by decide +kernel
theorem dX7_addState_7 : decode cX7_addState 7 = .ok (.if_icmp .lt 7, 3) := by decide +kernel
theorem dX7_addState_10 : decode cX7_addState 10 = .ok (.sipush 407, 3) := by decide +kernel
theorem dX7_addState_13 : decode cX7_addState 13 = .ok (.ireturn, 1) := by decide +kernel
theorem dX7_addState_14 : decode cX7_addState 14 = .ok (.aload_n 0, 1) := by decide +kernel
theorem dX7_addState_15 : decode cX7_addState 15 = .ok (.getfield 11, 3) := by decide +kernel
theorem dX7_addState_18 : decode cX7_addState 18 = .ok (.aload_n 0, 1) := by decide +kernel
theorem dX7_addState_19 : decode cX7_addState 19 = .ok (.getfield 59, 3) := by decide +kernel
theorem dX7_addState_22 : decode cX7_addState 22 = .ok (.iload_n 1, 1) := by decide +kernel
theorem dX7_addState_23 : decode cX7_addState 23 = .ok (.iastore, 1) := by decide +kernel
theorem dX7_addState_24 : decode cX7_addState 24 = .ok (.aload_n 0, 1) := by decide +kernel
theorem dX7_addState_25 : decode cX7_addState 25 = .ok (.getfield 15, 3) := by decide +kernel
theorem dX7_addState_28 : decode cX7_addState 28 = .ok (.aload_n 0, 1) := by decide +kernel
theorem dX7_addState_29 : decode cX7_addState 29 = .ok (.getfield 59, 3) := by decide +kernel
theorem dX7_addState_32 : decode cX7_addState 32 = .ok (.iconst (-1), 1) := by decide +kernel
theorem dX7_addState_33 : decode cX7_addState 33 = .ok (.iastore, 1) := by decide +kernel
theorem dX7_addState_34 : decode cX7_addState 34 = .ok (.aload_n 0, 1) := by decide +kernel
theorem dX7_addState_35 : decode cX7_addState 35 = .ok (.getfield 18, 3) := by decide +kernel
theorem dX7_addState_38 : decode cX7_addState 38 = .ok (.aload_n 0, 1) := by decide +kernel
theorem dX7_addState_39 : decode cX7_addState 39 = .ok (.getfield 59, 3) := by decide +kernel
theorem dX7_addState_42 : decode cX7_addState 42 = .ok (.iconst (-1), 1) := by decide +kernel
theorem dX7_addState_43 : decode cX7_addState 43 = .ok (.iastore, 1) := by decide +kernel
theorem dX7_addState_44 : decode cX7_addState 44 = .ok (.aload_n 0, 1) := by decide +kernel
theorem dX7_addState_45 : decode cX7_addState 45 = .ok (.dup, 1) := by decide +kernel
theorem dX7_addState_46 : decode cX7_addState 46 = .ok (.getfield 59, 3) := by decide +kernel
theorem dX7_addState_49 : decode cX7_addState 49 = .ok (.iconst 1, 1) := by decide +kernel
theorem dX7_addState_50 : decode cX7_addState 50 = .ok (.iadd, 1) := by decide +kernel
theorem dX7_addState_51 : decode cX7_addState 51 = .ok (.putfield 59, 3) := by decide +kernel
theorem dX7_addState_54 : decode cX7_addState 54 = .ok (.aload_n 0, 1) := by decide +kernel
theorem dX7_addState_55 : decode cX7_addState 55 = .ok (.getfield 59, 3) := by decide +kernel
theorem dX7_addState_58 : decode cX7_addState 58 = .ok (.iconst 1, 1) := by decide +kernel
theorem dX7_addState_59 : decode cX7_addState 59 = .ok (.isub, 1) := by decide +kernel
theorem dX7_addState_60 : decode cX7_addState 60 = .ok (.ireturn, 1) := by decide +kernel
theorem dX8_init_0 : decode cX8_init 0 = .ok (.aload_n 0, 1) := by decide +kernel
theorem dX8_init_1 : decode cX8_init 1 = .ok (.invokespecial 3, 3) := by decide +kernel
theorem dX8_init_4 : decode cX8_init 4 = .ok (.aload_n 0, 1) := by decide +kernel
theorem dX8_init_5 : decode cX8_init 5 = .ok (.bipush 16, 2) := by decide +kernel
theorem dX8_init_7 : decode cX8_init 7 = .ok (.newarray .int, 2) := by decide +kernel
theorem dX8_init_9 : decode cX8_init 9 = .ok (.putfield 9, 3) := by decide +kernel
theorem dX8_init_12 : decode cX8_init 12 = .ok (.return_, 1) := by decide +kernel
theorem dX8_begin_0 : decode cX8_begin 0 = .ok (.aload_n 0, 1) := by decide +kernel
theorem dX8_begin_1 : decode cX8_begin 1 = .ok (.iload_n 1, 1) := by decide +kernel
theorem dX8_begin_2 : decode cX8_begin 2 = .ok (.putfield 15, 3) := by decide +kernel
theorem dX8_begin_5 : decode cX8_begin 5 = .ok (.aload_n 0, 1) := by decide +kernel
theorem dX8_begin_6 : decode cX8_begin 6 = .ok (.iload_n 2, 1) := by decide +kernel
theorem dX8_begin_7 : decode cX8_begin 7 = .ok (.putfield 19, 3) := by decide +kernel
theorem dX8_begin_10 : decode cX8_begin 10 = .ok (.iconst 0, 1) := by decide +kernel
theorem dX8_begin_11 : decode cX8_begin 11 = .ok (.istore_n 3, 1) := by decide +kernel
theorem dX8_begin_12 : decode cX8_begin 12 = .ok (.iload_n 3, 1) := by decide +kernel
theorem dX8_begin_13 : decode cX8_begin 13 = .ok (.bipush 16, 2) := by decide +kernel
theorem dX8_begin_15 : decode cX8_begin 15 = .ok (.if_icmp .ge 16, 3) := by decide +kernel
theorem dX8_begin_18 : decode cX8_begin 18 = .ok (.aload_n 0, 1) := by decide +kernel
theorem dX8_begin_19 : decode cX8_begin 19 = .ok (.getfield 9, 3) := by decide +kernel
theorem dX8_begin_22 : decode cX8_begin 22 = .ok (.iload_n 3, 1) := by decide +kernel
theorem dX8_begin_23 : decode cX8_begin 23 = .ok (.iconst (-1), 1) := by decide +kernel
theorem dX8_begin_24 : decode cX8_begin 24 = .ok (.iastore, 1) := by decide +kernel
theorem dX8_begin_25 : decode cX8_begin 25 = .ok (.iinc 3 1, 3) := by decide +kernel
theorem dX8_begin_28 : decode cX8_begin 28 = .ok (.goto (-16), 3) := by decide +kernel
theorem dX8_begin_31 : decode cX8_begin 31 = .ok (.return_, 1) := by decide +kernel
theorem dX8_isOf_0 : decode cX8_isOf 0 = .ok (.iload_n 1, 1) := by decide +kernel
theorem dX8_isOf_1 : decode cX8_isOf 1 = .ok (.iconst 0, 1) := by decide +kernel
theorem dX8_isOf_2 : decode cX8_isOf 2 = .ok (.bipush 15, 2) := by decide +kernel
theorem dX8_isOf_4 : decode cX8_isOf 4 = .ok (.invokestatic 22, 3) := by decide +kernel
theorem dX8_isOf_7 : decode cX8_isOf 7 = .ok (.ifCond .eq 18, 3) := by decide +kernel
theorem dX8_isOf_10 : decode cX8_isOf 10 = .ok (.aload_n 0, 1) := by decide +kernel
theorem dX8_isOf_11 : decode cX8_isOf 11 = .ok (.getfield 15, 3) := by decide +kernel
theorem dX8_isOf_14 : decode cX8_isOf 14 = .ok (.iload_n 1, 1) := by decide +kernel
theorem dX8_isOf_15 : decode cX8_isOf 15 = .ok (.ishr, 1) := by decide +kernel
theorem dX8_isOf_16 : decode cX8_isOf 16 = .ok (.iconst 1, 1) := by decide +kernel
theorem dX8_isOf_17 : decode cX8_isOf 17 = .ok (.iand, 1) := by decide +kernel
theorem dX8_isOf_18 : decode cX8_isOf 18 = .ok (.ifCond .eq 7, 3) := by decide +kernel
theorem dX8_isOf_21 : decode cX8_isOf 21 = .ok (.iconst 1, 1) := by decide +kernel
theorem dX8_isOf_22 : decode cX8_isOf 22 = .ok (.goto 4, 3) := by decide +kernel
theorem dX8_isOf_25 : decode cX8_isOf 25 = .ok (.iconst 0, 1) := by decide +kernel
theorem dX8_isOf_26 : decode cX8_isOf 26 = .ok (.ireturn, 1) := by decide +kernel
theorem dX8_ways_0 : decode cX8_ways 0 = .ok (.aload_n 0, 1) := by decide +kernel
theorem dX8_ways_1 : decode cX8_ways 1 = .ok (.invokevirtual 26, 3) := by decide +kernel
theorem dX8_ways_4 : decode cX8_ways 4 = .ok (.istore_n 2, 1) := by decide +kernel
theorem dX8_ways_5 : decode cX8_ways 5 = .ok (.aload_n 0, 1) := by decide +kernel
theorem dX8_ways_6 : decode cX8_ways 6 = .ok (.getfield 19, 3) := by decide +kernel
theorem dX8_ways_9 : decode cX8_ways 9 = .ok (.iload_n 2, 1) := by decide +kernel
theorem dX8_ways_10 : decode cX8_ways 10 = .ok (.iand, 1) := by decide +kernel
theorem dX8_ways_11 : decode cX8_ways 11 = .ok (.invokestatic 30, 3) := by decide +kernel
theorem dX8_ways_14 : decode cX8_ways 14 = .ok (.istore_n 3, 1) := by decide +kernel
theorem dX8_ways_15 : decode cX8_ways 15 = .ok (.iload_n 1, 1) := by decide +kernel
theorem dX8_ways_16 : decode cX8_ways 16 = .ok (.ifCond .eq 16, 3) := by decide +kernel
theorem dX8_ways_19 : decode cX8_ways 19 = .ok (.aload_n 0, 1) := by decide +kernel
theorem dX8_ways_20 : decode cX8_ways 20 = .ok (.aload_n 0, 1) := by decide +kernel
theorem dX8_ways_21 : decode cX8_ways 21 = .ok (.getfield 19, 3) := by decide +kernel
theorem dX8_ways_24 : decode cX8_ways 24 = .ok (.iload_n 2, 1) := by decide +kernel
theorem dX8_ways_25 : decode cX8_ways 25 = .ok (.iand, 1) := by decide +kernel
theorem dX8_ways_26 : decode cX8_ways 26 = .ok (.invokevirtual 36, 3) := by decide +kernel
theorem dX8_ways_29 : decode cX8_ways 29 = .ok (.goto 4, 3) := by decide +kernel
theorem dX8_ways_32 : decode cX8_ways 32 = .ok (.iconst 0, 1) := by decide +kernel
theorem dX8_ways_33 : decode cX8_ways 33 = .ok (.istore 4, 2) := by decide +kernel
theorem dX8_ways_35 : decode cX8_ways 35 = .ok (.iconst 0, 1) := by decide +kernel
theorem dX8_ways_36 : decode cX8_ways 36 = .ok (.istore 5, 2) := by decide +kernel
theorem dX8_ways_38 : decode cX8_ways 38 = .ok (.iconst 0, 1) := by decide +kernel
theorem dX8_ways_39 : decode cX8_ways 39 = .ok (.istore 6, 2) := by decide +kernel
theorem dX8_ways_41 : decode cX8_ways 41 = .ok (.iload 6, 2) := by decide +kernel
theorem dX8_ways_43 : decode cX8_ways 43 = .ok (.iload_n 2, 1) := by decide +kernel
theorem dX8_ways_44 : decode cX8_ways 44 = .ok (.if_icmp .gt 41, 3) := by decide +kernel
theorem dX8_ways_47 : decode cX8_ways 47 = .ok (.iload 6, 2) := by decide +kernel
theorem dX8_ways_49 : decode cX8_ways 49 = .ok (.iload_n 2, 1) := by decide +kernel
theorem dX8_ways_50 : decode cX8_ways 50 = .ok (.iconst (-1), 1) := by decide +kernel
theorem dX8_ways_51 : decode cX8_ways 51 = .ok (.ixor, 1) := by decide +kernel
theorem dX8_ways_52 : decode cX8_ways 52 = .ok (.iand, 1) := by decide +kernel
theorem dX8_ways_53 : decode cX8_ways 53 = .ok (.ifCond .ne 26, 3) := by decide +kernel
theorem dX8_ways_56 : decode cX8_ways 56 = .ok (.iload 6, 2) := by decide +kernel
theorem dX8_ways_58 : decode cX8_ways 58 = .ok (.invokestatic 30, 3) := by decide +kernel
theorem dX8_ways_61 : decode cX8_ways 61 = .ok (.iload_n 3, 1) := by decide +kernel
theorem dX8_ways_62 : decode cX8_ways 62 = .ok (.if_icmp .ne 17, 3) := by decide +kernel
theorem dX8_ways_65 : decode cX8_ways 65 = .ok (.aload_n 0, 1) := by decide +kernel
theorem dX8_ways_66 : decode cX8_ways 66 = .ok (.iload 6, 2) := by decide +kernel
theorem dX8_ways_68 : decode cX8_ways 68 = .ok (.invokevirtual 36, 3) := by decide +kernel
theorem dX8_ways_71 : decode cX8_ways 71 = .ok (.iload 4, 2) := by decide +kernel
theorem dX8_ways_73 : decode cX8_ways 73 = .ok (.if_icmp .lt 6, 3) := by decide +kernel
theorem dX8_ways_76 : decode cX8_ways 76 = .ok (.iinc 5 1, 3) := by decide +kernel
theorem dX8_ways_79 : decode cX8_ways 79 = .ok (.iinc 6 1, 3) := by decide +kernel
theorem dX8_ways_82 : decode cX8_ways 82 = .ok (.goto (-41), 3) := by decide +kernel
theorem dX8_ways_85 : decode cX8_ways 85 = .ok (.iload 5, 2) := by decide +kernel
theorem dX8_ways_87 : decode cX8_ways 87 = .ok (.ireturn, 1) := by decide +kernel
theorem dX8_withOutcomes_0 : decode cX8_withOutcomes 0 = .ok (.iconst 0, 1) := by decide +kernel
theorem dX8_withOutcomes_1 : decode cX8_withOutcomes 1 = .ok (.istore_n 1, 1) := by decide +kernel
theorem dX8_withOutcomes_2 : decode cX8_withOutcomes 2 = .ok (.iconst 0, 1) := by decide +kernel
theorem dX8_withOutcomes_3 : decode cX8_withOutcomes 3 = .ok (.istore_n 2, 1) := by decide +kernel
theorem dX8_withOutcomes_4 : decode cX8_withOutcomes 4 = .ok (.iload_n 2, 1) := by decide +kernel
theorem dX8_withOutcomes_5 : decode cX8_withOutcomes 5 = .ok (.bipush 16, 2) := by decide +kernel
theorem dX8_withOutcomes_7 : decode cX8_withOutcomes 7 = .ok (.if_icmp .ge 33, 3) := by decide +kernel
theorem dX8_withOutcomes_10 : decode cX8_withOutcomes 10 = .ok (.aload_n 0, 1) := by decide +kernel
theorem dX8_withOutcomes_11 : decode cX8_withOutcomes 11 = .ok (.iload_n 2, 1) := by decide +kernel
theorem dX8_withOutcomes_12 : decode cX8_withOutcomes 12 = .ok (.invokevirtual 39, 3) := by decide +kernel
theorem dX8_withOutcomes_15 : decode cX8_withOutcomes 15 = .ok (.ifCond .eq 19, 3) := by decide +kernel
theorem dX8_withOutcomes_18 : decode cX8_withOutcomes 18 = .ok (.aload_n 0, 1) := by decide +kernel
theorem dX8_withOutcomes_19 : decode cX8_withOutcomes 19 = .ok (.getfield 9, 3) := by decide +kernel
theorem dX8_withOutcomes_22 : decode cX8_withOutcomes 22 = .ok (.iload_n 2, 1) := by decide +kernel
theorem dX8_withOutcomes_23 : decode cX8_withOutcomes 23 = .ok (.iaload, 1) := by decide +kernel
theorem dX8_withOutcomes_24 : decode cX8_withOutcomes 24 = .ok (.iconst (-1), 1) := by decide +kernel
theorem dX8_withOutcomes_25 : decode cX8_withOutcomes 25 = .ok (.if_icmp .eq 9, 3) := by decide +kernel
theorem dX8_withOutcomes_28 : decode cX8_withOutcomes 28 = .ok (.iload_n 1, 1) := by decide +kernel
theorem dX8_withOutcomes_29 : decode cX8_withOutcomes 29 = .ok (.iconst 1, 1) := by decide +kernel
theorem dX8_withOutcomes_30 : decode cX8_withOutcomes 30 = .ok (.iload_n 2, 1) := by decide +kernel
theorem dX8_withOutcomes_31 : decode cX8_withOutcomes 31 = .ok (.ishl, 1) := by decide +kernel
theorem dX8_withOutcomes_32 : decode cX8_withOutcomes 32 = .ok (.ior, 1) := by decide +kernel
theorem dX8_withOutcomes_33 : decode cX8_withOutcomes 33 = .ok (.istore_n 1, 1) := by decide +kernel
theorem dX8_withOutcomes_34 : decode cX8_withOutcomes 34 = .ok (.iinc 2 1, 3) := by decide +kernel
theorem dX8_withOutcomes_37 : decode cX8_withOutcomes 37 = .ok (.goto (-33), 3) := by decide +kernel
theorem dX8_withOutcomes_40 : decode cX8_withOutcomes 40 = .ok (.iload_n 1, 1) := by decide +kernel
theorem dX8_withOutcomes_41 : decode cX8_withOutcomes 41 = .ok (.ireturn, 1) := by decide +kernel
theorem dX8_sumOf_0 : decode cX8_sumOf 0 = .ok (.iconst 0, 1) := by decide +kernel
theorem dX8_sumOf_1 : decode cX8_sumOf 1 = .ok (.istore_n 2, 1) := by decide +kernel
theorem dX8_sumOf_2 : decode cX8_sumOf 2 = .ok (.iconst 0, 1) := by decide +kernel
theorem dX8_sumOf_3 : decode cX8_sumOf 3 = .ok (.istore_n 3, 1) := by decide +kernel
theorem dX8_sumOf_4 : decode cX8_sumOf 4 = .ok (.iload_n 3, 1) := by decide +kernel
theorem dX8_sumOf_5 : decode cX8_sumOf 5 = .ok (.bipush 16, 2) := by decide +kernel
theorem dX8_sumOf_7 : decode cX8_sumOf 7 = .ok (.if_icmp .ge 30, 3) := by decide +kernel
theorem dX8_sumOf_10 : decode cX8_sumOf 10 = .ok (.iload_n 2, 1) := by decide +kernel
theorem dX8_sumOf_11 : decode cX8_sumOf 11 = .ok (.iload_n 1, 1) := by decide +kernel
theorem dX8_sumOf_12 : decode cX8_sumOf 12 = .ok (.iload_n 3, 1) := by decide +kernel
theorem dX8_sumOf_13 : decode cX8_sumOf 13 = .ok (.ishr, 1) := by decide +kernel
theorem dX8_sumOf_14 : decode cX8_sumOf 14 = .ok (.iconst 1, 1) := by decide +kernel
theorem dX8_sumOf_15 : decode cX8_sumOf 15 = .ok (.iand, 1) := by decide +kernel
theorem dX8_sumOf_16 : decode cX8_sumOf 16 = .ok (.ifCond .eq 12, 3) := by decide +kernel
theorem dX8_sumOf_19 : decode cX8_sumOf 19 = .ok (.aload_n 0, 1) := by decide +kernel
theorem dX8_sumOf_20 : decode cX8_sumOf 20 = .ok (.getfield 9, 3) := by decide +kernel
theorem dX8_sumOf_23 : decode cX8_sumOf 23 = .ok (.iload_n 3, 1) := by decide +kernel
theorem dX8_sumOf_24 : decode cX8_sumOf 24 = .ok (.iaload, 1) := by decide +kernel
theorem dX8_sumOf_25 : decode cX8_sumOf 25 = .ok (.goto 4, 3) := by decide +kernel
theorem dX8_sumOf_28 : decode cX8_sumOf 28 = .ok (.iconst 0, 1) := by decide +kernel
theorem dX8_sumOf_29 : decode cX8_sumOf 29 = .ok (.iadd, 1) := by decide +kernel
theorem dX8_sumOf_30 : decode cX8_sumOf 30 = .ok (.istore_n 2, 1) := by decide +kernel
theorem dX8_sumOf_31 : decode cX8_sumOf 31 = .ok (.iinc 3 1, 3) := by decide +kernel
theorem dX8_sumOf_34 : decode cX8_sumOf 34 = .ok (.goto (-30), 3) := by decide +kernel
theorem dX8_sumOf_37 : decode cX8_sumOf 37 = .ok (.iload_n 2, 1) := by decide +kernel
theorem dX8_sumOf_38 : decode cX8_sumOf 38 = .ok (.ireturn, 1) := by decide +kernel
theorem dX9_init_0 : decode cX9_init 0 = .ok (.aload_n 0, 1) := by decide +kernel
theorem dX9_init_1 : decode cX9_init 1 = .ok (.invokespecial 3, 3) := by decide +kernel
theorem dX9_init_4 : decode cX9_init 4 = .ok (.aload_n 0, 1) := by decide +kernel
theorem dX9_init_5 : decode cX9_init 5 = .ok (.bipush 6, 2) := by decide +kernel
theorem dX9_init_7 : decode cX9_init 7 = .ok (.newarray .long, 2) := by decide +kernel
theorem dX9_init_9 : decode cX9_init 9 = .ok (.putfield 9, 3) := by decide +kernel
theorem dX9_init_12 : decode cX9_init 12 = .ok (.aload_n 0, 1) := by decide +kernel
theorem dX9_init_13 : decode cX9_init 13 = .ok (.bipush 6, 2) := by decide +kernel
theorem dX9_init_15 : decode cX9_init 15 = .ok (.newarray .int, 2) := by decide +kernel
theorem dX9_init_17 : decode cX9_init 17 = .ok (.putfield 15, 3) := by decide +kernel
theorem dX9_init_20 : decode cX9_init 20 = .ok (.aload_n 0, 1) := by decide +kernel
theorem dX9_init_21 : decode cX9_init 21 = .ok (.bipush 6, 2) := by decide +kernel
theorem dX9_init_23 : decode cX9_init 23 = .ok (.newarray .int, 2) := by decide +kernel
theorem dX9_init_25 : decode cX9_init 25 = .ok (.putfield 19, 3) := by decide +kernel
theorem dX9_init_28 : decode cX9_init 28 = .ok (.aload_n 0, 1) := by decide +kernel
theorem dX9_init_29 : decode cX9_init 29 = .ok (.bipush 6, 2) := by decide +kernel
theorem dX9_init_31 : decode cX9_init 31 = .ok (.anewarray 22, 3) := by decide +kernel
theorem dX9_init_34 : decode cX9_init 34 = .ok (.putfield 24, 3) := by decide +kernel
theorem dX9_init_37 : decode cX9_init 37 = .ok (.aload_n 0, 1) := by decide +kernel
theorem dX9_init_38 : decode cX9_init 38 = .ok (.new 28, 3) := by decide +kernel
theorem dX9_init_41 : decode cX9_init 41 = .ok (.dup, 1) := by decide +kernel
theorem dX9_init_42 : decode cX9_init 42 = .ok (.invokespecial 30, 3) := by decide +kernel
theorem dX9_init_45 : decode cX9_init 45 = .ok (.putfield 31, 3) := by decide +kernel
theorem dX9_init_48 : decode cX9_init 48 = .ok (.return_, 1) := by decide +kernel
theorem dX9_add_0 : decode cX9_add 0 = .ok (.aload_n 0, 1) := by decide +kernel
theorem dX9_add_1 : decode cX9_add 1 = .ok (.getfield 35, 3) := by decide +kernel
theorem dX9_add_4 : decode cX9_add 4 = .ok (.bipush 6, 2) := by decide +kernel
theorem dX9_add_6 : decode cX9_add 6 = .ok (.if_icmp .lt 5, 3) := by decide +kernel
theorem dX9_add_9 : decode cX9_add 9 = .ok (.iconst (-1), 1) := by decide +kernel
theorem dX9_add_10 : decode cX9_add 10 = .ok (.ireturn, 1) := by decide +kernel
theorem dX9_add_11 : decode cX9_add 11 = .ok (.aload_n 0, 1) := by decide +kernel
theorem dX9_add_12 : decode cX9_add 12 = .ok (.getfield 9, 3) := by decide +kernel
theorem dX9_add_15 : decode cX9_add 15 = .ok (.aload_n 0, 1) := by decide +kernel
theorem dX9_add_16 : decode cX9_add 16 = .ok (.getfield 35, 3) := by decide +kernel
theorem dX9_add_19 : decode cX9_add 19 = .ok (.lload_n 1, 1) := by decide +kernel
theorem dX9_add_20 : decode cX9_add 20 = .ok (.lastore, 1) := by decide +kernel
theorem dX9_add_21 : decode cX9_add 21 = .ok (.aload_n 0, 1) := by decide +kernel
theorem dX9_add_22 : decode cX9_add 22 = .ok (.getfield 15, 3) := by decide +kernel
theorem dX9_add_25 : decode cX9_add 25 = .ok (.aload_n 0, 1) := by decide +kernel
theorem dX9_add_26 : decode cX9_add 26 = .ok (.getfield 35, 3) := by decide +kernel
theorem dX9_add_29 : decode cX9_add 29 = .ok (.iload_n 3, 1) := by decide +kernel
theorem dX9_add_30 : decode cX9_add 30 = .ok (.iastore, 1) := by decide +kernel
theorem dX9_add_31 : decode cX9_add 31 = .ok (.aload_n 0, 1) := by decide +kernel
theorem dX9_add_32 : decode cX9_add 32 = .ok (.getfield 19, 3) := by decide +kernel
theorem dX9_add_35 : decode cX9_add 35 = .ok (.aload_n 0, 1) := by decide +kernel
theorem dX9_add_36 : decode cX9_add 36 = .ok (.getfield 35, 3) := by decide +kernel
theorem dX9_add_39 : decode cX9_add 39 = .ok (.iload 4, 2) := by decide +kernel
theorem dX9_add_41 : decode cX9_add 41 = .ok (.iastore, 1) := by decide +kernel
theorem dX9_add_42 : decode cX9_add 42 = .ok (.aload_n 0, 1) := by decide +kernel
theorem dX9_add_43 : decode cX9_add 43 = .ok (.dup, 1) := by decide +kernel
theorem dX9_add_44 : decode cX9_add 44 = .ok (.getfield 35, 3) := by decide +kernel
theorem dX9_add_47 : decode cX9_add 47 = .ok (.iconst 1, 1) := by decide +kernel
theorem dX9_add_48 : decode cX9_add 48 = .ok (.iadd, 1) := by decide +kernel
theorem dX9_add_49 : decode cX9_add 49 = .ok (.putfield 35, 3) := by decide +kernel
theorem dX9_add_52 : decode cX9_add 52 = .ok (.aload_n 0, 1) := by decide +kernel
theorem dX9_add_53 : decode cX9_add 53 = .ok (.getfield 35, 3) := by decide +kernel
theorem dX9_add_56 : decode cX9_add 56 = .ok (.iconst 1, 1) := by decide +kernel
theorem dX9_add_57 : decode cX9_add 57 = .ok (.isub, 1) := by decide +kernel
theorem dX9_add_58 : decode cX9_add 58 = .ok (.ireturn, 1) := by decide +kernel
theorem dX9_translate_0 : decode cX9_translate 0 = .ok (.aload_n 0, 1) := by decide +kernel
theorem dX9_translate_1 : decode cX9_translate 1 = .ok (.aload_n 1, 1) := by decide +kernel
theorem dX9_translate_2 : decode cX9_translate 2 = .ok (.invokevirtual 39, 3) := by decide +kernel
theorem dX9_translate_5 : decode cX9_translate 5 = .ok (.istore 4, 2) := by decide +kernel
theorem dX9_translate_7 : decode cX9_translate 7 = .ok (.aload_n 0, 1) := by decide +kernel
theorem dX9_translate_8 : decode cX9_translate 8 = .ok (.getfield 31, 3) := by decide +kernel
theorem dX9_translate_11 : decode cX9_translate 11 = .ok (.iload 4, 2) := by decide +kernel
theorem dX9_translate_13 : decode cX9_translate 13 = .ok (.invokevirtual 43, 3) := by decide +kernel
theorem dX9_translate_16 : decode cX9_translate 16 = .ok (.iconst 0, 1) := by decide +kernel
theorem dX9_translate_17 : decode cX9_translate 17 = .ok (.istore 5, 2) := by decide +kernel
theorem dX9_translate_19 : decode cX9_translate 19 = .ok (.iload 5, 2) := by decide +kernel
theorem dX9_translate_21 : decode cX9_translate 21 = .ok (.aload_n 0, 1) := by decide +kernel
theorem dX9_translate_22 : decode cX9_translate 22 = .ok (.getfield 35, 3) := by decide +kernel
theorem dX9_translate_25 : decode cX9_translate 25 = .ok (.if_icmp .ge 64, 3) := by decide +kernel
theorem dX9_translate_28 : decode cX9_translate 28 = .ok (.aload_n 0, 1) := by decide +kernel
theorem dX9_translate_29 : decode cX9_translate 29 = .ok (.getfield 19, 3) := by decide +kernel
theorem dX9_translate_32 : decode cX9_translate 32 = .ok (.iload 5, 2) := by decide +kernel
theorem dX9_translate_34 : decode cX9_translate 34 = .ok (.iaload, 1) := by decide +kernel
theorem dX9_translate_35 : decode cX9_translate 35 = .ok (.iload_n 3, 1) := by decide +kernel
theorem dX9_translate_36 : decode cX9_translate 36 = .ok (.bipush 7, 2) := by decide +kernel
theorem dX9_translate_38 : decode cX9_translate 38 = .ok (.irem, 1) := by decide +kernel
theorem dX9_translate_39 : decode cX9_translate 39 = .ok (.ishr, 1) := by decide +kernel
theorem dX9_translate_40 : decode cX9_translate 40 = .ok (.iconst 1, 1) := by decide +kernel
theorem dX9_translate_41 : decode cX9_translate 41 = .ok (.iand, 1) := by decide +kernel
theorem dX9_translate_42 : decode cX9_translate 42 = .ok (.ifCond .ne 7, 3) := by decide +kernel
theorem dX9_translate_45 : decode cX9_translate 45 = .ok (.iconst 1, 1) := by decide +kernel
theorem dX9_translate_46 : decode cX9_translate 46 = .ok (.goto 4, 3) := by decide +kernel
theorem dX9_translate_49 : decode cX9_translate 49 = .ok (.iconst 0, 1) := by decide +kernel
theorem dX9_translate_50 : decode cX9_translate 50 = .ok (.istore 6, 2) := by decide +kernel
theorem dX9_translate_52 : decode cX9_translate 52 = .ok (.iload 6, 2) := by decide +kernel
theorem dX9_translate_54 : decode cX9_translate 54 = .ok (.ifCond .eq 29, 3) := by decide +kernel
theorem dX9_translate_57 : decode cX9_translate 57 = .ok (.aload_n 0, 1) := by decide +kernel
theorem dX9_translate_58 : decode cX9_translate 58 = .ok (.getfield 31, 3) := by decide +kernel
theorem dX9_translate_61 : decode cX9_translate 61 = .ok (.getfield 47, 3) := by decide +kernel
theorem dX9_translate_64 : decode cX9_translate 64 = .ok (.iload 5, 2) := by decide +kernel
theorem dX9_translate_66 : decode cX9_translate 66 = .ok (.aload_n 0, 1) := by decide +kernel
theorem dX9_translate_67 : decode cX9_translate 67 = .ok (.getfield 15, 3) := by decide +kernel
theorem dX9_translate_70 : decode cX9_translate 70 = .ok (.iload 5, 2) := by decide +kernel
theorem dX9_translate_72 : decode cX9_translate 72 = .ok (.iaload, 1) := by decide +kernel
theorem dX9_translate_73 : decode cX9_translate 73 = .ok (.iastore, 1) := by decide +kernel
theorem dX9_translate_74 : decode cX9_translate 74 = .ok (.aload_n 0, 1) := by decide +kernel
theorem dX9_translate_75 : decode cX9_translate 75 = .ok (.iload 5, 2) := by decide +kernel
theorem dX9_translate_77 : decode cX9_translate 77 = .ok (.iload 4, 2) := by decide +kernel
theorem dX9_translate_79 : decode cX9_translate 79 = .ok (.aload_n 2, 1) := by decide +kernel
theorem dX9_translate_80 : decode cX9_translate 80 = .ok (.invokevirtual 50, 3) := by decide +kernel
theorem dX9_translate_83 : decode cX9_translate 83 = .ok (.iinc 5 1, 3) := by decide +kernel
theorem dX9_translate_86 : decode cX9_translate 86 = .ok (.goto (-67), 3) := by decide +kernel
theorem dX9_translate_89 : decode cX9_translate 89 = .ok (.aload_n 0, 1) := by decide +kernel
theorem dX9_translate_90 : decode cX9_translate 90 = .ok (.getfield 31, 3) := by decide +kernel
theorem dX9_translate_93 : decode cX9_translate 93 = .ok (.invokevirtual 54, 3) := by decide +kernel
theorem dX9_translate_96 : decode cX9_translate 96 = .ok (.iconst 0, 1) := by decide +kernel
theorem dX9_translate_97 : decode cX9_translate 97 = .ok (.istore 5, 2) := by decide +kernel
theorem dX9_translate_99 : decode cX9_translate 99 = .ok (.iload 5, 2) := by decide +kernel
theorem dX9_translate_101 : decode cX9_translate 101 = .ok (.iload 4, 2) := by decide +kernel
theorem dX9_translate_103 : decode cX9_translate 103 = .ok (.if_icmp .ge 79, 3) := by decide +kernel
theorem dX9_translate_106 : decode cX9_translate 106 = .ok (.aload_n 0, 1) := by decide +kernel
theorem dX9_translate_107 : decode cX9_translate 107 = .ok (.getfield 31, 3) := by decide +kernel
theorem dX9_translate_110 : decode cX9_translate 110 = .ok (.getfield 57, 3) := by decide +kernel
theorem dX9_translate_113 : decode cX9_translate 113 = .ok (.iload 5, 2) := by decide +kernel
theorem dX9_translate_115 : decode cX9_translate 115 = .ok (.iaload, 1) := by decide +kernel
theorem dX9_translate_116 : decode cX9_translate 116 = .ok (.bipush 6, 2) := by decide +kernel
theorem dX9_translate_118 : decode cX9_translate 118 = .ok (.if_icmp .eq 58, 3) := by decide +kernel
theorem dX9_translate_121 : decode cX9_translate 121 = .ok (.aload_n 0, 1) := by decide +kernel
theorem dX9_translate_122 : decode cX9_translate 122 = .ok (.getfield 24, 3) := by decide +kernel
theorem dX9_translate_125 : decode cX9_translate 125 = .ok (.iload 5, 2) := by decide +kernel
theorem dX9_translate_127 : decode cX9_translate 127 = .ok (.aaload, 1) := by decide +kernel
theorem dX9_translate_128 : decode cX9_translate 128 = .ok (.aload_n 0, 1) := by decide +kernel
theorem dX9_translate_129 : decode cX9_translate 129 = .ok (.getfield 31, 3) := by decide +kernel
theorem dX9_translate_132 : decode cX9_translate 132 = .ok (.getfield 57, 3) := by decide +kernel
theorem dX9_translate_135 : decode cX9_translate 135 = .ok (.iload 5, 2) := by decide +kernel
theorem dX9_translate_137 : decode cX9_translate 137 = .ok (.iaload, 1) := by decide +kernel
theorem dX9_translate_138 : decode cX9_translate 138 = .ok (.putfield 60, 3) := by decide +kernel
theorem dX9_translate_141 : decode cX9_translate 141 = .ok (.aload_n 0, 1) := by decide +kernel
theorem dX9_translate_142 : decode cX9_translate 142 = .ok (.getfield 24, 3) := by decide +kernel
theorem dX9_translate_145 : decode cX9_translate 145 = .ok (.iload 5, 2) := by decide +kernel
theorem dX9_translate_147 : decode cX9_translate 147 = .ok (.aaload, 1) := by decide +kernel
theorem dX9_translate_148 : decode cX9_translate 148 = .ok (.getfield 63, 3) := by decide +kernel
theorem dX9_translate_151 : decode cX9_translate 151 = .ok (.aload_n 0, 1) := by decide +kernel
theorem dX9_translate_152 : decode cX9_translate 152 = .ok (.getfield 31, 3) := by decide +kernel
theorem dX9_translate_155 : decode cX9_translate 155 = .ok (.getfield 57, 3) := by decide +kernel
theorem dX9_translate_158 : decode cX9_translate 158 = .ok (.iload 5, 2) := by decide +kernel
theorem dX9_translate_160 : decode cX9_translate 160 = .ok (.iaload, 1) := by decide +kernel
theorem dX9_translate_161 : decode cX9_translate 161 = .ok (.putfield 67, 3) := by decide +kernel
theorem dX9_translate_164 : decode cX9_translate 164 = .ok (.aload_n 0, 1) := by decide +kernel
theorem dX9_translate_165 : decode cX9_translate 165 = .ok (.getfield 24, 3) := by decide +kernel
theorem dX9_translate_168 : decode cX9_translate 168 = .ok (.iload 5, 2) := by decide +kernel
theorem dX9_translate_170 : decode cX9_translate 170 = .ok (.aaload, 1) := by decide +kernel
theorem dX9_translate_171 : decode cX9_translate 171 = .ok (.iconst 5, 1) := by decide +kernel
theorem dX9_translate_172 : decode cX9_translate 172 = .ok (.iload_n 3, 1) := by decide +kernel
theorem dX9_translate_173 : decode cX9_translate 173 = .ok (.invokevirtual 70, 3) := by decide +kernel
theorem dX9_translate_176 : decode cX9_translate 176 = .ok (.iinc 5 1, 3) := by decide +kernel
theorem dX9_translate_179 : decode cX9_translate 179 = .ok (.goto (-80), 3) := by decide +kernel
theorem dX9_translate_182 : decode cX9_translate 182 = .ok (.return_, 1) := by decide +kernel
theorem dX9_allowKnown_0 : decode cX9_allowKnown 0 = .ok (.iconst 0, 1) := by decide +kernel
theorem dX9_allowKnown_1 : decode cX9_allowKnown 1 = .ok (.istore 4, 2) := by decide +kernel
theorem dX9_allowKnown_3 : decode cX9_allowKnown 3 = .ok (.iload 4, 2) := by decide +kernel
theorem dX9_allowKnown_5 : decode cX9_allowKnown 5 = .ok (.iload_n 2, 1) := by decide +kernel
theorem dX9_allowKnown_6 : decode cX9_allowKnown 6 = .ok (.if_icmp .ge 66, 3) := by decide +kernel
theorem dX9_allowKnown_9 : decode cX9_allowKnown 9 = .ok (.aload_n 0, 1) := by decide +kernel
theorem dX9_allowKnown_10 : decode cX9_allowKnown 10 = .ok (.getfield 9, 3) := by decide +kernel
theorem dX9_allowKnown_13 : decode cX9_allowKnown 13 = .ok (.iload_n 1, 1) := by decide +kernel
theorem dX9_allowKnown_14 : decode cX9_allowKnown 14 = .ok (.laload, 1) := by decide +kernel
theorem dX9_allowKnown_15 : decode cX9_allowKnown 15 = .ok (.aload_n 3, 1) := by decide +kernel
theorem dX9_allowKnown_16 : decode cX9_allowKnown 16 = .ok (.aload_n 0, 1) := by decide +kernel
theorem dX9_allowKnown_17 : decode cX9_allowKnown 17 = .ok (.getfield 24, 3) := by decide +kernel
theorem dX9_allowKnown_20 : decode cX9_allowKnown 20 = .ok (.iload 4, 2) := by decide +kernel
theorem dX9_allowKnown_22 : decode cX9_allowKnown 22 = .ok (.aaload, 1) := by decide +kernel
theorem dX9_allowKnown_23 : decode cX9_allowKnown 23 = .ok (.invokevirtual 74, 3) := by decide +kernel
theorem dX9_allowKnown_26 : decode cX9_allowKnown 26 = .ok (.lshr, 1) := by decide +kernel
theorem dX9_allowKnown_27 : decode cX9_allowKnown 27 = .ok (.lconst 1, 1) := by decide +kernel
theorem dX9_allowKnown_28 : decode cX9_allowKnown 28 = .ok (.land, 1) := by decide +kernel
theorem dX9_allowKnown_29 : decode cX9_allowKnown 29 = .ok (.lconst 0, 1) := by decide +kernel
theorem dX9_allowKnown_30 : decode cX9_allowKnown 30 = .ok (.lcmp, 1) := by decide +kernel
theorem dX9_allowKnown_31 : decode cX9_allowKnown 31 = .ok (.ifCond .eq 35, 3) := by decide +kernel
theorem dX9_allowKnown_34 : decode cX9_allowKnown 34 = .ok (.aload_n 0, 1) := by decide +kernel
theorem dX9_allowKnown_35 : decode cX9_allowKnown 35 = .ok (.getfield 31, 3) := by decide +kernel
theorem dX9_allowKnown_38 : decode cX9_allowKnown 38 = .ok (.iload 4, 2) := by decide +kernel
theorem dX9_allowKnown_40 : decode cX9_allowKnown 40 = .ok (.iload_n 1, 1) := by decide +kernel
theorem dX9_allowKnown_41 : decode cX9_allowKnown 41 = .ok (.aload_n 0, 1) := by decide +kernel
theorem dX9_allowKnown_42 : decode cX9_allowKnown 42 = .ok (.getfield 24, 3) := by decide +kernel
theorem dX9_allowKnown_45 : decode cX9_allowKnown 45 = .ok (.iload 4, 2) := by decide +kernel
theorem dX9_allowKnown_47 : decode cX9_allowKnown 47 = .ok (.aaload, 1) := by decide +kernel
theorem dX9_allowKnown_48 : decode cX9_allowKnown 48 = .ok (.getfield 63, 3) := by decide +kernel
theorem dX9_allowKnown_51 : decode cX9_allowKnown 51 = .ok (.getfield 67, 3) := by decide +kernel
theorem dX9_allowKnown_54 : decode cX9_allowKnown 54 = .ok (.iload_n 1, 1) := by decide +kernel
theorem dX9_allowKnown_55 : decode cX9_allowKnown 55 = .ok (.if_icmp .ne 7, 3) := by decide +kernel
theorem dX9_allowKnown_58 : decode cX9_allowKnown 58 = .ok (.iconst 1, 1) := by decide +kernel
theorem dX9_allowKnown_59 : decode cX9_allowKnown 59 = .ok (.goto 4, 3) := by decide +kernel
theorem dX9_allowKnown_62 : decode cX9_allowKnown 62 = .ok (.iconst 0, 1) := by decide +kernel
theorem dX9_allowKnown_63 : decode cX9_allowKnown 63 = .ok (.invokevirtual 80, 3) := by decide +kernel
theorem dX9_allowKnown_66 : decode cX9_allowKnown 66 = .ok (.iinc 4 1, 3) := by decide +kernel
theorem dX9_allowKnown_69 : decode cX9_allowKnown 69 = .ok (.goto (-66), 3) := by decide +kernel
theorem dX9_allowKnown_72 : decode cX9_allowKnown 72 = .ok (.return_, 1) := by decide +kernel
theorem dX9_lineUp_0 : decode cX9_lineUp 0 = .ok (.iconst 0, 1) := by decide +kernel
theorem dX9_lineUp_1 : decode cX9_lineUp 1 = .ok (.istore_n 2, 1) := by decide +kernel
theorem dX9_lineUp_2 : decode cX9_lineUp 2 = .ok (.aload_n 1, 1) := by decide +kernel
theorem dX9_lineUp_3 : decode cX9_lineUp 3 = .ok (.iconst 4, 1) := by decide +kernel
theorem dX9_lineUp_4 : decode cX9_lineUp 4 = .ok (.aconst_null, 1) := by decide +kernel
theorem dX9_lineUp_5 : decode cX9_lineUp 5 = .ok (.invokevirtual 84, 3) := by decide +kernel
theorem dX9_lineUp_8 : decode cX9_lineUp 8 = .ok (.astore_n 3, 1) := by decide +kernel
theorem dX9_lineUp_9 : decode cX9_lineUp 9 = .ok (.aload_n 3, 1) := by decide +kernel
theorem dX9_lineUp_10 : decode cX9_lineUp 10 = .ok (.ifnull 29, 3) := by decide +kernel
theorem dX9_lineUp_13 : decode cX9_lineUp 13 = .ok (.iload_n 2, 1) := by decide +kernel
theorem dX9_lineUp_14 : decode cX9_lineUp 14 = .ok (.bipush 6, 2) := by decide +kernel
theorem dX9_lineUp_16 : decode cX9_lineUp 16 = .ok (.if_icmp .ge 23, 3) := by decide +kernel
theorem dX9_lineUp_19 : decode cX9_lineUp 19 = .ok (.aload_n 0, 1) := by decide +kernel
theorem dX9_lineUp_20 : decode cX9_lineUp 20 = .ok (.getfield 24, 3) := by decide +kernel
theorem dX9_lineUp_23 : decode cX9_lineUp 23 = .ok (.iload_n 2, 1) := by decide +kernel
theorem dX9_lineUp_24 : decode cX9_lineUp 24 = .ok (.aload_n 3, 1) := by decide +kernel
theorem dX9_lineUp_25 : decode cX9_lineUp 25 = .ok (.aastore, 1) := by decide +kernel
theorem dX9_lineUp_26 : decode cX9_lineUp 26 = .ok (.iinc 2 1, 3) := by decide +kernel
theorem dX9_lineUp_29 : decode cX9_lineUp 29 = .ok (.aload_n 1, 1) := by decide +kernel
theorem dX9_lineUp_30 : decode cX9_lineUp 30 = .ok (.iconst 4, 1) := by decide +kernel
theorem dX9_lineUp_31 : decode cX9_lineUp 31 = .ok (.aload_n 3, 1) := by decide +kernel
theorem dX9_lineUp_32 : decode cX9_lineUp 32 = .ok (.invokevirtual 84, 3) := by decide +kernel
theorem dX9_lineUp_35 : decode cX9_lineUp 35 = .ok (.astore_n 3, 1) := by decide +kernel
theorem dX9_lineUp_36 : decode cX9_lineUp 36 = .ok (.goto (-27), 3) := by decide +kernel
theorem dX9_lineUp_39 : decode cX9_lineUp 39 = .ok (.iload_n 2, 1) := by decide +kernel
theorem dX9_lineUp_40 : decode cX9_lineUp 40 = .ok (.ireturn, 1) := by decide +kernel
theorem dX10_init_0 : decode cX10_init 0 = .ok (.aload_n 0, 1) := by decide +kernel
theorem dX10_init_1 : decode cX10_init 1 = .ok (.invokespecial 3, 3) := by decide +kernel
theorem dX10_init_4 : decode cX10_init 4 = .ok (.aload_n 0, 1) := by decide +kernel
theorem dX10_init_5 : decode cX10_init 5 = .ok (.bipush 16, 2) := by decide +kernel
theorem dX10_init_7 : decode cX10_init 7 = .ok (.newarray .boolean, 2) := by decide +kernel
theorem dX10_init_9 : decode cX10_init 9 = .ok (.putfield 9, 3) := by decide +kernel
theorem dX10_init_12 : decode cX10_init 12 = .ok (.aload_n 0, 1) := by decide +kernel
theorem dX10_init_13 : decode cX10_init 13 = .ok (.bipush 16, 2) := by decide +kernel
theorem dX10_init_15 : decode cX10_init 15 = .ok (.newarray .int, 2) := by decide +kernel
theorem dX10_init_17 : decode cX10_init 17 = .ok (.putfield 15, 3) := by decide +kernel
theorem dX10_init_20 : decode cX10_init 20 = .ok (.aload_n 0, 1) := by decide +kernel
theorem dX10_init_21 : decode cX10_init 21 = .ok (.bipush 16, 2) := by decide +kernel
theorem dX10_init_23 : decode cX10_init 23 = .ok (.newarray .int, 2) := by decide +kernel
theorem dX10_init_25 : decode cX10_init 25 = .ok (.putfield 19, 3) := by decide +kernel
theorem dX10_init_28 : decode cX10_init 28 = .ok (.aload_n 0, 1) := by decide +kernel
theorem dX10_init_29 : decode cX10_init 29 = .ok (.bipush 6, 2) := by decide +kernel
theorem dX10_init_31 : decode cX10_init 31 = .ok (.newarray .int, 2) := by decide +kernel
theorem dX10_init_33 : decode cX10_init 33 = .ok (.putfield 22, 3) := by decide +kernel
theorem dX10_init_36 : decode cX10_init 36 = .ok (.aload_n 0, 1) := by decide +kernel
theorem dX10_init_37 : decode cX10_init 37 = .ok (.bipush 6, 2) := by decide +kernel
theorem dX10_init_39 : decode cX10_init 39 = .ok (.newarray .int, 2) := by decide +kernel
theorem dX10_init_41 : decode cX10_init 41 = .ok (.putfield 25, 3) := by decide +kernel
theorem dX10_init_44 : decode cX10_init 44 = .ok (.aload_n 0, 1) := by decide +kernel
theorem dX10_init_45 : decode cX10_init 45 = .ok (.new 28, 3) := by decide +kernel
theorem dX10_init_48 : decode cX10_init 48 = .ok (.dup, 1) := by decide +kernel
theorem dX10_init_49 : decode cX10_init 49 = .ok (.invokespecial 30, 3) := by decide +kernel
theorem dX10_init_52 : decode cX10_init 52 = .ok (.putfield 31, 3) := by decide +kernel
theorem dX10_init_55 : decode cX10_init 55 = .ok (.return_, 1) := by decide +kernel
theorem dX10_tell_0 : decode cX10_tell 0 = .ok (.aload_n 0, 1) := by decide +kernel
theorem dX10_tell_1 : decode cX10_tell 1 = .ok (.getfield 9, 3) := by decide +kernel
theorem dX10_tell_4 : decode cX10_tell 4 = .ok (.iload_n 1, 1) := by decide +kernel
theorem dX10_tell_5 : decode cX10_tell 5 = .ok (.iconst 1, 1) := by decide +kernel
theorem dX10_tell_6 : decode cX10_tell 6 = .ok (.bastore, 1) := by decide +kernel
theorem dX10_tell_7 : decode cX10_tell 7 = .ok (.aload_n 0, 1) := by decide +kernel
theorem dX10_tell_8 : decode cX10_tell 8 = .ok (.getfield 15, 3) := by decide +kernel
theorem dX10_tell_11 : decode cX10_tell 11 = .ok (.iload_n 1, 1) := by decide +kernel
theorem dX10_tell_12 : decode cX10_tell 12 = .ok (.iload_n 2, 1) := by decide +kernel
theorem dX10_tell_13 : decode cX10_tell 13 = .ok (.iastore, 1) := by decide +kernel
theorem dX10_tell_14 : decode cX10_tell 14 = .ok (.aload_n 0, 1) := by decide +kernel
theorem dX10_tell_15 : decode cX10_tell 15 = .ok (.getfield 19, 3) := by decide +kernel
theorem dX10_tell_18 : decode cX10_tell 18 = .ok (.iload_n 1, 1) := by decide +kernel
theorem dX10_tell_19 : decode cX10_tell 19 = .ok (.iload_n 3, 1) := by decide +kernel
theorem dX10_tell_20 : decode cX10_tell 20 = .ok (.iastore, 1) := by decide +kernel
theorem dX10_tell_21 : decode cX10_tell 21 = .ok (.return_, 1) := by decide +kernel
theorem dX10_wishing_0 : decode cX10_wishing 0 = .ok (.iconst 0, 1) := by decide +kernel
theorem dX10_wishing_1 : decode cX10_wishing 1 = .ok (.istore_n 1, 1) := by decide +kernel
theorem dX10_wishing_2 : decode cX10_wishing 2 = .ok (.iconst 0, 1) := by decide +kernel
theorem dX10_wishing_3 : decode cX10_wishing 3 = .ok (.istore_n 2, 1) := by decide +kernel
theorem dX10_wishing_4 : decode cX10_wishing 4 = .ok (.iload_n 2, 1) := by decide +kernel
theorem dX10_wishing_5 : decode cX10_wishing 5 = .ok (.bipush 16, 2) := by decide +kernel
theorem dX10_wishing_7 : decode cX10_wishing 7 = .ok (.if_icmp .ge 26, 3) := by decide +kernel
theorem dX10_wishing_10 : decode cX10_wishing 10 = .ok (.iload_n 1, 1) := by decide +kernel
theorem dX10_wishing_11 : decode cX10_wishing 11 = .ok (.aload_n 0, 1) := by decide +kernel
theorem dX10_wishing_12 : decode cX10_wishing 12 = .ok (.getfield 9, 3) := by decide +kernel
theorem dX10_wishing_15 : decode cX10_wishing 15 = .ok (.iload_n 2, 1) := by decide +kernel
theorem dX10_wishing_16 : decode cX10_wishing 16 = .ok (.baload, 1) := by decide +kernel
theorem dX10_wishing_17 : decode cX10_wishing 17 = .ok (.ifCond .eq 7, 3) := by decide +kernel
theorem dX10_wishing_20 : decode cX10_wishing 20 = .ok (.iconst 1, 1) := by decide +kernel
theorem dX10_wishing_21 : decode cX10_wishing 21 = .ok (.goto 4, 3) := by decide +kernel
theorem dX10_wishing_24 : decode cX10_wishing 24 = .ok (.iconst 0, 1) := by decide +kernel
theorem dX10_wishing_25 : decode cX10_wishing 25 = .ok (.iadd, 1) := by decide +kernel
theorem dX10_wishing_26 : decode cX10_wishing 26 = .ok (.istore_n 1, 1) := by decide +kernel
theorem dX10_wishing_27 : decode cX10_wishing 27 = .ok (.iinc 2 1, 3) := by decide +kernel
theorem dX10_wishing_30 : decode cX10_wishing 30 = .ok (.goto (-26), 3) := by decide +kernel
theorem dX10_wishing_33 : decode cX10_wishing 33 = .ok (.iload_n 1, 1) := by decide +kernel
theorem dX10_wishing_34 : decode cX10_wishing 34 = .ok (.ireturn, 1) := by decide +kernel
theorem dX10_makePairs_0 : decode cX10_makePairs 0 = .ok (.aload_n 0, 1) := by decide +kernel
theorem dX10_makePairs_1 : decode cX10_makePairs 1 = .ok (.aload_n 1, 1) := by decide +kernel
theorem dX10_makePairs_2 : decode cX10_makePairs 2 = .ok (.invokevirtual 35, 3) := by decide +kernel
theorem dX10_makePairs_5 : decode cX10_makePairs 5 = .ok (.istore_n 3, 1) := by decide +kernel
theorem dX10_makePairs_6 : decode cX10_makePairs 6 = .ok (.aload_n 0, 1) := by decide +kernel
theorem dX10_makePairs_7 : decode cX10_makePairs 7 = .ok (.aload_n 1, 1) := by decide +kernel
theorem dX10_makePairs_8 : decode cX10_makePairs 8 = .ok (.iload_n 2, 1) := by decide +kernel
theorem dX10_makePairs_9 : decode cX10_makePairs 9 = .ok (.invokevirtual 39, 3) := by decide +kernel
theorem dX10_makePairs_12 : decode cX10_makePairs 12 = .ok (.istore 4, 2) := by decide +kernel
theorem dX10_makePairs_14 : decode cX10_makePairs 14 = .ok (.aload_n 0, 1) := by decide +kernel
theorem dX10_makePairs_15 : decode cX10_makePairs 15 = .ok (.getfield 31, 3) := by decide +kernel
theorem dX10_makePairs_18 : decode cX10_makePairs 18 = .ok (.iload_n 3, 1) := by decide +kernel
theorem dX10_makePairs_19 : decode cX10_makePairs 19 = .ok (.invokevirtual 43, 3) := by decide +kernel
theorem dX10_makePairs_22 : decode cX10_makePairs 22 = .ok (.iconst 0, 1) := by decide +kernel
theorem dX10_makePairs_23 : decode cX10_makePairs 23 = .ok (.istore 5, 2) := by decide +kernel
theorem dX10_makePairs_25 : decode cX10_makePairs 25 = .ok (.iload 5, 2) := by decide +kernel
theorem dX10_makePairs_27 : decode cX10_makePairs 27 = .ok (.iload 4, 2) := by decide +kernel
theorem dX10_makePairs_29 : decode cX10_makePairs 29 = .ok (.if_icmp .ge 65, 3) := by decide +kernel
theorem dX10_makePairs_32 : decode cX10_makePairs 32 = .ok (.aload_n 0, 1) := by decide +kernel
theorem dX10_makePairs_33 : decode cX10_makePairs 33 = .ok (.getfield 31, 3) := by decide +kernel
theorem dX10_makePairs_36 : decode cX10_makePairs 36 = .ok (.getfield 47, 3) := by decide +kernel
theorem dX10_makePairs_39 : decode cX10_makePairs 39 = .ok (.iload 5, 2) := by decide +kernel
theorem dX10_makePairs_41 : decode cX10_makePairs 41 = .ok (.iconst 1, 1) := by decide +kernel
theorem dX10_makePairs_42 : decode cX10_makePairs 42 = .ok (.iastore, 1) := by decide +kernel
theorem dX10_makePairs_43 : decode cX10_makePairs 43 = .ok (.iconst 0, 1) := by decide +kernel
theorem dX10_makePairs_44 : decode cX10_makePairs 44 = .ok (.istore 6, 2) := by decide +kernel
theorem dX10_makePairs_46 : decode cX10_makePairs 46 = .ok (.iload 6, 2) := by decide +kernel
theorem dX10_makePairs_48 : decode cX10_makePairs 48 = .ok (.iload_n 3, 1) := by decide +kernel
theorem dX10_makePairs_49 : decode cX10_makePairs 49 = .ok (.if_icmp .ge 39, 3) := by decide +kernel
theorem dX10_makePairs_52 : decode cX10_makePairs 52 = .ok (.aload_n 0, 1) := by decide +kernel
theorem dX10_makePairs_53 : decode cX10_makePairs 53 = .ok (.getfield 31, 3) := by decide +kernel
theorem dX10_makePairs_56 : decode cX10_makePairs 56 = .ok (.iload 6, 2) := by decide +kernel
theorem dX10_makePairs_58 : decode cX10_makePairs 58 = .ok (.iload 5, 2) := by decide +kernel
theorem dX10_makePairs_60 : decode cX10_makePairs 60 = .ok (.aload_n 0, 1) := by decide +kernel
theorem dX10_makePairs_61 : decode cX10_makePairs 61 = .ok (.aload_n 1, 1) := by decide +kernel
theorem dX10_makePairs_62 : decode cX10_makePairs 62 = .ok (.aload_n 0, 1) := by decide +kernel
theorem dX10_makePairs_63 : decode cX10_makePairs 63 = .ok (.getfield 22, 3) := by decide +kernel
theorem dX10_makePairs_66 : decode cX10_makePairs 66 = .ok (.iload 6, 2) := by decide +kernel
theorem dX10_makePairs_68 : decode cX10_makePairs 68 = .ok (.iaload, 1) := by decide +kernel
theorem dX10_makePairs_69 : decode cX10_makePairs 69 = .ok (.aload_n 0, 1) := by decide +kernel
theorem dX10_makePairs_70 : decode cX10_makePairs 70 = .ok (.getfield 25, 3) := by decide +kernel
theorem dX10_makePairs_73 : decode cX10_makePairs 73 = .ok (.iload 5, 2) := by decide +kernel
theorem dX10_makePairs_75 : decode cX10_makePairs 75 = .ok (.iaload, 1) := by decide +kernel
theorem dX10_makePairs_76 : decode cX10_makePairs 76 = .ok (.invokevirtual 50, 3) := by decide +kernel
theorem dX10_makePairs_79 : decode cX10_makePairs 79 = .ok (.invokevirtual 54, 3) := by decide +kernel
theorem dX10_makePairs_82 : decode cX10_makePairs 82 = .ok (.iinc 6 1, 3) := by decide +kernel
theorem dX10_makePairs_85 : decode cX10_makePairs 85 = .ok (.goto (-39), 3) := by decide +kernel
theorem dX10_makePairs_88 : decode cX10_makePairs 88 = .ok (.iinc 5 1, 3) := by decide +kernel
theorem dX10_makePairs_91 : decode cX10_makePairs 91 = .ok (.goto (-66), 3) := by decide +kernel
theorem dX10_makePairs_94 : decode cX10_makePairs 94 = .ok (.aload_n 0, 1) := by decide +kernel
theorem dX10_makePairs_95 : decode cX10_makePairs 95 = .ok (.getfield 31, 3) := by decide +kernel
theorem dX10_makePairs_98 : decode cX10_makePairs 98 = .ok (.invokevirtual 58, 3) := by decide +kernel
theorem dX10_makePairs_101 : decode cX10_makePairs 101 = .ok (.iconst 0, 1) := by decide +kernel
theorem dX10_makePairs_102 : decode cX10_makePairs 102 = .ok (.istore 5, 2) := by decide +kernel
theorem dX10_makePairs_104 : decode cX10_makePairs 104 = .ok (.iconst 0, 1) := by decide +kernel
theorem dX10_makePairs_105 : decode cX10_makePairs 105 = .ok (.istore 6, 2) := by decide +kernel
theorem dX10_makePairs_107 : decode cX10_makePairs 107 = .ok (.iload 6, 2) := by decide +kernel
theorem dX10_makePairs_109 : decode cX10_makePairs 109 = .ok (.iload_n 3, 1) := by decide +kernel
theorem dX10_makePairs_110 : decode cX10_makePairs 110 = .ok (.if_icmp .ge 67, 3) := by decide +kernel
theorem dX10_makePairs_113 : decode cX10_makePairs 113 = .ok (.aload_n 0, 1) := by decide +kernel
theorem dX10_makePairs_114 : decode cX10_makePairs 114 = .ok (.getfield 31, 3) := by decide +kernel
theorem dX10_makePairs_117 : decode cX10_makePairs 117 = .ok (.getfield 61, 3) := by decide +kernel
theorem dX10_makePairs_120 : decode cX10_makePairs 120 = .ok (.iload 6, 2) := by decide +kernel
theorem dX10_makePairs_122 : decode cX10_makePairs 122 = .ok (.iaload, 1) := by decide +kernel
theorem dX10_makePairs_123 : decode cX10_makePairs 123 = .ok (.istore 7, 2) := by decide +kernel
theorem dX10_makePairs_125 : decode cX10_makePairs 125 = .ok (.iload 7, 2) := by decide +kernel
theorem dX10_makePairs_127 : decode cX10_makePairs 127 = .ok (.iload 4, 2) := by decide +kernel
theorem dX10_makePairs_129 : decode cX10_makePairs 129 = .ok (.if_icmp .ge 42, 3) := by decide +kernel
theorem dX10_makePairs_132 : decode cX10_makePairs 132 = .ok (.aload_n 1, 1) := by decide +kernel
theorem dX10_makePairs_133 : decode cX10_makePairs 133 = .ok (.aload_n 0, 1) := by decide +kernel
theorem dX10_makePairs_134 : decode cX10_makePairs 134 = .ok (.getfield 22, 3) := by decide +kernel
theorem dX10_makePairs_137 : decode cX10_makePairs 137 = .ok (.iload 6, 2) := by decide +kernel
theorem dX10_makePairs_139 : decode cX10_makePairs 139 = .ok (.iaload, 1) := by decide +kernel
theorem dX10_makePairs_140 : decode cX10_makePairs 140 = .ok (.aload_n 0, 1) := by decide +kernel
theorem dX10_makePairs_141 : decode cX10_makePairs 141 = .ok (.getfield 25, 3) := by decide +kernel
theorem dX10_makePairs_144 : decode cX10_makePairs 144 = .ok (.iload 7, 2) := by decide +kernel
theorem dX10_makePairs_146 : decode cX10_makePairs 146 = .ok (.iaload, 1) := by decide +kernel
theorem dX10_makePairs_147 : decode cX10_makePairs 147 = .ok (.iload_n 2, 1) := by decide +kernel
theorem dX10_makePairs_148 : decode cX10_makePairs 148 = .ok (.invokevirtual 64, 3) := by decide +kernel
theorem dX10_makePairs_151 : decode cX10_makePairs 151 = .ok (.iconst (-1), 1) := by decide +kernel
theorem dX10_makePairs_152 : decode cX10_makePairs 152 = .ok (.if_icmp .eq 19, 3) := by decide +kernel
theorem dX10_makePairs_155 : decode cX10_makePairs 155 = .ok (.aload_n 0, 1) := by decide +kernel
theorem dX10_makePairs_156 : decode cX10_makePairs 156 = .ok (.getfield 9, 3) := by decide +kernel
theorem dX10_makePairs_159 : decode cX10_makePairs 159 = .ok (.aload_n 0, 1) := by decide +kernel
theorem dX10_makePairs_160 : decode cX10_makePairs 160 = .ok (.getfield 22, 3) := by decide +kernel
theorem dX10_makePairs_163 : decode cX10_makePairs 163 = .ok (.iload 6, 2) := by decide +kernel
theorem dX10_makePairs_165 : decode cX10_makePairs 165 = .ok (.iaload, 1) := by decide +kernel
theorem dX10_makePairs_166 : decode cX10_makePairs 166 = .ok (.iconst 0, 1) := by decide +kernel
theorem dX10_makePairs_167 : decode cX10_makePairs 167 = .ok (.bastore, 1) := by decide +kernel
theorem dX10_makePairs_168 : decode cX10_makePairs 168 = .ok (.iinc 5 1, 3) := by decide +kernel
theorem dX10_makePairs_171 : decode cX10_makePairs 171 = .ok (.iinc 6 1, 3) := by decide +kernel
theorem dX10_makePairs_174 : decode cX10_makePairs 174 = .ok (.goto (-67), 3) := by decide +kernel
theorem dX10_makePairs_177 : decode cX10_makePairs 177 = .ok (.iload 5, 2) := by decide +kernel
theorem dX10_makePairs_179 : decode cX10_makePairs 179 = .ok (.ireturn, 1) := by decide +kernel
theorem dX10_pickGivers_0 : decode cX10_pickGivers 0 = .ok (.iconst 0, 1) := by decide +kernel
theorem dX10_pickGivers_1 : decode cX10_pickGivers 1 = .ok (.istore_n 2, 1) := by decide +kernel
theorem dX10_pickGivers_2 : decode cX10_pickGivers 2 = .ok (.iconst 0, 1) := by decide +kernel
theorem dX10_pickGivers_3 : decode cX10_pickGivers 3 = .ok (.istore_n 3, 1) := by decide +kernel
theorem dX10_pickGivers_4 : decode cX10_pickGivers 4 = .ok (.iload_n 3, 1) := by decide +kernel
theorem dX10_pickGivers_5 : decode cX10_pickGivers 5 = .ok (.aload_n 1, 1) := by decide +kernel
theorem dX10_pickGivers_6 : decode cX10_pickGivers 6 = .ok (.getfield 70, 3) := by decide +kernel
theorem dX10_pickGivers_9 : decode cX10_pickGivers 9 = .ok (.if_icmp .ge 42, 3) := by decide +kernel
theorem dX10_pickGivers_12 : decode cX10_pickGivers 12 = .ok (.iload_n 2, 1) := by decide +kernel
theorem dX10_pickGivers_13 : decode cX10_pickGivers 13 = .ok (.bipush 6, 2) := by decide +kernel
theorem dX10_pickGivers_15 : decode cX10_pickGivers 15 = .ok (.if_icmp .ge 36, 3) := by decide +kernel
theorem dX10_pickGivers_18 : decode cX10_pickGivers 18 = .ok (.aload_n 0, 1) := by decide +kernel
theorem dX10_pickGivers_19 : decode cX10_pickGivers 19 = .ok (.getfield 9, 3) := by decide +kernel
theorem dX10_pickGivers_22 : decode cX10_pickGivers 22 = .ok (.iload_n 3, 1) := by decide +kernel
theorem dX10_pickGivers_23 : decode cX10_pickGivers 23 = .ok (.baload, 1) := by decide +kernel
theorem dX10_pickGivers_24 : decode cX10_pickGivers 24 = .ok (.ifCond .eq 21, 3) := by decide +kernel
theorem dX10_pickGivers_27 : decode cX10_pickGivers 27 = .ok (.aload_n 1, 1) := by decide +kernel
theorem dX10_pickGivers_28 : decode cX10_pickGivers 28 = .ok (.iload_n 3, 1) := by decide +kernel
theorem dX10_pickGivers_29 : decode cX10_pickGivers 29 = .ok (.invokevirtual 73, 3) := by decide +kernel
theorem dX10_pickGivers_32 : decode cX10_pickGivers 32 = .ok (.ifCond .eq 13, 3) := by decide +kernel
theorem dX10_pickGivers_35 : decode cX10_pickGivers 35 = .ok (.aload_n 0, 1) := by decide +kernel
theorem dX10_pickGivers_36 : decode cX10_pickGivers 36 = .ok (.getfield 22, 3) := by decide +kernel
theorem dX10_pickGivers_39 : decode cX10_pickGivers 39 = .ok (.iload_n 2, 1) := by decide +kernel
theorem dX10_pickGivers_40 : decode cX10_pickGivers 40 = .ok (.iload_n 3, 1) := by decide +kernel
theorem dX10_pickGivers_41 : decode cX10_pickGivers 41 = .ok (.iastore, 1) := by decide +kernel
theorem dX10_pickGivers_42 : decode cX10_pickGivers 42 = .ok (.iinc 2 1, 3) := by decide +kernel
theorem dX10_pickGivers_45 : decode cX10_pickGivers 45 = .ok (.iinc 3 1, 3) := by decide +kernel
theorem dX10_pickGivers_48 : decode cX10_pickGivers 48 = .ok (.goto (-44), 3) := by decide +kernel
theorem dX10_pickGivers_51 : decode cX10_pickGivers 51 = .ok (.iload_n 2, 1) := by decide +kernel
