theorem dX12_cutsOut_66 : decode cX12_cutsOut 66 = .ok (.getfield 109, 3) := by decide +kernel
theorem dX12_cutsOut_69 : decode cX12_cutsOut 69 = .ok (.iload_n 3, 1) := by decide +kernel
theorem dX12_cutsOut_70 : decode cX12_cutsOut 70 = .ok (.iaload, 1) := by decide +kernel
theorem dX12_cutsOut_71 : decode cX12_cutsOut 71 = .ok (.iaload, 1) := by decide +kernel
theorem dX12_cutsOut_72 : decode cX12_cutsOut 72 = .ok (.bipush 99, 2) := by decide +kernel
theorem dX12_cutsOut_74 : decode cX12_cutsOut 74 = .ok (.if_icmp .ne 7, 3) := by decide +kernel
theorem dX12_cutsOut_77 : decode cX12_cutsOut 77 = .ok (.iconst 1, 1) := by decide +kernel
theorem dX12_cutsOut_78 : decode cX12_cutsOut 78 = .ok (.goto 4, 3) := by decide +kernel
theorem dX12_cutsOut_81 : decode cX12_cutsOut 81 = .ok (.iconst 0, 1) := by decide +kernel
theorem dX12_cutsOut_82 : decode cX12_cutsOut 82 = .ok (.istore 5, 2) := by decide +kernel
theorem dX12_cutsOut_84 : decode cX12_cutsOut 84 = .ok (.aload_n 0, 1) := by decide +kernel
theorem dX12_cutsOut_85 : decode cX12_cutsOut 85 = .ok (.getfield 166, 3) := by decide +kernel
theorem dX12_cutsOut_88 : decode cX12_cutsOut 88 = .ok (.sipush 160, 3) := by decide +kernel
theorem dX12_cutsOut_91 : decode cX12_cutsOut 91 = .ok (.iload_n 1, 1) := by decide +kernel
theorem dX12_cutsOut_92 : decode cX12_cutsOut 92 = .ok (.imul, 1) := by decide +kernel
theorem dX12_cutsOut_93 : decode cX12_cutsOut 93 = .ok (.iload_n 2, 1) := by decide +kernel
theorem dX12_cutsOut_94 : decode cX12_cutsOut 94 = .ok (.iadd, 1) := by decide +kernel
theorem dX12_cutsOut_95 : decode cX12_cutsOut 95 = .ok (.iload 5, 2) := by decide +kernel
theorem dX12_cutsOut_97 : decode cX12_cutsOut 97 = .ok (.ifCond .eq 8, 3) := by decide +kernel
theorem dX12_cutsOut_100 : decode cX12_cutsOut 100 = .ok (.bipush 120, 2) := by decide +kernel
theorem dX12_cutsOut_102 : decode cX12_cutsOut 102 = .ok (.goto 10, 3) := by decide +kernel
theorem dX12_cutsOut_105 : decode cX12_cutsOut 105 = .ok (.aload_n 0, 1) := by decide +kernel
theorem dX12_cutsOut_106 : decode cX12_cutsOut 106 = .ok (.getfield 106, 3) := by decide +kernel
theorem dX12_cutsOut_109 : decode cX12_cutsOut 109 = .ok (.iload 4, 2) := by decide +kernel
theorem dX12_cutsOut_111 : decode cX12_cutsOut 111 = .ok (.baload, 1) := by decide +kernel
theorem dX12_cutsOut_112 : decode cX12_cutsOut 112 = .ok (.bastore, 1) := by decide +kernel
theorem dX12_cutsOut_113 : decode cX12_cutsOut 113 = .ok (.iload_n 2, 1) := by decide +kernel
theorem dX12_cutsOut_114 : decode cX12_cutsOut 114 = .ok (.iconst 1, 1) := by decide +kernel
theorem dX12_cutsOut_115 : decode cX12_cutsOut 115 = .ok (.iadd, 1) := by decide +kernel
theorem dX12_cutsOut_116 : decode cX12_cutsOut 116 = .ok (.istore_n 2, 1) := by decide +kernel
theorem dX12_cutsOut_117 : decode cX12_cutsOut 117 = .ok (.aload_n 0, 1) := by decide +kernel
theorem dX12_cutsOut_118 : decode cX12_cutsOut 118 = .ok (.getfield 157, 3) := by decide +kernel
theorem dX12_cutsOut_121 : decode cX12_cutsOut 121 = .ok (.iload_n 1, 1) := by decide +kernel
theorem dX12_cutsOut_122 : decode cX12_cutsOut 122 = .ok (.aload_n 0, 1) := by decide +kernel
theorem dX12_cutsOut_123 : decode cX12_cutsOut 123 = .ok (.getfield 157, 3) := by decide +kernel
theorem dX12_cutsOut_126 : decode cX12_cutsOut 126 = .ok (.iload_n 1, 1) := by decide +kernel
theorem dX12_cutsOut_127 : decode cX12_cutsOut 127 = .ok (.iaload, 1) := by decide +kernel
theorem dX12_cutsOut_128 : decode cX12_cutsOut 128 = .ok (.iload 5, 2) := by decide +kernel
theorem dX12_cutsOut_130 : decode cX12_cutsOut 130 = .ok (.ifCond .eq 7, 3) := by decide +kernel
theorem dX12_cutsOut_133 : decode cX12_cutsOut 133 = .ok (.iconst 1, 1) := by decide +kernel
theorem dX12_cutsOut_134 : decode cX12_cutsOut 134 = .ok (.goto 4, 3) := by decide +kernel
theorem dX12_cutsOut_137 : decode cX12_cutsOut 137 = .ok (.iconst 0, 1) := by decide +kernel
theorem dX12_cutsOut_138 : decode cX12_cutsOut 138 = .ok (.iadd, 1) := by decide +kernel
theorem dX12_cutsOut_139 : decode cX12_cutsOut 139 = .ok (.iastore, 1) := by decide +kernel
theorem dX12_cutsOut_140 : decode cX12_cutsOut 140 = .ok (.iload 5, 2) := by decide +kernel
theorem dX12_cutsOut_142 : decode cX12_cutsOut 142 = .ok (.ifCond .eq 15, 3) := by decide +kernel
theorem dX12_cutsOut_145 : decode cX12_cutsOut 145 = .ok (.iload 4, 2) := by decide +kernel
theorem dX12_cutsOut_147 : decode cX12_cutsOut 147 = .ok (.aload_n 0, 1) := by decide +kernel
theorem dX12_cutsOut_148 : decode cX12_cutsOut 148 = .ok (.getfield 115, 3) := by decide +kernel
theorem dX12_cutsOut_151 : decode cX12_cutsOut 151 = .ok (.iload_n 3, 1) := by decide +kernel
theorem dX12_cutsOut_152 : decode cX12_cutsOut 152 = .ok (.iaload, 1) := by decide +kernel
theorem dX12_cutsOut_153 : decode cX12_cutsOut 153 = .ok (.iadd, 1) := by decide +kernel
theorem dX12_cutsOut_154 : decode cX12_cutsOut 154 = .ok (.goto 7, 3) := by decide +kernel
theorem dX12_cutsOut_157 : decode cX12_cutsOut 157 = .ok (.iload 4, 2) := by decide +kernel
theorem dX12_cutsOut_159 : decode cX12_cutsOut 159 = .ok (.iconst 1, 1) := by decide +kernel
theorem dX12_cutsOut_160 : decode cX12_cutsOut 160 = .ok (.iadd, 1) := by decide +kernel
theorem dX12_cutsOut_161 : decode cX12_cutsOut 161 = .ok (.istore 4, 2) := by decide +kernel
theorem dX12_cutsOut_163 : decode cX12_cutsOut 163 = .ok (.goto (-156), 3) := by decide +kernel
theorem dX12_cutsOut_166 : decode cX12_cutsOut 166 = .ok (.aload_n 0, 1) := by decide +kernel
theorem dX12_cutsOut_167 : decode cX12_cutsOut 167 = .ok (.getfield 154, 3) := by decide +kernel
theorem dX12_cutsOut_170 : decode cX12_cutsOut 170 = .ok (.iload_n 1, 1) := by decide +kernel
theorem dX12_cutsOut_171 : decode cX12_cutsOut 171 = .ok (.iload_n 2, 1) := by decide +kernel
theorem dX12_cutsOut_172 : decode cX12_cutsOut 172 = .ok (.iastore, 1) := by decide +kernel
theorem dX12_cutsOut_173 : decode cX12_cutsOut 173 = .ok (.return_, 1) := by decide +kernel
theorem dX12_tongueOf_0 : decode cX12_tongueOf 0 = .ok (.iload_n 2, 1) := by decide +kernel
theorem dX12_tongueOf_1 : decode cX12_tongueOf 1 = .ok (.ifCond .ne 17, 3) := by decide +kernel
theorem dX12_tongueOf_4 : decode cX12_tongueOf 4 = .ok (.aload_n 0, 1) := by decide +kernel
theorem dX12_tongueOf_5 : decode cX12_tongueOf 5 = .ok (.getfield 16, 3) := by decide +kernel
theorem dX12_tongueOf_8 : decode cX12_tongueOf 8 = .ok (.aload_n 0, 1) := by decide +kernel
theorem dX12_tongueOf_9 : decode cX12_tongueOf 9 = .ok (.getfield 31, 3) := by decide +kernel
theorem dX12_tongueOf_12 : decode cX12_tongueOf 12 = .ok (.iload_n 1, 1) := by decide +kernel
theorem dX12_tongueOf_13 : decode cX12_tongueOf 13 = .ok (.iaload, 1) := by decide +kernel
theorem dX12_tongueOf_14 : decode cX12_tongueOf 14 = .ok (.iaload, 1) := by decide +kernel
theorem dX12_tongueOf_15 : decode cX12_tongueOf 15 = .ok (.goto 14, 3) := by decide +kernel
theorem dX12_tongueOf_18 : decode cX12_tongueOf 18 = .ok (.aload_n 0, 1) := by decide +kernel
theorem dX12_tongueOf_19 : decode cX12_tongueOf 19 = .ok (.getfield 22, 3) := by decide +kernel
theorem dX12_tongueOf_22 : decode cX12_tongueOf 22 = .ok (.aload_n 0, 1) := by decide +kernel
theorem dX12_tongueOf_23 : decode cX12_tongueOf 23 = .ok (.getfield 34, 3) := by decide +kernel
theorem dX12_tongueOf_26 : decode cX12_tongueOf 26 = .ok (.iload_n 1, 1) := by decide +kernel
theorem dX12_tongueOf_27 : decode cX12_tongueOf 27 = .ok (.iaload, 1) := by decide +kernel
theorem dX12_tongueOf_28 : decode cX12_tongueOf 28 = .ok (.iaload, 1) := by decide +kernel
theorem dX12_tongueOf_29 : decode cX12_tongueOf 29 = .ok (.ireturn, 1) := by decide +kernel
theorem dX12_passes_0 : decode cX12_passes 0 = .ok (.aload_n 0, 1) := by decide +kernel
theorem dX12_passes_1 : decode cX12_passes 1 = .ok (.getfield 133, 3) := by decide +kernel
theorem dX12_passes_4 : decode cX12_passes 4 = .ok (.iload_n 1, 1) := by decide +kernel
theorem dX12_passes_5 : decode cX12_passes 5 = .ok (.iaload, 1) := by decide +kernel
theorem dX12_passes_6 : decode cX12_passes 6 = .ok (.istore_n 2, 1) := by decide +kernel
theorem dX12_passes_7 : decode cX12_passes 7 = .ok (.aload_n 0, 1) := by decide +kernel
theorem dX12_passes_8 : decode cX12_passes 8 = .ok (.iload_n 1, 1) := by decide +kernel
theorem dX12_passes_9 : decode cX12_passes 9 = .ok (.invokevirtual 437, 3) := by decide +kernel
theorem dX12_passes_12 : decode cX12_passes 12 = .ok (.istore_n 3, 1) := by decide +kernel
theorem dX12_passes_13 : decode cX12_passes 13 = .ok (.aload_n 0, 1) := by decide +kernel
theorem dX12_passes_14 : decode cX12_passes 14 = .ok (.getfield 43, 3) := by decide +kernel
theorem dX12_passes_17 : decode cX12_passes 17 = .ok (.iload_n 2, 1) := by decide +kernel
theorem dX12_passes_18 : decode cX12_passes 18 = .ok (.aload_n 0, 1) := by decide +kernel
theorem dX12_passes_19 : decode cX12_passes 19 = .ok (.getfield 43, 3) := by decide +kernel
theorem dX12_passes_22 : decode cX12_passes 22 = .ok (.iload_n 2, 1) := by decide +kernel
theorem dX12_passes_23 : decode cX12_passes 23 = .ok (.iaload, 1) := by decide +kernel
theorem dX12_passes_24 : decode cX12_passes 24 = .ok (.aload_n 0, 1) := by decide +kernel
theorem dX12_passes_25 : decode cX12_passes 25 = .ok (.invokevirtual 446, 3) := by decide +kernel
theorem dX12_passes_28 : decode cX12_passes 28 = .ok (.ior, 1) := by decide +kernel
theorem dX12_passes_29 : decode cX12_passes 29 = .ok (.iastore, 1) := by decide +kernel
theorem dX12_passes_30 : decode cX12_passes 30 = .ok (.aload_n 0, 1) := by decide +kernel
theorem dX12_passes_31 : decode cX12_passes 31 = .ok (.getfield 179, 3) := by decide +kernel
theorem dX12_passes_34 : decode cX12_passes 34 = .ok (.iload_n 3, 1) := by decide +kernel
theorem dX12_passes_35 : decode cX12_passes 35 = .ok (.aload_n 0, 1) := by decide +kernel
theorem dX12_passes_36 : decode cX12_passes 36 = .ok (.getfield 179, 3) := by decide +kernel
theorem dX12_passes_39 : decode cX12_passes 39 = .ok (.iload_n 3, 1) := by decide +kernel
theorem dX12_passes_40 : decode cX12_passes 40 = .ok (.iaload, 1) := by decide +kernel
theorem dX12_passes_41 : decode cX12_passes 41 = .ok (.iconst 1, 1) := by decide +kernel
theorem dX12_passes_42 : decode cX12_passes 42 = .ok (.iadd, 1) := by decide +kernel
theorem dX12_passes_43 : decode cX12_passes 43 = .ok (.iastore, 1) := by decide +kernel
theorem dX12_passes_44 : decode cX12_passes 44 = .ok (.iconst 0, 1) := by decide +kernel
theorem dX12_passes_45 : decode cX12_passes 45 = .ok (.istore 4, 2) := by decide +kernel
theorem dX12_passes_47 : decode cX12_passes 47 = .ok (.iload 4, 2) := by decide +kernel
theorem dX12_passes_49 : decode cX12_passes 49 = .ok (.iconst 4, 1) := by decide +kernel
theorem dX12_passes_50 : decode cX12_passes 50 = .ok (.if_icmp .ge 43, 3) := by decide +kernel
theorem dX12_passes_53 : decode cX12_passes 53 = .ok (.aload_n 0, 1) := by decide +kernel
theorem dX12_passes_54 : decode cX12_passes 54 = .ok (.getfield 182, 3) := by decide +kernel
theorem dX12_passes_57 : decode cX12_passes 57 = .ok (.iconst 4, 1) := by decide +kernel
theorem dX12_passes_58 : decode cX12_passes 58 = .ok (.iload_n 3, 1) := by decide +kernel
theorem dX12_passes_59 : decode cX12_passes 59 = .ok (.imul, 1) := by decide +kernel
theorem dX12_passes_60 : decode cX12_passes 60 = .ok (.iload 4, 2) := by decide +kernel
theorem dX12_passes_62 : decode cX12_passes 62 = .ok (.iadd, 1) := by decide +kernel
theorem dX12_passes_63 : decode cX12_passes 63 = .ok (.aload_n 0, 1) := by decide +kernel
theorem dX12_passes_64 : decode cX12_passes 64 = .ok (.getfield 182, 3) := by decide +kernel
theorem dX12_passes_67 : decode cX12_passes 67 = .ok (.iconst 4, 1) := by decide +kernel
theorem dX12_passes_68 : decode cX12_passes 68 = .ok (.iload_n 3, 1) := by decide +kernel
theorem dX12_passes_69 : decode cX12_passes 69 = .ok (.imul, 1) := by decide +kernel
theorem dX12_passes_70 : decode cX12_passes 70 = .ok (.iload 4, 2) := by decide +kernel
theorem dX12_passes_72 : decode cX12_passes 72 = .ok (.iadd, 1) := by decide +kernel
theorem dX12_passes_73 : decode cX12_passes 73 = .ok (.iaload, 1) := by decide +kernel
theorem dX12_passes_74 : decode cX12_passes 74 = .ok (.aload_n 0, 1) := by decide +kernel
theorem dX12_passes_75 : decode cX12_passes 75 = .ok (.getfield 160, 3) := by decide +kernel
theorem dX12_passes_78 : decode cX12_passes 78 = .ok (.iconst 4, 1) := by decide +kernel
theorem dX12_passes_79 : decode cX12_passes 79 = .ok (.iload_n 1, 1) := by decide +kernel
theorem dX12_passes_80 : decode cX12_passes 80 = .ok (.imul, 1) := by decide +kernel
theorem dX12_passes_81 : decode cX12_passes 81 = .ok (.iload 4, 2) := by decide +kernel
theorem dX12_passes_83 : decode cX12_passes 83 = .ok (.iadd, 1) := by decide +kernel
theorem dX12_passes_84 : decode cX12_passes 84 = .ok (.iaload, 1) := by decide +kernel
theorem dX12_passes_85 : decode cX12_passes 85 = .ok (.iadd, 1) := by decide +kernel
theorem dX12_passes_86 : decode cX12_passes 86 = .ok (.iastore, 1) := by decide +kernel
theorem dX12_passes_87 : decode cX12_passes 87 = .ok (.iinc 4 1, 3) := by decide +kernel
theorem dX12_passes_90 : decode cX12_passes 90 = .ok (.goto (-43), 3) := by decide +kernel
theorem dX12_passes_93 : decode cX12_passes 93 = .ok (.aload_n 0, 1) := by decide +kernel
theorem dX12_passes_94 : decode cX12_passes 94 = .ok (.iload_n 1, 1) := by decide +kernel
theorem dX12_passes_95 : decode cX12_passes 95 = .ok (.invokevirtual 449, 3) := by decide +kernel
theorem dX12_passes_98 : decode cX12_passes 98 = .ok (.aload_n 0, 1) := by decide +kernel
theorem dX12_passes_99 : decode cX12_passes 99 = .ok (.iload_n 1, 1) := by decide +kernel
theorem dX12_passes_100 : decode cX12_passes 100 = .ok (.aload_n 0, 1) := by decide +kernel
theorem dX12_passes_101 : decode cX12_passes 101 = .ok (.iload_n 2, 1) := by decide +kernel
theorem dX12_passes_102 : decode cX12_passes 102 = .ok (.iconst 0, 1) := by decide +kernel
theorem dX12_passes_103 : decode cX12_passes 103 = .ok (.invokevirtual 452, 3) := by decide +kernel
theorem dX12_passes_106 : decode cX12_passes 106 = .ok (.aload_n 0, 1) := by decide +kernel
theorem dX12_passes_107 : decode cX12_passes 107 = .ok (.iload_n 2, 1) := by decide +kernel
theorem dX12_passes_108 : decode cX12_passes 108 = .ok (.iconst 1, 1) := by decide +kernel
theorem dX12_passes_109 : decode cX12_passes 109 = .ok (.invokevirtual 452, 3) := by decide +kernel
theorem dX12_passes_112 : decode cX12_passes 112 = .ok (.if_icmp .ne 7, 3) := by decide +kernel
theorem dX12_passes_115 : decode cX12_passes 115 = .ok (.iconst 5, 1) := by decide +kernel
theorem dX12_passes_116 : decode cX12_passes 116 = .ok (.goto 4, 3) := by decide +kernel
theorem dX12_passes_119 : decode cX12_passes 119 = .ok (.iconst 4, 1) := by decide +kernel
theorem dX12_passes_120 : decode cX12_passes 120 = .ok (.invokevirtual 455, 3) := by decide +kernel
theorem dX12_passes_123 : decode cX12_passes 123 = .ok (.return_, 1) := by decide +kernel
theorem dX12_reads_0 : decode cX12_reads 0 = .ok (.aload_n 0, 1) := by decide +kernel
theorem dX12_reads_1 : decode cX12_reads 1 = .ok (.getfield 133, 3) := by decide +kernel
theorem dX12_reads_4 : decode cX12_reads 4 = .ok (.iload_n 1, 1) := by decide +kernel
theorem dX12_reads_5 : decode cX12_reads 5 = .ok (.iaload, 1) := by decide +kernel
theorem dX12_reads_6 : decode cX12_reads 6 = .ok (.istore_n 2, 1) := by decide +kernel
theorem dX12_reads_7 : decode cX12_reads 7 = .ok (.aload_n 0, 1) := by decide +kernel
theorem dX12_reads_8 : decode cX12_reads 8 = .ok (.iload_n 2, 1) := by decide +kernel
theorem dX12_reads_9 : decode cX12_reads 9 = .ok (.invokevirtual 277, 3) := by decide +kernel
theorem dX12_reads_12 : decode cX12_reads 12 = .ok (.ifCond .ne 11, 3) := by decide +kernel
theorem dX12_reads_15 : decode cX12_reads 15 = .ok (.aload_n 0, 1) := by decide +kernel
theorem dX12_reads_16 : decode cX12_reads 16 = .ok (.iload_n 1, 1) := by decide +kernel
theorem dX12_reads_17 : decode cX12_reads 17 = .ok (.bipush 7, 2) := by decide +kernel
theorem dX12_reads_19 : decode cX12_reads 19 = .ok (.invokevirtual 455, 3) := by decide +kernel
theorem dX12_reads_22 : decode cX12_reads 22 = .ok (.return_, 1) := by decide +kernel
theorem dX12_reads_23 : decode cX12_reads 23 = .ok (.aload_n 0, 1) := by decide +kernel
theorem dX12_reads_24 : decode cX12_reads 24 = .ok (.iload_n 1, 1) := by decide +kernel
theorem dX12_reads_25 : decode cX12_reads 25 = .ok (.invokevirtual 458, 3) := by decide +kernel
theorem dX12_reads_28 : decode cX12_reads 28 = .ok (.aload_n 0, 1) := by decide +kernel
theorem dX12_reads_29 : decode cX12_reads 29 = .ok (.bipush 114, 2) := by decide +kernel
theorem dX12_reads_31 : decode cX12_reads 31 = .ok (.invokevirtual 461, 3) := by decide +kernel
theorem dX12_reads_34 : decode cX12_reads 34 = .ok (.ifCond .eq 13, 3) := by decide +kernel
theorem dX12_reads_37 : decode cX12_reads 37 = .ok (.aload_n 0, 1) := by decide +kernel
theorem dX12_reads_38 : decode cX12_reads 38 = .ok (.iload_n 1, 1) := by decide +kernel
theorem dX12_reads_39 : decode cX12_reads 39 = .ok (.bipush 7, 2) := by decide +kernel
theorem dX12_reads_41 : decode cX12_reads 41 = .ok (.invokevirtual 455, 3) := by decide +kernel
theorem dX12_reads_44 : decode cX12_reads 44 = .ok (.goto 57, 3) := by decide +kernel
theorem dX12_reads_47 : decode cX12_reads 47 = .ok (.aload_n 0, 1) := by decide +kernel
theorem dX12_reads_48 : decode cX12_reads 48 = .ok (.bipush 104, 2) := by decide +kernel
theorem dX12_reads_50 : decode cX12_reads 50 = .ok (.invokevirtual 461, 3) := by decide +kernel
theorem dX12_reads_53 : decode cX12_reads 53 = .ok (.ifCond .ne 34, 3) := by decide +kernel
theorem dX12_reads_56 : decode cX12_reads 56 = .ok (.aload_n 0, 1) := by decide +kernel
theorem dX12_reads_57 : decode cX12_reads 57 = .ok (.iload_n 1, 1) := by decide +kernel
theorem dX12_reads_58 : decode cX12_reads 58 = .ok (.invokevirtual 443, 3) := by decide +kernel
theorem dX12_reads_61 : decode cX12_reads 61 = .ok (.ifCond .ne 26, 3) := by decide +kernel
theorem dX12_reads_64 : decode cX12_reads 64 = .ok (.aload_n 0, 1) := by decide +kernel
theorem dX12_reads_65 : decode cX12_reads 65 = .ok (.getfield 43, 3) := by decide +kernel
theorem dX12_reads_68 : decode cX12_reads 68 = .ok (.iload_n 2, 1) := by decide +kernel
theorem dX12_reads_69 : decode cX12_reads 69 = .ok (.iaload, 1) := by decide +kernel
theorem dX12_reads_70 : decode cX12_reads 70 = .ok (.aload_n 0, 1) := by decide +kernel
theorem dX12_reads_71 : decode cX12_reads 71 = .ok (.invokevirtual 446, 3) := by decide +kernel
theorem dX12_reads_74 : decode cX12_reads 74 = .ok (.ior, 1) := by decide +kernel
theorem dX12_reads_75 : decode cX12_reads 75 = .ok (.invokestatic 464, 3) := by decide +kernel
theorem dX12_reads_78 : decode cX12_reads 78 = .ok (.aload_n 0, 1) := by decide +kernel
theorem dX12_reads_79 : decode cX12_reads 79 = .ok (.getfield 49, 3) := by decide +kernel
theorem dX12_reads_82 : decode cX12_reads 82 = .ok (.iconst 3, 1) := by decide +kernel
theorem dX12_reads_83 : decode cX12_reads 83 = .ok (.iaload, 1) := by decide +kernel
theorem dX12_reads_84 : decode cX12_reads 84 = .ok (.if_icmp .lt 12, 3) := by decide +kernel
theorem dX12_reads_87 : decode cX12_reads 87 = .ok (.aload_n 0, 1) := by decide +kernel
theorem dX12_reads_88 : decode cX12_reads 88 = .ok (.iload_n 1, 1) := by decide +kernel
theorem dX12_reads_89 : decode cX12_reads 89 = .ok (.iconst 3, 1) := by decide +kernel
theorem dX12_reads_90 : decode cX12_reads 90 = .ok (.invokevirtual 455, 3) := by decide +kernel
theorem dX12_reads_93 : decode cX12_reads 93 = .ok (.goto 8, 3) := by decide +kernel
theorem dX12_reads_96 : decode cX12_reads 96 = .ok (.aload_n 0, 1) := by decide +kernel
theorem dX12_reads_97 : decode cX12_reads 97 = .ok (.iload_n 1, 1) := by decide +kernel
theorem dX12_reads_98 : decode cX12_reads 98 = .ok (.invokevirtual 467, 3) := by decide +kernel
theorem dX12_reads_101 : decode cX12_reads 101 = .ok (.return_, 1) := by decide +kernel
theorem dX12_decide_0 : decode cX12_decide 0 = .ok (.aload_n 0, 1) := by decide +kernel
theorem dX12_decide_1 : decode cX12_decide 1 = .ok (.iload_n 1, 1) := by decide +kernel
theorem dX12_decide_2 : decode cX12_decide 2 = .ok (.invokevirtual 440, 3) := by decide +kernel
theorem dX12_decide_5 : decode cX12_decide 5 = .ok (.ifCond .eq 13, 3) := by decide +kernel
theorem dX12_decide_8 : decode cX12_decide 8 = .ok (.aload_n 0, 1) := by decide +kernel
theorem dX12_decide_9 : decode cX12_decide 9 = .ok (.getfield 142, 3) := by decide +kernel
theorem dX12_decide_12 : decode cX12_decide 12 = .ok (.iload_n 1, 1) := by decide +kernel
theorem dX12_decide_13 : decode cX12_decide 13 = .ok (.iaload, 1) := by decide +kernel
theorem dX12_decide_14 : decode cX12_decide 14 = .ok (.iconst 3, 1) := by decide +kernel
theorem dX12_decide_15 : decode cX12_decide 15 = .ok (.if_icmp .eq 5, 3) := by decide +kernel
theorem dX12_decide_18 : decode cX12_decide 18 = .ok (.iconst 0, 1) := by decide +kernel
theorem dX12_decide_19 : decode cX12_decide 19 = .ok (.ireturn, 1) := by decide +kernel
theorem dX12_decide_20 : decode cX12_decide 20 = .ok (.iload_n 2, 1) := by decide +kernel
theorem dX12_decide_21 : decode cX12_decide 21 = .ok (.ifCond .eq 16, 3) := by decide +kernel
theorem dX12_decide_24 : decode cX12_decide 24 = .ok (.aload_n 0, 1) := by decide +kernel
theorem dX12_decide_25 : decode cX12_decide 25 = .ok (.iload_n 1, 1) := by decide +kernel
theorem dX12_decide_26 : decode cX12_decide 26 = .ok (.invokevirtual 458, 3) := by decide +kernel
theorem dX12_decide_29 : decode cX12_decide 29 = .ok (.aload_n 0, 1) := by decide +kernel
theorem dX12_decide_30 : decode cX12_decide 30 = .ok (.iload_n 1, 1) := by decide +kernel
theorem dX12_decide_31 : decode cX12_decide 31 = .ok (.invokevirtual 467, 3) := by decide +kernel
theorem dX12_decide_34 : decode cX12_decide 34 = .ok (.goto 10, 3) := by decide +kernel
theorem dX12_decide_37 : decode cX12_decide 37 = .ok (.aload_n 0, 1) := by decide +kernel
theorem dX12_decide_38 : decode cX12_decide 38 = .ok (.iload_n 1, 1) := by decide +kernel
theorem dX12_decide_39 : decode cX12_decide 39 = .ok (.bipush 7, 2) := by decide +kernel
theorem dX12_decide_41 : decode cX12_decide 41 = .ok (.invokevirtual 455, 3) := by decide +kernel
theorem dX12_decide_44 : decode cX12_decide 44 = .ok (.iconst 1, 1) := by decide +kernel
theorem dX12_decide_45 : decode cX12_decide 45 = .ok (.ireturn, 1) := by decide +kernel
theorem dX12_lose_0 : decode cX12_lose 0 = .ok (.iload_n 1, 1) := by decide +kernel
theorem dX12_lose_1 : decode cX12_lose 1 = .ok (.ifCond .lt 20, 3) := by decide +kernel
theorem dX12_lose_4 : decode cX12_lose 4 = .ok (.iload_n 1, 1) := by decide +kernel
theorem dX12_lose_5 : decode cX12_lose 5 = .ok (.aload_n 0, 1) := by decide +kernel
theorem dX12_lose_6 : decode cX12_lose 6 = .ok (.getfield 470, 3) := by decide +kernel
theorem dX12_lose_9 : decode cX12_lose 9 = .ok (.if_icmp .ge 12, 3) := by decide +kernel
theorem dX12_lose_12 : decode cX12_lose 12 = .ok (.aload_n 0, 1) := by decide +kernel
theorem dX12_lose_13 : decode cX12_lose 13 = .ok (.getfield 175, 3) := by decide +kernel
theorem dX12_lose_16 : decode cX12_lose 16 = .ok (.iload_n 1, 1) := by decide +kernel
theorem dX12_lose_17 : decode cX12_lose 17 = .ok (.baload, 1) := by decide +kernel
theorem dX12_lose_18 : decode cX12_lose 18 = .ok (.ifCond .ne 5, 3) := by decide +kernel
theorem dX12_lose_21 : decode cX12_lose 21 = .ok (.iconst (-1), 1) := by decide +kernel
theorem dX12_lose_22 : decode cX12_lose 22 = .ok (.ireturn, 1) := by decide +kernel
theorem dX12_lose_23 : decode cX12_lose 23 = .ok (.aload_n 0, 1) := by decide +kernel
theorem dX12_lose_24 : decode cX12_lose 24 = .ok (.getfield 175, 3) := by decide +kernel
theorem dX12_lose_27 : decode cX12_lose 27 = .ok (.iload_n 1, 1) := by decide +kernel
theorem dX12_lose_28 : decode cX12_lose 28 = .ok (.iconst 0, 1) := by decide +kernel
theorem dX12_lose_29 : decode cX12_lose 29 = .ok (.bastore, 1) := by decide +kernel
theorem dX12_lose_30 : decode cX12_lose 30 = .ok (.iconst 0, 1) := by decide +kernel
theorem dX12_lose_31 : decode cX12_lose 31 = .ok (.istore_n 2, 1) := by decide +kernel
theorem dX12_lose_32 : decode cX12_lose 32 = .ok (.iconst 0, 1) := by decide +kernel
theorem dX12_lose_33 : decode cX12_lose 33 = .ok (.istore_n 3, 1) := by decide +kernel
theorem dX12_lose_34 : decode cX12_lose 34 = .ok (.iload_n 3, 1) := by decide +kernel
theorem dX12_lose_35 : decode cX12_lose 35 = .ok (.aload_n 0, 1) := by decide +kernel
theorem dX12_lose_36 : decode cX12_lose 36 = .ok (.getfield 431, 3) := by decide +kernel
theorem dX12_lose_39 : decode cX12_lose 39 = .ok (.if_icmp .ge 43, 3) := by decide +kernel
theorem dX12_lose_42 : decode cX12_lose 42 = .ok (.aload_n 0, 1) := by decide +kernel
theorem dX12_lose_43 : decode cX12_lose 43 = .ok (.getfield 142, 3) := by decide +kernel
theorem dX12_lose_46 : decode cX12_lose 46 = .ok (.iload_n 3, 1) := by decide +kernel
theorem dX12_lose_47 : decode cX12_lose 47 = .ok (.iaload, 1) := by decide +kernel
theorem dX12_lose_48 : decode cX12_lose 48 = .ok (.iconst 1, 1) := by decide +kernel
theorem dX12_lose_49 : decode cX12_lose 49 = .ok (.if_icmp .ne 27, 3) := by decide +kernel
theorem dX12_lose_52 : decode cX12_lose 52 = .ok (.aload_n 0, 1) := by decide +kernel
theorem dX12_lose_53 : decode cX12_lose 53 = .ok (.getfield 148, 3) := by decide +kernel
theorem dX12_lose_56 : decode cX12_lose 56 = .ok (.iload_n 3, 1) := by decide +kernel
theorem dX12_lose_57 : decode cX12_lose 57 = .ok (.iaload, 1) := by decide +kernel
theorem dX12_lose_58 : decode cX12_lose 58 = .ok (.iload_n 1, 1) := by decide +kernel
theorem dX12_lose_59 : decode cX12_lose 59 = .ok (.if_icmp .eq 6, 3) := by decide +kernel
theorem dX12_lose_62 : decode cX12_lose 62 = .ok (.goto 14, 3) := by decide +kernel
theorem dX12_lose_65 : decode cX12_lose 65 = .ok (.aload_n 0, 1) := by decide +kernel
theorem dX12_lose_66 : decode cX12_lose 66 = .ok (.iload_n 3, 1) := by decide +kernel
theorem dX12_lose_67 : decode cX12_lose 67 = .ok (.bipush 8, 2) := by decide +kernel
theorem dX12_lose_69 : decode cX12_lose 69 = .ok (.invokevirtual 455, 3) := by decide +kernel
theorem dX12_lose_72 : decode cX12_lose 72 = .ok (.iload_n 2, 1) := by decide +kernel
theorem dX12_lose_73 : decode cX12_lose 73 = .ok (.iconst 1, 1) := by decide +kernel
theorem dX12_lose_74 : decode cX12_lose 74 = .ok (.iadd, 1) := by decide +kernel
theorem dX12_lose_75 : decode cX12_lose 75 = .ok (.istore_n 2, 1) := by decide +kernel
theorem dX12_lose_76 : decode cX12_lose 76 = .ok (.iinc 3 1, 3) := by decide +kernel
theorem dX12_lose_79 : decode cX12_lose 79 = .ok (.goto (-45), 3) := by decide +kernel
theorem dX12_lose_82 : decode cX12_lose 82 = .ok (.iload_n 2, 1) := by decide +kernel
theorem dX12_lose_83 : decode cX12_lose 83 = .ok (.ireturn, 1) := by decide +kernel
theorem dX12_nextIn_0 : decode cX12_nextIn 0 = .ok (.iconst (-1), 1) := by decide +kernel
theorem dX12_nextIn_1 : decode cX12_nextIn 1 = .ok (.istore_n 3, 1) := by decide +kernel
theorem dX12_nextIn_2 : decode cX12_nextIn 2 = .ok (.iconst 0, 1) := by decide +kernel
theorem dX12_nextIn_3 : decode cX12_nextIn 3 = .ok (.istore 4, 2) := by decide +kernel
theorem dX12_nextIn_5 : decode cX12_nextIn 5 = .ok (.iload 4, 2) := by decide +kernel
theorem dX12_nextIn_7 : decode cX12_nextIn 7 = .ok (.aload_n 0, 1) := by decide +kernel
theorem dX12_nextIn_8 : decode cX12_nextIn 8 = .ok (.getfield 431, 3) := by decide +kernel
theorem dX12_nextIn_11 : decode cX12_nextIn 11 = .ok (.if_icmp .ge 56, 3) := by decide +kernel
theorem dX12_nextIn_14 : decode cX12_nextIn 14 = .ok (.aload_n 0, 1) := by decide +kernel
theorem dX12_nextIn_15 : decode cX12_nextIn 15 = .ok (.getfield 142, 3) := by decide +kernel
theorem dX12_nextIn_18 : decode cX12_nextIn 18 = .ok (.iload 4, 2) := by decide +kernel
theorem dX12_nextIn_20 : decode cX12_nextIn 20 = .ok (.iaload, 1) := by decide +kernel
theorem dX12_nextIn_21 : decode cX12_nextIn 21 = .ok (.iload_n 1, 1) := by decide +kernel
theorem dX12_nextIn_22 : decode cX12_nextIn 22 = .ok (.if_icmp .ne 39, 3) := by decide +kernel
theorem dX12_nextIn_25 : decode cX12_nextIn 25 = .ok (.iload_n 2, 1) := by decide +kernel
theorem dX12_nextIn_26 : decode cX12_nextIn 26 = .ok (.iconst (-1), 1) := by decide +kernel
theorem dX12_nextIn_27 : decode cX12_nextIn 27 = .ok (.if_icmp .eq 16, 3) := by decide +kernel
theorem dX12_nextIn_30 : decode cX12_nextIn 30 = .ok (.aload_n 0, 1) := by decide +kernel
theorem dX12_nextIn_31 : decode cX12_nextIn 31 = .ok (.iload 4, 2) := by decide +kernel
theorem dX12_nextIn_33 : decode cX12_nextIn 33 = .ok (.iload_n 2, 1) := by decide +kernel
theorem dX12_nextIn_34 : decode cX12_nextIn 34 = .ok (.invokevirtual 473, 3) := by decide +kernel
theorem dX12_nextIn_37 : decode cX12_nextIn 37 = .ok (.ifCond .ne 6, 3) := by decide +kernel
theorem dX12_nextIn_40 : decode cX12_nextIn 40 = .ok (.goto 21, 3) := by decide +kernel
theorem dX12_nextIn_43 : decode cX12_nextIn 43 = .ok (.iload_n 3, 1) := by decide +kernel
theorem dX12_nextIn_44 : decode cX12_nextIn 44 = .ok (.iconst (-1), 1) := by decide +kernel
theorem dX12_nextIn_45 : decode cX12_nextIn 45 = .ok (.if_icmp .eq 13, 3) := by decide +kernel
theorem dX12_nextIn_48 : decode cX12_nextIn 48 = .ok (.aload_n 0, 1) := by decide +kernel
theorem dX12_nextIn_49 : decode cX12_nextIn 49 = .ok (.iload_n 3, 1) := by decide +kernel
theorem dX12_nextIn_50 : decode cX12_nextIn 50 = .ok (.iload 4, 2) := by decide +kernel
theorem dX12_nextIn_52 : decode cX12_nextIn 52 = .ok (.invokevirtual 473, 3) := by decide +kernel
theorem dX12_nextIn_55 : decode cX12_nextIn 55 = .ok (.ifCond .eq 6, 3) := by decide +kernel
theorem dX12_nextIn_58 : decode cX12_nextIn 58 = .ok (.iload 4, 2) := by decide +kernel
theorem dX12_nextIn_60 : decode cX12_nextIn 60 = .ok (.istore_n 3, 1) := by decide +kernel
theorem dX12_nextIn_61 : decode cX12_nextIn 61 = .ok (.iinc 4 1, 3) := by decide +kernel
theorem dX12_nextIn_64 : decode cX12_nextIn 64 = .ok (.goto (-59), 3) := by decide +kernel
theorem dX12_nextIn_67 : decode cX12_nextIn 67 = .ok (.iload_n 3, 1) := by decide +kernel
theorem dX12_nextIn_68 : decode cX12_nextIn 68 = .ok (.ireturn, 1) := by decide +kernel
theorem dX12_isBehind_0 : decode cX12_isBehind 0 = .ok (.aload_n 0, 1) := by decide +kernel
theorem dX12_isBehind_1 : decode cX12_isBehind 1 = .ok (.getfield 145, 3) := by decide +kernel
theorem dX12_isBehind_4 : decode cX12_isBehind 4 = .ok (.iload_n 1, 1) := by decide +kernel
theorem dX12_isBehind_5 : decode cX12_isBehind 5 = .ok (.iaload, 1) := by decide +kernel
theorem dX12_isBehind_6 : decode cX12_isBehind 6 = .ok (.aload_n 0, 1) := by decide +kernel
theorem dX12_isBehind_7 : decode cX12_isBehind 7 = .ok (.getfield 145, 3) := by decide +kernel
theorem dX12_isBehind_10 : decode cX12_isBehind 10 = .ok (.iload_n 2, 1) := by decide +kernel
theorem dX12_isBehind_11 : decode cX12_isBehind 11 = .ok (.iaload, 1) := by decide +kernel
theorem dX12_isBehind_12 : decode cX12_isBehind 12 = .ok (.if_icmp .gt 23, 3) := by decide +kernel
theorem dX12_isBehind_15 : decode cX12_isBehind 15 = .ok (.aload_n 0, 1) := by decide +kernel
theorem dX12_isBehind_16 : decode cX12_isBehind 16 = .ok (.getfield 145, 3) := by decide +kernel
theorem dX12_isBehind_19 : decode cX12_isBehind 19 = .ok (.iload_n 1, 1) := by decide +kernel
theorem dX12_isBehind_20 : decode cX12_isBehind 20 = .ok (.iaload, 1) := by decide +kernel
theorem dX12_isBehind_21 : decode cX12_isBehind 21 = .ok (.aload_n 0, 1) := by decide +kernel
theorem dX12_isBehind_22 : decode cX12_isBehind 22 = .ok (.getfield 145, 3) := by decide +kernel
theorem dX12_isBehind_25 : decode cX12_isBehind 25 = .ok (.iload_n 2, 1) := by decide +kernel
theorem dX12_isBehind_26 : decode cX12_isBehind 26 = .ok (.iaload, 1) := by decide +kernel
theorem dX12_isBehind_27 : decode cX12_isBehind 27 = .ok (.if_icmp .ne 12, 3) := by decide +kernel
theorem dX12_isBehind_30 : decode cX12_isBehind 30 = .ok (.iload_n 1, 1) := by decide +kernel
theorem dX12_isBehind_31 : decode cX12_isBehind 31 = .ok (.iload_n 2, 1) := by decide +kernel
theorem dX12_isBehind_32 : decode cX12_isBehind 32 = .ok (.if_icmp .le 7, 3) := by decide +kernel
theorem dX12_isBehind_35 : decode cX12_isBehind 35 = .ok (.iconst 1, 1) := by decide +kernel
theorem dX12_isBehind_36 : decode cX12_isBehind 36 = .ok (.goto 4, 3) := by decide +kernel
theorem dX12_isBehind_39 : decode cX12_isBehind 39 = .ok (.iconst 0, 1) := by decide +kernel
theorem dX12_isBehind_40 : decode cX12_isBehind 40 = .ok (.ireturn, 1) := by decide +kernel
theorem dX12_translator_0 : decode cX12_translator 0 = .ok (.iload_n 1, 1) := by decide +kernel
theorem dX12_translator_1 : decode cX12_translator 1 = .ok (.iconst 0, 1) := by decide +kernel
theorem dX12_translator_2 : decode cX12_translator 2 = .ok (.ldc_w 476, 3) := by decide +kernel
theorem dX12_translator_5 : decode cX12_translator 5 = .ok (.invokestatic 260, 3) := by decide +kernel
theorem dX12_translator_8 : decode cX12_translator 8 = .ok (.ifCond .eq 43, 3) := by decide +kernel
theorem dX12_translator_11 : decode cX12_translator 11 = .ok (.iload_n 2, 1) := by decide +kernel
theorem dX12_translator_12 : decode cX12_translator 12 = .ok (.iconst 0, 1) := by decide +kernel
theorem dX12_translator_13 : decode cX12_translator 13 = .ok (.ldc_w 476, 3) := by decide +kernel
theorem dX12_translator_16 : decode cX12_translator 16 = .ok (.invokestatic 260, 3) := by decide +kernel
theorem dX12_translator_19 : decode cX12_translator 19 = .ok (.ifCond .eq 32, 3) := by decide +kernel
theorem dX12_translator_22 : decode cX12_translator 22 = .ok (.iload_n 3, 1) := by decide +kernel
theorem dX12_translator_23 : decode cX12_translator 23 = .ok (.iconst 1, 1) := by decide +kernel
theorem dX12_translator_24 : decode cX12_translator 24 = .ok (.iconst 4, 1) := by decide +kernel
theorem dX12_translator_25 : decode cX12_translator 25 = .ok (.invokestatic 260, 3) := by decide +kernel
theorem dX12_translator_28 : decode cX12_translator 28 = .ok (.ifCond .eq 23, 3) := by decide +kernel
theorem dX12_translator_31 : decode cX12_translator 31 = .ok (.iload 4, 2) := by decide +kernel
theorem dX12_translator_33 : decode cX12_translator 33 = .ok (.iconst 0, 1) := by decide +kernel
theorem dX12_translator_34 : decode cX12_translator 34 = .ok (.bipush 127, 2) := by decide +kernel
theorem dX12_translator_36 : decode cX12_translator 36 = .ok (.invokestatic 260, 3) := by decide +kernel
theorem dX12_translator_39 : decode cX12_translator 39 = .ok (.ifCond .eq 12, 3) := by decide +kernel
theorem dX12_translator_42 : decode cX12_translator 42 = .ok (.aload_n 0, 1) := by decide +kernel
theorem dX12_translator_43 : decode cX12_translator 43 = .ok (.getfield 477, 3) := by decide +kernel
theorem dX12_translator_46 : decode cX12_translator 46 = .ok (.bipush 6, 2) := by decide +kernel
theorem dX12_translator_48 : decode cX12_translator 48 = .ok (.if_icmp .ne 5, 3) := by decide +kernel
theorem dX12_translator_51 : decode cX12_translator 51 = .ok (.iconst (-1), 1) := by decide +kernel
theorem dX12_translator_52 : decode cX12_translator 52 = .ok (.ireturn, 1) := by decide +kernel
theorem dX12_translator_53 : decode cX12_translator 53 = .ok (.aload_n 0, 1) := by decide +kernel
theorem dX12_translator_54 : decode cX12_translator 54 = .ok (.getfield 185, 3) := by decide +kernel
theorem dX12_translator_57 : decode cX12_translator 57 = .ok (.aload_n 0, 1) := by decide +kernel
theorem dX12_translator_58 : decode cX12_translator 58 = .ok (.getfield 477, 3) := by decide +kernel
theorem dX12_translator_61 : decode cX12_translator 61 = .ok (.iload_n 1, 1) := by decide +kernel
theorem dX12_translator_62 : decode cX12_translator 62 = .ok (.iastore, 1) := by decide +kernel
theorem dX12_translator_63 : decode cX12_translator 63 = .ok (.aload_n 0, 1) := by decide +kernel
theorem dX12_translator_64 : decode cX12_translator 64 = .ok (.getfield 188, 3) := by decide +kernel
theorem dX12_translator_67 : decode cX12_translator 67 = .ok (.aload_n 0, 1) := by decide +kernel
theorem dX12_translator_68 : decode cX12_translator 68 = .ok (.getfield 477, 3) := by decide +kernel
theorem dX12_translator_71 : decode cX12_translator 71 = .ok (.iload_n 2, 1) := by decide +kernel
theorem dX12_translator_72 : decode cX12_translator 72 = .ok (.iastore, 1) := by decide +kernel
theorem dX12_translator_73 : decode cX12_translator 73 = .ok (.aload_n 0, 1) := by decide +kernel
theorem dX12_translator_74 : decode cX12_translator 74 = .ok (.getfield 191, 3) := by decide +kernel
theorem dX12_translator_77 : decode cX12_translator 77 = .ok (.aload_n 0, 1) := by decide +kernel
theorem dX12_translator_78 : decode cX12_translator 78 = .ok (.getfield 477, 3) := by decide +kernel
theorem dX12_translator_81 : decode cX12_translator 81 = .ok (.iload_n 3, 1) := by decide +kernel
theorem dX12_translator_82 : decode cX12_translator 82 = .ok (.iastore, 1) := by decide +kernel
theorem dX12_translator_83 : decode cX12_translator 83 = .ok (.aload_n 0, 1) := by decide +kernel
theorem dX12_translator_84 : decode cX12_translator 84 = .ok (.getfield 194, 3) := by decide +kernel
theorem dX12_translator_87 : decode cX12_translator 87 = .ok (.aload_n 0, 1) := by decide +kernel
theorem dX12_translator_88 : decode cX12_translator 88 = .ok (.getfield 477, 3) := by decide +kernel
theorem dX12_translator_91 : decode cX12_translator 91 = .ok (.iload 4, 2) := by decide +kernel
theorem dX12_translator_93 : decode cX12_translator 93 = .ok (.iastore, 1) := by decide +kernel
theorem dX12_translator_94 : decode cX12_translator 94 = .ok (.aload_n 0, 1) := by decide +kernel
theorem dX12_translator_95 : decode cX12_translator 95 = .ok (.aload_n 0, 1) := by decide +kernel
theorem dX12_translator_96 : decode cX12_translator 96 = .ok (.getfield 477, 3) := by decide +kernel
theorem dX12_translator_99 : decode cX12_translator 99 = .ok (.iconst 1, 1) := by decide +kernel
theorem dX12_translator_100 : decode cX12_translator 100 = .ok (.iadd, 1) := by decide +kernel
theorem dX12_translator_101 : decode cX12_translator 101 = .ok (.putfield 477, 3) := by decide +kernel
theorem dX12_translator_104 : decode cX12_translator 104 = .ok (.aload_n 0, 1) := by decide +kernel
theorem dX12_translator_105 : decode cX12_translator 105 = .ok (.getfield 477, 3) := by decide +kernel
theorem dX12_translator_108 : decode cX12_translator 108 = .ok (.iconst 1, 1) := by decide +kernel
theorem dX12_translator_109 : decode cX12_translator 109 = .ok (.isub, 1) := by decide +kernel
theorem dX12_translator_110 : decode cX12_translator 110 = .ok (.ireturn, 1) := by decide +kernel
theorem dX12_knows_0 : decode cX12_knows 0 = .ok (.aload_n 0, 1) := by decide +kernel
theorem dX12_knows_1 : decode cX12_knows 1 = .ok (.getfield 133, 3) := by decide +kernel
theorem dX12_knows_4 : decode cX12_knows 4 = .ok (.iload_n 2, 1) := by decide +kernel
theorem dX12_knows_5 : decode cX12_knows 5 = .ok (.iaload, 1) := by decide +kernel
theorem dX12_knows_6 : decode cX12_knows 6 = .ok (.istore_n 3, 1) := by decide +kernel
theorem dX12_knows_7 : decode cX12_knows 7 = .ok (.aload_n 0, 1) := by decide +kernel
theorem dX12_knows_8 : decode cX12_knows 8 = .ok (.getfield 136, 3) := by decide +kernel
theorem dX12_knows_11 : decode cX12_knows 11 = .ok (.iload_n 2, 1) := by decide +kernel
theorem dX12_knows_12 : decode cX12_knows 12 = .ok (.iaload, 1) := by decide +kernel
theorem dX12_knows_13 : decode cX12_knows 13 = .ok (.istore 4, 2) := by decide +kernel
theorem dX12_knows_15 : decode cX12_knows 15 = .ok (.bipush 6, 2) := by decide +kernel
theorem dX12_knows_17 : decode cX12_knows 17 = .ok (.aload_n 0, 1) := by decide +kernel
theorem dX12_knows_18 : decode cX12_knows 18 = .ok (.iload_n 3, 1) := by decide +kernel
theorem dX12_knows_19 : decode cX12_knows 19 = .ok (.iload 4, 2) := by decide +kernel
theorem dX12_knows_21 : decode cX12_knows 21 = .ok (.invokevirtual 452, 3) := by decide +kernel
theorem dX12_knows_24 : decode cX12_knows 24 = .ok (.imul, 1) := by decide +kernel
theorem dX12_knows_25 : decode cX12_knows 25 = .ok (.aload_n 0, 1) := by decide +kernel
theorem dX12_knows_26 : decode cX12_knows 26 = .ok (.iload_n 3, 1) := by decide +kernel
theorem dX12_knows_27 : decode cX12_knows 27 = .ok (.iconst 1, 1) := by decide +kernel
theorem dX12_knows_28 : decode cX12_knows 28 = .ok (.iload 4, 2) := by decide +kernel
theorem dX12_knows_30 : decode cX12_knows 30 = .ok (.isub, 1) := by decide +kernel
theorem dX12_knows_31 : decode cX12_knows 31 = .ok (.invokevirtual 452, 3) := by decide +kernel
theorem dX12_knows_34 : decode cX12_knows 34 = .ok (.iadd, 1) := by decide +kernel
theorem dX12_knows_35 : decode cX12_knows 35 = .ok (.istore 5, 2) := by decide +kernel
theorem dX12_knows_37 : decode cX12_knows 37 = .ok (.iload 5, 2) := by decide +kernel
theorem dX12_knows_39 : decode cX12_knows 39 = .ok (.bipush 18, 2) := by decide +kernel
theorem dX12_knows_41 : decode cX12_knows 41 = .ok (.if_icmp .ge 17, 3) := by decide +kernel
theorem dX12_knows_44 : decode cX12_knows 44 = .ok (.aload_n 0, 1) := by decide +kernel
theorem dX12_knows_45 : decode cX12_knows 45 = .ok (.getfield 185, 3) := by decide +kernel
theorem dX12_knows_48 : decode cX12_knows 48 = .ok (.iload_n 1, 1) := by decide +kernel
theorem dX12_knows_49 : decode cX12_knows 49 = .ok (.iaload, 1) := by decide +kernel
theorem dX12_knows_50 : decode cX12_knows 50 = .ok (.iload 5, 2) := by decide +kernel
theorem dX12_knows_52 : decode cX12_knows 52 = .ok (.ishr, 1) := by decide +kernel
theorem dX12_knows_53 : decode cX12_knows 53 = .ok (.iconst 1, 1) := by decide +kernel
theorem dX12_knows_54 : decode cX12_knows 54 = .ok (.iand, 1) := by decide +kernel
theorem dX12_knows_55 : decode cX12_knows 55 = .ok (.goto 17, 3) := by decide +kernel
theorem dX12_knows_58 : decode cX12_knows 58 = .ok (.aload_n 0, 1) := by decide +kernel
theorem dX12_knows_59 : decode cX12_knows 59 = .ok (.getfield 188, 3) := by decide +kernel
theorem dX12_knows_62 : decode cX12_knows 62 = .ok (.iload_n 1, 1) := by decide +kernel
theorem dX12_knows_63 : decode cX12_knows 63 = .ok (.iaload, 1) := by decide +kernel
theorem dX12_knows_64 : decode cX12_knows 64 = .ok (.iload 5, 2) := by decide +kernel
theorem dX12_knows_66 : decode cX12_knows 66 = .ok (.bipush 18, 2) := by decide +kernel
theorem dX12_knows_68 : decode cX12_knows 68 = .ok (.isub, 1) := by decide +kernel
theorem dX12_knows_69 : decode cX12_knows 69 = .ok (.ishr, 1) := by decide +kernel
theorem dX12_knows_70 : decode cX12_knows 70 = .ok (.iconst 1, 1) := by decide +kernel
theorem dX12_knows_71 : decode cX12_knows 71 = .ok (.iand, 1) := by decide +kernel
theorem dX12_knows_72 : decode cX12_knows 72 = .ok (.iconst 1, 1) := by decide +kernel
theorem dX12_knows_73 : decode cX12_knows 73 = .ok (.if_icmp .ne 7, 3) := by decide +kernel
theorem dX12_knows_76 : decode cX12_knows 76 = .ok (.iconst 1, 1) := by decide +kernel
theorem dX12_knows_77 : decode cX12_knows 77 = .ok (.goto 4, 3) := by decide +kernel
theorem dX12_knows_80 : decode cX12_knows 80 = .ok (.iconst 0, 1) := by decide +kernel
theorem dX12_knows_81 : decode cX12_knows 81 = .ok (.ireturn, 1) := by decide +kernel
theorem dX12_works_0 : decode cX12_works 0 = .ok (.aload_n 0, 1) := by decide +kernel
theorem dX12_works_1 : decode cX12_works 1 = .ok (.getfield 194, 3) := by decide +kernel
theorem dX12_works_4 : decode cX12_works 4 = .ok (.iload_n 1, 1) := by decide +kernel
theorem dX12_works_5 : decode cX12_works 5 = .ok (.iaload, 1) := by decide +kernel
theorem dX12_works_6 : decode cX12_works 6 = .ok (.aload_n 0, 1) := by decide +kernel
theorem dX12_works_7 : decode cX12_works 7 = .ok (.getfield 281, 3) := by decide +kernel
theorem dX12_works_10 : decode cX12_works 10 = .ok (.bipush 7, 2) := by decide +kernel
theorem dX12_works_12 : decode cX12_works 12 = .ok (.irem, 1) := by decide +kernel
theorem dX12_works_13 : decode cX12_works 13 = .ok (.ishr, 1) := by decide +kernel
theorem dX12_works_14 : decode cX12_works 14 = .ok (.iconst 1, 1) := by decide +kernel
theorem dX12_works_15 : decode cX12_works 15 = .ok (.iand, 1) := by decide +kernel
theorem dX12_works_16 : decode cX12_works 16 = .ok (.ifCond .ne 7, 3) := by decide +kernel
theorem dX12_works_19 : decode cX12_works 19 = .ok (.iconst 1, 1) := by decide +kernel
theorem dX12_works_20 : decode cX12_works 20 = .ok (.goto 4, 3) := by decide +kernel
theorem dX12_works_23 : decode cX12_works 23 = .ok (.iconst 0, 1) := by decide +kernel
theorem dX12_works_24 : decode cX12_works 24 = .ok (.ireturn, 1) := by decide +kernel
theorem dX12_isTurn_0 : decode cX12_isTurn 0 = .ok (.iload_n 1, 1) := by decide +kernel
theorem dX12_isTurn_1 : decode cX12_isTurn 1 = .ok (.istore_n 2, 1) := by decide +kernel
theorem dX12_isTurn_2 : decode cX12_isTurn 2 = .ok (.iconst 0, 1) := by decide +kernel
theorem dX12_isTurn_3 : decode cX12_isTurn 3 = .ok (.istore_n 3, 1) := by decide +kernel
theorem dX12_isTurn_4 : decode cX12_isTurn 4 = .ok (.iload_n 3, 1) := by decide +kernel
theorem dX12_isTurn_5 : decode cX12_isTurn 5 = .ok (.aload_n 0, 1) := by decide +kernel
theorem dX12_isTurn_6 : decode cX12_isTurn 6 = .ok (.getfield 477, 3) := by decide +kernel
theorem dX12_isTurn_9 : decode cX12_isTurn 9 = .ok (.if_icmp .ge 16, 3) := by decide +kernel
theorem dX12_isTurn_12 : decode cX12_isTurn 12 = .ok (.aload_n 0, 1) := by decide +kernel
theorem dX12_isTurn_13 : decode cX12_isTurn 13 = .ok (.getfield 206, 3) := by decide +kernel
theorem dX12_isTurn_16 : decode cX12_isTurn 16 = .ok (.iload_n 3, 1) := by decide +kernel
theorem dX12_isTurn_17 : decode cX12_isTurn 17 = .ok (.iconst 0, 1) := by decide +kernel
theorem dX12_isTurn_18 : decode cX12_isTurn 18 = .ok (.iastore, 1) := by decide +kernel
theorem dX12_isTurn_19 : decode cX12_isTurn 19 = .ok (.iinc 3 1, 3) := by decide +kernel
theorem dX12_isTurn_22 : decode cX12_isTurn 22 = .ok (.goto (-18), 3) := by decide +kernel
theorem dX12_isTurn_25 : decode cX12_isTurn 25 = .ok (.aload_n 0, 1) := by decide +kernel
theorem dX12_isTurn_26 : decode cX12_isTurn 26 = .ok (.getfield 480, 3) := by decide +kernel
theorem dX12_isTurn_29 : decode cX12_isTurn 29 = .ok (.iconst 1, 1) := by decide +kernel
theorem dX12_isTurn_30 : decode cX12_isTurn 30 = .ok (.isub, 1) := by decide +kernel
theorem dX12_isTurn_31 : decode cX12_isTurn 31 = .ok (.istore_n 3, 1) := by decide +kernel
theorem dX12_isTurn_32 : decode cX12_isTurn 32 = .ok (.iload_n 3, 1) := by decide +kernel
theorem dX12_isTurn_33 : decode cX12_isTurn 33 = .ok (.ifCond .lt 111, 3) := by decide +kernel
theorem dX12_isTurn_36 : decode cX12_isTurn 36 = .ok (.aload_n 0, 1) := by decide +kernel
theorem dX12_isTurn_37 : decode cX12_isTurn 37 = .ok (.getfield 197, 3) := by decide +kernel
theorem dX12_isTurn_40 : decode cX12_isTurn 40 = .ok (.iload_n 3, 1) := by decide +kernel
theorem dX12_isTurn_41 : decode cX12_isTurn 41 = .ok (.iload_n 2, 1) := by decide +kernel
theorem dX12_isTurn_42 : decode cX12_isTurn 42 = .ok (.aload_n 0, 1) := by decide +kernel
theorem dX12_isTurn_43 : decode cX12_isTurn 43 = .ok (.getfield 477, 3) := by decide +kernel
theorem dX12_isTurn_46 : decode cX12_isTurn 46 = .ok (.iconst 1, 1) := by decide +kernel
theorem dX12_isTurn_47 : decode cX12_isTurn 47 = .ok (.iadd, 1) := by decide +kernel
theorem dX12_isTurn_48 : decode cX12_isTurn 48 = .ok (.irem, 1) := by decide +kernel
theorem dX12_isTurn_49 : decode cX12_isTurn 49 = .ok (.iastore, 1) := by decide +kernel
theorem dX12_isTurn_50 : decode cX12_isTurn 50 = .ok (.iload_n 2, 1) := by decide +kernel
theorem dX12_isTurn_51 : decode cX12_isTurn 51 = .ok (.aload_n 0, 1) := by decide +kernel
theorem dX12_isTurn_52 : decode cX12_isTurn 52 = .ok (.getfield 477, 3) := by decide +kernel
theorem dX12_isTurn_55 : decode cX12_isTurn 55 = .ok (.iconst 1, 1) := by decide +kernel
theorem dX12_isTurn_56 : decode cX12_isTurn 56 = .ok (.iadd, 1) := by decide +kernel
theorem dX12_isTurn_57 : decode cX12_isTurn 57 = .ok (.idiv, 1) := by decide +kernel
theorem dX12_isTurn_58 : decode cX12_isTurn 58 = .ok (.istore_n 2, 1) := by decide +kernel
theorem dX12_isTurn_59 : decode cX12_isTurn 59 = .ok (.aload_n 0, 1) := by decide +kernel
theorem dX12_isTurn_60 : decode cX12_isTurn 60 = .ok (.getfield 197, 3) := by decide +kernel
theorem dX12_isTurn_63 : decode cX12_isTurn 63 = .ok (.iload_n 3, 1) := by decide +kernel
theorem dX12_isTurn_64 : decode cX12_isTurn 64 = .ok (.iaload, 1) := by decide +kernel
theorem dX12_isTurn_65 : decode cX12_isTurn 65 = .ok (.istore 4, 2) := by decide +kernel
theorem dX12_isTurn_67 : decode cX12_isTurn 67 = .ok (.iload 4, 2) := by decide +kernel
theorem dX12_isTurn_69 : decode cX12_isTurn 69 = .ok (.aload_n 0, 1) := by decide +kernel
theorem dX12_isTurn_70 : decode cX12_isTurn 70 = .ok (.getfield 477, 3) := by decide +kernel
theorem dX12_isTurn_73 : decode cX12_isTurn 73 = .ok (.if_icmp .ne 6, 3) := by decide +kernel
theorem dX12_isTurn_76 : decode cX12_isTurn 76 = .ok (.goto 62, 3) := by decide +kernel
theorem dX12_isTurn_79 : decode cX12_isTurn 79 = .ok (.aload_n 0, 1) := by decide +kernel
theorem dX12_isTurn_80 : decode cX12_isTurn 80 = .ok (.getfield 206, 3) := by decide +kernel
theorem dX12_isTurn_83 : decode cX12_isTurn 83 = .ok (.iload 4, 2) := by decide +kernel
theorem dX12_isTurn_85 : decode cX12_isTurn 85 = .ok (.aload_n 0, 1) := by decide +kernel
theorem dX12_isTurn_86 : decode cX12_isTurn 86 = .ok (.getfield 206, 3) := by decide +kernel
theorem dX12_isTurn_89 : decode cX12_isTurn 89 = .ok (.iload 4, 2) := by decide +kernel
theorem dX12_isTurn_91 : decode cX12_isTurn 91 = .ok (.iaload, 1) := by decide +kernel
theorem dX12_isTurn_92 : decode cX12_isTurn 92 = .ok (.iconst 1, 1) := by decide +kernel
theorem dX12_isTurn_93 : decode cX12_isTurn 93 = .ok (.iadd, 1) := by decide +kernel
theorem dX12_isTurn_94 : decode cX12_isTurn 94 = .ok (.iastore, 1) := by decide +kernel
theorem dX12_isTurn_95 : decode cX12_isTurn 95 = .ok (.aload_n 0, 1) := by decide +kernel
theorem dX12_isTurn_96 : decode cX12_isTurn 96 = .ok (.getfield 206, 3) := by decide +kernel
theorem dX12_isTurn_99 : decode cX12_isTurn 99 = .ok (.iload 4, 2) := by decide +kernel
theorem dX12_isTurn_101 : decode cX12_isTurn 101 = .ok (.iaload, 1) := by decide +kernel
theorem dX12_isTurn_102 : decode cX12_isTurn 102 = .ok (.aload_n 0, 1) := by decide +kernel
theorem dX12_isTurn_103 : decode cX12_isTurn 103 = .ok (.getfield 191, 3) := by decide +kernel
theorem dX12_isTurn_106 : decode cX12_isTurn 106 = .ok (.iload 4, 2) := by decide +kernel
theorem dX12_isTurn_108 : decode cX12_isTurn 108 = .ok (.iaload, 1) := by decide +kernel
theorem dX12_isTurn_109 : decode cX12_isTurn 109 = .ok (.if_icmp .gt 27, 3) := by decide +kernel
theorem dX12_isTurn_112 : decode cX12_isTurn 112 = .ok (.aload_n 0, 1) := by decide +kernel
theorem dX12_isTurn_113 : decode cX12_isTurn 113 = .ok (.iload 4, 2) := by decide +kernel
theorem dX12_isTurn_115 : decode cX12_isTurn 115 = .ok (.invokevirtual 483, 3) := by decide +kernel
theorem dX12_isTurn_118 : decode cX12_isTurn 118 = .ok (.ifCond .eq 18, 3) := by decide +kernel
theorem dX12_isTurn_121 : decode cX12_isTurn 121 = .ok (.aload_n 0, 1) := by decide +kernel
theorem dX12_isTurn_122 : decode cX12_isTurn 122 = .ok (.iload 4, 2) := by decide +kernel
theorem dX12_isTurn_124 : decode cX12_isTurn 124 = .ok (.aload_n 0, 1) := by decide +kernel
theorem dX12_isTurn_125 : decode cX12_isTurn 125 = .ok (.getfield 203, 3) := by decide +kernel
theorem dX12_isTurn_128 : decode cX12_isTurn 128 = .ok (.iload_n 3, 1) := by decide +kernel
theorem dX12_isTurn_129 : decode cX12_isTurn 129 = .ok (.iaload, 1) := by decide +kernel
theorem dX12_isTurn_130 : decode cX12_isTurn 130 = .ok (.invokevirtual 486, 3) := by decide +kernel
theorem dX12_isTurn_133 : decode cX12_isTurn 133 = .ok (.ifCond .ne 5, 3) := by decide +kernel
theorem dX12_isTurn_136 : decode cX12_isTurn 136 = .ok (.iconst 0, 1) := by decide +kernel
theorem dX12_isTurn_137 : decode cX12_isTurn 137 = .ok (.ireturn, 1) := by decide +kernel
theorem dX12_isTurn_138 : decode cX12_isTurn 138 = .ok (.iinc 3 (-1), 3) := by decide +kernel
theorem dX12_isTurn_141 : decode cX12_isTurn 141 = .ok (.goto (-109), 3) := by decide +kernel
theorem dX12_isTurn_144 : decode cX12_isTurn 144 = .ok (.iconst 1, 1) := by decide +kernel
theorem dX12_isTurn_145 : decode cX12_isTurn 145 = .ok (.ireturn, 1) := by decide +kernel
theorem dX12_turnedIn_0 : decode cX12_turnedIn 0 = .ok (.iconst 0, 1) := by decide +kernel
theorem dX12_turnedIn_1 : decode cX12_turnedIn 1 = .ok (.istore_n 1, 1) := by decide +kernel
theorem dX12_turnedIn_2 : decode cX12_turnedIn 2 = .ok (.iconst 0, 1) := by decide +kernel
theorem dX12_turnedIn_3 : decode cX12_turnedIn 3 = .ok (.istore_n 2, 1) := by decide +kernel
theorem dX12_turnedIn_4 : decode cX12_turnedIn 4 = .ok (.iload_n 2, 1) := by decide +kernel
theorem dX12_turnedIn_5 : decode cX12_turnedIn 5 = .ok (.aload_n 0, 1) := by decide +kernel
theorem dX12_turnedIn_6 : decode cX12_turnedIn 6 = .ok (.getfield 480, 3) := by decide +kernel
theorem dX12_turnedIn_9 : decode cX12_turnedIn 9 = .ok (.if_icmp .ge 30, 3) := by decide +kernel
theorem dX12_turnedIn_12 : decode cX12_turnedIn 12 = .ok (.iload_n 1, 1) := by decide +kernel
theorem dX12_turnedIn_13 : decode cX12_turnedIn 13 = .ok (.aload_n 0, 1) := by decide +kernel
theorem dX12_turnedIn_14 : decode cX12_turnedIn 14 = .ok (.getfield 197, 3) := by decide +kernel
theorem dX12_turnedIn_17 : decode cX12_turnedIn 17 = .ok (.iload_n 2, 1) := by decide +kernel
theorem dX12_turnedIn_18 : decode cX12_turnedIn 18 = .ok (.iaload, 1) := by decide +kernel
theorem dX12_turnedIn_19 : decode cX12_turnedIn 19 = .ok (.aload_n 0, 1) := by decide +kernel
theorem dX12_turnedIn_20 : decode cX12_turnedIn 20 = .ok (.getfield 477, 3) := by decide +kernel
theorem dX12_turnedIn_23 : decode cX12_turnedIn 23 = .ok (.if_icmp .ge 7, 3) := by decide +kernel
theorem dX12_turnedIn_26 : decode cX12_turnedIn 26 = .ok (.iconst 1, 1) := by decide +kernel
theorem dX12_turnedIn_27 : decode cX12_turnedIn 27 = .ok (.goto 4, 3) := by decide +kernel
theorem dX12_turnedIn_30 : decode cX12_turnedIn 30 = .ok (.iconst 0, 1) := by decide +kernel
theorem dX12_turnedIn_31 : decode cX12_turnedIn 31 = .ok (.iadd, 1) := by decide +kernel
theorem dX12_turnedIn_32 : decode cX12_turnedIn 32 = .ok (.istore_n 1, 1) := by decide +kernel
theorem dX12_turnedIn_33 : decode cX12_turnedIn 33 = .ok (.iinc 2 1, 3) := by decide +kernel
theorem dX12_turnedIn_36 : decode cX12_turnedIn 36 = .ok (.goto (-32), 3) := by decide +kernel
theorem dX12_turnedIn_39 : decode cX12_turnedIn 39 = .ok (.iload_n 1, 1) := by decide +kernel
theorem dX12_turnedIn_40 : decode cX12_turnedIn 40 = .ok (.ireturn, 1) := by decide +kernel
theorem dX12_keptIn_0 : decode cX12_keptIn 0 = .ok (.iconst 0, 1) := by decide +kernel
theorem dX12_keptIn_1 : decode cX12_keptIn 1 = .ok (.istore_n 1, 1) := by decide +kernel
theorem dX12_keptIn_2 : decode cX12_keptIn 2 = .ok (.iconst 0, 1) := by decide +kernel
theorem dX12_keptIn_3 : decode cX12_keptIn 3 = .ok (.istore_n 2, 1) := by decide +kernel
theorem dX12_keptIn_4 : decode cX12_keptIn 4 = .ok (.iload_n 2, 1) := by decide +kernel
theorem dX12_keptIn_5 : decode cX12_keptIn 5 = .ok (.aload_n 0, 1) := by decide +kernel
theorem dX12_keptIn_6 : decode cX12_keptIn 6 = .ok (.getfield 480, 3) := by decide +kernel
theorem dX12_keptIn_9 : decode cX12_keptIn 9 = .ok (.if_icmp .ge 55, 3) := by decide +kernel
theorem dX12_keptIn_12 : decode cX12_keptIn 12 = .ok (.iload_n 1, 1) := by decide +kernel
theorem dX12_keptIn_13 : decode cX12_keptIn 13 = .ok (.aload_n 0, 1) := by decide +kernel
theorem dX12_keptIn_14 : decode cX12_keptIn 14 = .ok (.getfield 197, 3) := by decide +kernel
theorem dX12_keptIn_17 : decode cX12_keptIn 17 = .ok (.iload_n 2, 1) := by decide +kernel
theorem dX12_keptIn_18 : decode cX12_keptIn 18 = .ok (.iaload, 1) := by decide +kernel
theorem dX12_keptIn_19 : decode cX12_keptIn 19 = .ok (.aload_n 0, 1) := by decide +kernel
theorem dX12_keptIn_20 : decode cX12_keptIn 20 = .ok (.getfield 477, 3) := by decide +kernel
theorem dX12_keptIn_23 : decode cX12_keptIn 23 = .ok (.if_icmp .ge 32, 3) := by decide +kernel
theorem dX12_keptIn_26 : decode cX12_keptIn 26 = .ok (.aload_n 0, 1) := by decide +kernel
theorem dX12_keptIn_27 : decode cX12_keptIn 27 = .ok (.getfield 197, 3) := by decide +kernel
theorem dX12_keptIn_30 : decode cX12_keptIn 30 = .ok (.iload_n 2, 1) := by decide +kernel
theorem dX12_keptIn_31 : decode cX12_keptIn 31 = .ok (.iaload, 1) := by decide +kernel
theorem dX12_keptIn_32 : decode cX12_keptIn 32 = .ok (.aload_n 0, 1) := by decide +kernel
theorem dX12_keptIn_33 : decode cX12_keptIn 33 = .ok (.getfield 46, 3) := by decide +kernel
theorem dX12_keptIn_36 : decode cX12_keptIn 36 = .ok (.aload_n 0, 1) := by decide +kernel
theorem dX12_keptIn_37 : decode cX12_keptIn 37 = .ok (.getfield 133, 3) := by decide +kernel
theorem dX12_keptIn_40 : decode cX12_keptIn 40 = .ok (.aload_n 0, 1) := by decide +kernel
theorem dX12_keptIn_41 : decode cX12_keptIn 41 = .ok (.getfield 203, 3) := by decide +kernel
theorem dX12_keptIn_44 : decode cX12_keptIn 44 = .ok (.iload_n 2, 1) := by decide +kernel
theorem dX12_keptIn_45 : decode cX12_keptIn 45 = .ok (.iaload, 1) := by decide +kernel
theorem dX12_keptIn_46 : decode cX12_keptIn 46 = .ok (.iaload, 1) := by decide +kernel
theorem dX12_keptIn_47 : decode cX12_keptIn 47 = .ok (.iaload, 1) := by decide +kernel
theorem dX12_keptIn_48 : decode cX12_keptIn 48 = .ok (.if_icmp .ne 7, 3) := by decide +kernel
theorem dX12_keptIn_51 : decode cX12_keptIn 51 = .ok (.iconst 1, 1) := by decide +kernel
theorem dX12_keptIn_52 : decode cX12_keptIn 52 = .ok (.goto 4, 3) := by decide +kernel
theorem dX12_keptIn_55 : decode cX12_keptIn 55 = .ok (.iconst 0, 1) := by decide +kernel
theorem dX12_keptIn_56 : decode cX12_keptIn 56 = .ok (.iadd, 1) := by decide +kernel
theorem dX12_keptIn_57 : decode cX12_keptIn 57 = .ok (.istore_n 1, 1) := by decide +kernel
theorem dX12_keptIn_58 : decode cX12_keptIn 58 = .ok (.iinc 2 1, 3) := by decide +kernel
theorem dX12_keptIn_61 : decode cX12_keptIn 61 = .ok (.goto (-57), 3) := by decide +kernel
theorem dX12_keptIn_64 : decode cX12_keptIn 64 = .ok (.iload_n 1, 1) := by decide +kernel
theorem dX12_keptIn_65 : decode cX12_keptIn 65 = .ok (.ireturn, 1) := by decide +kernel
theorem dX12_turns_0 : decode cX12_turns 0 = .ok (.aload_n 0, 1) := by decide +kernel
theorem dX12_turns_1 : decode cX12_turns 1 = .ok (.iconst 0, 1) := by decide +kernel
theorem dX12_turns_2 : decode cX12_turns 2 = .ok (.putfield 480, 3) := by decide +kernel
theorem dX12_turns_5 : decode cX12_turns 5 = .ok (.aload_n 0, 1) := by decide +kernel
theorem dX12_turns_6 : decode cX12_turns 6 = .ok (.iconst 4, 1) := by decide +kernel
theorem dX12_turns_7 : decode cX12_turns 7 = .ok (.iconst (-1), 1) := by decide +kernel
theorem dX12_turns_8 : decode cX12_turns 8 = .ok (.invokevirtual 489, 3) := by decide +kernel
theorem dX12_turns_11 : decode cX12_turns 11 = .ok (.istore_n 1, 1) := by decide +kernel
theorem dX12_turns_12 : decode cX12_turns 12 = .ok (.iload_n 1, 1) := by decide +kernel
theorem dX12_turns_13 : decode cX12_turns 13 = .ok (.iconst (-1), 1) := by decide +kernel
theorem dX12_turns_14 : decode cX12_turns 14 = .ok (.if_icmp .eq 42, 3) := by decide +kernel
theorem dX12_turns_17 : decode cX12_turns 17 = .ok (.aload_n 0, 1) := by decide +kernel
theorem dX12_turns_18 : decode cX12_turns 18 = .ok (.getfield 480, 3) := by decide +kernel
theorem dX12_turns_21 : decode cX12_turns 21 = .ok (.bipush 6, 2) := by decide +kernel
theorem dX12_turns_23 : decode cX12_turns 23 = .ok (.if_icmp .ge 33, 3) := by decide +kernel
theorem dX12_turns_26 : decode cX12_turns 26 = .ok (.aload_n 0, 1) := by decide +kernel
theorem dX12_turns_27 : decode cX12_turns 27 = .ok (.getfield 203, 3) := by decide +kernel
theorem dX12_turns_30 : decode cX12_turns 30 = .ok (.aload_n 0, 1) := by decide +kernel
theorem dX12_turns_31 : decode cX12_turns 31 = .ok (.getfield 480, 3) := by decide +kernel
theorem dX12_turns_34 : decode cX12_turns 34 = .ok (.iload_n 1, 1) := by decide +kernel
theorem dX12_turns_35 : decode cX12_turns 35 = .ok (.iastore, 1) := by decide +kernel
theorem dX12_turns_36 : decode cX12_turns 36 = .ok (.aload_n 0, 1) := by decide +kernel
theorem dX12_turns_37 : decode cX12_turns 37 = .ok (.aload_n 0, 1) := by decide +kernel
theorem dX12_turns_38 : decode cX12_turns 38 = .ok (.getfield 480, 3) := by decide +kernel
theorem dX12_turns_41 : decode cX12_turns 41 = .ok (.iconst 1, 1) := by decide +kernel
theorem dX12_turns_42 : decode cX12_turns 42 = .ok (.iadd, 1) := by decide +kernel
theorem dX12_turns_43 : decode cX12_turns 43 = .ok (.putfield 480, 3) := by decide +kernel
theorem dX12_turns_46 : decode cX12_turns 46 = .ok (.aload_n 0, 1) := by decide +kernel
theorem dX12_turns_47 : decode cX12_turns 47 = .ok (.iconst 4, 1) := by decide +kernel
theorem dX12_turns_48 : decode cX12_turns 48 = .ok (.iload_n 1, 1) := by decide +kernel
theorem dX12_turns_49 : decode cX12_turns 49 = .ok (.invokevirtual 489, 3) := by decide +kernel
theorem dX12_turns_52 : decode cX12_turns 52 = .ok (.istore_n 1, 1) := by decide +kernel
theorem dX12_turns_53 : decode cX12_turns 53 = .ok (.goto (-41), 3) := by decide +kernel
theorem dX12_turns_56 : decode cX12_turns 56 = .ok (.iconst 1, 1) := by decide +kernel
theorem dX12_turns_57 : decode cX12_turns 57 = .ok (.istore_n 2, 1) := by decide +kernel
theorem dX12_turns_58 : decode cX12_turns 58 = .ok (.iconst 0, 1) := by decide +kernel
theorem dX12_turns_59 : decode cX12_turns 59 = .ok (.istore_n 3, 1) := by decide +kernel
theorem dX12_turns_60 : decode cX12_turns 60 = .ok (.iload_n 3, 1) := by decide +kernel
theorem dX12_turns_61 : decode cX12_turns 61 = .ok (.aload_n 0, 1) := by decide +kernel
theorem dX12_turns_62 : decode cX12_turns 62 = .ok (.getfield 480, 3) := by decide +kernel
theorem dX12_turns_65 : decode cX12_turns 65 = .ok (.if_icmp .ge 18, 3) := by decide +kernel
theorem dX12_turns_68 : decode cX12_turns 68 = .ok (.iload_n 2, 1) := by decide +kernel
theorem dX12_turns_69 : decode cX12_turns 69 = .ok (.aload_n 0, 1) := by decide +kernel
theorem dX12_turns_70 : decode cX12_turns 70 = .ok (.getfield 477, 3) := by decide +kernel
theorem dX12_turns_73 : decode cX12_turns 73 = .ok (.iconst 1, 1) := by decide +kernel
theorem dX12_turns_74 : decode cX12_turns 74 = .ok (.iadd, 1) := by decide +kernel
theorem dX12_turns_75 : decode cX12_turns 75 = .ok (.imul, 1) := by decide +kernel
theorem dX12_turns_76 : decode cX12_turns 76 = .ok (.istore_n 2, 1) := by decide +kernel
theorem dX12_turns_77 : decode cX12_turns 77 = .ok (.iinc 3 1, 3) := by decide +kernel
theorem dX12_turns_80 : decode cX12_turns 80 = .ok (.goto (-20), 3) := by decide +kernel
theorem dX12_turns_83 : decode cX12_turns 83 = .ok (.iconst (-1), 1) := by decide +kernel
theorem dX12_turns_84 : decode cX12_turns 84 = .ok (.istore_n 3, 1) := by decide +kernel
theorem dX12_turns_85 : decode cX12_turns 85 = .ok (.iconst 0, 1) := by decide +kernel
theorem dX12_turns_86 : decode cX12_turns 86 = .ok (.istore 4, 2) := by decide +kernel
theorem dX12_turns_88 : decode cX12_turns 88 = .ok (.iconst 0, 1) := by decide +kernel
theorem dX12_turns_89 : decode cX12_turns 89 = .ok (.istore 5, 2) := by decide +kernel
theorem dX12_turns_91 : decode cX12_turns 91 = .ok (.iload 5, 2) := by decide +kernel
theorem dX12_turns_93 : decode cX12_turns 93 = .ok (.iload_n 2, 1) := by decide +kernel
theorem dX12_turns_94 : decode cX12_turns 94 = .ok (.if_icmp .ge 94, 3) := by decide +kernel
theorem dX12_turns_97 : decode cX12_turns 97 = .ok (.aload_n 0, 1) := by decide +kernel
theorem dX12_turns_98 : decode cX12_turns 98 = .ok (.iload 5, 2) := by decide +kernel
theorem dX12_turns_100 : decode cX12_turns 100 = .ok (.invokevirtual 492, 3) := by decide +kernel
theorem dX12_turns_103 : decode cX12_turns 103 = .ok (.ifCond .ne 6, 3) := by decide +kernel
theorem dX12_turns_106 : decode cX12_turns 106 = .ok (.goto 76, 3) := by decide +kernel
theorem dX12_turns_109 : decode cX12_turns 109 = .ok (.aload_n 0, 1) := by decide +kernel
theorem dX12_turns_110 : decode cX12_turns 110 = .ok (.invokevirtual 495, 3) := by decide +kernel
theorem dX12_turns_113 : decode cX12_turns 113 = .ok (.istore 6, 2) := by decide +kernel
theorem dX12_turns_115 : decode cX12_turns 115 = .ok (.aload_n 0, 1) := by decide +kernel
theorem dX12_turns_116 : decode cX12_turns 116 = .ok (.invokevirtual 498, 3) := by decide +kernel
theorem dX12_turns_119 : decode cX12_turns 119 = .ok (.istore 7, 2) := by decide +kernel
theorem dX12_turns_121 : decode cX12_turns 121 = .ok (.iload 6, 2) := by decide +kernel
theorem dX12_turns_123 : decode cX12_turns 123 = .ok (.iload_n 3, 1) := by decide +kernel
theorem dX12_turns_124 : decode cX12_turns 124 = .ok (.if_icmp .lt 58, 3) := by decide +kernel
theorem dX12_turns_127 : decode cX12_turns 127 = .ok (.iload 6, 2) := by decide +kernel
theorem dX12_turns_129 : decode cX12_turns 129 = .ok (.iload_n 3, 1) := by decide +kernel
theorem dX12_turns_130 : decode cX12_turns 130 = .ok (.if_icmp .ne 13, 3) := by decide +kernel
theorem dX12_turns_133 : decode cX12_turns 133 = .ok (.iload 7, 2) := by decide +kernel
theorem dX12_turns_135 : decode cX12_turns 135 = .ok (.iload 4, 2) := by decide +kernel
theorem dX12_turns_137 : decode cX12_turns 137 = .ok (.if_icmp .gt 6, 3) := by decide +kernel
theorem dX12_turns_140 : decode cX12_turns 140 = .ok (.goto 42, 3) := by decide +kernel
theorem dX12_turns_143 : decode cX12_turns 143 = .ok (.iload 6, 2) := by decide +kernel
theorem dX12_turns_145 : decode cX12_turns 145 = .ok (.istore_n 3, 1) := by decide +kernel
theorem dX12_turns_146 : decode cX12_turns 146 = .ok (.iload 7, 2) := by decide +kernel
theorem dX12_turns_148 : decode cX12_turns 148 = .ok (.istore 4, 2) := by decide +kernel
theorem dX12_turns_150 : decode cX12_turns 150 = .ok (.iconst 0, 1) := by decide +kernel
theorem dX12_turns_151 : decode cX12_turns 151 = .ok (.istore 8, 2) := by decide +kernel
theorem dX12_turns_153 : decode cX12_turns 153 = .ok (.iload 8, 2) := by decide +kernel
theorem dX12_turns_155 : decode cX12_turns 155 = .ok (.aload_n 0, 1) := by decide +kernel
theorem dX12_turns_156 : decode cX12_turns 156 = .ok (.getfield 480, 3) := by decide +kernel
theorem dX12_turns_159 : decode cX12_turns 159 = .ok (.if_icmp .ge 23, 3) := by decide +kernel
theorem dX12_turns_162 : decode cX12_turns 162 = .ok (.aload_n 0, 1) := by decide +kernel
theorem dX12_turns_163 : decode cX12_turns 163 = .ok (.getfield 200, 3) := by decide +kernel
theorem dX12_turns_166 : decode cX12_turns 166 = .ok (.iload 8, 2) := by decide +kernel
theorem dX12_turns_168 : decode cX12_turns 168 = .ok (.aload_n 0, 1) := by decide +kernel
theorem dX12_turns_169 : decode cX12_turns 169 = .ok (.getfield 197, 3) := by decide +kernel
theorem dX12_turns_172 : decode cX12_turns 172 = .ok (.iload 8, 2) := by decide +kernel
theorem dX12_turns_174 : decode cX12_turns 174 = .ok (.iaload, 1) := by decide +kernel
theorem dX12_turns_175 : decode cX12_turns 175 = .ok (.iastore, 1) := by decide +kernel
theorem dX12_turns_176 : decode cX12_turns 176 = .ok (.iinc 8 1, 3) := by decide +kernel
theorem dX12_turns_179 : decode cX12_turns 179 = .ok (.goto (-26), 3) := by decide +kernel
theorem dX12_turns_182 : decode cX12_turns 182 = .ok (.iinc 5 1, 3) := by decide +kernel
theorem dX12_turns_185 : decode cX12_turns 185 = .ok (.goto (-94), 3) := by decide +kernel
theorem dX12_turns_188 : decode cX12_turns 188 = .ok (.iconst 0, 1) := by decide +kernel
theorem dX12_turns_189 : decode cX12_turns 189 = .ok (.istore 5, 2) := by decide +kernel
theorem dX12_turns_191 : decode cX12_turns 191 = .ok (.iload 5, 2) := by decide +kernel
theorem dX12_turns_193 : decode cX12_turns 193 = .ok (.aload_n 0, 1) := by decide +kernel
theorem dX12_turns_194 : decode cX12_turns 194 = .ok (.getfield 480, 3) := by decide +kernel
theorem dX12_turns_197 : decode cX12_turns 197 = .ok (.if_icmp .ge 81, 3) := by decide +kernel
theorem dX12_turns_200 : decode cX12_turns 200 = .ok (.aload_n 0, 1) := by decide +kernel
theorem dX12_turns_201 : decode cX12_turns 201 = .ok (.getfield 200, 3) := by decide +kernel
theorem dX12_turns_204 : decode cX12_turns 204 = .ok (.iload 5, 2) := by decide +kernel
theorem dX12_turns_206 : decode cX12_turns 206 = .ok (.iaload, 1) := by decide +kernel
theorem dX12_turns_207 : decode cX12_turns 207 = .ok (.aload_n 0, 1) := by decide +kernel
theorem dX12_turns_208 : decode cX12_turns 208 = .ok (.getfield 477, 3) := by decide +kernel
theorem dX12_turns_211 : decode cX12_turns 211 = .ok (.if_icmp .ne 6, 3) := by decide +kernel
theorem dX12_turns_214 : decode cX12_turns 214 = .ok (.goto 58, 3) := by decide +kernel
theorem dX12_turns_217 : decode cX12_turns 217 = .ok (.aload_n 0, 1) := by decide +kernel
theorem dX12_turns_218 : decode cX12_turns 218 = .ok (.getfield 151, 3) := by decide +kernel
theorem dX12_turns_221 : decode cX12_turns 221 = .ok (.aload_n 0, 1) := by decide +kernel
theorem dX12_turns_222 : decode cX12_turns 222 = .ok (.getfield 203, 3) := by decide +kernel
theorem dX12_turns_225 : decode cX12_turns 225 = .ok (.iload 5, 2) := by decide +kernel
theorem dX12_turns_227 : decode cX12_turns 227 = .ok (.iaload, 1) := by decide +kernel
theorem dX12_turns_228 : decode cX12_turns 228 = .ok (.aload_n 0, 1) := by decide +kernel
theorem dX12_turns_229 : decode cX12_turns 229 = .ok (.getfield 200, 3) := by decide +kernel
theorem dX12_turns_232 : decode cX12_turns 232 = .ok (.iload 5, 2) := by decide +kernel
theorem dX12_turns_234 : decode cX12_turns 234 = .ok (.iaload, 1) := by decide +kernel
theorem dX12_turns_235 : decode cX12_turns 235 = .ok (.iastore, 1) := by decide +kernel
theorem dX12_turns_236 : decode cX12_turns 236 = .ok (.aload_n 0, 1) := by decide +kernel
theorem dX12_turns_237 : decode cX12_turns 237 = .ok (.getfield 46, 3) := by decide +kernel
theorem dX12_turns_240 : decode cX12_turns 240 = .ok (.aload_n 0, 1) := by decide +kernel
theorem dX12_turns_241 : decode cX12_turns 241 = .ok (.getfield 133, 3) := by decide +kernel
theorem dX12_turns_244 : decode cX12_turns 244 = .ok (.aload_n 0, 1) := by decide +kernel
theorem dX12_turns_245 : decode cX12_turns 245 = .ok (.getfield 203, 3) := by decide +kernel
theorem dX12_turns_248 : decode cX12_turns 248 = .ok (.iload 5, 2) := by decide +kernel
theorem dX12_turns_250 : decode cX12_turns 250 = .ok (.iaload, 1) := by decide +kernel
theorem dX12_turns_251 : decode cX12_turns 251 = .ok (.iaload, 1) := by decide +kernel
theorem dX12_turns_252 : decode cX12_turns 252 = .ok (.aload_n 0, 1) := by decide +kernel
theorem dX12_turns_253 : decode cX12_turns 253 = .ok (.getfield 200, 3) := by decide +kernel
theorem dX12_turns_256 : decode cX12_turns 256 = .ok (.iload 5, 2) := by decide +kernel
theorem dX12_turns_258 : decode cX12_turns 258 = .ok (.iaload, 1) := by decide +kernel
theorem dX12_turns_259 : decode cX12_turns 259 = .ok (.iastore, 1) := by decide +kernel
theorem dX12_turns_260 : decode cX12_turns 260 = .ok (.aload_n 0, 1) := by decide +kernel
theorem dX12_turns_261 : decode cX12_turns 261 = .ok (.aload_n 0, 1) := by decide +kernel
theorem dX12_turns_262 : decode cX12_turns 262 = .ok (.getfield 203, 3) := by decide +kernel
theorem dX12_turns_265 : decode cX12_turns 265 = .ok (.iload 5, 2) := by decide +kernel
theorem dX12_turns_267 : decode cX12_turns 267 = .ok (.iaload, 1) := by decide +kernel
theorem dX12_turns_268 : decode cX12_turns 268 = .ok (.iconst 5, 1) := by decide +kernel
theorem dX12_turns_269 : decode cX12_turns 269 = .ok (.invokevirtual 455, 3) := by decide +kernel
theorem dX12_turns_272 : decode cX12_turns 272 = .ok (.iinc 5 1, 3) := by decide +kernel
theorem dX12_turns_275 : decode cX12_turns 275 = .ok (.goto (-84), 3) := by decide +kernel
theorem dX12_turns_278 : decode cX12_turns 278 = .ok (.return_, 1) := by decide +kernel
theorem dX12_sacksCome_0 : decode cX12_sacksCome 0 = .ok (.iconst 0, 1) := by decide +kernel
theorem dX12_sacksCome_1 : decode cX12_sacksCome 1 = .ok (.istore_n 1, 1) := by decide +kernel
theorem dX12_sacksCome_2 : decode cX12_sacksCome 2 = .ok (.iload_n 1, 1) := by decide +kernel
theorem dX12_sacksCome_3 : decode cX12_sacksCome 3 = .ok (.aload_n 0, 1) := by decide +kernel
theorem dX12_sacksCome_4 : decode cX12_sacksCome 4 = .ok (.getfield 470, 3) := by decide +kernel
theorem dX12_sacksCome_7 : decode cX12_sacksCome 7 = .ok (.if_icmp .ge 90, 3) := by decide +kernel
theorem dX12_sacksCome_10 : decode cX12_sacksCome 10 = .ok (.aload_n 0, 1) := by decide +kernel
theorem dX12_sacksCome_11 : decode cX12_sacksCome 11 = .ok (.getfield 175, 3) := by decide +kernel
theorem dX12_sacksCome_14 : decode cX12_sacksCome 14 = .ok (.iload_n 1, 1) := by decide +kernel
theorem dX12_sacksCome_15 : decode cX12_sacksCome 15 = .ok (.baload, 1) := by decide +kernel
theorem dX12_sacksCome_16 : decode cX12_sacksCome 16 = .ok (.ifCond .eq 75, 3) := by decide +kernel
theorem dX12_sacksCome_19 : decode cX12_sacksCome 19 = .ok (.aload_n 0, 1) := by decide +kernel
theorem dX12_sacksCome_20 : decode cX12_sacksCome 20 = .ok (.getfield 281, 3) := by decide +kernel
theorem dX12_sacksCome_23 : decode cX12_sacksCome 23 = .ok (.aload_n 0, 1) := by decide +kernel
theorem dX12_sacksCome_24 : decode cX12_sacksCome 24 = .ok (.getfield 169, 3) := by decide +kernel
theorem dX12_sacksCome_27 : decode cX12_sacksCome 27 = .ok (.iload_n 1, 1) := by decide +kernel
theorem dX12_sacksCome_28 : decode cX12_sacksCome 28 = .ok (.iaload, 1) := by decide +kernel
theorem dX12_sacksCome_29 : decode cX12_sacksCome 29 = .ok (.isub, 1) := by decide +kernel
theorem dX12_sacksCome_30 : decode cX12_sacksCome 30 = .ok (.aload_n 0, 1) := by decide +kernel
theorem dX12_sacksCome_31 : decode cX12_sacksCome 31 = .ok (.getfield 172, 3) := by decide +kernel
theorem dX12_sacksCome_34 : decode cX12_sacksCome 34 = .ok (.iload_n 1, 1) := by decide +kernel
theorem dX12_sacksCome_35 : decode cX12_sacksCome 35 = .ok (.iaload, 1) := by decide +kernel
theorem dX12_sacksCome_36 : decode cX12_sacksCome 36 = .ok (.if_icmp .ge 6, 3) := by decide +kernel
theorem dX12_sacksCome_39 : decode cX12_sacksCome 39 = .ok (.goto 52, 3) := by decide +kernel
theorem dX12_sacksCome_42 : decode cX12_sacksCome 42 = .ok (.aload_n 0, 1) := by decide +kernel
theorem dX12_sacksCome_43 : decode cX12_sacksCome 43 = .ok (.getfield 175, 3) := by decide +kernel
theorem dX12_sacksCome_46 : decode cX12_sacksCome 46 = .ok (.iload_n 1, 1) := by decide +kernel
theorem dX12_sacksCome_47 : decode cX12_sacksCome 47 = .ok (.iconst 0, 1) := by decide +kernel
theorem dX12_sacksCome_48 : decode cX12_sacksCome 48 = .ok (.bastore, 1) := by decide +kernel
theorem dX12_sacksCome_49 : decode cX12_sacksCome 49 = .ok (.iconst 0, 1) := by decide +kernel
theorem dX12_sacksCome_50 : decode cX12_sacksCome 50 = .ok (.istore_n 2, 1) := by decide +kernel
theorem dX12_sacksCome_51 : decode cX12_sacksCome 51 = .ok (.iload_n 2, 1) := by decide +kernel
theorem dX12_sacksCome_52 : decode cX12_sacksCome 52 = .ok (.aload_n 0, 1) := by decide +kernel
theorem dX12_sacksCome_53 : decode cX12_sacksCome 53 = .ok (.getfield 431, 3) := by decide +kernel
theorem dX12_sacksCome_56 : decode cX12_sacksCome 56 = .ok (.if_icmp .ge 35, 3) := by decide +kernel
theorem dX12_sacksCome_59 : decode cX12_sacksCome 59 = .ok (.aload_n 0, 1) := by decide +kernel
theorem dX12_sacksCome_60 : decode cX12_sacksCome 60 = .ok (.getfield 142, 3) := by decide +kernel
theorem dX12_sacksCome_63 : decode cX12_sacksCome 63 = .ok (.iload_n 2, 1) := by decide +kernel
theorem dX12_sacksCome_64 : decode cX12_sacksCome 64 = .ok (.iaload, 1) := by decide +kernel
theorem dX12_sacksCome_65 : decode cX12_sacksCome 65 = .ok (.iconst 1, 1) := by decide +kernel
theorem dX12_sacksCome_66 : decode cX12_sacksCome 66 = .ok (.if_icmp .ne 19, 3) := by decide +kernel
theorem dX12_sacksCome_69 : decode cX12_sacksCome 69 = .ok (.aload_n 0, 1) := by decide +kernel
theorem dX12_sacksCome_70 : decode cX12_sacksCome 70 = .ok (.getfield 148, 3) := by decide +kernel
theorem dX12_sacksCome_73 : decode cX12_sacksCome 73 = .ok (.iload_n 2, 1) := by decide +kernel
theorem dX12_sacksCome_74 : decode cX12_sacksCome 74 = .ok (.iaload, 1) := by decide +kernel
theorem dX12_sacksCome_75 : decode cX12_sacksCome 75 = .ok (.iload_n 1, 1) := by decide +kernel
theorem dX12_sacksCome_76 : decode cX12_sacksCome 76 = .ok (.if_icmp .ne 9, 3) := by decide +kernel
theorem dX12_sacksCome_79 : decode cX12_sacksCome 79 = .ok (.aload_n 0, 1) := by decide +kernel
theorem dX12_sacksCome_80 : decode cX12_sacksCome 80 = .ok (.iload_n 2, 1) := by decide +kernel
theorem dX12_sacksCome_81 : decode cX12_sacksCome 81 = .ok (.iconst 2, 1) := by decide +kernel
theorem dX12_sacksCome_82 : decode cX12_sacksCome 82 = .ok (.invokevirtual 455, 3) := by decide +kernel
theorem dX12_sacksCome_85 : decode cX12_sacksCome 85 = .ok (.iinc 2 1, 3) := by decide +kernel
theorem dX12_sacksCome_88 : decode cX12_sacksCome 88 = .ok (.goto (-37), 3) := by decide +kernel
theorem dX12_sacksCome_91 : decode cX12_sacksCome 91 = .ok (.iinc 1 1, 3) := by decide +kernel
theorem dX12_sacksCome_94 : decode cX12_sacksCome 94 = .ok (.goto (-92), 3) := by decide +kernel
theorem dX12_sacksCome_97 : decode cX12_sacksCome 97 = .ok (.return_, 1) := by decide +kernel
theorem dX12_lettersCome_0 : decode cX12_lettersCome 0 = .ok (.iconst 0, 1) := by decide +kernel
theorem dX12_lettersCome_1 : decode cX12_lettersCome 1 = .ok (.istore_n 1, 1) := by decide +kernel
theorem dX12_lettersCome_2 : decode cX12_lettersCome 2 = .ok (.iload_n 1, 1) := by decide +kernel
theorem dX12_lettersCome_3 : decode cX12_lettersCome 3 = .ok (.aload_n 0, 1) := by decide +kernel
theorem dX12_lettersCome_4 : decode cX12_lettersCome 4 = .ok (.getfield 431, 3) := by decide +kernel
theorem dX12_lettersCome_7 : decode cX12_lettersCome 7 = .ok (.if_icmp .ge 104, 3) := by decide +kernel
theorem dX12_lettersCome_10 : decode cX12_lettersCome 10 = .ok (.aload_n 0, 1) := by decide +kernel
theorem dX12_lettersCome_11 : decode cX12_lettersCome 11 = .ok (.getfield 133, 3) := by decide +kernel
theorem dX12_lettersCome_14 : decode cX12_lettersCome 14 = .ok (.iload_n 1, 1) := by decide +kernel
theorem dX12_lettersCome_15 : decode cX12_lettersCome 15 = .ok (.iaload, 1) := by decide +kernel
theorem dX12_lettersCome_16 : decode cX12_lettersCome 16 = .ok (.istore_n 2, 1) := by decide +kernel
theorem dX12_lettersCome_17 : decode cX12_lettersCome 17 = .ok (.aload_n 0, 1) := by decide +kernel
theorem dX12_lettersCome_18 : decode cX12_lettersCome 18 = .ok (.getfield 19, 3) := by decide +kernel
theorem dX12_lettersCome_21 : decode cX12_lettersCome 21 = .ok (.aload_n 0, 1) := by decide +kernel
theorem dX12_lettersCome_22 : decode cX12_lettersCome 22 = .ok (.getfield 34, 3) := by decide +kernel
theorem dX12_lettersCome_25 : decode cX12_lettersCome 25 = .ok (.iload_n 2, 1) := by decide +kernel
theorem dX12_lettersCome_26 : decode cX12_lettersCome 26 = .ok (.iaload, 1) := by decide +kernel
theorem dX12_lettersCome_27 : decode cX12_lettersCome 27 = .ok (.iaload, 1) := by decide +kernel
theorem dX12_lettersCome_28 : decode cX12_lettersCome 28 = .ok (.istore_n 3, 1) := by decide +kernel
theorem dX12_lettersCome_29 : decode cX12_lettersCome 29 = .ok (.aload_n 0, 1) := by decide +kernel
theorem dX12_lettersCome_30 : decode cX12_lettersCome 30 = .ok (.getfield 142, 3) := by decide +kernel
theorem dX12_lettersCome_33 : decode cX12_lettersCome 33 = .ok (.iload_n 1, 1) := by decide +kernel
theorem dX12_lettersCome_34 : decode cX12_lettersCome 34 = .ok (.iaload, 1) := by decide +kernel
theorem dX12_lettersCome_35 : decode cX12_lettersCome 35 = .ok (.iconst 5, 1) := by decide +kernel
theorem dX12_lettersCome_36 : decode cX12_lettersCome 36 = .ok (.if_icmp .ne 69, 3) := by decide +kernel
theorem dX12_lettersCome_39 : decode cX12_lettersCome 39 = .ok (.aload_n 0, 1) := by decide +kernel
theorem dX12_lettersCome_40 : decode cX12_lettersCome 40 = .ok (.getfield 281, 3) := by decide +kernel
theorem dX12_lettersCome_43 : decode cX12_lettersCome 43 = .ok (.aload_n 0, 1) := by decide +kernel
theorem dX12_lettersCome_44 : decode cX12_lettersCome 44 = .ok (.getfield 145, 3) := by decide +kernel
theorem dX12_lettersCome_47 : decode cX12_lettersCome 47 = .ok (.iload_n 1, 1) := by decide +kernel
theorem dX12_lettersCome_48 : decode cX12_lettersCome 48 = .ok (.iaload, 1) := by decide +kernel
theorem dX12_lettersCome_49 : decode cX12_lettersCome 49 = .ok (.isub, 1) := by decide +kernel
theorem dX12_lettersCome_50 : decode cX12_lettersCome 50 = .ok (.aload_n 0, 1) := by decide +kernel
theorem dX12_lettersCome_51 : decode cX12_lettersCome 51 = .ok (.getfield 7, 3) := by decide +kernel
theorem dX12_lettersCome_54 : decode cX12_lettersCome 54 = .ok (.iload_n 3, 1) := by decide +kernel
theorem dX12_lettersCome_55 : decode cX12_lettersCome 55 = .ok (.iaload, 1) := by decide +kernel
theorem dX12_lettersCome_56 : decode cX12_lettersCome 56 = .ok (.if_icmp .lt 49, 3) := by decide +kernel
theorem dX12_lettersCome_59 : decode cX12_lettersCome 59 = .ok (.aload_n 0, 1) := by decide +kernel
theorem dX12_lettersCome_60 : decode cX12_lettersCome 60 = .ok (.getfield 13, 3) := by decide +kernel
theorem dX12_lettersCome_63 : decode cX12_lettersCome 63 = .ok (.iload_n 3, 1) := by decide +kernel
theorem dX12_lettersCome_64 : decode cX12_lettersCome 64 = .ok (.iaload, 1) := by decide +kernel
theorem dX12_lettersCome_65 : decode cX12_lettersCome 65 = .ok (.aload_n 0, 1) := by decide +kernel
theorem dX12_lettersCome_66 : decode cX12_lettersCome 66 = .ok (.getfield 281, 3) := by decide +kernel
theorem dX12_lettersCome_69 : decode cX12_lettersCome 69 = .ok (.bipush 30, 2) := by decide +kernel
theorem dX12_lettersCome_71 : decode cX12_lettersCome 71 = .ok (.idiv, 1) := by decide +kernel
theorem dX12_lettersCome_72 : decode cX12_lettersCome 72 = .ok (.bipush 12, 2) := by decide +kernel
theorem dX12_lettersCome_74 : decode cX12_lettersCome 74 = .ok (.irem, 1) := by decide +kernel
theorem dX12_lettersCome_75 : decode cX12_lettersCome 75 = .ok (.ishr, 1) := by decide +kernel
theorem dX12_lettersCome_76 : decode cX12_lettersCome 76 = .ok (.iconst 1, 1) := by decide +kernel
theorem dX12_lettersCome_77 : decode cX12_lettersCome 77 = .ok (.iand, 1) := by decide +kernel
theorem dX12_lettersCome_78 : decode cX12_lettersCome 78 = .ok (.iconst 1, 1) := by decide +kernel
theorem dX12_lettersCome_79 : decode cX12_lettersCome 79 = .ok (.if_icmp .ne 6, 3) := by decide +kernel
theorem dX12_lettersCome_82 : decode cX12_lettersCome 82 = .ok (.goto 23, 3) := by decide +kernel
theorem dX12_lettersCome_85 : decode cX12_lettersCome 85 = .ok (.aload_n 0, 1) := by decide +kernel
theorem dX12_lettersCome_86 : decode cX12_lettersCome 86 = .ok (.iload_n 1, 1) := by decide +kernel
theorem dX12_lettersCome_87 : decode cX12_lettersCome 87 = .ok (.aload_n 0, 1) := by decide +kernel
theorem dX12_lettersCome_88 : decode cX12_lettersCome 88 = .ok (.iload_n 2, 1) := by decide +kernel
theorem dX12_lettersCome_89 : decode cX12_lettersCome 89 = .ok (.invokevirtual 277, 3) := by decide +kernel
theorem dX12_lettersCome_92 : decode cX12_lettersCome 92 = .ok (.ifCond .eq 8, 3) := by decide +kernel
theorem dX12_lettersCome_95 : decode cX12_lettersCome 95 = .ok (.bipush 6, 2) := by decide +kernel
theorem dX12_lettersCome_97 : decode cX12_lettersCome 97 = .ok (.goto 5, 3) := by decide +kernel
theorem dX12_lettersCome_100 : decode cX12_lettersCome 100 = .ok (.bipush 7, 2) := by decide +kernel
theorem dX12_lettersCome_102 : decode cX12_lettersCome 102 = .ok (.invokevirtual 455, 3) := by decide +kernel
theorem dX12_lettersCome_105 : decode cX12_lettersCome 105 = .ok (.iinc 1 1, 3) := by decide +kernel
theorem dX12_lettersCome_108 : decode cX12_lettersCome 108 = .ok (.goto (-106), 3) := by decide +kernel
theorem dX12_lettersCome_111 : decode cX12_lettersCome 111 = .ok (.return_, 1) := by decide +kernel
theorem dX12_sacksGo_0 : decode cX12_sacksGo 0 = .ok (.aload_n 0, 1) := by decide +kernel
theorem dX12_sacksGo_1 : decode cX12_sacksGo 1 = .ok (.getfield 49, 3) := by decide +kernel
theorem dX12_sacksGo_4 : decode cX12_sacksGo 4 = .ok (.iconst 1, 1) := by decide +kernel
theorem dX12_sacksGo_5 : decode cX12_sacksGo 5 = .ok (.iaload, 1) := by decide +kernel
theorem dX12_sacksGo_6 : decode cX12_sacksGo 6 = .ok (.aload_n 0, 1) := by decide +kernel
theorem dX12_sacksGo_7 : decode cX12_sacksGo 7 = .ok (.getfield 281, 3) := by decide +kernel
theorem dX12_sacksGo_10 : decode cX12_sacksGo 10 = .ok (.bipush 7, 2) := by decide +kernel
theorem dX12_sacksGo_12 : decode cX12_sacksGo 12 = .ok (.irem, 1) := by decide +kernel
theorem dX12_sacksGo_13 : decode cX12_sacksGo 13 = .ok (.ishr, 1) := by decide +kernel
theorem dX12_sacksGo_14 : decode cX12_sacksGo 14 = .ok (.iconst 1, 1) := by decide +kernel
theorem dX12_sacksGo_15 : decode cX12_sacksGo 15 = .ok (.iand, 1) := by decide +kernel
theorem dX12_sacksGo_16 : decode cX12_sacksGo 16 = .ok (.ifCond .ne 4, 3) := by decide +kernel
theorem dX12_sacksGo_19 : decode cX12_sacksGo 19 = .ok (.return_, 1) := by decide +kernel
theorem dX12_sacksGo_20 : decode cX12_sacksGo 20 = .ok (.iconst 0, 1) := by decide +kernel
theorem dX12_sacksGo_21 : decode cX12_sacksGo 21 = .ok (.istore_n 1, 1) := by decide +kernel
theorem dX12_sacksGo_22 : decode cX12_sacksGo 22 = .ok (.iconst 0, 1) := by decide +kernel
theorem dX12_sacksGo_23 : decode cX12_sacksGo 23 = .ok (.istore_n 2, 1) := by decide +kernel
theorem dX12_sacksGo_24 : decode cX12_sacksGo 24 = .ok (.iload_n 2, 1) := by decide +kernel
theorem dX12_sacksGo_25 : decode cX12_sacksGo 25 = .ok (.aload_n 0, 1) := by decide +kernel
theorem dX12_sacksGo_26 : decode cX12_sacksGo 26 = .ok (.getfield 431, 3) := by decide +kernel
theorem dX12_sacksGo_29 : decode cX12_sacksGo 29 = .ok (.if_icmp .ge 39, 3) := by decide +kernel
theorem dX12_sacksGo_32 : decode cX12_sacksGo 32 = .ok (.aload_n 0, 1) := by decide +kernel
theorem dX12_sacksGo_33 : decode cX12_sacksGo 33 = .ok (.getfield 142, 3) := by decide +kernel
theorem dX12_sacksGo_36 : decode cX12_sacksGo 36 = .ok (.iload_n 2, 1) := by decide +kernel
theorem dX12_sacksGo_37 : decode cX12_sacksGo 37 = .ok (.iaload, 1) := by decide +kernel
theorem dX12_sacksGo_38 : decode cX12_sacksGo 38 = .ok (.ifCond .eq 6, 3) := by decide +kernel
theorem dX12_sacksGo_41 : decode cX12_sacksGo 41 = .ok (.goto 21, 3) := by decide +kernel
theorem dX12_sacksGo_44 : decode cX12_sacksGo 44 = .ok (.iconst 1, 1) := by decide +kernel
theorem dX12_sacksGo_45 : decode cX12_sacksGo 45 = .ok (.istore_n 1, 1) := by decide +kernel
theorem dX12_sacksGo_46 : decode cX12_sacksGo 46 = .ok (.aload_n 0, 1) := by decide +kernel
theorem dX12_sacksGo_47 : decode cX12_sacksGo 47 = .ok (.getfield 148, 3) := by decide +kernel
theorem dX12_sacksGo_50 : decode cX12_sacksGo 50 = .ok (.iload_n 2, 1) := by decide +kernel
theorem dX12_sacksGo_51 : decode cX12_sacksGo 51 = .ok (.aload_n 0, 1) := by decide +kernel
theorem dX12_sacksGo_52 : decode cX12_sacksGo 52 = .ok (.getfield 470, 3) := by decide +kernel
theorem dX12_sacksGo_55 : decode cX12_sacksGo 55 = .ok (.iastore, 1) := by decide +kernel
theorem dX12_sacksGo_56 : decode cX12_sacksGo 56 = .ok (.aload_n 0, 1) := by decide +kernel
theorem dX12_sacksGo_57 : decode cX12_sacksGo 57 = .ok (.iload_n 2, 1) := by decide +kernel
theorem dX12_sacksGo_58 : decode cX12_sacksGo 58 = .ok (.iconst 1, 1) := by decide +kernel
theorem dX12_sacksGo_59 : decode cX12_sacksGo 59 = .ok (.invokevirtual 455, 3) := by decide +kernel
theorem dX12_sacksGo_62 : decode cX12_sacksGo 62 = .ok (.iinc 2 1, 3) := by decide +kernel
theorem dX12_sacksGo_65 : decode cX12_sacksGo 65 = .ok (.goto (-41), 3) := by decide +kernel
theorem dX12_sacksGo_68 : decode cX12_sacksGo 68 = .ok (.iload_n 1, 1) := by decide +kernel
theorem dX12_sacksGo_69 : decode cX12_sacksGo 69 = .ok (.ifCond .ne 4, 3) := by decide +kernel
theorem dX12_sacksGo_72 : decode cX12_sacksGo 72 = .ok (.return_, 1) := by decide +kernel
theorem dX12_sacksGo_73 : decode cX12_sacksGo 73 = .ok (.aload_n 0, 1) := by decide +kernel
theorem dX12_sacksGo_74 : decode cX12_sacksGo 74 = .ok (.getfield 169, 3) := by decide +kernel
theorem dX12_sacksGo_77 : decode cX12_sacksGo 77 = .ok (.aload_n 0, 1) := by decide +kernel
theorem dX12_sacksGo_78 : decode cX12_sacksGo 78 = .ok (.getfield 470, 3) := by decide +kernel
theorem dX12_sacksGo_81 : decode cX12_sacksGo 81 = .ok (.aload_n 0, 1) := by decide +kernel
theorem dX12_sacksGo_82 : decode cX12_sacksGo 82 = .ok (.getfield 281, 3) := by decide +kernel
theorem dX12_sacksGo_85 : decode cX12_sacksGo 85 = .ok (.iastore, 1) := by decide +kernel
theorem dX12_sacksGo_86 : decode cX12_sacksGo 86 = .ok (.aload_n 0, 1) := by decide +kernel
theorem dX12_sacksGo_87 : decode cX12_sacksGo 87 = .ok (.getfield 172, 3) := by decide +kernel
theorem dX12_sacksGo_90 : decode cX12_sacksGo 90 = .ok (.aload_n 0, 1) := by decide +kernel
theorem dX12_sacksGo_91 : decode cX12_sacksGo 91 = .ok (.getfield 470, 3) := by decide +kernel
theorem dX12_sacksGo_94 : decode cX12_sacksGo 94 = .ok (.aload_n 0, 1) := by decide +kernel
theorem dX12_sacksGo_95 : decode cX12_sacksGo 95 = .ok (.getfield 49, 3) := by decide +kernel
theorem dX12_sacksGo_98 : decode cX12_sacksGo 98 = .ok (.iconst 0, 1) := by decide +kernel
theorem dX12_sacksGo_99 : decode cX12_sacksGo 99 = .ok (.iaload, 1) := by decide +kernel
theorem dX12_sacksGo_100 : decode cX12_sacksGo 100 = .ok (.iastore, 1) := by decide +kernel
theorem dX12_sacksGo_101 : decode cX12_sacksGo 101 = .ok (.aload_n 0, 1) := by decide +kernel
theorem dX12_sacksGo_102 : decode cX12_sacksGo 102 = .ok (.getfield 175, 3) := by decide +kernel
theorem dX12_sacksGo_105 : decode cX12_sacksGo 105 = .ok (.aload_n 0, 1) := by decide +kernel
theorem dX12_sacksGo_106 : decode cX12_sacksGo 106 = .ok (.getfield 470, 3) := by decide +kernel
theorem dX12_sacksGo_109 : decode cX12_sacksGo 109 = .ok (.iconst 1, 1) := by decide +kernel
theorem dX12_sacksGo_110 : decode cX12_sacksGo 110 = .ok (.bastore, 1) := by decide +kernel
theorem dX12_sacksGo_111 : decode cX12_sacksGo 111 = .ok (.aload_n 0, 1) := by decide +kernel
theorem dX12_sacksGo_112 : decode cX12_sacksGo 112 = .ok (.aload_n 0, 1) := by decide +kernel
theorem dX12_sacksGo_113 : decode cX12_sacksGo 113 = .ok (.getfield 470, 3) := by decide +kernel
theorem dX12_sacksGo_116 : decode cX12_sacksGo 116 = .ok (.iconst 1, 1) := by decide +kernel
theorem dX12_sacksGo_117 : decode cX12_sacksGo 117 = .ok (.iadd, 1) := by decide +kernel
theorem dX12_sacksGo_118 : decode cX12_sacksGo 118 = .ok (.putfield 470, 3) := by decide +kernel
theorem dX12_sacksGo_121 : decode cX12_sacksGo 121 = .ok (.return_, 1) := by decide +kernel
theorem dX12_day_0 : decode cX12_day 0 = .ok (.aload_n 0, 1) := by decide +kernel
theorem dX12_day_1 : decode cX12_day 1 = .ok (.getfield 281, 3) := by decide +kernel
theorem dX12_day_4 : decode cX12_day 4 = .ok (.sipush 3599, 3) := by decide +kernel
theorem dX12_day_7 : decode cX12_day 7 = .ok (.if_icmp .ne 5, 3) := by decide +kernel
theorem dX12_day_10 : decode cX12_day 10 = .ok (.iconst (-1), 1) := by decide +kernel
theorem dX12_day_11 : decode cX12_day 11 = .ok (.ireturn, 1) := by decide +kernel
theorem dX12_day_12 : decode cX12_day 12 = .ok (.aload_n 0, 1) := by decide +kernel
theorem dX12_day_13 : decode cX12_day 13 = .ok (.aload_n 0, 1) := by decide +kernel
theorem dX12_day_14 : decode cX12_day 14 = .ok (.getfield 281, 3) := by decide +kernel
theorem dX12_day_17 : decode cX12_day 17 = .ok (.iconst 1, 1) := by decide +kernel
theorem dX12_day_18 : decode cX12_day 18 = .ok (.iadd, 1) := by decide +kernel
theorem dX12_day_19 : decode cX12_day 19 = .ok (.putfield 281, 3) := by decide +kernel
theorem dX12_day_22 : decode cX12_day 22 = .ok (.aload_n 0, 1) := by decide +kernel
theorem dX12_day_23 : decode cX12_day 23 = .ok (.invokevirtual 501, 3) := by decide +kernel
theorem dX12_day_26 : decode cX12_day 26 = .ok (.iconst 0, 1) := by decide +kernel
theorem dX12_day_27 : decode cX12_day 27 = .ok (.istore_n 1, 1) := by decide +kernel
theorem dX12_day_28 : decode cX12_day 28 = .ok (.iload_n 1, 1) := by decide +kernel
theorem dX12_day_29 : decode cX12_day 29 = .ok (.aload_n 0, 1) := by decide +kernel
theorem dX12_day_30 : decode cX12_day 30 = .ok (.getfield 49, 3) := by decide +kernel
theorem dX12_day_33 : decode cX12_day 33 = .ok (.iconst 2, 1) := by decide +kernel
theorem dX12_day_34 : decode cX12_day 34 = .ok (.iaload, 1) := by decide +kernel
theorem dX12_day_35 : decode cX12_day 35 = .ok (.if_icmp .ge 26, 3) := by decide +kernel
theorem dX12_day_38 : decode cX12_day 38 = .ok (.aload_n 0, 1) := by decide +kernel
theorem dX12_day_39 : decode cX12_day 39 = .ok (.iconst 2, 1) := by decide +kernel
theorem dX12_day_40 : decode cX12_day 40 = .ok (.iconst (-1), 1) := by decide +kernel
theorem dX12_day_41 : decode cX12_day 41 = .ok (.invokevirtual 489, 3) := by decide +kernel
theorem dX12_day_44 : decode cX12_day 44 = .ok (.istore_n 2, 1) := by decide +kernel
theorem dX12_day_45 : decode cX12_day 45 = .ok (.iload_n 2, 1) := by decide +kernel
theorem dX12_day_46 : decode cX12_day 46 = .ok (.iconst (-1), 1) := by decide +kernel
theorem dX12_day_47 : decode cX12_day 47 = .ok (.if_icmp .eq 8, 3) := by decide +kernel
theorem dX12_day_50 : decode cX12_day 50 = .ok (.aload_n 0, 1) := by decide +kernel
theorem dX12_day_51 : decode cX12_day 51 = .ok (.iload_n 2, 1) := by decide +kernel
theorem dX12_day_52 : decode cX12_day 52 = .ok (.invokevirtual 504, 3) := by decide +kernel
theorem dX12_day_55 : decode cX12_day 55 = .ok (.iinc 1 1, 3) := by decide +kernel
theorem dX12_day_58 : decode cX12_day 58 = .ok (.goto (-30), 3) := by decide +kernel
theorem dX12_day_61 : decode cX12_day 61 = .ok (.aload_n 0, 1) := by decide +kernel
theorem dX12_day_62 : decode cX12_day 62 = .ok (.invokevirtual 507, 3) := by decide +kernel
theorem dX12_day_65 : decode cX12_day 65 = .ok (.aload_n 0, 1) := by decide +kernel
theorem dX12_day_66 : decode cX12_day 66 = .ok (.invokevirtual 510, 3) := by decide +kernel
theorem dX12_day_69 : decode cX12_day 69 = .ok (.aload_n 0, 1) := by decide +kernel
theorem dX12_day_70 : decode cX12_day 70 = .ok (.invokevirtual 513, 3) := by decide +kernel
theorem dX12_day_73 : decode cX12_day 73 = .ok (.iconst 0, 1) := by decide +kernel
theorem dX12_day_74 : decode cX12_day 74 = .ok (.istore_n 1, 1) := by decide +kernel
theorem dX12_day_75 : decode cX12_day 75 = .ok (.iload_n 1, 1) := by decide +kernel
theorem dX12_day_76 : decode cX12_day 76 = .ok (.aload_n 0, 1) := by decide +kernel
theorem dX12_day_77 : decode cX12_day 77 = .ok (.getfield 431, 3) := by decide +kernel
theorem dX12_day_80 : decode cX12_day 80 = .ok (.if_icmp .ge 53, 3) := by decide +kernel
theorem dX12_day_83 : decode cX12_day 83 = .ok (.aload_n 0, 1) := by decide +kernel
theorem dX12_day_84 : decode cX12_day 84 = .ok (.getfield 142, 3) := by decide +kernel
theorem dX12_day_87 : decode cX12_day 87 = .ok (.iload_n 1, 1) := by decide +kernel
theorem dX12_day_88 : decode cX12_day 88 = .ok (.iaload, 1) := by decide +kernel
theorem dX12_day_89 : decode cX12_day 89 = .ok (.iconst 5, 1) := by decide +kernel
theorem dX12_day_90 : decode cX12_day 90 = .ok (.if_icmp .gt 37, 3) := by decide +kernel
theorem dX12_day_93 : decode cX12_day 93 = .ok (.aload_n 0, 1) := by decide +kernel
theorem dX12_day_94 : decode cX12_day 94 = .ok (.getfield 163, 3) := by decide +kernel
theorem dX12_day_97 : decode cX12_day 97 = .ok (.bipush 6, 2) := by decide +kernel
theorem dX12_day_99 : decode cX12_day 99 = .ok (.iload_n 1, 1) := by decide +kernel
theorem dX12_day_100 : decode cX12_day 100 = .ok (.imul, 1) := by decide +kernel
theorem dX12_day_101 : decode cX12_day 101 = .ok (.aload_n 0, 1) := by decide +kernel
theorem dX12_day_102 : decode cX12_day 102 = .ok (.getfield 142, 3) := by decide +kernel
theorem dX12_day_105 : decode cX12_day 105 = .ok (.iload_n 1, 1) := by decide +kernel
theorem dX12_day_106 : decode cX12_day 106 = .ok (.iaload, 1) := by decide +kernel
theorem dX12_day_107 : decode cX12_day 107 = .ok (.iadd, 1) := by decide +kernel
theorem dX12_day_108 : decode cX12_day 108 = .ok (.aload_n 0, 1) := by decide +kernel
theorem dX12_day_109 : decode cX12_day 109 = .ok (.getfield 163, 3) := by decide +kernel
theorem dX12_day_112 : decode cX12_day 112 = .ok (.bipush 6, 2) := by decide +kernel
theorem dX12_day_114 : decode cX12_day 114 = .ok (.iload_n 1, 1) := by decide +kernel
theorem dX12_day_115 : decode cX12_day 115 = .ok (.imul, 1) := by decide +kernel
theorem dX12_day_116 : decode cX12_day 116 = .ok (.aload_n 0, 1) := by decide +kernel
theorem dX12_day_117 : decode cX12_day 117 = .ok (.getfield 142, 3) := by decide +kernel
theorem dX12_day_120 : decode cX12_day 120 = .ok (.iload_n 1, 1) := by decide +kernel
theorem dX12_day_121 : decode cX12_day 121 = .ok (.iaload, 1) := by decide +kernel
theorem dX12_day_122 : decode cX12_day 122 = .ok (.iadd, 1) := by decide +kernel
theorem dX12_day_123 : decode cX12_day 123 = .ok (.iaload, 1) := by decide +kernel
theorem dX12_day_124 : decode cX12_day 124 = .ok (.iconst 1, 1) := by decide +kernel
theorem dX12_day_125 : decode cX12_day 125 = .ok (.iadd, 1) := by decide +kernel
theorem dX12_day_126 : decode cX12_day 126 = .ok (.iastore, 1) := by decide +kernel
theorem dX12_day_127 : decode cX12_day 127 = .ok (.iinc 1 1, 3) := by decide +kernel
theorem dX12_day_130 : decode cX12_day 130 = .ok (.goto (-55), 3) := by decide +kernel
theorem dX12_day_133 : decode cX12_day 133 = .ok (.aload_n 0, 1) := by decide +kernel
theorem dX12_day_134 : decode cX12_day 134 = .ok (.getfield 281, 3) := by decide +kernel
theorem dX12_day_137 : decode cX12_day 137 = .ok (.ireturn, 1) := by decide +kernel
theorem dX12_lag_0 : decode cX12_lag 0 = .ok (.iload_n 1, 1) := by decide +kernel
theorem dX12_lag_1 : decode cX12_lag 1 = .ok (.iconst 0, 1) := by decide +kernel
theorem dX12_lag_2 : decode cX12_lag 2 = .ok (.iconst 5, 1) := by decide +kernel
theorem dX12_lag_3 : decode cX12_lag 3 = .ok (.invokestatic 260, 3) := by decide +kernel
theorem dX12_lag_6 : decode cX12_lag 6 = .ok (.ifCond .ne 5, 3) := by decide +kernel
theorem dX12_lag_9 : decode cX12_lag 9 = .ok (.iconst (-1), 1) := by decide +kernel
theorem dX12_lag_10 : decode cX12_lag 10 = .ok (.ireturn, 1) := by decide +kernel
theorem dX12_lag_11 : decode cX12_lag 11 = .ok (.iconst 0, 1) := by decide +kernel
theorem dX12_lag_12 : decode cX12_lag 12 = .ok (.istore_n 2, 1) := by decide +kernel
theorem dX12_lag_13 : decode cX12_lag 13 = .ok (.iconst 0, 1) := by decide +kernel
theorem dX12_lag_14 : decode cX12_lag 14 = .ok (.istore_n 3, 1) := by decide +kernel
theorem dX12_lag_15 : decode cX12_lag 15 = .ok (.iload_n 3, 1) := by decide +kernel
theorem dX12_lag_16 : decode cX12_lag 16 = .ok (.aload_n 0, 1) := by decide +kernel
theorem dX12_lag_17 : decode cX12_lag 17 = .ok (.getfield 431, 3) := by decide +kernel
theorem dX12_lag_20 : decode cX12_lag 20 = .ok (.if_icmp .ge 23, 3) := by decide +kernel
theorem dX12_lag_23 : decode cX12_lag 23 = .ok (.iload_n 2, 1) := by decide +kernel
theorem dX12_lag_24 : decode cX12_lag 24 = .ok (.aload_n 0, 1) := by decide +kernel
theorem dX12_lag_25 : decode cX12_lag 25 = .ok (.getfield 163, 3) := by decide +kernel
theorem dX12_lag_28 : decode cX12_lag 28 = .ok (.bipush 6, 2) := by decide +kernel
theorem dX12_lag_30 : decode cX12_lag 30 = .ok (.iload_n 3, 1) := by decide +kernel
theorem dX12_lag_31 : decode cX12_lag 31 = .ok (.imul, 1) := by decide +kernel
theorem dX12_lag_32 : decode cX12_lag 32 = .ok (.iload_n 1, 1) := by decide +kernel
theorem dX12_lag_33 : decode cX12_lag 33 = .ok (.iadd, 1) := by decide +kernel
theorem dX12_lag_34 : decode cX12_lag 34 = .ok (.iaload, 1) := by decide +kernel
theorem dX12_lag_35 : decode cX12_lag 35 = .ok (.iadd, 1) := by decide +kernel
theorem dX12_lag_36 : decode cX12_lag 36 = .ok (.istore_n 2, 1) := by decide +kernel
theorem dX12_lag_37 : decode cX12_lag 37 = .ok (.iinc 3 1, 3) := by decide +kernel
theorem dX12_lag_40 : decode cX12_lag 40 = .ok (.goto (-25), 3) := by decide +kernel
theorem dX12_lag_43 : decode cX12_lag 43 = .ok (.iload_n 2, 1) := by decide +kernel
theorem dX12_lag_44 : decode cX12_lag 44 = .ok (.ireturn, 1) := by decide +kernel
theorem dX12_hints_0 : decode cX12_hints 0 = .ok (.aload_n 0, 1) := by decide +kernel
theorem dX12_hints_1 : decode cX12_hints 1 = .ok (.iload_n 1, 1) := by decide +kernel
theorem dX12_hints_2 : decode cX12_hints 2 = .ok (.invokevirtual 304, 3) := by decide +kernel
theorem dX12_hints_5 : decode cX12_hints 5 = .ok (.ifCond .eq 12, 3) := by decide +kernel
theorem dX12_hints_8 : decode cX12_hints 8 = .ok (.aload_n 0, 1) := by decide +kernel
theorem dX12_hints_9 : decode cX12_hints 9 = .ok (.getfield 43, 3) := by decide +kernel
theorem dX12_hints_12 : decode cX12_hints 12 = .ok (.iload_n 1, 1) := by decide +kernel
theorem dX12_hints_13 : decode cX12_hints 13 = .ok (.iaload, 1) := by decide +kernel
theorem dX12_hints_14 : decode cX12_hints 14 = .ok (.goto 4, 3) := by decide +kernel
theorem dX12_hints_17 : decode cX12_hints 17 = .ok (.iconst (-1), 1) := by decide +kernel
theorem dX12_hints_18 : decode cX12_hints 18 = .ok (.ireturn, 1) := by decide +kernel
theorem dX12_about_0 : decode cX12_about 0 = .ok (.aload_n 0, 1) := by decide +kernel
theorem dX12_about_1 : decode cX12_about 1 = .ok (.iload_n 1, 1) := by decide +kernel
theorem dX12_about_2 : decode cX12_about 2 = .ok (.invokevirtual 440, 3) := by decide +kernel
theorem dX12_about_5 : decode cX12_about 5 = .ok (.ifCond .ne 5, 3) := by decide +kernel
theorem dX12_about_8 : decode cX12_about 8 = .ok (.iconst (-1), 1) := by decide +kernel
theorem dX12_about_9 : decode cX12_about 9 = .ok (.ireturn, 1) := by decide +kernel
theorem dX12_about_10 : decode cX12_about 10 = .ok (.iload_n 2, 1) := by decide +kernel
theorem dX12_about_11 : decode cX12_about 11 = .ok (.tableswitch 112 0 8 #[49, 56, 63, 70, 77, 84, 91, 98, 105], 49) := by decide +kernel
theorem dX12_about_60 : decode cX12_about 60 = .ok (.aload_n 0, 1) := by decide +kernel
theorem dX12_about_61 : decode cX12_about 61 = .ok (.getfield 142, 3) := by decide +kernel
theorem dX12_about_64 : decode cX12_about 64 = .ok (.iload_n 1, 1) := by decide +kernel
theorem dX12_about_65 : decode cX12_about 65 = .ok (.iaload, 1) := by decide +kernel
theorem dX12_about_66 : decode cX12_about 66 = .ok (.ireturn, 1) := by decide +kernel
theorem dX12_about_67 : decode cX12_about 67 = .ok (.aload_n 0, 1) := by decide +kernel
theorem dX12_about_68 : decode cX12_about 68 = .ok (.getfield 133, 3) := by decide +kernel
theorem dX12_about_71 : decode cX12_about 71 = .ok (.iload_n 1, 1) := by decide +kernel
theorem dX12_about_72 : decode cX12_about 72 = .ok (.iaload, 1) := by decide +kernel
theorem dX12_about_73 : decode cX12_about 73 = .ok (.ireturn, 1) := by decide +kernel
theorem dX12_about_74 : decode cX12_about 74 = .ok (.aload_n 0, 1) := by decide +kernel
theorem dX12_about_75 : decode cX12_about 75 = .ok (.getfield 136, 3) := by decide +kernel
theorem dX12_about_78 : decode cX12_about 78 = .ok (.iload_n 1, 1) := by decide +kernel
theorem dX12_about_79 : decode cX12_about 79 = .ok (.iaload, 1) := by decide +kernel
theorem dX12_about_80 : decode cX12_about 80 = .ok (.ireturn, 1) := by decide +kernel
theorem dX12_about_81 : decode cX12_about 81 = .ok (.aload_n 0, 1) := by decide +kernel
theorem dX12_about_82 : decode cX12_about 82 = .ok (.getfield 139, 3) := by decide +kernel
theorem dX12_about_85 : decode cX12_about 85 = .ok (.iload_n 1, 1) := by decide +kernel
theorem dX12_about_86 : decode cX12_about 86 = .ok (.iaload, 1) := by decide +kernel
theorem dX12_about_87 : decode cX12_about 87 = .ok (.ireturn, 1) := by decide +kernel
theorem dX12_about_88 : decode cX12_about 88 = .ok (.aload_n 0, 1) := by decide +kernel
theorem dX12_about_89 : decode cX12_about 89 = .ok (.getfield 145, 3) := by decide +kernel
theorem dX12_about_92 : decode cX12_about 92 = .ok (.iload_n 1, 1) := by decide +kernel
theorem dX12_about_93 : decode cX12_about 93 = .ok (.iaload, 1) := by decide +kernel
theorem dX12_about_94 : decode cX12_about 94 = .ok (.ireturn, 1) := by decide +kernel
theorem dX12_about_95 : decode cX12_about 95 = .ok (.aload_n 0, 1) := by decide +kernel
theorem dX12_about_96 : decode cX12_about 96 = .ok (.getfield 148, 3) := by decide +kernel
theorem dX12_about_99 : decode cX12_about 99 = .ok (.iload_n 1, 1) := by decide +kernel
theorem dX12_about_100 : decode cX12_about 100 = .ok (.iaload, 1) := by decide +kernel
theorem dX12_about_101 : decode cX12_about 101 = .ok (.ireturn, 1) := by decide +kernel
theorem dX12_about_102 : decode cX12_about 102 = .ok (.aload_n 0, 1) := by decide +kernel
theorem dX12_about_103 : decode cX12_about 103 = .ok (.getfield 151, 3) := by decide +kernel
theorem dX12_about_106 : decode cX12_about 106 = .ok (.iload_n 1, 1) := by decide +kernel
theorem dX12_about_107 : decode cX12_about 107 = .ok (.iaload, 1) := by decide +kernel
theorem dX12_about_108 : decode cX12_about 108 = .ok (.ireturn, 1) := by decide +kernel
theorem dX12_about_109 : decode cX12_about 109 = .ok (.aload_n 0, 1) := by decide +kernel
theorem dX12_about_110 : decode cX12_about 110 = .ok (.getfield 154, 3) := by decide +kernel
theorem dX12_about_113 : decode cX12_about 113 = .ok (.iload_n 1, 1) := by decide +kernel
theorem dX12_about_114 : decode cX12_about 114 = .ok (.iaload, 1) := by decide +kernel
theorem dX12_about_115 : decode cX12_about 115 = .ok (.ireturn, 1) := by decide +kernel
theorem dX12_about_116 : decode cX12_about 116 = .ok (.aload_n 0, 1) := by decide +kernel
theorem dX12_about_117 : decode cX12_about 117 = .ok (.getfield 157, 3) := by decide +kernel
theorem dX12_about_120 : decode cX12_about 120 = .ok (.iload_n 1, 1) := by decide +kernel
theorem dX12_about_121 : decode cX12_about 121 = .ok (.iaload, 1) := by decide +kernel
theorem dX12_about_122 : decode cX12_about 122 = .ok (.ireturn, 1) := by decide +kernel
theorem dX12_about_123 : decode cX12_about 123 = .ok (.iload_n 2, 1) := by decide +kernel
theorem dX12_about_124 : decode cX12_about 124 = .ok (.bipush 10, 2) := by decide +kernel
theorem dX12_about_126 : decode cX12_about 126 = .ok (.bipush 15, 2) := by decide +kernel
theorem dX12_about_128 : decode cX12_about 128 = .ok (.invokestatic 260, 3) := by decide +kernel
theorem dX12_about_131 : decode cX12_about 131 = .ok (.ifCond .eq 18, 3) := by decide +kernel
theorem dX12_about_134 : decode cX12_about 134 = .ok (.aload_n 0, 1) := by decide +kernel
theorem dX12_about_135 : decode cX12_about 135 = .ok (.getfield 163, 3) := by decide +kernel
theorem dX12_about_138 : decode cX12_about 138 = .ok (.bipush 6, 2) := by decide +kernel
theorem dX12_about_140 : decode cX12_about 140 = .ok (.iload_n 1, 1) := by decide +kernel
theorem dX12_about_141 : decode cX12_about 141 = .ok (.imul, 1) := by decide +kernel
theorem dX12_about_142 : decode cX12_about 142 = .ok (.iload_n 2, 1) := by decide +kernel
theorem dX12_about_143 : decode cX12_about 143 = .ok (.iadd, 1) := by decide +kernel
theorem dX12_about_144 : decode cX12_about 144 = .ok (.bipush 10, 2) := by decide +kernel
theorem dX12_about_146 : decode cX12_about 146 = .ok (.isub, 1) := by decide +kernel
theorem dX12_about_147 : decode cX12_about 147 = .ok (.iaload, 1) := by decide +kernel
theorem dX12_about_148 : decode cX12_about 148 = .ok (.ireturn, 1) := by decide +kernel
theorem dX12_about_149 : decode cX12_about 149 = .ok (.iload_n 2, 1) := by decide +kernel
theorem dX12_about_150 : decode cX12_about 150 = .ok (.bipush 20, 2) := by decide +kernel
theorem dX12_about_152 : decode cX12_about 152 = .ok (.bipush 19, 2) := by decide +kernel
theorem dX12_about_154 : decode cX12_about 154 = .ok (.aload_n 0, 1) := by decide +kernel
theorem dX12_about_155 : decode cX12_about 155 = .ok (.getfield 154, 3) := by decide +kernel
theorem dX12_about_158 : decode cX12_about 158 = .ok (.iload_n 1, 1) := by decide +kernel
theorem dX12_about_159 : decode cX12_about 159 = .ok (.iaload, 1) := by decide +kernel
theorem dX12_about_160 : decode cX12_about 160 = .ok (.iadd, 1) := by decide +kernel
theorem dX12_about_161 : decode cX12_about 161 = .ok (.invokestatic 260, 3) := by decide +kernel
theorem dX12_about_164 : decode cX12_about 164 = .ok (.ifCond .eq 21, 3) := by decide +kernel
theorem dX12_about_167 : decode cX12_about 167 = .ok (.aload_n 0, 1) := by decide +kernel
theorem dX12_about_168 : decode cX12_about 168 = .ok (.getfield 166, 3) := by decide +kernel
theorem dX12_about_171 : decode cX12_about 171 = .ok (.sipush 160, 3) := by decide +kernel
theorem dX12_about_174 : decode cX12_about 174 = .ok (.iload_n 1, 1) := by decide +kernel
theorem dX12_about_175 : decode cX12_about 175 = .ok (.imul, 1) := by decide +kernel
theorem dX12_about_176 : decode cX12_about 176 = .ok (.iload_n 2, 1) := by decide +kernel
theorem dX12_about_177 : decode cX12_about 177 = .ok (.iadd, 1) := by decide +kernel
theorem dX12_about_178 : decode cX12_about 178 = .ok (.bipush 20, 2) := by decide +kernel
theorem dX12_about_180 : decode cX12_about 180 = .ok (.isub, 1) := by decide +kernel
theorem dX12_about_181 : decode cX12_about 181 = .ok (.baload, 1) := by decide +kernel
theorem dX12_about_182 : decode cX12_about 182 = .ok (.goto 4, 3) := by decide +kernel
theorem dX12_about_185 : decode cX12_about 185 = .ok (.iconst (-1), 1) := by decide +kernel
theorem dX12_about_186 : decode cX12_about 186 = .ok (.ireturn, 1) := by decide +kernel
theorem dX12_hadNow_0 : decode cX12_hadNow 0 = .ok (.aload_n 0, 1) := by decide +kernel
theorem dX12_hadNow_1 : decode cX12_hadNow 1 = .ok (.getfield 218, 3) := by decide +kernel
theorem dX12_hadNow_4 : decode cX12_hadNow 4 = .ok (.iload_n 1, 1) := by decide +kernel
theorem dX12_hadNow_5 : decode cX12_hadNow 5 = .ok (.iaload, 1) := by decide +kernel
theorem dX12_hadNow_6 : decode cX12_hadNow 6 = .ok (.aload_n 0, 1) := by decide +kernel
theorem dX12_hadNow_7 : decode cX12_hadNow 7 = .ok (.getfield 281, 3) := by decide +kernel
theorem dX12_hadNow_10 : decode cX12_hadNow 10 = .ok (.sipush 360, 3) := by decide +kernel
theorem dX12_hadNow_13 : decode cX12_hadNow 13 = .ok (.idiv, 1) := by decide +kernel
theorem dX12_hadNow_14 : decode cX12_hadNow 14 = .ok (.if_icmp .ne 12, 3) := by decide +kernel
theorem dX12_hadNow_17 : decode cX12_hadNow 17 = .ok (.aload_n 0, 1) := by decide +kernel
theorem dX12_hadNow_18 : decode cX12_hadNow 18 = .ok (.getfield 215, 3) := by decide +kernel
theorem dX12_hadNow_21 : decode cX12_hadNow 21 = .ok (.iload_n 1, 1) := by decide +kernel
theorem dX12_hadNow_22 : decode cX12_hadNow 22 = .ok (.iaload, 1) := by decide +kernel
theorem dX12_hadNow_23 : decode cX12_hadNow 23 = .ok (.goto 4, 3) := by decide +kernel
theorem dX12_hadNow_26 : decode cX12_hadNow 26 = .ok (.iconst 0, 1) := by decide +kernel
theorem dX12_hadNow_27 : decode cX12_hadNow 27 = .ok (.ireturn, 1) := by decide +kernel
theorem dX12_gift_0 : decode cX12_gift 0 = .ok (.aload_n 0, 1) := by decide +kernel
theorem dX12_gift_1 : decode cX12_gift 1 = .ok (.iload_n 1, 1) := by decide +kernel
theorem dX12_gift_2 : decode cX12_gift 2 = .ok (.invokevirtual 304, 3) := by decide +kernel
theorem dX12_gift_5 : decode cX12_gift 5 = .ok (.ifCond .eq 22, 3) := by decide +kernel
theorem dX12_gift_8 : decode cX12_gift 8 = .ok (.aload_n 0, 1) := by decide +kernel
theorem dX12_gift_9 : decode cX12_gift 9 = .ok (.iload_n 1, 1) := by decide +kernel
theorem dX12_gift_10 : decode cX12_gift 10 = .ok (.invokevirtual 277, 3) := by decide +kernel
theorem dX12_gift_13 : decode cX12_gift 13 = .ok (.ifCond .eq 14, 3) := by decide +kernel
theorem dX12_gift_16 : decode cX12_gift 16 = .ok (.iload_n 2, 1) := by decide +kernel
theorem dX12_gift_17 : decode cX12_gift 17 = .ok (.iconst 1, 1) := by decide +kernel
theorem dX12_gift_18 : decode cX12_gift 18 = .ok (.ldc_w 307, 3) := by decide +kernel
theorem dX12_gift_21 : decode cX12_gift 21 = .ok (.invokestatic 260, 3) := by decide +kernel
theorem dX12_gift_24 : decode cX12_gift 24 = .ok (.ifCond .ne 5, 3) := by decide +kernel
theorem dX12_gift_27 : decode cX12_gift 27 = .ok (.iconst (-1), 1) := by decide +kernel
theorem dX12_gift_28 : decode cX12_gift 28 = .ok (.ireturn, 1) := by decide +kernel
theorem dX12_gift_29 : decode cX12_gift 29 = .ok (.aload_n 0, 1) := by decide +kernel
theorem dX12_gift_30 : decode cX12_gift 30 = .ok (.getfield 34, 3) := by decide +kernel
theorem dX12_gift_33 : decode cX12_gift 33 = .ok (.iload_n 1, 1) := by decide +kernel
theorem dX12_gift_34 : decode cX12_gift 34 = .ok (.iaload, 1) := by decide +kernel
theorem dX12_gift_35 : decode cX12_gift 35 = .ok (.istore_n 3, 1) := by decide +kernel
theorem dX12_gift_36 : decode cX12_gift 36 = .ok (.iload_n 2, 1) := by decide +kernel
theorem dX12_gift_37 : decode cX12_gift 37 = .ok (.aload_n 0, 1) := by decide +kernel
theorem dX12_gift_38 : decode cX12_gift 38 = .ok (.getfield 49, 3) := by decide +kernel
theorem dX12_gift_41 : decode cX12_gift 41 = .ok (.iconst 5, 1) := by decide +kernel
theorem dX12_gift_42 : decode cX12_gift 42 = .ok (.iaload, 1) := by decide +kernel
theorem dX12_gift_43 : decode cX12_gift 43 = .ok (.imul, 1) := by decide +kernel
theorem dX12_gift_44 : decode cX12_gift 44 = .ok (.bipush 100, 2) := by decide +kernel
theorem dX12_gift_46 : decode cX12_gift 46 = .ok (.idiv, 1) := by decide +kernel
theorem dX12_gift_47 : decode cX12_gift 47 = .ok (.istore 4, 2) := by decide +kernel
theorem dX12_gift_49 : decode cX12_gift 49 = .ok (.iload_n 2, 1) := by decide +kernel
theorem dX12_gift_50 : decode cX12_gift 50 = .ok (.aload_n 0, 1) := by decide +kernel
theorem dX12_gift_51 : decode cX12_gift 51 = .ok (.getfield 49, 3) := by decide +kernel
theorem dX12_gift_54 : decode cX12_gift 54 = .ok (.bipush 6, 2) := by decide +kernel
theorem dX12_gift_56 : decode cX12_gift 56 = .ok (.iaload, 1) := by decide +kernel
theorem dX12_gift_57 : decode cX12_gift 57 = .ok (.imul, 1) := by decide +kernel
theorem dX12_gift_58 : decode cX12_gift 58 = .ok (.bipush 100, 2) := by decide +kernel
theorem dX12_gift_60 : decode cX12_gift 60 = .ok (.idiv, 1) := by decide +kernel
theorem dX12_gift_61 : decode cX12_gift 61 = .ok (.istore 5, 2) := by decide +kernel
theorem dX12_gift_63 : decode cX12_gift 63 = .ok (.iload_n 2, 1) := by decide +kernel
theorem dX12_gift_64 : decode cX12_gift 64 = .ok (.iload 4, 2) := by decide +kernel
theorem dX12_gift_66 : decode cX12_gift 66 = .ok (.isub, 1) := by decide +kernel
theorem dX12_gift_67 : decode cX12_gift 67 = .ok (.iload 5, 2) := by decide +kernel
theorem dX12_gift_69 : decode cX12_gift 69 = .ok (.isub, 1) := by decide +kernel
theorem dX12_gift_70 : decode cX12_gift 70 = .ok (.istore 6, 2) := by decide +kernel
theorem dX12_gift_72 : decode cX12_gift 72 = .ok (.aload_n 0, 1) := by decide +kernel
theorem dX12_gift_73 : decode cX12_gift 73 = .ok (.getfield 49, 3) := by decide +kernel
theorem dX12_gift_76 : decode cX12_gift 76 = .ok (.bipush 7, 2) := by decide +kernel
theorem dX12_gift_78 : decode cX12_gift 78 = .ok (.iaload, 1) := by decide +kernel
theorem dX12_gift_79 : decode cX12_gift 79 = .ok (.aload_n 0, 1) := by decide +kernel
theorem dX12_gift_80 : decode cX12_gift 80 = .ok (.iload_n 3, 1) := by decide +kernel
theorem dX12_gift_81 : decode cX12_gift 81 = .ok (.invokevirtual 516, 3) := by decide +kernel
theorem dX12_gift_84 : decode cX12_gift 84 = .ok (.isub, 1) := by decide +kernel
theorem dX12_gift_85 : decode cX12_gift 85 = .ok (.istore 7, 2) := by decide +kernel
theorem dX12_gift_87 : decode cX12_gift 87 = .ok (.iload 7, 2) := by decide +kernel
theorem dX12_gift_89 : decode cX12_gift 89 = .ok (.ifCond .ge 7, 3) := by decide +kernel
theorem dX12_gift_92 : decode cX12_gift 92 = .ok (.iconst 0, 1) := by decide +kernel
theorem dX12_gift_93 : decode cX12_gift 93 = .ok (.goto 17, 3) := by decide +kernel
theorem dX12_gift_96 : decode cX12_gift 96 = .ok (.iload 6, 2) := by decide +kernel
theorem dX12_gift_98 : decode cX12_gift 98 = .ok (.iload 7, 2) := by decide +kernel
theorem dX12_gift_100 : decode cX12_gift 100 = .ok (.if_icmp .ge 8, 3) := by decide +kernel
theorem dX12_gift_103 : decode cX12_gift 103 = .ok (.iload 6, 2) := by decide +kernel
theorem dX12_gift_105 : decode cX12_gift 105 = .ok (.goto 5, 3) := by decide +kernel
theorem dX12_gift_108 : decode cX12_gift 108 = .ok (.iload 7, 2) := by decide +kernel
theorem dX12_gift_110 : decode cX12_gift 110 = .ok (.istore 8, 2) := by decide +kernel
theorem dX12_gift_112 : decode cX12_gift 112 = .ok (.aload_n 0, 1) := by decide +kernel
theorem dX12_gift_113 : decode cX12_gift 113 = .ok (.aload_n 0, 1) := by decide +kernel
theorem dX12_gift_114 : decode cX12_gift 114 = .ok (.getfield 519, 3) := by decide +kernel
theorem dX12_gift_117 : decode cX12_gift 117 = .ok (.iload 4, 2) := by decide +kernel
theorem dX12_gift_119 : decode cX12_gift 119 = .ok (.i2l, 1) := by decide +kernel
theorem dX12_gift_120 : decode cX12_gift 120 = .ok (.ladd, 1) := by decide +kernel
theorem dX12_gift_121 : decode cX12_gift 121 = .ok (.putfield 519, 3) := by decide +kernel
theorem dX12_gift_124 : decode cX12_gift 124 = .ok (.aload_n 0, 1) := by decide +kernel
theorem dX12_gift_125 : decode cX12_gift 125 = .ok (.getfield 209, 3) := by decide +kernel
theorem dX12_gift_128 : decode cX12_gift 128 = .ok (.aload_n 0, 1) := by decide +kernel
theorem dX12_gift_129 : decode cX12_gift 129 = .ok (.getfield 19, 3) := by decide +kernel
theorem dX12_gift_132 : decode cX12_gift 132 = .ok (.iload_n 3, 1) := by decide +kernel
theorem dX12_gift_133 : decode cX12_gift 133 = .ok (.iaload, 1) := by decide +kernel
theorem dX12_gift_134 : decode cX12_gift 134 = .ok (.aload_n 0, 1) := by decide +kernel
theorem dX12_gift_135 : decode cX12_gift 135 = .ok (.getfield 209, 3) := by decide +kernel
theorem dX12_gift_138 : decode cX12_gift 138 = .ok (.aload_n 0, 1) := by decide +kernel
theorem dX12_gift_139 : decode cX12_gift 139 = .ok (.getfield 19, 3) := by decide +kernel
theorem dX12_gift_142 : decode cX12_gift 142 = .ok (.iload_n 3, 1) := by decide +kernel
theorem dX12_gift_143 : decode cX12_gift 143 = .ok (.iaload, 1) := by decide +kernel
theorem dX12_gift_144 : decode cX12_gift 144 = .ok (.laload, 1) := by decide +kernel
theorem dX12_gift_145 : decode cX12_gift 145 = .ok (.iload 5, 2) := by decide +kernel
theorem dX12_gift_147 : decode cX12_gift 147 = .ok (.i2l, 1) := by decide +kernel
theorem dX12_gift_148 : decode cX12_gift 148 = .ok (.ladd, 1) := by decide +kernel
theorem dX12_gift_149 : decode cX12_gift 149 = .ok (.iload 6, 2) := by decide +kernel
theorem dX12_gift_151 : decode cX12_gift 151 = .ok (.i2l, 1) := by decide +kernel
theorem dX12_gift_152 : decode cX12_gift 152 = .ok (.ladd, 1) := by decide +kernel
theorem dX12_gift_153 : decode cX12_gift 153 = .ok (.iload 8, 2) := by decide +kernel
theorem dX12_gift_155 : decode cX12_gift 155 = .ok (.i2l, 1) := by decide +kernel
theorem dX12_gift_156 : decode cX12_gift 156 = .ok (.lsub, 1) := by decide +kernel
theorem dX12_gift_157 : decode cX12_gift 157 = .ok (.lastore, 1) := by decide +kernel
theorem dX12_gift_158 : decode cX12_gift 158 = .ok (.aload_n 0, 1) := by decide +kernel
theorem dX12_gift_159 : decode cX12_gift 159 = .ok (.aload_n 0, 1) := by decide +kernel
theorem dX12_gift_160 : decode cX12_gift 160 = .ok (.getfield 523, 3) := by decide +kernel
theorem dX12_gift_163 : decode cX12_gift 163 = .ok (.iload_n 2, 1) := by decide +kernel
theorem dX12_gift_164 : decode cX12_gift 164 = .ok (.i2l, 1) := by decide +kernel
theorem dX12_gift_165 : decode cX12_gift 165 = .ok (.ladd, 1) := by decide +kernel
theorem dX12_gift_166 : decode cX12_gift 166 = .ok (.putfield 523, 3) := by decide +kernel
theorem dX12_gift_169 : decode cX12_gift 169 = .ok (.aload_n 0, 1) := by decide +kernel
theorem dX12_gift_170 : decode cX12_gift 170 = .ok (.getfield 215, 3) := by decide +kernel
theorem dX12_gift_173 : decode cX12_gift 173 = .ok (.iload_n 3, 1) := by decide +kernel
theorem dX12_gift_174 : decode cX12_gift 174 = .ok (.aload_n 0, 1) := by decide +kernel
theorem dX12_gift_175 : decode cX12_gift 175 = .ok (.iload_n 3, 1) := by decide +kernel
theorem dX12_gift_176 : decode cX12_gift 176 = .ok (.invokevirtual 516, 3) := by decide +kernel
theorem dX12_gift_179 : decode cX12_gift 179 = .ok (.iload 8, 2) := by decide +kernel
theorem dX12_gift_181 : decode cX12_gift 181 = .ok (.iadd, 1) := by decide +kernel
theorem dX12_gift_182 : decode cX12_gift 182 = .ok (.iastore, 1) := by decide +kernel
theorem dX12_gift_183 : decode cX12_gift 183 = .ok (.aload_n 0, 1) := by decide +kernel
theorem dX12_gift_184 : decode cX12_gift 184 = .ok (.getfield 218, 3) := by decide +kernel
theorem dX12_gift_187 : decode cX12_gift 187 = .ok (.iload_n 3, 1) := by decide +kernel
theorem dX12_gift_188 : decode cX12_gift 188 = .ok (.aload_n 0, 1) := by decide +kernel
theorem dX12_gift_189 : decode cX12_gift 189 = .ok (.getfield 281, 3) := by decide +kernel
theorem dX12_gift_192 : decode cX12_gift 192 = .ok (.sipush 360, 3) := by decide +kernel
theorem dX12_gift_195 : decode cX12_gift 195 = .ok (.idiv, 1) := by decide +kernel
theorem dX12_gift_196 : decode cX12_gift 196 = .ok (.iastore, 1) := by decide +kernel
theorem dX12_gift_197 : decode cX12_gift 197 = .ok (.aload_n 0, 1) := by decide +kernel
theorem dX12_gift_198 : decode cX12_gift 198 = .ok (.getfield 212, 3) := by decide +kernel
theorem dX12_gift_201 : decode cX12_gift 201 = .ok (.iload_n 3, 1) := by decide +kernel
theorem dX12_gift_202 : decode cX12_gift 202 = .ok (.aload_n 0, 1) := by decide +kernel
theorem dX12_gift_203 : decode cX12_gift 203 = .ok (.getfield 212, 3) := by decide +kernel
theorem dX12_gift_206 : decode cX12_gift 206 = .ok (.iload_n 3, 1) := by decide +kernel
theorem dX12_gift_207 : decode cX12_gift 207 = .ok (.laload, 1) := by decide +kernel
theorem dX12_gift_208 : decode cX12_gift 208 = .ok (.iload 8, 2) := by decide +kernel
theorem dX12_gift_210 : decode cX12_gift 210 = .ok (.i2l, 1) := by decide +kernel
theorem dX12_gift_211 : decode cX12_gift 211 = .ok (.ladd, 1) := by decide +kernel
theorem dX12_gift_212 : decode cX12_gift 212 = .ok (.lastore, 1) := by decide +kernel
theorem dX12_gift_213 : decode cX12_gift 213 = .ok (.iload 8, 2) := by decide +kernel
theorem dX12_gift_215 : decode cX12_gift 215 = .ok (.ireturn, 1) := by decide +kernel
theorem dX12_coin_0 : decode cX12_coin 0 = .ok (.iload_n 1, 1) := by decide +kernel
theorem dX12_coin_1 : decode cX12_coin 1 = .ok (.ifCond .ne 8, 3) := by decide +kernel
theorem dX12_coin_4 : decode cX12_coin 4 = .ok (.aload_n 0, 1) := by decide +kernel
theorem dX12_coin_5 : decode cX12_coin 5 = .ok (.getfield 519, 3) := by decide +kernel
theorem dX12_coin_8 : decode cX12_coin 8 = .ok (.lreturn, 1) := by decide +kernel
theorem dX12_coin_9 : decode cX12_coin 9 = .ok (.iload_n 1, 1) := by decide +kernel
theorem dX12_coin_10 : decode cX12_coin 10 = .ok (.iconst 1, 1) := by decide +kernel
theorem dX12_coin_11 : decode cX12_coin 11 = .ok (.if_icmp .ne 8, 3) := by decide +kernel
theorem dX12_coin_14 : decode cX12_coin 14 = .ok (.aload_n 0, 1) := by decide +kernel
theorem dX12_coin_15 : decode cX12_coin 15 = .ok (.getfield 523, 3) := by decide +kernel
theorem dX12_coin_18 : decode cX12_coin 18 = .ok (.lreturn, 1) := by decide +kernel
theorem dX12_coin_19 : decode cX12_coin 19 = .ok (.iload_n 1, 1) := by decide +kernel
theorem dX12_coin_20 : decode cX12_coin 20 = .ok (.iconst 2, 1) := by decide +kernel
theorem dX12_coin_21 : decode cX12_coin 21 = .ok (.if_icmp .ne 8, 3) := by decide +kernel
theorem dX12_coin_24 : decode cX12_coin 24 = .ok (.aload_n 0, 1) := by decide +kernel
theorem dX12_coin_25 : decode cX12_coin 25 = .ok (.getfield 526, 3) := by decide +kernel
theorem dX12_coin_28 : decode cX12_coin 28 = .ok (.lreturn, 1) := by decide +kernel
theorem dX12_coin_29 : decode cX12_coin 29 = .ok (.iload_n 1, 1) := by decide +kernel
theorem dX12_coin_30 : decode cX12_coin 30 = .ok (.bipush 10, 2) := by decide +kernel
theorem dX12_coin_32 : decode cX12_coin 32 = .ok (.bipush 9, 2) := by decide +kernel
theorem dX12_coin_34 : decode cX12_coin 34 = .ok (.aload_n 0, 1) := by decide +kernel
theorem dX12_coin_35 : decode cX12_coin 35 = .ok (.getfield 264, 3) := by decide +kernel
theorem dX12_coin_38 : decode cX12_coin 38 = .ok (.iadd, 1) := by decide +kernel
theorem dX12_coin_39 : decode cX12_coin 39 = .ok (.invokestatic 260, 3) := by decide +kernel
theorem dX12_coin_42 : decode cX12_coin 42 = .ok (.ifCond .eq 13, 3) := by decide +kernel
theorem dX12_coin_45 : decode cX12_coin 45 = .ok (.aload_n 0, 1) := by decide +kernel
theorem dX12_coin_46 : decode cX12_coin 46 = .ok (.getfield 209, 3) := by decide +kernel
theorem dX12_coin_49 : decode cX12_coin 49 = .ok (.iload_n 1, 1) := by decide +kernel
theorem dX12_coin_50 : decode cX12_coin 50 = .ok (.bipush 10, 2) := by decide +kernel
theorem dX12_coin_52 : decode cX12_coin 52 = .ok (.isub, 1) := by decide +kernel
theorem dX12_coin_53 : decode cX12_coin 53 = .ok (.laload, 1) := by decide +kernel
theorem dX12_coin_54 : decode cX12_coin 54 = .ok (.lreturn, 1) := by decide +kernel
theorem dX12_coin_55 : decode cX12_coin 55 = .ok (.iload_n 1, 1) := by decide +kernel
theorem dX12_coin_56 : decode cX12_coin 56 = .ok (.bipush 20, 2) := by decide +kernel
theorem dX12_coin_58 : decode cX12_coin 58 = .ok (.bipush 19, 2) := by decide +kernel
theorem dX12_coin_60 : decode cX12_coin 60 = .ok (.aload_n 0, 1) := by decide +kernel
theorem dX12_coin_61 : decode cX12_coin 61 = .ok (.getfield 271, 3) := by decide +kernel
theorem dX12_coin_64 : decode cX12_coin 64 = .ok (.iadd, 1) := by decide +kernel
theorem dX12_coin_65 : decode cX12_coin 65 = .ok (.invokestatic 260, 3) := by decide +kernel
theorem dX12_coin_68 : decode cX12_coin 68 = .ok (.ifCond .eq 13, 3) := by decide +kernel
theorem dX12_coin_71 : decode cX12_coin 71 = .ok (.aload_n 0, 1) := by decide +kernel
theorem dX12_coin_72 : decode cX12_coin 72 = .ok (.getfield 212, 3) := by decide +kernel
theorem dX12_coin_75 : decode cX12_coin 75 = .ok (.iload_n 1, 1) := by decide +kernel
theorem dX12_coin_76 : decode cX12_coin 76 = .ok (.bipush 20, 2) := by decide +kernel
theorem dX12_coin_78 : decode cX12_coin 78 = .ok (.isub, 1) := by decide +kernel
theorem dX12_coin_79 : decode cX12_coin 79 = .ok (.laload, 1) := by decide +kernel
theorem dX12_coin_80 : decode cX12_coin 80 = .ok (.lreturn, 1) := by decide +kernel
theorem dX12_coin_81 : decode cX12_coin 81 = .ok (.iload_n 1, 1) := by decide +kernel
theorem dX12_coin_82 : decode cX12_coin 82 = .ok (.bipush 40, 2) := by decide +kernel
theorem dX12_coin_84 : decode cX12_coin 84 = .ok (.bipush 39, 2) := by decide +kernel
theorem dX12_coin_86 : decode cX12_coin 86 = .ok (.aload_n 0, 1) := by decide +kernel
theorem dX12_coin_87 : decode cX12_coin 87 = .ok (.getfield 271, 3) := by decide +kernel
theorem dX12_coin_90 : decode cX12_coin 90 = .ok (.iadd, 1) := by decide +kernel
theorem dX12_coin_91 : decode cX12_coin 91 = .ok (.invokestatic 260, 3) := by decide +kernel
theorem dX12_coin_94 : decode cX12_coin 94 = .ok (.ifCond .eq 15, 3) := by decide +kernel
theorem dX12_coin_97 : decode cX12_coin 97 = .ok (.aload_n 0, 1) := by decide +kernel
theorem dX12_coin_98 : decode cX12_coin 98 = .ok (.iload_n 1, 1) := by decide +kernel
theorem dX12_coin_99 : decode cX12_coin 99 = .ok (.bipush 40, 2) := by decide +kernel
theorem dX12_coin_101 : decode cX12_coin 101 = .ok (.isub, 1) := by decide +kernel
theorem dX12_coin_102 : decode cX12_coin 102 = .ok (.invokevirtual 516, 3) := by decide +kernel
theorem dX12_coin_105 : decode cX12_coin 105 = .ok (.i2l, 1) := by decide +kernel
theorem dX12_coin_106 : decode cX12_coin 106 = .ok (.goto 4, 3) := by decide +kernel
theorem dX12_coin_109 : decode cX12_coin 109 = .ok (.lconst 0, 1) := by decide +kernel
theorem dX12_coin_110 : decode cX12_coin 110 = .ok (.lreturn, 1) := by decide +kernel
theorem dX12_project_0 : decode cX12_project 0 = .ok (.iload_n 1, 1) := by decide +kernel
theorem dX12_project_1 : decode cX12_project 1 = .ok (.iconst 0, 1) := by decide +kernel
theorem dX12_project_2 : decode cX12_project 2 = .ok (.aload_n 0, 1) := by decide +kernel
theorem dX12_project_3 : decode cX12_project 3 = .ok (.getfield 264, 3) := by decide +kernel
theorem dX12_project_6 : decode cX12_project 6 = .ok (.iconst 1, 1) := by decide +kernel
theorem dX12_project_7 : decode cX12_project 7 = .ok (.isub, 1) := by decide +kernel
theorem dX12_project_8 : decode cX12_project 8 = .ok (.invokestatic 260, 3) := by decide +kernel
theorem dX12_project_11 : decode cX12_project 11 = .ok (.ifCond .eq 34, 3) := by decide +kernel
theorem dX12_project_14 : decode cX12_project 14 = .ok (.iload_n 2, 1) := by decide +kernel
theorem dX12_project_15 : decode cX12_project 15 = .ok (.iconst 1, 1) := by decide +kernel
theorem dX12_project_16 : decode cX12_project 16 = .ok (.ldc_w 307, 3) := by decide +kernel
theorem dX12_project_19 : decode cX12_project 19 = .ok (.invokestatic 260, 3) := by decide +kernel
theorem dX12_project_22 : decode cX12_project 22 = .ok (.ifCond .eq 23, 3) := by decide +kernel
theorem dX12_project_25 : decode cX12_project 25 = .ok (.iload_n 3, 1) := by decide +kernel
theorem dX12_project_26 : decode cX12_project 26 = .ok (.iconst 0, 1) := by decide +kernel
theorem dX12_project_27 : decode cX12_project 27 = .ok (.sipush 1000, 3) := by decide +kernel
theorem dX12_project_30 : decode cX12_project 30 = .ok (.invokestatic 260, 3) := by decide +kernel
theorem dX12_project_33 : decode cX12_project 33 = .ok (.ifCond .eq 12, 3) := by decide +kernel
theorem dX12_project_36 : decode cX12_project 36 = .ok (.aload_n 0, 1) := by decide +kernel
theorem dX12_project_37 : decode cX12_project 37 = .ok (.getfield 529, 3) := by decide +kernel
theorem dX12_project_40 : decode cX12_project 40 = .ok (.bipush 12, 2) := by decide +kernel
theorem dX12_project_42 : decode cX12_project 42 = .ok (.if_icmp .ne 5, 3) := by decide +kernel
theorem dX12_project_45 : decode cX12_project 45 = .ok (.iconst (-1), 1) := by decide +kernel
theorem dX12_project_46 : decode cX12_project 46 = .ok (.ireturn, 1) := by decide +kernel
theorem dX12_project_47 : decode cX12_project 47 = .ok (.aload_n 0, 1) := by decide +kernel
theorem dX12_project_48 : decode cX12_project 48 = .ok (.getfield 221, 3) := by decide +kernel
theorem dX12_project_51 : decode cX12_project 51 = .ok (.aload_n 0, 1) := by decide +kernel
theorem dX12_project_52 : decode cX12_project 52 = .ok (.getfield 529, 3) := by decide +kernel
theorem dX12_project_55 : decode cX12_project 55 = .ok (.iload_n 1, 1) := by decide +kernel
theorem dX12_project_56 : decode cX12_project 56 = .ok (.iastore, 1) := by decide +kernel
theorem dX12_project_57 : decode cX12_project 57 = .ok (.aload_n 0, 1) := by decide +kernel
theorem dX12_project_58 : decode cX12_project 58 = .ok (.getfield 224, 3) := by decide +kernel
theorem dX12_project_61 : decode cX12_project 61 = .ok (.aload_n 0, 1) := by decide +kernel
theorem dX12_project_62 : decode cX12_project 62 = .ok (.getfield 529, 3) := by decide +kernel
theorem dX12_project_65 : decode cX12_project 65 = .ok (.iload_n 2, 1) := by decide +kernel
theorem dX12_project_66 : decode cX12_project 66 = .ok (.iastore, 1) := by decide +kernel
theorem dX12_project_67 : decode cX12_project 67 = .ok (.aload_n 0, 1) := by decide +kernel
theorem dX12_project_68 : decode cX12_project 68 = .ok (.getfield 227, 3) := by decide +kernel
theorem dX12_project_71 : decode cX12_project 71 = .ok (.aload_n 0, 1) := by decide +kernel
theorem dX12_project_72 : decode cX12_project 72 = .ok (.getfield 529, 3) := by decide +kernel
theorem dX12_project_75 : decode cX12_project 75 = .ok (.iload_n 3, 1) := by decide +kernel
theorem dX12_project_76 : decode cX12_project 76 = .ok (.iastore, 1) := by decide +kernel
theorem dX12_project_77 : decode cX12_project 77 = .ok (.aload_n 0, 1) := by decide +kernel
theorem dX12_project_78 : decode cX12_project 78 = .ok (.aload_n 0, 1) := by decide +kernel
theorem dX12_project_79 : decode cX12_project 79 = .ok (.getfield 529, 3) := by decide +kernel
theorem dX12_project_82 : decode cX12_project 82 = .ok (.iconst 1, 1) := by decide +kernel
theorem dX12_project_83 : decode cX12_project 83 = .ok (.iadd, 1) := by decide +kernel
theorem dX12_project_84 : decode cX12_project 84 = .ok (.putfield 529, 3) := by decide +kernel
theorem dX12_project_87 : decode cX12_project 87 = .ok (.aload_n 0, 1) := by decide +kernel
theorem dX12_project_88 : decode cX12_project 88 = .ok (.getfield 529, 3) := by decide +kernel
theorem dX12_project_91 : decode cX12_project 91 = .ok (.iconst 1, 1) := by decide +kernel
theorem dX12_project_92 : decode cX12_project 92 = .ok (.isub, 1) := by decide +kernel
theorem dX12_project_93 : decode cX12_project 93 = .ok (.ireturn, 1) := by decide +kernel
theorem dX12_canBuild_0 : decode cX12_canBuild 0 = .ok (.iconst 0, 1) := by decide +kernel
theorem dX12_canBuild_1 : decode cX12_canBuild 1 = .ok (.istore_n 3, 1) := by decide +kernel
theorem dX12_canBuild_2 : decode cX12_canBuild 2 = .ok (.iload_n 3, 1) := by decide +kernel
theorem dX12_canBuild_3 : decode cX12_canBuild 3 = .ok (.aload_n 0, 1) := by decide +kernel
theorem dX12_canBuild_4 : decode cX12_canBuild 4 = .ok (.getfield 529, 3) := by decide +kernel
theorem dX12_canBuild_7 : decode cX12_canBuild 7 = .ok (.if_icmp .ge 39, 3) := by decide +kernel
theorem dX12_canBuild_10 : decode cX12_canBuild 10 = .ok (.iload_n 1, 1) := by decide +kernel
theorem dX12_canBuild_11 : decode cX12_canBuild 11 = .ok (.iload_n 3, 1) := by decide +kernel
theorem dX12_canBuild_12 : decode cX12_canBuild 12 = .ok (.ishr, 1) := by decide +kernel
theorem dX12_canBuild_13 : decode cX12_canBuild 13 = .ok (.iconst 1, 1) := by decide +kernel
theorem dX12_canBuild_14 : decode cX12_canBuild 14 = .ok (.iand, 1) := by decide +kernel
theorem dX12_canBuild_15 : decode cX12_canBuild 15 = .ok (.iconst 1, 1) := by decide +kernel
theorem dX12_canBuild_16 : decode cX12_canBuild 16 = .ok (.if_icmp .ne 24, 3) := by decide +kernel
theorem dX12_canBuild_19 : decode cX12_canBuild 19 = .ok (.aload_n 0, 1) := by decide +kernel
theorem dX12_canBuild_20 : decode cX12_canBuild 20 = .ok (.getfield 221, 3) := by decide +kernel
theorem dX12_canBuild_23 : decode cX12_canBuild 23 = .ok (.iload_n 3, 1) := by decide +kernel
theorem dX12_canBuild_24 : decode cX12_canBuild 24 = .ok (.iaload, 1) := by decide +kernel
theorem dX12_canBuild_25 : decode cX12_canBuild 25 = .ok (.iload_n 2, 1) := by decide +kernel
theorem dX12_canBuild_26 : decode cX12_canBuild 26 = .ok (.if_icmp .ne 12, 3) := by decide +kernel
theorem dX12_canBuild_29 : decode cX12_canBuild 29 = .ok (.aload_n 0, 1) := by decide +kernel
theorem dX12_canBuild_30 : decode cX12_canBuild 30 = .ok (.getfield 230, 3) := by decide +kernel
theorem dX12_canBuild_33 : decode cX12_canBuild 33 = .ok (.iload_n 3, 1) := by decide +kernel
theorem dX12_canBuild_34 : decode cX12_canBuild 34 = .ok (.baload, 1) := by decide +kernel
theorem dX12_canBuild_35 : decode cX12_canBuild 35 = .ok (.ifCond .eq 5, 3) := by decide +kernel
theorem dX12_canBuild_38 : decode cX12_canBuild 38 = .ok (.iconst 0, 1) := by decide +kernel
theorem dX12_canBuild_39 : decode cX12_canBuild 39 = .ok (.ireturn, 1) := by decide +kernel
theorem dX12_canBuild_40 : decode cX12_canBuild 40 = .ok (.iinc 3 1, 3) := by decide +kernel
theorem dX12_canBuild_43 : decode cX12_canBuild 43 = .ok (.goto (-41), 3) := by decide +kernel
theorem dX12_canBuild_46 : decode cX12_canBuild 46 = .ok (.iconst 1, 1) := by decide +kernel
theorem dX12_canBuild_47 : decode cX12_canBuild 47 = .ok (.ireturn, 1) := by decide +kernel
theorem dX12_costOf_0 : decode cX12_costOf 0 = .ok (.iconst 0, 1) := by decide +kernel
theorem dX12_costOf_1 : decode cX12_costOf 1 = .ok (.istore_n 2, 1) := by decide +kernel
theorem dX12_costOf_2 : decode cX12_costOf 2 = .ok (.iconst 0, 1) := by decide +kernel
theorem dX12_costOf_3 : decode cX12_costOf 3 = .ok (.istore_n 3, 1) := by decide +kernel
theorem dX12_costOf_4 : decode cX12_costOf 4 = .ok (.iload_n 3, 1) := by decide +kernel
theorem dX12_costOf_5 : decode cX12_costOf 5 = .ok (.aload_n 0, 1) := by decide +kernel
theorem dX12_costOf_6 : decode cX12_costOf 6 = .ok (.getfield 529, 3) := by decide +kernel
theorem dX12_costOf_9 : decode cX12_costOf 9 = .ok (.if_icmp .ge 31, 3) := by decide +kernel
theorem dX12_costOf_12 : decode cX12_costOf 12 = .ok (.iload_n 2, 1) := by decide +kernel
theorem dX12_costOf_13 : decode cX12_costOf 13 = .ok (.iload_n 1, 1) := by decide +kernel
theorem dX12_costOf_14 : decode cX12_costOf 14 = .ok (.iload_n 3, 1) := by decide +kernel
theorem dX12_costOf_15 : decode cX12_costOf 15 = .ok (.ishr, 1) := by decide +kernel
theorem dX12_costOf_16 : decode cX12_costOf 16 = .ok (.iconst 1, 1) := by decide +kernel
theorem dX12_costOf_17 : decode cX12_costOf 17 = .ok (.iand, 1) := by decide +kernel
theorem dX12_costOf_18 : decode cX12_costOf 18 = .ok (.iconst 1, 1) := by decide +kernel
theorem dX12_costOf_19 : decode cX12_costOf 19 = .ok (.if_icmp .ne 12, 3) := by decide +kernel
theorem dX12_costOf_22 : decode cX12_costOf 22 = .ok (.aload_n 0, 1) := by decide +kernel
theorem dX12_costOf_23 : decode cX12_costOf 23 = .ok (.getfield 224, 3) := by decide +kernel
theorem dX12_costOf_26 : decode cX12_costOf 26 = .ok (.iload_n 3, 1) := by decide +kernel
theorem dX12_costOf_27 : decode cX12_costOf 27 = .ok (.iaload, 1) := by decide +kernel
theorem dX12_costOf_28 : decode cX12_costOf 28 = .ok (.goto 4, 3) := by decide +kernel
theorem dX12_costOf_31 : decode cX12_costOf 31 = .ok (.iconst 0, 1) := by decide +kernel
theorem dX12_costOf_32 : decode cX12_costOf 32 = .ok (.iadd, 1) := by decide +kernel
theorem dX12_costOf_33 : decode cX12_costOf 33 = .ok (.istore_n 2, 1) := by decide +kernel
theorem dX12_costOf_34 : decode cX12_costOf 34 = .ok (.iinc 3 1, 3) := by decide +kernel
theorem dX12_costOf_37 : decode cX12_costOf 37 = .ok (.goto (-33), 3) := by decide +kernel
theorem dX12_costOf_40 : decode cX12_costOf 40 = .ok (.iload_n 2, 1) := by decide +kernel
theorem dX12_costOf_41 : decode cX12_costOf 41 = .ok (.ireturn, 1) := by decide +kernel
theorem dX12_worthOf_0 : decode cX12_worthOf 0 = .ok (.iconst 0, 1) := by decide +kernel
theorem dX12_worthOf_1 : decode cX12_worthOf 1 = .ok (.istore_n 2, 1) := by decide +kernel
theorem dX12_worthOf_2 : decode cX12_worthOf 2 = .ok (.iconst 0, 1) := by decide +kernel
theorem dX12_worthOf_3 : decode cX12_worthOf 3 = .ok (.istore_n 3, 1) := by decide +kernel
theorem dX12_worthOf_4 : decode cX12_worthOf 4 = .ok (.iload_n 3, 1) := by decide +kernel
theorem dX12_worthOf_5 : decode cX12_worthOf 5 = .ok (.aload_n 0, 1) := by decide +kernel
theorem dX12_worthOf_6 : decode cX12_worthOf 6 = .ok (.getfield 529, 3) := by decide +kernel
theorem dX12_worthOf_9 : decode cX12_worthOf 9 = .ok (.if_icmp .ge 31, 3) := by decide +kernel
theorem dX12_worthOf_12 : decode cX12_worthOf 12 = .ok (.iload_n 2, 1) := by decide +kernel
theorem dX12_worthOf_13 : decode cX12_worthOf 13 = .ok (.iload_n 1, 1) := by decide +kernel
theorem dX12_worthOf_14 : decode cX12_worthOf 14 = .ok (.iload_n 3, 1) := by decide +kernel
theorem dX12_worthOf_15 : decode cX12_worthOf 15 = .ok (.ishr, 1) := by decide +kernel
theorem dX12_worthOf_16 : decode cX12_worthOf 16 = .ok (.iconst 1, 1) := by decide +kernel
theorem dX12_worthOf_17 : decode cX12_worthOf 17 = .ok (.iand, 1) := by decide +kernel
theorem dX12_worthOf_18 : decode cX12_worthOf 18 = .ok (.iconst 1, 1) := by decide +kernel
theorem dX12_worthOf_19 : decode cX12_worthOf 19 = .ok (.if_icmp .ne 12, 3) := by decide +kernel
theorem dX12_worthOf_22 : decode cX12_worthOf 22 = .ok (.aload_n 0, 1) := by decide +kernel
theorem dX12_worthOf_23 : decode cX12_worthOf 23 = .ok (.getfield 227, 3) := by decide +kernel
theorem dX12_worthOf_26 : decode cX12_worthOf 26 = .ok (.iload_n 3, 1) := by decide +kernel
theorem dX12_worthOf_27 : decode cX12_worthOf 27 = .ok (.iaload, 1) := by decide +kernel
theorem dX12_worthOf_28 : decode cX12_worthOf 28 = .ok (.goto 4, 3) := by decide +kernel
theorem dX12_worthOf_31 : decode cX12_worthOf 31 = .ok (.iconst 0, 1) := by decide +kernel
theorem dX12_worthOf_32 : decode cX12_worthOf 32 = .ok (.iadd, 1) := by decide +kernel
theorem dX12_worthOf_33 : decode cX12_worthOf 33 = .ok (.istore_n 2, 1) := by decide +kernel
theorem dX12_worthOf_34 : decode cX12_worthOf 34 = .ok (.iinc 3 1, 3) := by decide +kernel
theorem dX12_worthOf_37 : decode cX12_worthOf 37 = .ok (.goto (-33), 3) := by decide +kernel
theorem dX12_worthOf_40 : decode cX12_worthOf 40 = .ok (.iload_n 2, 1) := by decide +kernel
theorem dX12_worthOf_41 : decode cX12_worthOf 41 = .ok (.ireturn, 1) := by decide +kernel
theorem dX12_choice_0 : decode cX12_choice 0 = .ok (.iload_n 1, 1) := by decide +kernel
theorem dX12_choice_1 : decode cX12_choice 1 = .ok (.iconst 0, 1) := by decide +kernel
theorem dX12_choice_2 : decode cX12_choice 2 = .ok (.aload_n 0, 1) := by decide +kernel
theorem dX12_choice_3 : decode cX12_choice 3 = .ok (.getfield 264, 3) := by decide +kernel
theorem dX12_choice_6 : decode cX12_choice 6 = .ok (.iconst 1, 1) := by decide +kernel
theorem dX12_choice_7 : decode cX12_choice 7 = .ok (.isub, 1) := by decide +kernel
theorem dX12_choice_8 : decode cX12_choice 8 = .ok (.invokestatic 260, 3) := by decide +kernel
theorem dX12_choice_11 : decode cX12_choice 11 = .ok (.ifCond .ne 5, 3) := by decide +kernel
theorem dX12_choice_14 : decode cX12_choice 14 = .ok (.iconst (-1), 1) := by decide +kernel
theorem dX12_choice_15 : decode cX12_choice 15 = .ok (.ireturn, 1) := by decide +kernel
theorem dX12_choice_16 : decode cX12_choice 16 = .ok (.iconst 0, 1) := by decide +kernel
theorem dX12_choice_17 : decode cX12_choice 17 = .ok (.istore_n 2, 1) := by decide +kernel
theorem dX12_choice_18 : decode cX12_choice 18 = .ok (.iconst 1, 1) := by decide +kernel
theorem dX12_choice_19 : decode cX12_choice 19 = .ok (.istore_n 3, 1) := by decide +kernel
theorem dX12_choice_20 : decode cX12_choice 20 = .ok (.iload_n 3, 1) := by decide +kernel
theorem dX12_choice_21 : decode cX12_choice 21 = .ok (.iconst 1, 1) := by decide +kernel
theorem dX12_choice_22 : decode cX12_choice 22 = .ok (.aload_n 0, 1) := by decide +kernel
theorem dX12_choice_23 : decode cX12_choice 23 = .ok (.getfield 529, 3) := by decide +kernel
theorem dX12_choice_26 : decode cX12_choice 26 = .ok (.ishl, 1) := by decide +kernel
theorem dX12_choice_27 : decode cX12_choice 27 = .ok (.if_icmp .ge 75, 3) := by decide +kernel
theorem dX12_choice_30 : decode cX12_choice 30 = .ok (.aload_n 0, 1) := by decide +kernel
theorem dX12_choice_31 : decode cX12_choice 31 = .ok (.iload_n 3, 1) := by decide +kernel
theorem dX12_choice_32 : decode cX12_choice 32 = .ok (.iload_n 1, 1) := by decide +kernel
theorem dX12_choice_33 : decode cX12_choice 33 = .ok (.invokevirtual 532, 3) := by decide +kernel
theorem dX12_choice_36 : decode cX12_choice 36 = .ok (.ifCond .eq 60, 3) := by decide +kernel
theorem dX12_choice_39 : decode cX12_choice 39 = .ok (.aload_n 0, 1) := by decide +kernel
theorem dX12_choice_40 : decode cX12_choice 40 = .ok (.iload_n 3, 1) := by decide +kernel
theorem dX12_choice_41 : decode cX12_choice 41 = .ok (.invokevirtual 535, 3) := by decide +kernel
theorem dX12_choice_44 : decode cX12_choice 44 = .ok (.i2l, 1) := by decide +kernel
theorem dX12_choice_45 : decode cX12_choice 45 = .ok (.aload_n 0, 1) := by decide +kernel
theorem dX12_choice_46 : decode cX12_choice 46 = .ok (.getfield 209, 3) := by decide +kernel
theorem dX12_choice_49 : decode cX12_choice 49 = .ok (.iload_n 1, 1) := by decide +kernel
theorem dX12_choice_50 : decode cX12_choice 50 = .ok (.laload, 1) := by decide +kernel
theorem dX12_choice_51 : decode cX12_choice 51 = .ok (.lcmp, 1) := by decide +kernel
theorem dX12_choice_52 : decode cX12_choice 52 = .ok (.ifCond .le 6, 3) := by decide +kernel
theorem dX12_choice_55 : decode cX12_choice 55 = .ok (.goto 41, 3) := by decide +kernel
theorem dX12_choice_58 : decode cX12_choice 58 = .ok (.aload_n 0, 1) := by decide +kernel
theorem dX12_choice_59 : decode cX12_choice 59 = .ok (.iload_n 3, 1) := by decide +kernel
theorem dX12_choice_60 : decode cX12_choice 60 = .ok (.invokevirtual 538, 3) := by decide +kernel
theorem dX12_choice_63 : decode cX12_choice 63 = .ok (.aload_n 0, 1) := by decide +kernel
theorem dX12_choice_64 : decode cX12_choice 64 = .ok (.iload_n 2, 1) := by decide +kernel
theorem dX12_choice_65 : decode cX12_choice 65 = .ok (.invokevirtual 538, 3) := by decide +kernel
theorem dX12_choice_68 : decode cX12_choice 68 = .ok (.isub, 1) := by decide +kernel
theorem dX12_choice_69 : decode cX12_choice 69 = .ok (.istore 4, 2) := by decide +kernel
theorem dX12_choice_71 : decode cX12_choice 71 = .ok (.iload 4, 2) := by decide +kernel
theorem dX12_choice_73 : decode cX12_choice 73 = .ok (.ifCond .gt 21, 3) := by decide +kernel
theorem dX12_choice_76 : decode cX12_choice 76 = .ok (.iload 4, 2) := by decide +kernel
theorem dX12_choice_78 : decode cX12_choice 78 = .ok (.ifCond .ne 18, 3) := by decide +kernel
theorem dX12_choice_81 : decode cX12_choice 81 = .ok (.aload_n 0, 1) := by decide +kernel
theorem dX12_choice_82 : decode cX12_choice 82 = .ok (.iload_n 3, 1) := by decide +kernel
theorem dX12_choice_83 : decode cX12_choice 83 = .ok (.invokevirtual 535, 3) := by decide +kernel
theorem dX12_choice_86 : decode cX12_choice 86 = .ok (.aload_n 0, 1) := by decide +kernel
theorem dX12_choice_87 : decode cX12_choice 87 = .ok (.iload_n 2, 1) := by decide +kernel
theorem dX12_choice_88 : decode cX12_choice 88 = .ok (.invokevirtual 535, 3) := by decide +kernel
theorem dX12_choice_91 : decode cX12_choice 91 = .ok (.if_icmp .ge 5, 3) := by decide +kernel
theorem dX12_choice_94 : decode cX12_choice 94 = .ok (.iload_n 3, 1) := by decide +kernel
theorem dX12_choice_95 : decode cX12_choice 95 = .ok (.istore_n 2, 1) := by decide +kernel
theorem dX12_choice_96 : decode cX12_choice 96 = .ok (.iinc 3 1, 3) := by decide +kernel
theorem dX12_choice_99 : decode cX12_choice 99 = .ok (.goto (-79), 3) := by decide +kernel
theorem dX12_choice_102 : decode cX12_choice 102 = .ok (.iload_n 2, 1) := by decide +kernel
theorem dX12_choice_103 : decode cX12_choice 103 = .ok (.ireturn, 1) := by decide +kernel
theorem dX12_build_0 : decode cX12_build 0 = .ok (.aload_n 0, 1) := by decide +kernel
theorem dX12_build_1 : decode cX12_build 1 = .ok (.iload_n 1, 1) := by decide +kernel
theorem dX12_build_2 : decode cX12_build 2 = .ok (.invokevirtual 541, 3) := by decide +kernel
theorem dX12_build_5 : decode cX12_build 5 = .ok (.istore_n 2, 1) := by decide +kernel
theorem dX12_build_6 : decode cX12_build 6 = .ok (.iload_n 2, 1) := by decide +kernel
theorem dX12_build_7 : decode cX12_build 7 = .ok (.ifCond .gt 5, 3) := by decide +kernel
theorem dX12_build_10 : decode cX12_build 10 = .ok (.iconst (-1), 1) := by decide +kernel
theorem dX12_build_11 : decode cX12_build 11 = .ok (.ireturn, 1) := by decide +kernel
theorem dX12_build_12 : decode cX12_build 12 = .ok (.aload_n 0, 1) := by decide +kernel
theorem dX12_build_13 : decode cX12_build 13 = .ok (.iload_n 2, 1) := by decide +kernel
theorem dX12_build_14 : decode cX12_build 14 = .ok (.invokevirtual 535, 3) := by decide +kernel
theorem dX12_build_17 : decode cX12_build 17 = .ok (.istore_n 3, 1) := by decide +kernel
theorem dX12_build_18 : decode cX12_build 18 = .ok (.iconst 0, 1) := by decide +kernel
theorem dX12_build_19 : decode cX12_build 19 = .ok (.istore 4, 2) := by decide +kernel
theorem dX12_build_21 : decode cX12_build 21 = .ok (.iload 4, 2) := by decide +kernel
theorem dX12_build_23 : decode cX12_build 23 = .ok (.aload_n 0, 1) := by decide +kernel
theorem dX12_build_24 : decode cX12_build 24 = .ok (.getfield 529, 3) := by decide +kernel
theorem dX12_build_27 : decode cX12_build 27 = .ok (.if_icmp .ge 27, 3) := by decide +kernel
theorem dX12_build_30 : decode cX12_build 30 = .ok (.iload_n 2, 1) := by decide +kernel
theorem dX12_build_31 : decode cX12_build 31 = .ok (.iload 4, 2) := by decide +kernel
theorem dX12_build_33 : decode cX12_build 33 = .ok (.ishr, 1) := by decide +kernel
theorem dX12_build_34 : decode cX12_build 34 = .ok (.iconst 1, 1) := by decide +kernel
theorem dX12_build_35 : decode cX12_build 35 = .ok (.iand, 1) := by decide +kernel
theorem dX12_build_36 : decode cX12_build 36 = .ok (.iconst 1, 1) := by decide +kernel
theorem dX12_build_37 : decode cX12_build 37 = .ok (.if_icmp .ne 11, 3) := by decide +kernel
theorem dX12_build_40 : decode cX12_build 40 = .ok (.aload_n 0, 1) := by decide +kernel
theorem dX12_build_41 : decode cX12_build 41 = .ok (.getfield 230, 3) := by decide +kernel
theorem dX12_build_44 : decode cX12_build 44 = .ok (.iload 4, 2) := by decide +kernel
theorem dX12_build_46 : decode cX12_build 46 = .ok (.iconst 1, 1) := by decide +kernel
theorem dX12_build_47 : decode cX12_build 47 = .ok (.bastore, 1) := by decide +kernel
theorem dX12_build_48 : decode cX12_build 48 = .ok (.iinc 4 1, 3) := by decide +kernel
theorem dX12_build_51 : decode cX12_build 51 = .ok (.goto (-30), 3) := by decide +kernel
theorem dX12_build_54 : decode cX12_build 54 = .ok (.aload_n 0, 1) := by decide +kernel
theorem dX12_build_55 : decode cX12_build 55 = .ok (.getfield 209, 3) := by decide +kernel
theorem dX12_build_58 : decode cX12_build 58 = .ok (.iload_n 1, 1) := by decide +kernel
theorem dX12_build_59 : decode cX12_build 59 = .ok (.aload_n 0, 1) := by decide +kernel
theorem dX12_build_60 : decode cX12_build 60 = .ok (.getfield 209, 3) := by decide +kernel
theorem dX12_build_63 : decode cX12_build 63 = .ok (.iload_n 1, 1) := by decide +kernel
theorem dX12_build_64 : decode cX12_build 64 = .ok (.laload, 1) := by decide +kernel
theorem dX12_build_65 : decode cX12_build 65 = .ok (.iload_n 3, 1) := by decide +kernel
theorem dX12_build_66 : decode cX12_build 66 = .ok (.i2l, 1) := by decide +kernel
theorem dX12_build_67 : decode cX12_build 67 = .ok (.lsub, 1) := by decide +kernel
theorem dX12_build_68 : decode cX12_build 68 = .ok (.lastore, 1) := by decide +kernel
theorem dX12_build_69 : decode cX12_build 69 = .ok (.aload_n 0, 1) := by decide +kernel
theorem dX12_build_70 : decode cX12_build 70 = .ok (.aload_n 0, 1) := by decide +kernel
theorem dX12_build_71 : decode cX12_build 71 = .ok (.getfield 526, 3) := by decide +kernel
theorem dX12_build_74 : decode cX12_build 74 = .ok (.iload_n 3, 1) := by decide +kernel
theorem dX12_build_75 : decode cX12_build 75 = .ok (.i2l, 1) := by decide +kernel
theorem dX12_build_76 : decode cX12_build 76 = .ok (.ladd, 1) := by decide +kernel
theorem dX12_build_77 : decode cX12_build 77 = .ok (.putfield 526, 3) := by decide +kernel
theorem dX12_build_80 : decode cX12_build 80 = .ok (.iload_n 3, 1) := by decide +kernel
theorem dX12_build_81 : decode cX12_build 81 = .ok (.ireturn, 1) := by decide +kernel
theorem dX12_leaves_0 : decode cX12_leaves 0 = .ok (.aload_n 0, 1) := by decide +kernel
theorem dX12_leaves_1 : decode cX12_leaves 1 = .ok (.iload_n 1, 1) := by decide +kernel
theorem dX12_leaves_2 : decode cX12_leaves 2 = .ok (.invokevirtual 287, 3) := by decide +kernel
theorem dX12_leaves_5 : decode cX12_leaves 5 = .ok (.ifCond .eq 24, 3) := by decide +kernel
theorem dX12_leaves_8 : decode cX12_leaves 8 = .ok (.iload_n 2, 1) := by decide +kernel
theorem dX12_leaves_9 : decode cX12_leaves 9 = .ok (.iconst (-1), 1) := by decide +kernel
theorem dX12_leaves_10 : decode cX12_leaves 10 = .ok (.if_icmp .eq 10, 3) := by decide +kernel
theorem dX12_leaves_13 : decode cX12_leaves 13 = .ok (.iload_n 2, 1) := by decide +kernel
theorem dX12_leaves_14 : decode cX12_leaves 14 = .ok (.invokestatic 544, 3) := by decide +kernel
theorem dX12_leaves_17 : decode cX12_leaves 17 = .ok (.ifCond .eq 12, 3) := by decide +kernel
theorem dX12_leaves_20 : decode cX12_leaves 20 = .ok (.aload_n 0, 1) := by decide +kernel
theorem dX12_leaves_21 : decode cX12_leaves 21 = .ok (.getfield 547, 3) := by decide +kernel
theorem dX12_leaves_24 : decode cX12_leaves 24 = .ok (.bipush 100, 2) := by decide +kernel
theorem dX12_leaves_26 : decode cX12_leaves 26 = .ok (.if_icmp .ne 5, 3) := by decide +kernel
theorem dX12_leaves_29 : decode cX12_leaves 29 = .ok (.iconst 0, 1) := by decide +kernel
theorem dX12_leaves_30 : decode cX12_leaves 30 = .ok (.ireturn, 1) := by decide +kernel
theorem dX12_leaves_31 : decode cX12_leaves 31 = .ok (.aload_n 0, 1) := by decide +kernel
theorem dX12_leaves_32 : decode cX12_leaves 32 = .ok (.getfield 233, 3) := by decide +kernel
theorem dX12_leaves_35 : decode cX12_leaves 35 = .ok (.aload_n 0, 1) := by decide +kernel
theorem dX12_leaves_36 : decode cX12_leaves 36 = .ok (.getfield 547, 3) := by decide +kernel
theorem dX12_leaves_39 : decode cX12_leaves 39 = .ok (.iload_n 1, 1) := by decide +kernel
theorem dX12_leaves_40 : decode cX12_leaves 40 = .ok (.iastore, 1) := by decide +kernel
theorem dX12_leaves_41 : decode cX12_leaves 41 = .ok (.aload_n 0, 1) := by decide +kernel
theorem dX12_leaves_42 : decode cX12_leaves 42 = .ok (.getfield 236, 3) := by decide +kernel
theorem dX12_leaves_45 : decode cX12_leaves 45 = .ok (.aload_n 0, 1) := by decide +kernel
theorem dX12_leaves_46 : decode cX12_leaves 46 = .ok (.getfield 547, 3) := by decide +kernel
theorem dX12_leaves_49 : decode cX12_leaves 49 = .ok (.iload_n 2, 1) := by decide +kernel
theorem dX12_leaves_50 : decode cX12_leaves 50 = .ok (.iastore, 1) := by decide +kernel
theorem dX12_leaves_51 : decode cX12_leaves 51 = .ok (.aload_n 0, 1) := by decide +kernel
theorem dX12_leaves_52 : decode cX12_leaves 52 = .ok (.getfield 239, 3) := by decide +kernel
theorem dX12_leaves_55 : decode cX12_leaves 55 = .ok (.aload_n 0, 1) := by decide +kernel
theorem dX12_leaves_56 : decode cX12_leaves 56 = .ok (.getfield 547, 3) := by decide +kernel
theorem dX12_leaves_59 : decode cX12_leaves 59 = .ok (.aload_n 0, 1) := by decide +kernel
theorem dX12_leaves_60 : decode cX12_leaves 60 = .ok (.getfield 281, 3) := by decide +kernel
theorem dX12_leaves_63 : decode cX12_leaves 63 = .ok (.iastore, 1) := by decide +kernel
theorem dX12_leaves_64 : decode cX12_leaves 64 = .ok (.aload_n 0, 1) := by decide +kernel
theorem dX12_leaves_65 : decode cX12_leaves 65 = .ok (.aload_n 0, 1) := by decide +kernel
theorem dX12_leaves_66 : decode cX12_leaves 66 = .ok (.getfield 547, 3) := by decide +kernel
theorem dX12_leaves_69 : decode cX12_leaves 69 = .ok (.iconst 1, 1) := by decide +kernel
theorem dX12_leaves_70 : decode cX12_leaves 70 = .ok (.iadd, 1) := by decide +kernel
theorem dX12_leaves_71 : decode cX12_leaves 71 = .ok (.putfield 547, 3) := by decide +kernel
theorem dX12_leaves_74 : decode cX12_leaves 74 = .ok (.iload_n 2, 1) := by decide +kernel
theorem dX12_leaves_75 : decode cX12_leaves 75 = .ok (.iconst (-1), 1) := by decide +kernel
theorem dX12_leaves_76 : decode cX12_leaves 76 = .ok (.if_icmp .eq 26, 3) := by decide +kernel
theorem dX12_leaves_79 : decode cX12_leaves 79 = .ok (.aload_n 0, 1) := by decide +kernel
theorem dX12_leaves_80 : decode cX12_leaves 80 = .ok (.iload_n 1, 1) := by decide +kernel
theorem dX12_leaves_81 : decode cX12_leaves 81 = .ok (.invokevirtual 290, 3) := by decide +kernel
theorem dX12_leaves_84 : decode cX12_leaves 84 = .ok (.iconst (-1), 1) := by decide +kernel
theorem dX12_leaves_85 : decode cX12_leaves 85 = .ok (.if_icmp .eq 17, 3) := by decide +kernel
theorem dX12_leaves_88 : decode cX12_leaves 88 = .ok (.aload_n 0, 1) := by decide +kernel
theorem dX12_leaves_89 : decode cX12_leaves 89 = .ok (.getfield 40, 3) := by decide +kernel
theorem dX12_leaves_92 : decode cX12_leaves 92 = .ok (.aload_n 0, 1) := by decide +kernel
theorem dX12_leaves_93 : decode cX12_leaves 93 = .ok (.iload_n 1, 1) := by decide +kernel
theorem dX12_leaves_94 : decode cX12_leaves 94 = .ok (.invokevirtual 290, 3) := by decide +kernel
theorem dX12_leaves_97 : decode cX12_leaves 97 = .ok (.aload_n 0, 1) := by decide +kernel
theorem dX12_leaves_98 : decode cX12_leaves 98 = .ok (.getfield 281, 3) := by decide +kernel
theorem dX12_leaves_101 : decode cX12_leaves 101 = .ok (.iastore, 1) := by decide +kernel
theorem dX12_leaves_102 : decode cX12_leaves 102 = .ok (.iconst 1, 1) := by decide +kernel
theorem dX12_leaves_103 : decode cX12_leaves 103 = .ok (.ireturn, 1) := by decide +kernel
theorem dX12_leftOn_0 : decode cX12_leftOn 0 = .ok (.iconst (-1), 1) := by decide +kernel
theorem dX12_leftOn_1 : decode cX12_leftOn 1 = .ok (.istore_n 3, 1) := by decide +kernel
theorem dX12_leftOn_2 : decode cX12_leftOn 2 = .ok (.iconst 0, 1) := by decide +kernel
theorem dX12_leftOn_3 : decode cX12_leftOn 3 = .ok (.istore 4, 2) := by decide +kernel
theorem dX12_leftOn_5 : decode cX12_leftOn 5 = .ok (.iload 4, 2) := by decide +kernel
theorem dX12_leftOn_7 : decode cX12_leftOn 7 = .ok (.aload_n 0, 1) := by decide +kernel
theorem dX12_leftOn_8 : decode cX12_leftOn 8 = .ok (.getfield 547, 3) := by decide +kernel
theorem dX12_leftOn_11 : decode cX12_leftOn 11 = .ok (.if_icmp .ge 39, 3) := by decide +kernel
theorem dX12_leftOn_14 : decode cX12_leftOn 14 = .ok (.aload_n 0, 1) := by decide +kernel
theorem dX12_leftOn_15 : decode cX12_leftOn 15 = .ok (.getfield 233, 3) := by decide +kernel
theorem dX12_leftOn_18 : decode cX12_leftOn 18 = .ok (.iload 4, 2) := by decide +kernel
theorem dX12_leftOn_20 : decode cX12_leftOn 20 = .ok (.iaload, 1) := by decide +kernel
theorem dX12_leftOn_21 : decode cX12_leftOn 21 = .ok (.iload_n 1, 1) := by decide +kernel
theorem dX12_leftOn_22 : decode cX12_leftOn 22 = .ok (.if_icmp .ne 22, 3) := by decide +kernel
theorem dX12_leftOn_25 : decode cX12_leftOn 25 = .ok (.aload_n 0, 1) := by decide +kernel
theorem dX12_leftOn_26 : decode cX12_leftOn 26 = .ok (.getfield 239, 3) := by decide +kernel
theorem dX12_leftOn_29 : decode cX12_leftOn 29 = .ok (.iload 4, 2) := by decide +kernel
theorem dX12_leftOn_31 : decode cX12_leftOn 31 = .ok (.iaload, 1) := by decide +kernel
theorem dX12_leftOn_32 : decode cX12_leftOn 32 = .ok (.iload_n 2, 1) := by decide +kernel
theorem dX12_leftOn_33 : decode cX12_leftOn 33 = .ok (.if_icmp .gt 11, 3) := by decide +kernel
theorem dX12_leftOn_36 : decode cX12_leftOn 36 = .ok (.aload_n 0, 1) := by decide +kernel
theorem dX12_leftOn_37 : decode cX12_leftOn 37 = .ok (.getfield 236, 3) := by decide +kernel
theorem dX12_leftOn_40 : decode cX12_leftOn 40 = .ok (.iload 4, 2) := by decide +kernel
theorem dX12_leftOn_42 : decode cX12_leftOn 42 = .ok (.iaload, 1) := by decide +kernel
theorem dX12_leftOn_43 : decode cX12_leftOn 43 = .ok (.istore_n 3, 1) := by decide +kernel
theorem dX12_leftOn_44 : decode cX12_leftOn 44 = .ok (.iinc 4 1, 3) := by decide +kernel
theorem dX12_leftOn_47 : decode cX12_leftOn 47 = .ok (.goto (-42), 3) := by decide +kernel
theorem dX12_leftOn_50 : decode cX12_leftOn 50 = .ok (.iload_n 3, 1) := by decide +kernel
theorem dX12_leftOn_51 : decode cX12_leftOn 51 = .ok (.ireturn, 1) := by decide +kernel
theorem dX12_left_0 : decode cX12_left 0 = .ok (.aload_n 0, 1) := by decide +kernel
theorem dX12_left_1 : decode cX12_left 1 = .ok (.iload_n 1, 1) := by decide +kernel
theorem dX12_left_2 : decode cX12_left 2 = .ok (.invokevirtual 287, 3) := by decide +kernel
theorem dX12_left_5 : decode cX12_left 5 = .ok (.ifCond .eq 19, 3) := by decide +kernel
theorem dX12_left_8 : decode cX12_left 8 = .ok (.iload_n 2, 1) := by decide +kernel
theorem dX12_left_9 : decode cX12_left 9 = .ok (.invokestatic 544, 3) := by decide +kernel
theorem dX12_left_12 : decode cX12_left 12 = .ok (.ifCond .eq 12, 3) := by decide +kernel
theorem dX12_left_15 : decode cX12_left 15 = .ok (.aload_n 0, 1) := by decide +kernel
theorem dX12_left_16 : decode cX12_left 16 = .ok (.iload_n 1, 1) := by decide +kernel
theorem dX12_left_17 : decode cX12_left 17 = .ok (.iload_n 2, 1) := by decide +kernel
theorem dX12_left_18 : decode cX12_left 18 = .ok (.invokevirtual 297, 3) := by decide +kernel
theorem dX12_left_21 : decode cX12_left 21 = .ok (.goto 4, 3) := by decide +kernel
theorem dX12_left_24 : decode cX12_left 24 = .ok (.iconst (-1), 1) := by decide +kernel
theorem dX12_left_25 : decode cX12_left 25 = .ok (.ireturn, 1) := by decide +kernel
theorem dX12_amiss_0 : decode cX12_amiss 0 = .ok (.iload_n 1, 1) := by decide +kernel
theorem dX12_amiss_1 : decode cX12_amiss 1 = .ok (.invokestatic 544, 3) := by decide +kernel
theorem dX12_amiss_4 : decode cX12_amiss 4 = .ok (.ifCond .ne 5, 3) := by decide +kernel
theorem dX12_amiss_7 : decode cX12_amiss 7 = .ok (.iconst (-1), 1) := by decide +kernel
theorem dX12_amiss_8 : decode cX12_amiss 8 = .ok (.ireturn, 1) := by decide +kernel
theorem dX12_amiss_9 : decode cX12_amiss 9 = .ok (.iconst 0, 1) := by decide +kernel
theorem dX12_amiss_10 : decode cX12_amiss 10 = .ok (.istore_n 2, 1) := by decide +kernel
theorem dX12_amiss_11 : decode cX12_amiss 11 = .ok (.iconst 0, 1) := by decide +kernel
theorem dX12_amiss_12 : decode cX12_amiss 12 = .ok (.istore_n 3, 1) := by decide +kernel
theorem dX12_amiss_13 : decode cX12_amiss 13 = .ok (.iload_n 3, 1) := by decide +kernel
theorem dX12_amiss_14 : decode cX12_amiss 14 = .ok (.aload_n 0, 1) := by decide +kernel
theorem dX12_amiss_15 : decode cX12_amiss 15 = .ok (.getfield 431, 3) := by decide +kernel
theorem dX12_amiss_18 : decode cX12_amiss 18 = .ok (.if_icmp .ge 63, 3) := by decide +kernel
theorem dX12_amiss_21 : decode cX12_amiss 21 = .ok (.aload_n 0, 1) := by decide +kernel
theorem dX12_amiss_22 : decode cX12_amiss 22 = .ok (.aload_n 0, 1) := by decide +kernel
theorem dX12_amiss_23 : decode cX12_amiss 23 = .ok (.getfield 34, 3) := by decide +kernel
theorem dX12_amiss_26 : decode cX12_amiss 26 = .ok (.aload_n 0, 1) := by decide +kernel
theorem dX12_amiss_27 : decode cX12_amiss 27 = .ok (.getfield 133, 3) := by decide +kernel
theorem dX12_amiss_30 : decode cX12_amiss 30 = .ok (.iload_n 3, 1) := by decide +kernel
theorem dX12_amiss_31 : decode cX12_amiss 31 = .ok (.iaload, 1) := by decide +kernel
theorem dX12_amiss_32 : decode cX12_amiss 32 = .ok (.iaload, 1) := by decide +kernel
theorem dX12_amiss_33 : decode cX12_amiss 33 = .ok (.iload_n 1, 1) := by decide +kernel
theorem dX12_amiss_34 : decode cX12_amiss 34 = .ok (.invokevirtual 297, 3) := by decide +kernel
theorem dX12_amiss_37 : decode cX12_amiss 37 = .ok (.istore 4, 2) := by decide +kernel
theorem dX12_amiss_39 : decode cX12_amiss 39 = .ok (.iload_n 2, 1) := by decide +kernel
theorem dX12_amiss_40 : decode cX12_amiss 40 = .ok (.aload_n 0, 1) := by decide +kernel
theorem dX12_amiss_41 : decode cX12_amiss 41 = .ok (.getfield 142, 3) := by decide +kernel
theorem dX12_amiss_44 : decode cX12_amiss 44 = .ok (.iload_n 3, 1) := by decide +kernel
theorem dX12_amiss_45 : decode cX12_amiss 45 = .ok (.iaload, 1) := by decide +kernel
theorem dX12_amiss_46 : decode cX12_amiss 46 = .ok (.bipush 6, 2) := by decide +kernel
theorem dX12_amiss_48 : decode cX12_amiss 48 = .ok (.if_icmp .ne 24, 3) := by decide +kernel
theorem dX12_amiss_51 : decode cX12_amiss 51 = .ok (.iload 4, 2) := by decide +kernel
theorem dX12_amiss_53 : decode cX12_amiss 53 = .ok (.iconst (-1), 1) := by decide +kernel
theorem dX12_amiss_54 : decode cX12_amiss 54 = .ok (.if_icmp .eq 18, 3) := by decide +kernel
theorem dX12_amiss_57 : decode cX12_amiss 57 = .ok (.aload_n 0, 1) := by decide +kernel
theorem dX12_amiss_58 : decode cX12_amiss 58 = .ok (.getfield 145, 3) := by decide +kernel
theorem dX12_amiss_61 : decode cX12_amiss 61 = .ok (.iload_n 3, 1) := by decide +kernel
theorem dX12_amiss_62 : decode cX12_amiss 62 = .ok (.iaload, 1) := by decide +kernel
theorem dX12_amiss_63 : decode cX12_amiss 63 = .ok (.iload 4, 2) := by decide +kernel
theorem dX12_amiss_65 : decode cX12_amiss 65 = .ok (.if_icmp .lt 7, 3) := by decide +kernel
theorem dX12_amiss_68 : decode cX12_amiss 68 = .ok (.iconst 1, 1) := by decide +kernel
theorem dX12_amiss_69 : decode cX12_amiss 69 = .ok (.goto 4, 3) := by decide +kernel
theorem dX12_amiss_72 : decode cX12_amiss 72 = .ok (.iconst 0, 1) := by decide +kernel
theorem dX12_amiss_73 : decode cX12_amiss 73 = .ok (.iadd, 1) := by decide +kernel
theorem dX12_amiss_74 : decode cX12_amiss 74 = .ok (.istore_n 2, 1) := by decide +kernel
theorem dX12_amiss_75 : decode cX12_amiss 75 = .ok (.iinc 3 1, 3) := by decide +kernel
theorem dX12_amiss_78 : decode cX12_amiss 78 = .ok (.goto (-65), 3) := by decide +kernel
theorem dX12_amiss_81 : decode cX12_amiss 81 = .ok (.iload_n 2, 1) := by decide +kernel
theorem dX12_amiss_82 : decode cX12_amiss 82 = .ok (.ireturn, 1) := by decide +kernel
theorem dX12_silent_0 : decode cX12_silent 0 = .ok (.aload_n 0, 1) := by decide +kernel
theorem dX12_silent_1 : decode cX12_silent 1 = .ok (.iload_n 1, 1) := by decide +kernel
theorem dX12_silent_2 : decode cX12_silent 2 = .ok (.invokevirtual 304, 3) := by decide +kernel
theorem dX12_silent_5 : decode cX12_silent 5 = .ok (.ifCond .eq 11, 3) := by decide +kernel
theorem dX12_silent_8 : decode cX12_silent 8 = .ok (.aload_n 0, 1) := by decide +kernel
theorem dX12_silent_9 : decode cX12_silent 9 = .ok (.iload_n 1, 1) := by decide +kernel
theorem dX12_silent_10 : decode cX12_silent 10 = .ok (.invokevirtual 277, 3) := by decide +kernel
theorem dX12_silent_13 : decode cX12_silent 13 = .ok (.ifCond .ne 5, 3) := by decide +kernel
theorem dX12_silent_16 : decode cX12_silent 16 = .ok (.iconst (-1), 1) := by decide +kernel
theorem dX12_silent_17 : decode cX12_silent 17 = .ok (.ireturn, 1) := by decide +kernel
theorem dX12_silent_18 : decode cX12_silent 18 = .ok (.aload_n 0, 1) := by decide +kernel
theorem dX12_silent_19 : decode cX12_silent 19 = .ok (.getfield 37, 3) := by decide +kernel
theorem dX12_silent_22 : decode cX12_silent 22 = .ok (.iload_n 1, 1) := by decide +kernel
theorem dX12_silent_23 : decode cX12_silent 23 = .ok (.iaload, 1) := by decide +kernel
theorem dX12_silent_24 : decode cX12_silent 24 = .ok (.istore_n 2, 1) := by decide +kernel
theorem dX12_silent_25 : decode cX12_silent 25 = .ok (.iconst 0, 1) := by decide +kernel
theorem dX12_silent_26 : decode cX12_silent 26 = .ok (.istore_n 3, 1) := by decide +kernel
theorem dX12_silent_27 : decode cX12_silent 27 = .ok (.iload_n 3, 1) := by decide +kernel
theorem dX12_silent_28 : decode cX12_silent 28 = .ok (.aload_n 0, 1) := by decide +kernel
theorem dX12_silent_29 : decode cX12_silent 29 = .ok (.getfield 431, 3) := by decide +kernel
theorem dX12_silent_32 : decode cX12_silent 32 = .ok (.if_icmp .ge 56, 3) := by decide +kernel
theorem dX12_silent_35 : decode cX12_silent 35 = .ok (.aload_n 0, 1) := by decide +kernel
theorem dX12_silent_36 : decode cX12_silent 36 = .ok (.getfield 133, 3) := by decide +kernel
theorem dX12_silent_39 : decode cX12_silent 39 = .ok (.iload_n 3, 1) := by decide +kernel
theorem dX12_silent_40 : decode cX12_silent 40 = .ok (.iaload, 1) := by decide +kernel
theorem dX12_silent_41 : decode cX12_silent 41 = .ok (.iload_n 1, 1) := by decide +kernel
theorem dX12_silent_42 : decode cX12_silent 42 = .ok (.if_icmp .ne 40, 3) := by decide +kernel
theorem dX12_silent_45 : decode cX12_silent 45 = .ok (.aload_n 0, 1) := by decide +kernel
theorem dX12_silent_46 : decode cX12_silent 46 = .ok (.getfield 136, 3) := by decide +kernel
theorem dX12_silent_49 : decode cX12_silent 49 = .ok (.iload_n 3, 1) := by decide +kernel
theorem dX12_silent_50 : decode cX12_silent 50 = .ok (.iaload, 1) := by decide +kernel
theorem dX12_silent_51 : decode cX12_silent 51 = .ok (.ifCond .ne 31, 3) := by decide +kernel
theorem dX12_silent_54 : decode cX12_silent 54 = .ok (.aload_n 0, 1) := by decide +kernel
theorem dX12_silent_55 : decode cX12_silent 55 = .ok (.getfield 142, 3) := by decide +kernel
theorem dX12_silent_58 : decode cX12_silent 58 = .ok (.iload_n 3, 1) := by decide +kernel
theorem dX12_silent_59 : decode cX12_silent 59 = .ok (.iaload, 1) := by decide +kernel
theorem dX12_silent_60 : decode cX12_silent 60 = .ok (.bipush 6, 2) := by decide +kernel
theorem dX12_silent_62 : decode cX12_silent 62 = .ok (.if_icmp .ne 20, 3) := by decide +kernel
theorem dX12_silent_65 : decode cX12_silent 65 = .ok (.aload_n 0, 1) := by decide +kernel
theorem dX12_silent_66 : decode cX12_silent 66 = .ok (.getfield 145, 3) := by decide +kernel
theorem dX12_silent_69 : decode cX12_silent 69 = .ok (.iload_n 3, 1) := by decide +kernel
theorem dX12_silent_70 : decode cX12_silent 70 = .ok (.iaload, 1) := by decide +kernel
theorem dX12_silent_71 : decode cX12_silent 71 = .ok (.iload_n 2, 1) := by decide +kernel
theorem dX12_silent_72 : decode cX12_silent 72 = .ok (.if_icmp .le 10, 3) := by decide +kernel
theorem dX12_silent_75 : decode cX12_silent 75 = .ok (.aload_n 0, 1) := by decide +kernel
theorem dX12_silent_76 : decode cX12_silent 76 = .ok (.getfield 145, 3) := by decide +kernel
theorem dX12_silent_79 : decode cX12_silent 79 = .ok (.iload_n 3, 1) := by decide +kernel
theorem dX12_silent_80 : decode cX12_silent 80 = .ok (.iaload, 1) := by decide +kernel
theorem dX12_silent_81 : decode cX12_silent 81 = .ok (.istore_n 2, 1) := by decide +kernel
theorem dX12_silent_82 : decode cX12_silent 82 = .ok (.iinc 3 1, 3) := by decide +kernel
theorem dX12_silent_85 : decode cX12_silent 85 = .ok (.goto (-58), 3) := by decide +kernel
theorem dX12_silent_88 : decode cX12_silent 88 = .ok (.aload_n 0, 1) := by decide +kernel
theorem dX12_silent_89 : decode cX12_silent 89 = .ok (.getfield 281, 3) := by decide +kernel
theorem dX12_silent_92 : decode cX12_silent 92 = .ok (.bipush 30, 2) := by decide +kernel
theorem dX12_silent_94 : decode cX12_silent 94 = .ok (.idiv, 1) := by decide +kernel
theorem dX12_silent_95 : decode cX12_silent 95 = .ok (.iload_n 2, 1) := by decide +kernel
theorem dX12_silent_96 : decode cX12_silent 96 = .ok (.bipush 30, 2) := by decide +kernel
theorem dX12_silent_98 : decode cX12_silent 98 = .ok (.idiv, 1) := by decide +kernel
theorem dX12_silent_99 : decode cX12_silent 99 = .ok (.isub, 1) := by decide +kernel
theorem dX12_silent_100 : decode cX12_silent 100 = .ok (.ireturn, 1) := by decide +kernel
theorem dX12_wish_0 : decode cX12_wish 0 = .ok (.aload_n 0, 1) := by decide +kernel
theorem dX12_wish_1 : decode cX12_wish 1 = .ok (.iload_n 1, 1) := by decide +kernel
theorem dX12_wish_2 : decode cX12_wish 2 = .ok (.invokevirtual 284, 3) := by decide +kernel
theorem dX12_wish_5 : decode cX12_wish 5 = .ok (.ifCond .eq 23, 3) := by decide +kernel
theorem dX12_wish_8 : decode cX12_wish 8 = .ok (.iload_n 2, 1) := by decide +kernel
theorem dX12_wish_9 : decode cX12_wish 9 = .ok (.iconst 0, 1) := by decide +kernel
theorem dX12_wish_10 : decode cX12_wish 10 = .ok (.bipush 31, 2) := by decide +kernel
theorem dX12_wish_12 : decode cX12_wish 12 = .ok (.invokestatic 260, 3) := by decide +kernel
theorem dX12_wish_15 : decode cX12_wish 15 = .ok (.ifCond .eq 13, 3) := by decide +kernel
theorem dX12_wish_18 : decode cX12_wish 18 = .ok (.iload_n 3, 1) := by decide +kernel
theorem dX12_wish_19 : decode cX12_wish 19 = .ok (.iconst 0, 1) := by decide +kernel
theorem dX12_wish_20 : decode cX12_wish 20 = .ok (.bipush 63, 2) := by decide +kernel
theorem dX12_wish_22 : decode cX12_wish 22 = .ok (.invokestatic 260, 3) := by decide +kernel
theorem dX12_wish_25 : decode cX12_wish 25 = .ok (.ifCond .ne 5, 3) := by decide +kernel
theorem dX12_wish_28 : decode cX12_wish 28 = .ok (.iconst 0, 1) := by decide +kernel
theorem dX12_wish_29 : decode cX12_wish 29 = .ok (.ireturn, 1) := by decide +kernel
theorem dX12_wish_30 : decode cX12_wish 30 = .ok (.aload_n 0, 1) := by decide +kernel
theorem dX12_wish_31 : decode cX12_wish 31 = .ok (.getfield 254, 3) := by decide +kernel
theorem dX12_wish_34 : decode cX12_wish 34 = .ok (.iload_n 1, 1) := by decide +kernel
theorem dX12_wish_35 : decode cX12_wish 35 = .ok (.iconst 1, 1) := by decide +kernel
theorem dX12_wish_36 : decode cX12_wish 36 = .ok (.bastore, 1) := by decide +kernel
theorem dX12_wish_37 : decode cX12_wish 37 = .ok (.aload_n 0, 1) := by decide +kernel
theorem dX12_wish_38 : decode cX12_wish 38 = .ok (.getfield 242, 3) := by decide +kernel
theorem dX12_wish_41 : decode cX12_wish 41 = .ok (.iload_n 1, 1) := by decide +kernel
theorem dX12_wish_42 : decode cX12_wish 42 = .ok (.iload_n 2, 1) := by decide +kernel
theorem dX12_wish_43 : decode cX12_wish 43 = .ok (.iastore, 1) := by decide +kernel
theorem dX12_wish_44 : decode cX12_wish 44 = .ok (.aload_n 0, 1) := by decide +kernel
theorem dX12_wish_45 : decode cX12_wish 45 = .ok (.getfield 245, 3) := by decide +kernel
theorem dX12_wish_48 : decode cX12_wish 48 = .ok (.iload_n 1, 1) := by decide +kernel
theorem dX12_wish_49 : decode cX12_wish 49 = .ok (.iload_n 3, 1) := by decide +kernel
theorem dX12_wish_50 : decode cX12_wish 50 = .ok (.iastore, 1) := by decide +kernel
theorem dX12_wish_51 : decode cX12_wish 51 = .ok (.iconst 1, 1) := by decide +kernel
theorem dX12_wish_52 : decode cX12_wish 52 = .ok (.ireturn, 1) := by decide +kernel
theorem dX12_points_0 : decode cX12_points 0 = .ok (.aload_n 0, 1) := by decide +kernel
theorem dX12_points_1 : decode cX12_points 1 = .ok (.getfield 242, 3) := by decide +kernel
theorem dX12_points_4 : decode cX12_points 4 = .ok (.iload_n 1, 1) := by decide +kernel
theorem dX12_points_5 : decode cX12_points 5 = .ok (.iaload, 1) := by decide +kernel
theorem dX12_points_6 : decode cX12_points 6 = .ok (.aload_n 0, 1) := by decide +kernel
theorem dX12_points_7 : decode cX12_points 7 = .ok (.getfield 25, 3) := by decide +kernel
theorem dX12_points_10 : decode cX12_points 10 = .ok (.iload_n 2, 1) := by decide +kernel
theorem dX12_points_11 : decode cX12_points 11 = .ok (.iaload, 1) := by decide +kernel
theorem dX12_points_12 : decode cX12_points 12 = .ok (.ishr, 1) := by decide +kernel
theorem dX12_points_13 : decode cX12_points 13 = .ok (.iconst 1, 1) := by decide +kernel
theorem dX12_points_14 : decode cX12_points 14 = .ok (.iand, 1) := by decide +kernel
theorem dX12_points_15 : decode cX12_points 15 = .ok (.iconst 3, 1) := by decide +kernel
theorem dX12_points_16 : decode cX12_points 16 = .ok (.imul, 1) := by decide +kernel
theorem dX12_points_17 : decode cX12_points 17 = .ok (.aload_n 0, 1) := by decide +kernel
theorem dX12_points_18 : decode cX12_points 18 = .ok (.getfield 245, 3) := by decide +kernel
theorem dX12_points_21 : decode cX12_points 21 = .ok (.iload_n 1, 1) := by decide +kernel
theorem dX12_points_22 : decode cX12_points 22 = .ok (.iaload, 1) := by decide +kernel
theorem dX12_points_23 : decode cX12_points 23 = .ok (.aload_n 0, 1) := by decide +kernel
theorem dX12_points_24 : decode cX12_points 24 = .ok (.getfield 19, 3) := by decide +kernel
theorem dX12_points_27 : decode cX12_points 27 = .ok (.iload_n 2, 1) := by decide +kernel
theorem dX12_points_28 : decode cX12_points 28 = .ok (.iaload, 1) := by decide +kernel
theorem dX12_points_29 : decode cX12_points 29 = .ok (.ishr, 1) := by decide +kernel
theorem dX12_points_30 : decode cX12_points 30 = .ok (.iconst 1, 1) := by decide +kernel
theorem dX12_points_31 : decode cX12_points 31 = .ok (.iand, 1) := by decide +kernel
theorem dX12_points_32 : decode cX12_points 32 = .ok (.iadd, 1) := by decide +kernel
theorem dX12_points_33 : decode cX12_points 33 = .ok (.aload_n 0, 1) := by decide +kernel
theorem dX12_points_34 : decode cX12_points 34 = .ok (.getfield 16, 3) := by decide +kernel
theorem dX12_points_37 : decode cX12_points 37 = .ok (.iload_n 1, 1) := by decide +kernel
theorem dX12_points_38 : decode cX12_points 38 = .ok (.iaload, 1) := by decide +kernel
theorem dX12_points_39 : decode cX12_points 39 = .ok (.aload_n 0, 1) := by decide +kernel
theorem dX12_points_40 : decode cX12_points 40 = .ok (.getfield 22, 3) := by decide +kernel
theorem dX12_points_43 : decode cX12_points 43 = .ok (.iload_n 2, 1) := by decide +kernel
theorem dX12_points_44 : decode cX12_points 44 = .ok (.iaload, 1) := by decide +kernel
theorem dX12_points_45 : decode cX12_points 45 = .ok (.if_icmp .ne 7, 3) := by decide +kernel
theorem dX12_points_48 : decode cX12_points 48 = .ok (.iconst 2, 1) := by decide +kernel
theorem dX12_points_49 : decode cX12_points 49 = .ok (.goto 4, 3) := by decide +kernel
theorem dX12_points_52 : decode cX12_points 52 = .ok (.iconst 0, 1) := by decide +kernel
theorem dX12_points_53 : decode cX12_points 53 = .ok (.iadd, 1) := by decide +kernel
theorem dX12_points_54 : decode cX12_points 54 = .ok (.istore_n 3, 1) := by decide +kernel
theorem dX12_points_55 : decode cX12_points 55 = .ok (.iconst 0, 1) := by decide +kernel
theorem dX12_points_56 : decode cX12_points 56 = .ok (.istore 4, 2) := by decide +kernel
theorem dX12_points_58 : decode cX12_points 58 = .ok (.iload 4, 2) := by decide +kernel
theorem dX12_points_60 : decode cX12_points 60 = .ok (.aload_n 0, 1) := by decide +kernel
theorem dX12_points_61 : decode cX12_points 61 = .ok (.getfield 274, 3) := by decide +kernel
theorem dX12_points_64 : decode cX12_points 64 = .ok (.if_icmp .ge 64, 3) := by decide +kernel
theorem dX12_points_67 : decode cX12_points 67 = .ok (.aload_n 0, 1) := by decide +kernel
theorem dX12_points_68 : decode cX12_points 68 = .ok (.getfield 34, 3) := by decide +kernel
theorem dX12_points_71 : decode cX12_points 71 = .ok (.iload 4, 2) := by decide +kernel
theorem dX12_points_73 : decode cX12_points 73 = .ok (.iaload, 1) := by decide +kernel
theorem dX12_points_74 : decode cX12_points 74 = .ok (.istore 5, 2) := by decide +kernel
theorem dX12_points_76 : decode cX12_points 76 = .ok (.aload_n 0, 1) := by decide +kernel
theorem dX12_points_77 : decode cX12_points 77 = .ok (.iload 4, 2) := by decide +kernel
theorem dX12_points_79 : decode cX12_points 79 = .ok (.invokevirtual 277, 3) := by decide +kernel
theorem dX12_points_82 : decode cX12_points 82 = .ok (.ifCond .eq 40, 3) := by decide +kernel
theorem dX12_points_85 : decode cX12_points 85 = .ok (.aload_n 0, 1) := by decide +kernel
theorem dX12_points_86 : decode cX12_points 86 = .ok (.getfield 31, 3) := by decide +kernel
theorem dX12_points_89 : decode cX12_points 89 = .ok (.iload 4, 2) := by decide +kernel
theorem dX12_points_91 : decode cX12_points 91 = .ok (.iaload, 1) := by decide +kernel
theorem dX12_points_92 : decode cX12_points 92 = .ok (.iload_n 1, 1) := by decide +kernel
theorem dX12_points_93 : decode cX12_points 93 = .ok (.if_icmp .ne 29, 3) := by decide +kernel
theorem dX12_points_96 : decode cX12_points 96 = .ok (.aload_n 0, 1) := by decide +kernel
theorem dX12_points_97 : decode cX12_points 97 = .ok (.getfield 28, 3) := by decide +kernel
theorem dX12_points_100 : decode cX12_points 100 = .ok (.iload_n 2, 1) := by decide +kernel
theorem dX12_points_101 : decode cX12_points 101 = .ok (.iaload, 1) := by decide +kernel
theorem dX12_points_102 : decode cX12_points 102 = .ok (.iload 5, 2) := by decide +kernel
theorem dX12_points_104 : decode cX12_points 104 = .ok (.if_icmp .eq 14, 3) := by decide +kernel
theorem dX12_points_107 : decode cX12_points 107 = .ok (.aload_n 0, 1) := by decide +kernel
theorem dX12_points_108 : decode cX12_points 108 = .ok (.getfield 28, 3) := by decide +kernel
theorem dX12_points_111 : decode cX12_points 111 = .ok (.iload 5, 2) := by decide +kernel
theorem dX12_points_113 : decode cX12_points 113 = .ok (.iaload, 1) := by decide +kernel
theorem dX12_points_114 : decode cX12_points 114 = .ok (.iload_n 2, 1) := by decide +kernel
theorem dX12_points_115 : decode cX12_points 115 = .ok (.if_icmp .ne 7, 3) := by decide +kernel
theorem dX12_points_118 : decode cX12_points 118 = .ok (.iload_n 3, 1) := by decide +kernel
theorem dX12_points_119 : decode cX12_points 119 = .ok (.iconst 4, 1) := by decide +kernel
theorem dX12_points_120 : decode cX12_points 120 = .ok (.iadd, 1) := by decide +kernel
theorem dX12_points_121 : decode cX12_points 121 = .ok (.ireturn, 1) := by decide +kernel
theorem dX12_points_122 : decode cX12_points 122 = .ok (.iinc 4 1, 3) := by decide +kernel
theorem dX12_points_125 : decode cX12_points 125 = .ok (.goto (-67), 3) := by decide +kernel
theorem dX12_points_128 : decode cX12_points 128 = .ok (.iload_n 3, 1) := by decide +kernel
theorem dX12_points_129 : decode cX12_points 129 = .ok (.ireturn, 1) := by decide +kernel
theorem dX12_gathers_0 : decode cX12_gathers 0 = .ok (.aload_n 0, 1) := by decide +kernel
theorem dX12_gathers_1 : decode cX12_gathers 1 = .ok (.iconst 0, 1) := by decide +kernel
theorem dX12_gathers_2 : decode cX12_gathers 2 = .ok (.putfield 550, 3) := by decide +kernel
theorem dX12_gathers_5 : decode cX12_gathers 5 = .ok (.aload_n 0, 1) := by decide +kernel
theorem dX12_gathers_6 : decode cX12_gathers 6 = .ok (.iconst 0, 1) := by decide +kernel
theorem dX12_gathers_7 : decode cX12_gathers 7 = .ok (.putfield 553, 3) := by decide +kernel
theorem dX12_gathers_10 : decode cX12_gathers 10 = .ok (.iconst 0, 1) := by decide +kernel
theorem dX12_gathers_11 : decode cX12_gathers 11 = .ok (.istore_n 1, 1) := by decide +kernel
theorem dX12_gathers_12 : decode cX12_gathers 12 = .ok (.iload_n 1, 1) := by decide +kernel
theorem dX12_gathers_13 : decode cX12_gathers 13 = .ok (.aload_n 0, 1) := by decide +kernel
theorem dX12_gathers_14 : decode cX12_gathers 14 = .ok (.getfield 268, 3) := by decide +kernel
theorem dX12_gathers_17 : decode cX12_gathers 17 = .ok (.if_icmp .ge 59, 3) := by decide +kernel
theorem dX12_gathers_20 : decode cX12_gathers 20 = .ok (.aload_n 0, 1) := by decide +kernel
theorem dX12_gathers_21 : decode cX12_gathers 21 = .ok (.getfield 254, 3) := by decide +kernel
theorem dX12_gathers_24 : decode cX12_gathers 24 = .ok (.iload_n 1, 1) := by decide +kernel
theorem dX12_gathers_25 : decode cX12_gathers 25 = .ok (.baload, 1) := by decide +kernel
theorem dX12_gathers_26 : decode cX12_gathers 26 = .ok (.ifCond .eq 44, 3) := by decide +kernel
theorem dX12_gathers_29 : decode cX12_gathers 29 = .ok (.aload_n 0, 1) := by decide +kernel
theorem dX12_gathers_30 : decode cX12_gathers 30 = .ok (.iload_n 1, 1) := by decide +kernel
theorem dX12_gathers_31 : decode cX12_gathers 31 = .ok (.invokevirtual 294, 3) := by decide +kernel
theorem dX12_gathers_34 : decode cX12_gathers 34 = .ok (.iconst 2, 1) := by decide +kernel
theorem dX12_gathers_35 : decode cX12_gathers 35 = .ok (.if_icmp .ge 35, 3) := by decide +kernel
theorem dX12_gathers_38 : decode cX12_gathers 38 = .ok (.aload_n 0, 1) := by decide +kernel
theorem dX12_gathers_39 : decode cX12_gathers 39 = .ok (.getfield 550, 3) := by decide +kernel
theorem dX12_gathers_42 : decode cX12_gathers 42 = .ok (.bipush 6, 2) := by decide +kernel
theorem dX12_gathers_44 : decode cX12_gathers 44 = .ok (.if_icmp .ne 6, 3) := by decide +kernel
theorem dX12_gathers_47 : decode cX12_gathers 47 = .ok (.goto 23, 3) := by decide +kernel
theorem dX12_gathers_50 : decode cX12_gathers 50 = .ok (.aload_n 0, 1) := by decide +kernel
theorem dX12_gathers_51 : decode cX12_gathers 51 = .ok (.getfield 248, 3) := by decide +kernel
theorem dX12_gathers_54 : decode cX12_gathers 54 = .ok (.aload_n 0, 1) := by decide +kernel
theorem dX12_gathers_55 : decode cX12_gathers 55 = .ok (.getfield 550, 3) := by decide +kernel
theorem dX12_gathers_58 : decode cX12_gathers 58 = .ok (.iload_n 1, 1) := by decide +kernel
theorem dX12_gathers_59 : decode cX12_gathers 59 = .ok (.iastore, 1) := by decide +kernel
theorem dX12_gathers_60 : decode cX12_gathers 60 = .ok (.aload_n 0, 1) := by decide +kernel
theorem dX12_gathers_61 : decode cX12_gathers 61 = .ok (.aload_n 0, 1) := by decide +kernel
theorem dX12_gathers_62 : decode cX12_gathers 62 = .ok (.getfield 550, 3) := by decide +kernel
theorem dX12_gathers_65 : decode cX12_gathers 65 = .ok (.iconst 1, 1) := by decide +kernel
theorem dX12_gathers_66 : decode cX12_gathers 66 = .ok (.iadd, 1) := by decide +kernel
theorem dX12_gathers_67 : decode cX12_gathers 67 = .ok (.putfield 550, 3) := by decide +kernel
theorem dX12_gathers_70 : decode cX12_gathers 70 = .ok (.iinc 1 1, 3) := by decide +kernel
theorem dX12_gathers_73 : decode cX12_gathers 73 = .ok (.goto (-61), 3) := by decide +kernel
theorem dX12_gathers_76 : decode cX12_gathers 76 = .ok (.iconst 0, 1) := by decide +kernel
theorem dX12_gathers_77 : decode cX12_gathers 77 = .ok (.istore_n 1, 1) := by decide +kernel
theorem dX12_gathers_78 : decode cX12_gathers 78 = .ok (.iload_n 1, 1) := by decide +kernel
theorem dX12_gathers_79 : decode cX12_gathers 79 = .ok (.aload_n 0, 1) := by decide +kernel
theorem dX12_gathers_80 : decode cX12_gathers 80 = .ok (.getfield 271, 3) := by decide +kernel
theorem dX12_gathers_83 : decode cX12_gathers 83 = .ok (.if_icmp .ge 63, 3) := by decide +kernel
theorem dX12_gathers_86 : decode cX12_gathers 86 = .ok (.aload_n 0, 1) := by decide +kernel
theorem dX12_gathers_87 : decode cX12_gathers 87 = .ok (.iload_n 1, 1) := by decide +kernel
theorem dX12_gathers_88 : decode cX12_gathers 88 = .ok (.invokevirtual 290, 3) := by decide +kernel
theorem dX12_gathers_91 : decode cX12_gathers 91 = .ok (.iconst (-1), 1) := by decide +kernel
theorem dX12_gathers_92 : decode cX12_gathers 92 = .ok (.if_icmp .ne 48, 3) := by decide +kernel
theorem dX12_gathers_95 : decode cX12_gathers 95 = .ok (.aload_n 0, 1) := by decide +kernel
theorem dX12_gathers_96 : decode cX12_gathers 96 = .ok (.iload_n 1, 1) := by decide +kernel
theorem dX12_gathers_97 : decode cX12_gathers 97 = .ok (.aload_n 0, 1) := by decide +kernel
theorem dX12_gathers_98 : decode cX12_gathers 98 = .ok (.getfield 281, 3) := by decide +kernel
theorem dX12_gathers_101 : decode cX12_gathers 101 = .ok (.invokevirtual 297, 3) := by decide +kernel
theorem dX12_gathers_104 : decode cX12_gathers 104 = .ok (.iconst (-1), 1) := by decide +kernel
theorem dX12_gathers_105 : decode cX12_gathers 105 = .ok (.if_icmp .ne 35, 3) := by decide +kernel
theorem dX12_gathers_108 : decode cX12_gathers 108 = .ok (.aload_n 0, 1) := by decide +kernel
theorem dX12_gathers_109 : decode cX12_gathers 109 = .ok (.getfield 553, 3) := by decide +kernel
theorem dX12_gathers_112 : decode cX12_gathers 112 = .ok (.bipush 6, 2) := by decide +kernel
theorem dX12_gathers_114 : decode cX12_gathers 114 = .ok (.if_icmp .ne 6, 3) := by decide +kernel
theorem dX12_gathers_117 : decode cX12_gathers 117 = .ok (.goto 23, 3) := by decide +kernel
theorem dX12_gathers_120 : decode cX12_gathers 120 = .ok (.aload_n 0, 1) := by decide +kernel
theorem dX12_gathers_121 : decode cX12_gathers 121 = .ok (.getfield 251, 3) := by decide +kernel
theorem dX12_gathers_124 : decode cX12_gathers 124 = .ok (.aload_n 0, 1) := by decide +kernel
theorem dX12_gathers_125 : decode cX12_gathers 125 = .ok (.getfield 553, 3) := by decide +kernel
theorem dX12_gathers_128 : decode cX12_gathers 128 = .ok (.iload_n 1, 1) := by decide +kernel
theorem dX12_gathers_129 : decode cX12_gathers 129 = .ok (.iastore, 1) := by decide +kernel
theorem dX12_gathers_130 : decode cX12_gathers 130 = .ok (.aload_n 0, 1) := by decide +kernel
theorem dX12_gathers_131 : decode cX12_gathers 131 = .ok (.aload_n 0, 1) := by decide +kernel
theorem dX12_gathers_132 : decode cX12_gathers 132 = .ok (.getfield 553, 3) := by decide +kernel
theorem dX12_gathers_135 : decode cX12_gathers 135 = .ok (.iconst 1, 1) := by decide +kernel
theorem dX12_gathers_136 : decode cX12_gathers 136 = .ok (.iadd, 1) := by decide +kernel
theorem dX12_gathers_137 : decode cX12_gathers 137 = .ok (.putfield 553, 3) := by decide +kernel
theorem dX12_gathers_140 : decode cX12_gathers 140 = .ok (.iinc 1 1, 3) := by decide +kernel
theorem dX12_gathers_143 : decode cX12_gathers 143 = .ok (.goto (-65), 3) := by decide +kernel
theorem dX12_gathers_146 : decode cX12_gathers 146 = .ok (.return_, 1) := by decide +kernel
theorem dX12_isRow_0 : decode cX12_isRow 0 = .ok (.iload_n 1, 1) := by decide +kernel
theorem dX12_isRow_1 : decode cX12_isRow 1 = .ok (.istore_n 2, 1) := by decide +kernel
theorem dX12_isRow_2 : decode cX12_isRow 2 = .ok (.iconst 0, 1) := by decide +kernel
theorem dX12_isRow_3 : decode cX12_isRow 3 = .ok (.istore_n 3, 1) := by decide +kernel
theorem dX12_isRow_4 : decode cX12_isRow 4 = .ok (.aload_n 0, 1) := by decide +kernel
theorem dX12_isRow_5 : decode cX12_isRow 5 = .ok (.getfield 550, 3) := by decide +kernel
theorem dX12_isRow_8 : decode cX12_isRow 8 = .ok (.iconst 1, 1) := by decide +kernel
theorem dX12_isRow_9 : decode cX12_isRow 9 = .ok (.isub, 1) := by decide +kernel
theorem dX12_isRow_10 : decode cX12_isRow 10 = .ok (.istore 4, 2) := by decide +kernel
theorem dX12_isRow_12 : decode cX12_isRow 12 = .ok (.iload 4, 2) := by decide +kernel
theorem dX12_isRow_14 : decode cX12_isRow 14 = .ok (.ifCond .lt 79, 3) := by decide +kernel
theorem dX12_isRow_17 : decode cX12_isRow 17 = .ok (.aload_n 0, 1) := by decide +kernel
theorem dX12_isRow_18 : decode cX12_isRow 18 = .ok (.getfield 197, 3) := by decide +kernel
theorem dX12_isRow_21 : decode cX12_isRow 21 = .ok (.iload 4, 2) := by decide +kernel
theorem dX12_isRow_23 : decode cX12_isRow 23 = .ok (.iload_n 2, 1) := by decide +kernel
theorem dX12_isRow_24 : decode cX12_isRow 24 = .ok (.aload_n 0, 1) := by decide +kernel
theorem dX12_isRow_25 : decode cX12_isRow 25 = .ok (.getfield 553, 3) := by decide +kernel
theorem dX12_isRow_28 : decode cX12_isRow 28 = .ok (.iconst 1, 1) := by decide +kernel
theorem dX12_isRow_29 : decode cX12_isRow 29 = .ok (.iadd, 1) := by decide +kernel
theorem dX12_isRow_30 : decode cX12_isRow 30 = .ok (.irem, 1) := by decide +kernel
theorem dX12_isRow_31 : decode cX12_isRow 31 = .ok (.iastore, 1) := by decide +kernel
theorem dX12_isRow_32 : decode cX12_isRow 32 = .ok (.iload_n 2, 1) := by decide +kernel
theorem dX12_isRow_33 : decode cX12_isRow 33 = .ok (.aload_n 0, 1) := by decide +kernel
theorem dX12_isRow_34 : decode cX12_isRow 34 = .ok (.getfield 553, 3) := by decide +kernel
theorem dX12_isRow_37 : decode cX12_isRow 37 = .ok (.iconst 1, 1) := by decide +kernel
theorem dX12_isRow_38 : decode cX12_isRow 38 = .ok (.iadd, 1) := by decide +kernel
theorem dX12_isRow_39 : decode cX12_isRow 39 = .ok (.idiv, 1) := by decide +kernel
theorem dX12_isRow_40 : decode cX12_isRow 40 = .ok (.istore_n 2, 1) := by decide +kernel
theorem dX12_isRow_41 : decode cX12_isRow 41 = .ok (.aload_n 0, 1) := by decide +kernel
theorem dX12_isRow_42 : decode cX12_isRow 42 = .ok (.getfield 197, 3) := by decide +kernel
theorem dX12_isRow_45 : decode cX12_isRow 45 = .ok (.iload 4, 2) := by decide +kernel
theorem dX12_isRow_47 : decode cX12_isRow 47 = .ok (.iaload, 1) := by decide +kernel
theorem dX12_isRow_48 : decode cX12_isRow 48 = .ok (.aload_n 0, 1) := by decide +kernel
theorem dX12_isRow_49 : decode cX12_isRow 49 = .ok (.getfield 553, 3) := by decide +kernel
theorem dX12_isRow_52 : decode cX12_isRow 52 = .ok (.if_icmp .ne 6, 3) := by decide +kernel
theorem dX12_isRow_55 : decode cX12_isRow 55 = .ok (.goto 32, 3) := by decide +kernel
theorem dX12_isRow_58 : decode cX12_isRow 58 = .ok (.iload_n 3, 1) := by decide +kernel
theorem dX12_isRow_59 : decode cX12_isRow 59 = .ok (.aload_n 0, 1) := by decide +kernel
theorem dX12_isRow_60 : decode cX12_isRow 60 = .ok (.getfield 197, 3) := by decide +kernel
theorem dX12_isRow_63 : decode cX12_isRow 63 = .ok (.iload 4, 2) := by decide +kernel
theorem dX12_isRow_65 : decode cX12_isRow 65 = .ok (.iaload, 1) := by decide +kernel
theorem dX12_isRow_66 : decode cX12_isRow 66 = .ok (.ishr, 1) := by decide +kernel
theorem dX12_isRow_67 : decode cX12_isRow 67 = .ok (.iconst 1, 1) := by decide +kernel
theorem dX12_isRow_68 : decode cX12_isRow 68 = .ok (.iand, 1) := by decide +kernel
theorem dX12_isRow_69 : decode cX12_isRow 69 = .ok (.iconst 1, 1) := by decide +kernel
theorem dX12_isRow_70 : decode cX12_isRow 70 = .ok (.if_icmp .ne 5, 3) := by decide +kernel
theorem dX12_isRow_73 : decode cX12_isRow 73 = .ok (.iconst 0, 1) := by decide +kernel
theorem dX12_isRow_74 : decode cX12_isRow 74 = .ok (.ireturn, 1) := by decide +kernel
theorem dX12_isRow_75 : decode cX12_isRow 75 = .ok (.iload_n 3, 1) := by decide +kernel
theorem dX12_isRow_76 : decode cX12_isRow 76 = .ok (.iconst 1, 1) := by decide +kernel
theorem dX12_isRow_77 : decode cX12_isRow 77 = .ok (.aload_n 0, 1) := by decide +kernel
theorem dX12_isRow_78 : decode cX12_isRow 78 = .ok (.getfield 197, 3) := by decide +kernel
theorem dX12_isRow_81 : decode cX12_isRow 81 = .ok (.iload 4, 2) := by decide +kernel
theorem dX12_isRow_83 : decode cX12_isRow 83 = .ok (.iaload, 1) := by decide +kernel
theorem dX12_isRow_84 : decode cX12_isRow 84 = .ok (.ishl, 1) := by decide +kernel
theorem dX12_isRow_85 : decode cX12_isRow 85 = .ok (.ior, 1) := by decide +kernel
theorem dX12_isRow_86 : decode cX12_isRow 86 = .ok (.istore_n 3, 1) := by decide +kernel
theorem dX12_isRow_87 : decode cX12_isRow 87 = .ok (.iinc 4 (-1), 3) := by decide +kernel
theorem dX12_isRow_90 : decode cX12_isRow 90 = .ok (.goto (-78), 3) := by decide +kernel
theorem dX12_isRow_93 : decode cX12_isRow 93 = .ok (.iconst 1, 1) := by decide +kernel
theorem dX12_isRow_94 : decode cX12_isRow 94 = .ok (.ireturn, 1) := by decide +kernel
theorem dX12_pairing_0 : decode cX12_pairing 0 = .ok (.aload_n 0, 1) := by decide +kernel
theorem dX12_pairing_1 : decode cX12_pairing 1 = .ok (.invokevirtual 556, 3) := by decide +kernel
theorem dX12_pairing_4 : decode cX12_pairing 4 = .ok (.iconst 1, 1) := by decide +kernel
theorem dX12_pairing_5 : decode cX12_pairing 5 = .ok (.istore_n 1, 1) := by decide +kernel
theorem dX12_pairing_6 : decode cX12_pairing 6 = .ok (.iconst 0, 1) := by decide +kernel
theorem dX12_pairing_7 : decode cX12_pairing 7 = .ok (.istore_n 2, 1) := by decide +kernel
theorem dX12_pairing_8 : decode cX12_pairing 8 = .ok (.iload_n 2, 1) := by decide +kernel
theorem dX12_pairing_9 : decode cX12_pairing 9 = .ok (.aload_n 0, 1) := by decide +kernel
theorem dX12_pairing_10 : decode cX12_pairing 10 = .ok (.getfield 550, 3) := by decide +kernel
theorem dX12_pairing_13 : decode cX12_pairing 13 = .ok (.if_icmp .ge 18, 3) := by decide +kernel
theorem dX12_pairing_16 : decode cX12_pairing 16 = .ok (.iload_n 1, 1) := by decide +kernel
theorem dX12_pairing_17 : decode cX12_pairing 17 = .ok (.aload_n 0, 1) := by decide +kernel
theorem dX12_pairing_18 : decode cX12_pairing 18 = .ok (.getfield 553, 3) := by decide +kernel
theorem dX12_pairing_21 : decode cX12_pairing 21 = .ok (.iconst 1, 1) := by decide +kernel
theorem dX12_pairing_22 : decode cX12_pairing 22 = .ok (.iadd, 1) := by decide +kernel
theorem dX12_pairing_23 : decode cX12_pairing 23 = .ok (.imul, 1) := by decide +kernel
theorem dX12_pairing_24 : decode cX12_pairing 24 = .ok (.istore_n 1, 1) := by decide +kernel
theorem dX12_pairing_25 : decode cX12_pairing 25 = .ok (.iinc 2 1, 3) := by decide +kernel
theorem dX12_pairing_28 : decode cX12_pairing 28 = .ok (.goto (-20), 3) := by decide +kernel
theorem dX12_pairing_31 : decode cX12_pairing 31 = .ok (.iconst (-1), 1) := by decide +kernel
theorem dX12_pairing_32 : decode cX12_pairing 32 = .ok (.istore_n 2, 1) := by decide +kernel
theorem dX12_pairing_33 : decode cX12_pairing 33 = .ok (.iconst 0, 1) := by decide +kernel
theorem dX12_pairing_34 : decode cX12_pairing 34 = .ok (.istore_n 3, 1) := by decide +kernel
theorem dX12_pairing_35 : decode cX12_pairing 35 = .ok (.iconst 0, 1) := by decide +kernel
theorem dX12_pairing_36 : decode cX12_pairing 36 = .ok (.istore 4, 2) := by decide +kernel
theorem dX12_pairing_38 : decode cX12_pairing 38 = .ok (.iload 4, 2) := by decide +kernel
theorem dX12_pairing_40 : decode cX12_pairing 40 = .ok (.iload_n 1, 1) := by decide +kernel
theorem dX12_pairing_41 : decode cX12_pairing 41 = .ok (.if_icmp .ge 155, 3) := by decide +kernel
theorem dX12_pairing_44 : decode cX12_pairing 44 = .ok (.aload_n 0, 1) := by decide +kernel
theorem dX12_pairing_45 : decode cX12_pairing 45 = .ok (.iload 4, 2) := by decide +kernel
theorem dX12_pairing_47 : decode cX12_pairing 47 = .ok (.invokevirtual 559, 3) := by decide +kernel
theorem dX12_pairing_50 : decode cX12_pairing 50 = .ok (.ifCond .ne 6, 3) := by decide +kernel
theorem dX12_pairing_53 : decode cX12_pairing 53 = .ok (.goto 137, 3) := by decide +kernel
theorem dX12_pairing_56 : decode cX12_pairing 56 = .ok (.iconst 0, 1) := by decide +kernel
theorem dX12_pairing_57 : decode cX12_pairing 57 = .ok (.istore 5, 2) := by decide +kernel
theorem dX12_pairing_59 : decode cX12_pairing 59 = .ok (.iconst 0, 1) := by decide +kernel
theorem dX12_pairing_60 : decode cX12_pairing 60 = .ok (.istore 6, 2) := by decide +kernel
theorem dX12_pairing_62 : decode cX12_pairing 62 = .ok (.iconst 0, 1) := by decide +kernel
theorem dX12_pairing_63 : decode cX12_pairing 63 = .ok (.istore 7, 2) := by decide +kernel
theorem dX12_pairing_65 : decode cX12_pairing 65 = .ok (.iload 7, 2) := by decide +kernel
theorem dX12_pairing_67 : decode cX12_pairing 67 = .ok (.aload_n 0, 1) := by decide +kernel
theorem dX12_pairing_68 : decode cX12_pairing 68 = .ok (.getfield 550, 3) := by decide +kernel
theorem dX12_pairing_71 : decode cX12_pairing 71 = .ok (.if_icmp .ge 60, 3) := by decide +kernel
theorem dX12_pairing_74 : decode cX12_pairing 74 = .ok (.aload_n 0, 1) := by decide +kernel
theorem dX12_pairing_75 : decode cX12_pairing 75 = .ok (.getfield 197, 3) := by decide +kernel
theorem dX12_pairing_78 : decode cX12_pairing 78 = .ok (.iload 7, 2) := by decide +kernel
theorem dX12_pairing_80 : decode cX12_pairing 80 = .ok (.iaload, 1) := by decide +kernel
theorem dX12_pairing_81 : decode cX12_pairing 81 = .ok (.aload_n 0, 1) := by decide +kernel
theorem dX12_pairing_82 : decode cX12_pairing 82 = .ok (.getfield 553, 3) := by decide +kernel
theorem dX12_pairing_85 : decode cX12_pairing 85 = .ok (.if_icmp .ne 6, 3) := by decide +kernel
theorem dX12_pairing_88 : decode cX12_pairing 88 = .ok (.goto 37, 3) := by decide +kernel
theorem dX12_pairing_91 : decode cX12_pairing 91 = .ok (.iload 5, 2) := by decide +kernel
theorem dX12_pairing_93 : decode cX12_pairing 93 = .ok (.iconst 1, 1) := by decide +kernel
theorem dX12_pairing_94 : decode cX12_pairing 94 = .ok (.iadd, 1) := by decide +kernel
theorem dX12_pairing_95 : decode cX12_pairing 95 = .ok (.istore 5, 2) := by decide +kernel
theorem dX12_pairing_97 : decode cX12_pairing 97 = .ok (.iload 6, 2) := by decide +kernel
theorem dX12_pairing_99 : decode cX12_pairing 99 = .ok (.aload_n 0, 1) := by decide +kernel
theorem dX12_pairing_100 : decode cX12_pairing 100 = .ok (.aload_n 0, 1) := by decide +kernel
theorem dX12_pairing_101 : decode cX12_pairing 101 = .ok (.getfield 248, 3) := by decide +kernel
theorem dX12_pairing_104 : decode cX12_pairing 104 = .ok (.iload 7, 2) := by decide +kernel
theorem dX12_pairing_106 : decode cX12_pairing 106 = .ok (.iaload, 1) := by decide +kernel
theorem dX12_pairing_107 : decode cX12_pairing 107 = .ok (.aload_n 0, 1) := by decide +kernel
theorem dX12_pairing_108 : decode cX12_pairing 108 = .ok (.getfield 251, 3) := by decide +kernel
theorem dX12_pairing_111 : decode cX12_pairing 111 = .ok (.aload_n 0, 1) := by decide +kernel
theorem dX12_pairing_112 : decode cX12_pairing 112 = .ok (.getfield 197, 3) := by decide +kernel
theorem dX12_pairing_115 : decode cX12_pairing 115 = .ok (.iload 7, 2) := by decide +kernel
theorem dX12_pairing_117 : decode cX12_pairing 117 = .ok (.iaload, 1) := by decide +kernel
theorem dX12_pairing_118 : decode cX12_pairing 118 = .ok (.iaload, 1) := by decide +kernel
theorem dX12_pairing_119 : decode cX12_pairing 119 = .ok (.invokevirtual 562, 3) := by decide +kernel
theorem dX12_pairing_122 : decode cX12_pairing 122 = .ok (.iadd, 1) := by decide +kernel
theorem dX12_pairing_123 : decode cX12_pairing 123 = .ok (.istore 6, 2) := by decide +kernel
theorem dX12_pairing_125 : decode cX12_pairing 125 = .ok (.iinc 7 1, 3) := by decide +kernel
theorem dX12_pairing_128 : decode cX12_pairing 128 = .ok (.goto (-63), 3) := by decide +kernel
theorem dX12_pairing_131 : decode cX12_pairing 131 = .ok (.iload 5, 2) := by decide +kernel
theorem dX12_pairing_133 : decode cX12_pairing 133 = .ok (.iload_n 2, 1) := by decide +kernel
theorem dX12_pairing_134 : decode cX12_pairing 134 = .ok (.if_icmp .lt 56, 3) := by decide +kernel
theorem dX12_pairing_137 : decode cX12_pairing 137 = .ok (.iload 5, 2) := by decide +kernel
theorem dX12_pairing_139 : decode cX12_pairing 139 = .ok (.iload_n 2, 1) := by decide +kernel
theorem dX12_pairing_140 : decode cX12_pairing 140 = .ok (.if_icmp .ne 12, 3) := by decide +kernel
theorem dX12_pairing_143 : decode cX12_pairing 143 = .ok (.iload 6, 2) := by decide +kernel
theorem dX12_pairing_145 : decode cX12_pairing 145 = .ok (.iload_n 3, 1) := by decide +kernel
theorem dX12_pairing_146 : decode cX12_pairing 146 = .ok (.if_icmp .gt 6, 3) := by decide +kernel
theorem dX12_pairing_149 : decode cX12_pairing 149 = .ok (.goto 41, 3) := by decide +kernel
theorem dX12_pairing_152 : decode cX12_pairing 152 = .ok (.iload 5, 2) := by decide +kernel
theorem dX12_pairing_154 : decode cX12_pairing 154 = .ok (.istore_n 2, 1) := by decide +kernel
theorem dX12_pairing_155 : decode cX12_pairing 155 = .ok (.iload 6, 2) := by decide +kernel
theorem dX12_pairing_157 : decode cX12_pairing 157 = .ok (.istore_n 3, 1) := by decide +kernel
theorem dX12_pairing_158 : decode cX12_pairing 158 = .ok (.iconst 0, 1) := by decide +kernel
theorem dX12_pairing_159 : decode cX12_pairing 159 = .ok (.istore 7, 2) := by decide +kernel
theorem dX12_pairing_161 : decode cX12_pairing 161 = .ok (.iload 7, 2) := by decide +kernel
theorem dX12_pairing_163 : decode cX12_pairing 163 = .ok (.aload_n 0, 1) := by decide +kernel
theorem dX12_pairing_164 : decode cX12_pairing 164 = .ok (.getfield 550, 3) := by decide +kernel
theorem dX12_pairing_167 : decode cX12_pairing 167 = .ok (.if_icmp .ge 23, 3) := by decide +kernel
theorem dX12_pairing_170 : decode cX12_pairing 170 = .ok (.aload_n 0, 1) := by decide +kernel
theorem dX12_pairing_171 : decode cX12_pairing 171 = .ok (.getfield 200, 3) := by decide +kernel
theorem dX12_pairing_174 : decode cX12_pairing 174 = .ok (.iload 7, 2) := by decide +kernel
theorem dX12_pairing_176 : decode cX12_pairing 176 = .ok (.aload_n 0, 1) := by decide +kernel
theorem dX12_pairing_177 : decode cX12_pairing 177 = .ok (.getfield 197, 3) := by decide +kernel
theorem dX12_pairing_180 : decode cX12_pairing 180 = .ok (.iload 7, 2) := by decide +kernel
theorem dX12_pairing_182 : decode cX12_pairing 182 = .ok (.iaload, 1) := by decide +kernel
theorem dX12_pairing_183 : decode cX12_pairing 183 = .ok (.iastore, 1) := by decide +kernel
theorem dX12_pairing_184 : decode cX12_pairing 184 = .ok (.iinc 7 1, 3) := by decide +kernel
theorem dX12_pairing_187 : decode cX12_pairing 187 = .ok (.goto (-26), 3) := by decide +kernel
theorem dX12_pairing_190 : decode cX12_pairing 190 = .ok (.iinc 4 1, 3) := by decide +kernel
theorem dX12_pairing_193 : decode cX12_pairing 193 = .ok (.goto (-155), 3) := by decide +kernel
theorem dX12_pairing_196 : decode cX12_pairing 196 = .ok (.iconst 0, 1) := by decide +kernel
theorem dX12_pairing_197 : decode cX12_pairing 197 = .ok (.istore 4, 2) := by decide +kernel
theorem dX12_pairing_199 : decode cX12_pairing 199 = .ok (.iconst 0, 1) := by decide +kernel
theorem dX12_pairing_200 : decode cX12_pairing 200 = .ok (.istore 5, 2) := by decide +kernel
theorem dX12_pairing_202 : decode cX12_pairing 202 = .ok (.iload 5, 2) := by decide +kernel
theorem dX12_pairing_204 : decode cX12_pairing 204 = .ok (.aload_n 0, 1) := by decide +kernel
theorem dX12_pairing_205 : decode cX12_pairing 205 = .ok (.getfield 550, 3) := by decide +kernel
theorem dX12_pairing_208 : decode cX12_pairing 208 = .ok (.if_icmp .ge 78, 3) := by decide +kernel
theorem dX12_pairing_211 : decode cX12_pairing 211 = .ok (.aload_n 0, 1) := by decide +kernel
theorem dX12_pairing_212 : decode cX12_pairing 212 = .ok (.getfield 274, 3) := by decide +kernel
theorem dX12_pairing_215 : decode cX12_pairing 215 = .ok (.bipush 40, 2) := by decide +kernel
theorem dX12_pairing_217 : decode cX12_pairing 217 = .ok (.if_icmp .ge 69, 3) := by decide +kernel
theorem dX12_pairing_220 : decode cX12_pairing 220 = .ok (.aload_n 0, 1) := by decide +kernel
theorem dX12_pairing_221 : decode cX12_pairing 221 = .ok (.getfield 200, 3) := by decide +kernel
theorem dX12_pairing_224 : decode cX12_pairing 224 = .ok (.iload 5, 2) := by decide +kernel
theorem dX12_pairing_226 : decode cX12_pairing 226 = .ok (.iaload, 1) := by decide +kernel
theorem dX12_pairing_227 : decode cX12_pairing 227 = .ok (.aload_n 0, 1) := by decide +kernel
theorem dX12_pairing_228 : decode cX12_pairing 228 = .ok (.getfield 553, 3) := by decide +kernel
theorem dX12_pairing_231 : decode cX12_pairing 231 = .ok (.if_icmp .ne 6, 3) := by decide +kernel
theorem dX12_pairing_234 : decode cX12_pairing 234 = .ok (.goto 46, 3) := by decide +kernel
theorem dX12_pairing_237 : decode cX12_pairing 237 = .ok (.aload_n 0, 1) := by decide +kernel
theorem dX12_pairing_238 : decode cX12_pairing 238 = .ok (.aload_n 0, 1) := by decide +kernel
theorem dX12_pairing_239 : decode cX12_pairing 239 = .ok (.getfield 248, 3) := by decide +kernel
theorem dX12_pairing_242 : decode cX12_pairing 242 = .ok (.iload 5, 2) := by decide +kernel
theorem dX12_pairing_244 : decode cX12_pairing 244 = .ok (.iaload, 1) := by decide +kernel
theorem dX12_pairing_245 : decode cX12_pairing 245 = .ok (.aload_n 0, 1) := by decide +kernel
theorem dX12_pairing_246 : decode cX12_pairing 246 = .ok (.getfield 251, 3) := by decide +kernel
theorem dX12_pairing_249 : decode cX12_pairing 249 = .ok (.aload_n 0, 1) := by decide +kernel
theorem dX12_pairing_250 : decode cX12_pairing 250 = .ok (.getfield 200, 3) := by decide +kernel
theorem dX12_pairing_253 : decode cX12_pairing 253 = .ok (.iload 5, 2) := by decide +kernel
theorem dX12_pairing_255 : decode cX12_pairing 255 = .ok (.iaload, 1) := by decide +kernel
theorem dX12_pairing_256 : decode cX12_pairing 256 = .ok (.iaload, 1) := by decide +kernel
theorem dX12_pairing_257 : decode cX12_pairing 257 = .ok (.invokevirtual 301, 3) := by decide +kernel
theorem dX12_pairing_260 : decode cX12_pairing 260 = .ok (.pop, 1) := by decide +kernel
theorem dX12_pairing_261 : decode cX12_pairing 261 = .ok (.aload_n 0, 1) := by decide +kernel
theorem dX12_pairing_262 : decode cX12_pairing 262 = .ok (.getfield 254, 3) := by decide +kernel
theorem dX12_pairing_265 : decode cX12_pairing 265 = .ok (.aload_n 0, 1) := by decide +kernel
theorem dX12_pairing_266 : decode cX12_pairing 266 = .ok (.getfield 248, 3) := by decide +kernel
theorem dX12_pairing_269 : decode cX12_pairing 269 = .ok (.iload 5, 2) := by decide +kernel
theorem dX12_pairing_271 : decode cX12_pairing 271 = .ok (.iaload, 1) := by decide +kernel
theorem dX12_pairing_272 : decode cX12_pairing 272 = .ok (.iconst 0, 1) := by decide +kernel
theorem dX12_pairing_273 : decode cX12_pairing 273 = .ok (.bastore, 1) := by decide +kernel
theorem dX12_pairing_274 : decode cX12_pairing 274 = .ok (.iload 4, 2) := by decide +kernel
theorem dX12_pairing_276 : decode cX12_pairing 276 = .ok (.iconst 1, 1) := by decide +kernel
theorem dX12_pairing_277 : decode cX12_pairing 277 = .ok (.iadd, 1) := by decide +kernel
theorem dX12_pairing_278 : decode cX12_pairing 278 = .ok (.istore 4, 2) := by decide +kernel
theorem dX12_pairing_280 : decode cX12_pairing 280 = .ok (.iinc 5 1, 3) := by decide +kernel
theorem dX12_pairing_283 : decode cX12_pairing 283 = .ok (.goto (-81), 3) := by decide +kernel
theorem dX12_pairing_286 : decode cX12_pairing 286 = .ok (.iload 4, 2) := by decide +kernel
theorem dX12_pairing_288 : decode cX12_pairing 288 = .ok (.ireturn, 1) := by decide +kernel
theorem dX12_trial_0 : decode cX12_trial 0 = .ok (.iload_n 1, 1) := by decide +kernel
theorem dX12_trial_1 : decode cX12_trial 1 = .ok (.iconst 0, 1) := by decide +kernel
theorem dX12_trial_2 : decode cX12_trial 2 = .ok (.iconst 1, 1) := by decide +kernel
theorem dX12_trial_3 : decode cX12_trial 3 = .ok (.aload_n 0, 1) := by decide +kernel
theorem dX12_trial_4 : decode cX12_trial 4 = .ok (.getfield 271, 3) := by decide +kernel
theorem dX12_trial_7 : decode cX12_trial 7 = .ok (.ishl, 1) := by decide +kernel
theorem dX12_trial_8 : decode cX12_trial 8 = .ok (.iconst 1, 1) := by decide +kernel
theorem dX12_trial_9 : decode cX12_trial 9 = .ok (.isub, 1) := by decide +kernel
theorem dX12_trial_10 : decode cX12_trial 10 = .ok (.invokestatic 260, 3) := by decide +kernel
theorem dX12_trial_13 : decode cX12_trial 13 = .ok (.ifCond .eq 15, 3) := by decide +kernel
theorem dX12_trial_16 : decode cX12_trial 16 = .ok (.iload_n 2, 1) := by decide +kernel
theorem dX12_trial_17 : decode cX12_trial 17 = .ok (.ifCond .lt 11, 3) := by decide +kernel
theorem dX12_trial_20 : decode cX12_trial 20 = .ok (.iload_n 2, 1) := by decide +kernel
theorem dX12_trial_21 : decode cX12_trial 21 = .ok (.iload_n 1, 1) := by decide +kernel
theorem dX12_trial_22 : decode cX12_trial 22 = .ok (.iconst (-1), 1) := by decide +kernel
theorem dX12_trial_23 : decode cX12_trial 23 = .ok (.ixor, 1) := by decide +kernel
theorem dX12_trial_24 : decode cX12_trial 24 = .ok (.iand, 1) := by decide +kernel
theorem dX12_trial_25 : decode cX12_trial 25 = .ok (.ifCond .eq 5, 3) := by decide +kernel
theorem dX12_trial_28 : decode cX12_trial 28 = .ok (.iconst 0, 1) := by decide +kernel
theorem dX12_trial_29 : decode cX12_trial 29 = .ok (.ireturn, 1) := by decide +kernel
theorem dX12_trial_30 : decode cX12_trial 30 = .ok (.aload_n 0, 1) := by decide +kernel
theorem dX12_trial_31 : decode cX12_trial 31 = .ok (.iload_n 1, 1) := by decide +kernel
theorem dX12_trial_32 : decode cX12_trial 32 = .ok (.putfield 565, 3) := by decide +kernel
theorem dX12_trial_35 : decode cX12_trial 35 = .ok (.aload_n 0, 1) := by decide +kernel
theorem dX12_trial_36 : decode cX12_trial 36 = .ok (.iload_n 2, 1) := by decide +kernel
theorem dX12_trial_37 : decode cX12_trial 37 = .ok (.putfield 568, 3) := by decide +kernel
theorem dX12_trial_40 : decode cX12_trial 40 = .ok (.iconst 0, 1) := by decide +kernel
theorem dX12_trial_41 : decode cX12_trial 41 = .ok (.istore_n 3, 1) := by decide +kernel
theorem dX12_trial_42 : decode cX12_trial 42 = .ok (.iload_n 3, 1) := by decide +kernel
theorem dX12_trial_43 : decode cX12_trial 43 = .ok (.bipush 16, 2) := by decide +kernel
theorem dX12_trial_45 : decode cX12_trial 45 = .ok (.if_icmp .ge 16, 3) := by decide +kernel
theorem dX12_trial_48 : decode cX12_trial 48 = .ok (.aload_n 0, 1) := by decide +kernel
theorem dX12_trial_49 : decode cX12_trial 49 = .ok (.getfield 257, 3) := by decide +kernel
theorem dX12_trial_52 : decode cX12_trial 52 = .ok (.iload_n 3, 1) := by decide +kernel
theorem dX12_trial_53 : decode cX12_trial 53 = .ok (.iconst (-1), 1) := by decide +kernel
theorem dX12_trial_54 : decode cX12_trial 54 = .ok (.iastore, 1) := by decide +kernel
theorem dX12_trial_55 : decode cX12_trial 55 = .ok (.iinc 3 1, 3) := by decide +kernel
theorem dX12_trial_58 : decode cX12_trial 58 = .ok (.goto (-16), 3) := by decide +kernel
theorem dX12_trial_61 : decode cX12_trial 61 = .ok (.iconst 1, 1) := by decide +kernel
theorem dX12_trial_62 : decode cX12_trial 62 = .ok (.ireturn, 1) := by decide +kernel
theorem dX12_outcome_0 : decode cX12_outcome 0 = .ok (.aload_n 0, 1) := by decide +kernel
theorem dX12_outcome_1 : decode cX12_outcome 1 = .ok (.iload_n 1, 1) := by decide +kernel
theorem dX12_outcome_2 : decode cX12_outcome 2 = .ok (.invokevirtual 287, 3) := by decide +kernel
theorem dX12_outcome_5 : decode cX12_outcome 5 = .ok (.ifCond .eq 25, 3) := by decide +kernel
theorem dX12_outcome_8 : decode cX12_outcome 8 = .ok (.aload_n 0, 1) := by decide +kernel
theorem dX12_outcome_9 : decode cX12_outcome 9 = .ok (.getfield 565, 3) := by decide +kernel
theorem dX12_outcome_12 : decode cX12_outcome 12 = .ok (.iload_n 1, 1) := by decide +kernel
theorem dX12_outcome_13 : decode cX12_outcome 13 = .ok (.ishr, 1) := by decide +kernel
theorem dX12_outcome_14 : decode cX12_outcome 14 = .ok (.iconst 1, 1) := by decide +kernel
theorem dX12_outcome_15 : decode cX12_outcome 15 = .ok (.iand, 1) := by decide +kernel
theorem dX12_outcome_16 : decode cX12_outcome 16 = .ok (.ifCond .eq 14, 3) := by decide +kernel
theorem dX12_outcome_19 : decode cX12_outcome 19 = .ok (.iload_n 2, 1) := by decide +kernel
theorem dX12_outcome_20 : decode cX12_outcome 20 = .ok (.iconst (-1), 1) := by decide +kernel
theorem dX12_outcome_21 : decode cX12_outcome 21 = .ok (.sipush 999, 3) := by decide +kernel
theorem dX12_outcome_24 : decode cX12_outcome 24 = .ok (.invokestatic 260, 3) := by decide +kernel
theorem dX12_outcome_27 : decode cX12_outcome 27 = .ok (.ifCond .ne 5, 3) := by decide +kernel
theorem dX12_outcome_30 : decode cX12_outcome 30 = .ok (.iconst 0, 1) := by decide +kernel
theorem dX12_outcome_31 : decode cX12_outcome 31 = .ok (.ireturn, 1) := by decide +kernel
theorem dX12_outcome_32 : decode cX12_outcome 32 = .ok (.aload_n 0, 1) := by decide +kernel
theorem dX12_outcome_33 : decode cX12_outcome 33 = .ok (.getfield 257, 3) := by decide +kernel
theorem dX12_outcome_36 : decode cX12_outcome 36 = .ok (.iload_n 1, 1) := by decide +kernel
theorem dX12_outcome_37 : decode cX12_outcome 37 = .ok (.iload_n 2, 1) := by decide +kernel
theorem dX12_outcome_38 : decode cX12_outcome 38 = .ok (.iastore, 1) := by decide +kernel
theorem dX12_outcome_39 : decode cX12_outcome 39 = .ok (.iconst 1, 1) := by decide +kernel
theorem dX12_outcome_40 : decode cX12_outcome 40 = .ok (.ireturn, 1) := by decide +kernel
theorem dX12_sumOf_0 : decode cX12_sumOf 0 = .ok (.iconst 0, 1) := by decide +kernel
theorem dX12_sumOf_1 : decode cX12_sumOf 1 = .ok (.istore_n 2, 1) := by decide +kernel
theorem dX12_sumOf_2 : decode cX12_sumOf 2 = .ok (.iconst 0, 1) := by decide +kernel
theorem dX12_sumOf_3 : decode cX12_sumOf 3 = .ok (.istore_n 3, 1) := by decide +kernel
theorem dX12_sumOf_4 : decode cX12_sumOf 4 = .ok (.iload_n 3, 1) := by decide +kernel
theorem dX12_sumOf_5 : decode cX12_sumOf 5 = .ok (.bipush 16, 2) := by decide +kernel
theorem dX12_sumOf_7 : decode cX12_sumOf 7 = .ok (.if_icmp .ge 31, 3) := by decide +kernel
theorem dX12_sumOf_10 : decode cX12_sumOf 10 = .ok (.iload_n 2, 1) := by decide +kernel
theorem dX12_sumOf_11 : decode cX12_sumOf 11 = .ok (.iload_n 1, 1) := by decide +kernel
theorem dX12_sumOf_12 : decode cX12_sumOf 12 = .ok (.iload_n 3, 1) := by decide +kernel
theorem dX12_sumOf_13 : decode cX12_sumOf 13 = .ok (.ishr, 1) := by decide +kernel
theorem dX12_sumOf_14 : decode cX12_sumOf 14 = .ok (.iconst 1, 1) := by decide +kernel
theorem dX12_sumOf_15 : decode cX12_sumOf 15 = .ok (.iand, 1) := by decide +kernel
theorem dX12_sumOf_16 : decode cX12_sumOf 16 = .ok (.iconst 1, 1) := by decide +kernel
theorem dX12_sumOf_17 : decode cX12_sumOf 17 = .ok (.if_icmp .ne 12, 3) := by decide +kernel
theorem dX12_sumOf_20 : decode cX12_sumOf 20 = .ok (.aload_n 0, 1) := by decide +kernel
theorem dX12_sumOf_21 : decode cX12_sumOf 21 = .ok (.getfield 257, 3) := by decide +kernel
theorem dX12_sumOf_24 : decode cX12_sumOf 24 = .ok (.iload_n 3, 1) := by decide +kernel
theorem dX12_sumOf_25 : decode cX12_sumOf 25 = .ok (.iaload, 1) := by decide +kernel
theorem dX12_sumOf_26 : decode cX12_sumOf 26 = .ok (.goto 4, 3) := by decide +kernel
theorem dX12_sumOf_29 : decode cX12_sumOf 29 = .ok (.iconst 0, 1) := by decide +kernel
theorem dX12_sumOf_30 : decode cX12_sumOf 30 = .ok (.iadd, 1) := by decide +kernel
theorem dX12_sumOf_31 : decode cX12_sumOf 31 = .ok (.istore_n 2, 1) := by decide +kernel
theorem dX12_sumOf_32 : decode cX12_sumOf 32 = .ok (.iinc 3 1, 3) := by decide +kernel
theorem dX12_sumOf_35 : decode cX12_sumOf 35 = .ok (.goto (-31), 3) := by decide +kernel
theorem dX12_sumOf_38 : decode cX12_sumOf 38 = .ok (.iload_n 2, 1) := by decide +kernel
theorem dX12_sumOf_39 : decode cX12_sumOf 39 = .ok (.ireturn, 1) := by decide +kernel
theorem dX12_draws_0 : decode cX12_draws 0 = .ok (.iconst 0, 1) := by decide +kernel
theorem dX12_draws_1 : decode cX12_draws 1 = .ok (.istore_n 1, 1) := by decide +kernel
theorem dX12_draws_2 : decode cX12_draws 2 = .ok (.iconst 0, 1) := by decide +kernel
theorem dX12_draws_3 : decode cX12_draws 3 = .ok (.istore_n 2, 1) := by decide +kernel
theorem dX12_draws_4 : decode cX12_draws 4 = .ok (.iload_n 2, 1) := by decide +kernel
theorem dX12_draws_5 : decode cX12_draws 5 = .ok (.bipush 16, 2) := by decide +kernel
theorem dX12_draws_7 : decode cX12_draws 7 = .ok (.if_icmp .ge 37, 3) := by decide +kernel
theorem dX12_draws_10 : decode cX12_draws 10 = .ok (.aload_n 0, 1) := by decide +kernel
theorem dX12_draws_11 : decode cX12_draws 11 = .ok (.getfield 565, 3) := by decide +kernel
theorem dX12_draws_14 : decode cX12_draws 14 = .ok (.iload_n 2, 1) := by decide +kernel
theorem dX12_draws_15 : decode cX12_draws 15 = .ok (.ishr, 1) := by decide +kernel
theorem dX12_draws_16 : decode cX12_draws 16 = .ok (.iconst 1, 1) := by decide +kernel
theorem dX12_draws_17 : decode cX12_draws 17 = .ok (.iand, 1) := by decide +kernel
theorem dX12_draws_18 : decode cX12_draws 18 = .ok (.iconst 1, 1) := by decide +kernel
theorem dX12_draws_19 : decode cX12_draws 19 = .ok (.if_icmp .ne 19, 3) := by decide +kernel
theorem dX12_draws_22 : decode cX12_draws 22 = .ok (.aload_n 0, 1) := by decide +kernel
theorem dX12_draws_23 : decode cX12_draws 23 = .ok (.getfield 257, 3) := by decide +kernel
theorem dX12_draws_26 : decode cX12_draws 26 = .ok (.iload_n 2, 1) := by decide +kernel
theorem dX12_draws_27 : decode cX12_draws 27 = .ok (.iaload, 1) := by decide +kernel
theorem dX12_draws_28 : decode cX12_draws 28 = .ok (.iconst (-1), 1) := by decide +kernel
theorem dX12_draws_29 : decode cX12_draws 29 = .ok (.if_icmp .eq 9, 3) := by decide +kernel
theorem dX12_draws_32 : decode cX12_draws 32 = .ok (.iload_n 1, 1) := by decide +kernel
theorem dX12_draws_33 : decode cX12_draws 33 = .ok (.iconst 1, 1) := by decide +kernel
theorem dX12_draws_34 : decode cX12_draws 34 = .ok (.iload_n 2, 1) := by decide +kernel
theorem dX12_draws_35 : decode cX12_draws 35 = .ok (.ishl, 1) := by decide +kernel
theorem dX12_draws_36 : decode cX12_draws 36 = .ok (.ior, 1) := by decide +kernel
theorem dX12_draws_37 : decode cX12_draws 37 = .ok (.istore_n 1, 1) := by decide +kernel
theorem dX12_draws_38 : decode cX12_draws 38 = .ok (.iinc 2 1, 3) := by decide +kernel
theorem dX12_draws_41 : decode cX12_draws 41 = .ok (.goto (-37), 3) := by decide +kernel
theorem dX12_draws_44 : decode cX12_draws 44 = .ok (.aload_n 0, 1) := by decide +kernel
theorem dX12_draws_45 : decode cX12_draws 45 = .ok (.getfield 568, 3) := by decide +kernel
theorem dX12_draws_48 : decode cX12_draws 48 = .ok (.iload_n 1, 1) := by decide +kernel
theorem dX12_draws_49 : decode cX12_draws 49 = .ok (.iand, 1) := by decide +kernel
theorem dX12_draws_50 : decode cX12_draws 50 = .ok (.istore_n 2, 1) := by decide +kernel
theorem dX12_draws_51 : decode cX12_draws 51 = .ok (.iload_n 2, 1) := by decide +kernel
theorem dX12_draws_52 : decode cX12_draws 52 = .ok (.invokestatic 464, 3) := by decide +kernel
theorem dX12_draws_55 : decode cX12_draws 55 = .ok (.istore_n 3, 1) := by decide +kernel
theorem dX12_draws_56 : decode cX12_draws 56 = .ok (.aload_n 0, 1) := by decide +kernel
theorem dX12_draws_57 : decode cX12_draws 57 = .ok (.iload_n 2, 1) := by decide +kernel
theorem dX12_draws_58 : decode cX12_draws 58 = .ok (.invokevirtual 571, 3) := by decide +kernel
theorem dX12_draws_61 : decode cX12_draws 61 = .ok (.istore 4, 2) := by decide +kernel
theorem dX12_draws_63 : decode cX12_draws 63 = .ok (.aload_n 0, 1) := by decide +kernel
theorem dX12_draws_64 : decode cX12_draws 64 = .ok (.iconst 0, 1) := by decide +kernel
theorem dX12_draws_65 : decode cX12_draws 65 = .ok (.putfield 574, 3) := by decide +kernel
theorem dX12_draws_68 : decode cX12_draws 68 = .ok (.aload_n 0, 1) := by decide +kernel
theorem dX12_draws_69 : decode cX12_draws 69 = .ok (.iconst 0, 1) := by decide +kernel
theorem dX12_draws_70 : decode cX12_draws 70 = .ok (.putfield 577, 3) := by decide +kernel
theorem dX12_draws_73 : decode cX12_draws 73 = .ok (.iconst 0, 1) := by decide +kernel
theorem dX12_draws_74 : decode cX12_draws 74 = .ok (.istore 5, 2) := by decide +kernel
theorem dX12_draws_76 : decode cX12_draws 76 = .ok (.iload 5, 2) := by decide +kernel
theorem dX12_draws_78 : decode cX12_draws 78 = .ok (.iload_n 1, 1) := by decide +kernel
theorem dX12_draws_79 : decode cX12_draws 79 = .ok (.if_icmp .gt 61, 3) := by decide +kernel
theorem dX12_draws_82 : decode cX12_draws 82 = .ok (.iload 5, 2) := by decide +kernel
theorem dX12_draws_84 : decode cX12_draws 84 = .ok (.iload_n 1, 1) := by decide +kernel
theorem dX12_draws_85 : decode cX12_draws 85 = .ok (.iconst (-1), 1) := by decide +kernel
theorem dX12_draws_86 : decode cX12_draws 86 = .ok (.ixor, 1) := by decide +kernel
theorem dX12_draws_87 : decode cX12_draws 87 = .ok (.iand, 1) := by decide +kernel
theorem dX12_draws_88 : decode cX12_draws 88 = .ok (.ifCond .ne 46, 3) := by decide +kernel
theorem dX12_draws_91 : decode cX12_draws 91 = .ok (.iload 5, 2) := by decide +kernel
theorem dX12_draws_93 : decode cX12_draws 93 = .ok (.invokestatic 464, 3) := by decide +kernel
theorem dX12_draws_96 : decode cX12_draws 96 = .ok (.iload_n 3, 1) := by decide +kernel
theorem dX12_draws_97 : decode cX12_draws 97 = .ok (.if_icmp .eq 6, 3) := by decide +kernel
theorem dX12_draws_100 : decode cX12_draws 100 = .ok (.goto 34, 3) := by decide +kernel
theorem dX12_draws_103 : decode cX12_draws 103 = .ok (.aload_n 0, 1) := by decide +kernel
theorem dX12_draws_104 : decode cX12_draws 104 = .ok (.aload_n 0, 1) := by decide +kernel
theorem dX12_draws_105 : decode cX12_draws 105 = .ok (.getfield 574, 3) := by decide +kernel
theorem dX12_draws_108 : decode cX12_draws 108 = .ok (.iconst 1, 1) := by decide +kernel
theorem dX12_draws_109 : decode cX12_draws 109 = .ok (.iadd, 1) := by decide +kernel
theorem dX12_draws_110 : decode cX12_draws 110 = .ok (.putfield 574, 3) := by decide +kernel
theorem dX12_draws_113 : decode cX12_draws 113 = .ok (.aload_n 0, 1) := by decide +kernel
theorem dX12_draws_114 : decode cX12_draws 114 = .ok (.iload 5, 2) := by decide +kernel
theorem dX12_draws_116 : decode cX12_draws 116 = .ok (.invokevirtual 571, 3) := by decide +kernel
theorem dX12_draws_119 : decode cX12_draws 119 = .ok (.iload 4, 2) := by decide +kernel
theorem dX12_draws_121 : decode cX12_draws 121 = .ok (.if_icmp .lt 13, 3) := by decide +kernel
theorem dX12_draws_124 : decode cX12_draws 124 = .ok (.aload_n 0, 1) := by decide +kernel
theorem dX12_draws_125 : decode cX12_draws 125 = .ok (.aload_n 0, 1) := by decide +kernel
theorem dX12_draws_126 : decode cX12_draws 126 = .ok (.getfield 577, 3) := by decide +kernel
theorem dX12_draws_129 : decode cX12_draws 129 = .ok (.iconst 1, 1) := by decide +kernel
theorem dX12_draws_130 : decode cX12_draws 130 = .ok (.iadd, 1) := by decide +kernel
theorem dX12_draws_131 : decode cX12_draws 131 = .ok (.putfield 577, 3) := by decide +kernel
theorem dX12_draws_134 : decode cX12_draws 134 = .ok (.iinc 5 1, 3) := by decide +kernel
theorem dX12_draws_137 : decode cX12_draws 137 = .ok (.goto (-61), 3) := by decide +kernel
theorem dX12_draws_140 : decode cX12_draws 140 = .ok (.return_, 1) := by decide +kernel
theorem dX12_doubt_0 : decode cX12_doubt 0 = .ok (.aload_n 0, 1) := by decide +kernel
theorem dX12_doubt_1 : decode cX12_doubt 1 = .ok (.invokevirtual 580, 3) := by decide +kernel
theorem dX12_doubt_4 : decode cX12_doubt 4 = .ok (.iload_n 1, 1) := by decide +kernel
theorem dX12_doubt_5 : decode cX12_doubt 5 = .ok (.tableswitch 57 0 2 #[27, 32, 37], 27) := by decide +kernel
theorem dX12_doubt_32 : decode cX12_doubt 32 = .ok (.aload_n 0, 1) := by decide +kernel
theorem dX12_doubt_33 : decode cX12_doubt 33 = .ok (.getfield 577, 3) := by decide +kernel
theorem dX12_doubt_36 : decode cX12_doubt 36 = .ok (.ireturn, 1) := by decide +kernel
theorem dX12_doubt_37 : decode cX12_doubt 37 = .ok (.aload_n 0, 1) := by decide +kernel
theorem dX12_doubt_38 : decode cX12_doubt 38 = .ok (.getfield 574, 3) := by decide +kernel
theorem dX12_doubt_41 : decode cX12_doubt 41 = .ok (.ireturn, 1) := by decide +kernel
theorem dX12_doubt_42 : decode cX12_doubt 42 = .ok (.bipush 20, 2) := by decide +kernel
theorem dX12_doubt_44 : decode cX12_doubt 44 = .ok (.aload_n 0, 1) := by decide +kernel
theorem dX12_doubt_45 : decode cX12_doubt 45 = .ok (.getfield 577, 3) := by decide +kernel
theorem dX12_doubt_48 : decode cX12_doubt 48 = .ok (.imul, 1) := by decide +kernel
theorem dX12_doubt_49 : decode cX12_doubt 49 = .ok (.aload_n 0, 1) := by decide +kernel
theorem dX12_doubt_50 : decode cX12_doubt 50 = .ok (.getfield 574, 3) := by decide +kernel
theorem dX12_doubt_53 : decode cX12_doubt 53 = .ok (.if_icmp .gt 7, 3) := by decide +kernel
theorem dX12_doubt_56 : decode cX12_doubt 56 = .ok (.iconst 1, 1) := by decide +kernel
theorem dX12_doubt_57 : decode cX12_doubt 57 = .ok (.goto 4, 3) := by decide +kernel
theorem dX12_doubt_60 : decode cX12_doubt 60 = .ok (.iconst 0, 1) := by decide +kernel
theorem dX12_doubt_61 : decode cX12_doubt 61 = .ok (.ireturn, 1) := by decide +kernel
theorem dX12_doubt_62 : decode cX12_doubt 62 = .ok (.iconst (-1), 1) := by decide +kernel
theorem dX12_doubt_63 : decode cX12_doubt 63 = .ok (.ireturn, 1) := by decide +kernel
theorem dX12_lettersOf_0 : decode cX12_lettersOf 0 = .ok (.iconst 0, 1) := by decide +kernel
theorem dX12_lettersOf_1 : decode cX12_lettersOf 1 = .ok (.istore_n 2, 1) := by decide +kernel
theorem dX12_lettersOf_2 : decode cX12_lettersOf 2 = .ok (.iconst 0, 1) := by decide +kernel
theorem dX12_lettersOf_3 : decode cX12_lettersOf 3 = .ok (.istore_n 3, 1) := by decide +kernel
theorem dX12_lettersOf_4 : decode cX12_lettersOf 4 = .ok (.iload_n 3, 1) := by decide +kernel
theorem dX12_lettersOf_5 : decode cX12_lettersOf 5 = .ok (.aload_n 0, 1) := by decide +kernel
theorem dX12_lettersOf_6 : decode cX12_lettersOf 6 = .ok (.getfield 431, 3) := by decide +kernel
theorem dX12_lettersOf_9 : decode cX12_lettersOf 9 = .ok (.if_icmp .ge 27, 3) := by decide +kernel
theorem dX12_lettersOf_12 : decode cX12_lettersOf 12 = .ok (.iload_n 2, 1) := by decide +kernel
theorem dX12_lettersOf_13 : decode cX12_lettersOf 13 = .ok (.aload_n 0, 1) := by decide +kernel
theorem dX12_lettersOf_14 : decode cX12_lettersOf 14 = .ok (.getfield 133, 3) := by decide +kernel
theorem dX12_lettersOf_17 : decode cX12_lettersOf 17 = .ok (.iload_n 3, 1) := by decide +kernel
theorem dX12_lettersOf_18 : decode cX12_lettersOf 18 = .ok (.iaload, 1) := by decide +kernel
theorem dX12_lettersOf_19 : decode cX12_lettersOf 19 = .ok (.iload_n 1, 1) := by decide +kernel
theorem dX12_lettersOf_20 : decode cX12_lettersOf 20 = .ok (.if_icmp .ne 7, 3) := by decide +kernel
theorem dX12_lettersOf_23 : decode cX12_lettersOf 23 = .ok (.iconst 1, 1) := by decide +kernel
theorem dX12_lettersOf_24 : decode cX12_lettersOf 24 = .ok (.goto 4, 3) := by decide +kernel
theorem dX12_lettersOf_27 : decode cX12_lettersOf 27 = .ok (.iconst 0, 1) := by decide +kernel
theorem dX12_lettersOf_28 : decode cX12_lettersOf 28 = .ok (.iadd, 1) := by decide +kernel
theorem dX12_lettersOf_29 : decode cX12_lettersOf 29 = .ok (.istore_n 2, 1) := by decide +kernel
theorem dX12_lettersOf_30 : decode cX12_lettersOf 30 = .ok (.iinc 3 1, 3) := by decide +kernel
theorem dX12_lettersOf_33 : decode cX12_lettersOf 33 = .ok (.goto (-29), 3) := by decide +kernel
theorem dX12_lettersOf_36 : decode cX12_lettersOf 36 = .ok (.iload_n 2, 1) := by decide +kernel
theorem dX12_lettersOf_37 : decode cX12_lettersOf 37 = .ok (.ireturn, 1) := by decide +kernel
theorem dX12_of_0 : decode cX12_of 0 = .ok (.aload_n 0, 1) := by decide +kernel
theorem dX12_of_1 : decode cX12_of 1 = .ok (.iload_n 1, 1) := by decide +kernel
theorem dX12_of_2 : decode cX12_of 2 = .ok (.invokevirtual 304, 3) := by decide +kernel
theorem dX12_of_5 : decode cX12_of 5 = .ok (.ifCond .ne 5, 3) := by decide +kernel
theorem dX12_of_8 : decode cX12_of 8 = .ok (.iconst (-1), 1) := by decide +kernel
theorem dX12_of_9 : decode cX12_of 9 = .ok (.ireturn, 1) := by decide +kernel
theorem dX12_of_10 : decode cX12_of 10 = .ok (.iload_n 2, 1) := by decide +kernel
theorem dX12_of_11 : decode cX12_of 11 = .ok (.tableswitch 78 0 5 #[37, 44, 51, 58, 65, 72], 37) := by decide +kernel
theorem dX12_of_48 : decode cX12_of 48 = .ok (.aload_n 0, 1) := by decide +kernel
theorem dX12_of_49 : decode cX12_of 49 = .ok (.getfield 31, 3) := by decide +kernel
theorem dX12_of_52 : decode cX12_of 52 = .ok (.iload_n 1, 1) := by decide +kernel
theorem dX12_of_53 : decode cX12_of 53 = .ok (.iaload, 1) := by decide +kernel
theorem dX12_of_54 : decode cX12_of 54 = .ok (.ireturn, 1) := by decide +kernel
theorem dX12_of_55 : decode cX12_of 55 = .ok (.aload_n 0, 1) := by decide +kernel
theorem dX12_of_56 : decode cX12_of 56 = .ok (.getfield 34, 3) := by decide +kernel
theorem dX12_of_59 : decode cX12_of 59 = .ok (.iload_n 1, 1) := by decide +kernel
theorem dX12_of_60 : decode cX12_of 60 = .ok (.iaload, 1) := by decide +kernel
theorem dX12_of_61 : decode cX12_of 61 = .ok (.ireturn, 1) := by decide +kernel
theorem dX12_of_62 : decode cX12_of 62 = .ok (.aload_n 0, 1) := by decide +kernel
theorem dX12_of_63 : decode cX12_of 63 = .ok (.getfield 37, 3) := by decide +kernel
theorem dX12_of_66 : decode cX12_of 66 = .ok (.iload_n 1, 1) := by decide +kernel
theorem dX12_of_67 : decode cX12_of 67 = .ok (.iaload, 1) := by decide +kernel
theorem dX12_of_68 : decode cX12_of 68 = .ok (.ireturn, 1) := by decide +kernel
theorem dX12_of_69 : decode cX12_of 69 = .ok (.aload_n 0, 1) := by decide +kernel
theorem dX12_of_70 : decode cX12_of 70 = .ok (.getfield 40, 3) := by decide +kernel
theorem dX12_of_73 : decode cX12_of 73 = .ok (.iload_n 1, 1) := by decide +kernel
theorem dX12_of_74 : decode cX12_of 74 = .ok (.iaload, 1) := by decide +kernel
theorem dX12_of_75 : decode cX12_of 75 = .ok (.ireturn, 1) := by decide +kernel
theorem dX12_of_76 : decode cX12_of 76 = .ok (.aload_n 0, 1) := by decide +kernel
theorem dX12_of_77 : decode cX12_of 77 = .ok (.getfield 46, 3) := by decide +kernel
theorem dX12_of_80 : decode cX12_of 80 = .ok (.iload_n 1, 1) := by decide +kernel
theorem dX12_of_81 : decode cX12_of 81 = .ok (.iaload, 1) := by decide +kernel
theorem dX12_of_82 : decode cX12_of 82 = .ok (.ireturn, 1) := by decide +kernel
theorem dX12_of_83 : decode cX12_of 83 = .ok (.aload_n 0, 1) := by decide +kernel
theorem dX12_of_84 : decode cX12_of 84 = .ok (.iload_n 1, 1) := by decide +kernel
theorem dX12_of_85 : decode cX12_of 85 = .ok (.invokevirtual 583, 3) := by decide +kernel
theorem dX12_of_88 : decode cX12_of 88 = .ok (.ireturn, 1) := by decide +kernel
theorem dX12_of_89 : decode cX12_of 89 = .ok (.iconst (-1), 1) := by decide +kernel
theorem dX12_of_90 : decode cX12_of 90 = .ok (.ireturn, 1) := by decide +kernel
theorem dX12_counted_0 : decode cX12_counted 0 = .ok (.iconst 0, 1) := by decide +kernel
theorem dX12_counted_1 : decode cX12_counted 1 = .ok (.istore_n 2, 1) := by decide +kernel
theorem dX12_counted_2 : decode cX12_counted 2 = .ok (.iconst 0, 1) := by decide +kernel
theorem dX12_counted_3 : decode cX12_counted 3 = .ok (.istore_n 3, 1) := by decide +kernel
theorem dX12_counted_4 : decode cX12_counted 4 = .ok (.iload_n 3, 1) := by decide +kernel
theorem dX12_counted_5 : decode cX12_counted 5 = .ok (.sipush 1300, 3) := by decide +kernel
theorem dX12_counted_8 : decode cX12_counted 8 = .ok (.if_icmp .ge 163, 3) := by decide +kernel
theorem dX12_counted_11 : decode cX12_counted 11 = .ok (.iconst 0, 1) := by decide +kernel
theorem dX12_counted_12 : decode cX12_counted 12 = .ok (.istore 4, 2) := by decide +kernel
theorem dX12_counted_14 : decode cX12_counted 14 = .ok (.iload_n 1, 1) := by decide +kernel
theorem dX12_counted_15 : decode cX12_counted 15 = .ok (.lookupswitch 113 #[(5, 33), (8, 59), (13, 86)], 33) := by decide +kernel
theorem dX12_counted_48 : decode cX12_counted 48 = .ok (.iload_n 3, 1) := by decide +kernel
theorem dX12_counted_49 : decode cX12_counted 49 = .ok (.aload_n 0, 1) := by decide +kernel
theorem dX12_counted_50 : decode cX12_counted 50 = .ok (.getfield 274, 3) := by decide +kernel
theorem dX12_counted_53 : decode cX12_counted 53 = .ok (.if_icmp .ge 15, 3) := by decide +kernel
theorem dX12_counted_56 : decode cX12_counted 56 = .ok (.aload_n 0, 1) := by decide +kernel
theorem dX12_counted_57 : decode cX12_counted 57 = .ok (.iload_n 3, 1) := by decide +kernel
theorem dX12_counted_58 : decode cX12_counted 58 = .ok (.invokevirtual 277, 3) := by decide +kernel
theorem dX12_counted_61 : decode cX12_counted 61 = .ok (.ifCond .eq 7, 3) := by decide +kernel
theorem dX12_counted_64 : decode cX12_counted 64 = .ok (.iconst 1, 1) := by decide +kernel
theorem dX12_counted_65 : decode cX12_counted 65 = .ok (.goto 4, 3) := by decide +kernel
theorem dX12_counted_68 : decode cX12_counted 68 = .ok (.iconst 0, 1) := by decide +kernel
theorem dX12_counted_69 : decode cX12_counted 69 = .ok (.istore 4, 2) := by decide +kernel
theorem dX12_counted_71 : decode cX12_counted 71 = .ok (.goto 81, 3) := by decide +kernel
theorem dX12_counted_74 : decode cX12_counted 74 = .ok (.iload_n 3, 1) := by decide +kernel
theorem dX12_counted_75 : decode cX12_counted 75 = .ok (.aload_n 0, 1) := by decide +kernel
theorem dX12_counted_76 : decode cX12_counted 76 = .ok (.getfield 470, 3) := by decide +kernel
theorem dX12_counted_79 : decode cX12_counted 79 = .ok (.if_icmp .ge 16, 3) := by decide +kernel
theorem dX12_counted_82 : decode cX12_counted 82 = .ok (.aload_n 0, 1) := by decide +kernel
theorem dX12_counted_83 : decode cX12_counted 83 = .ok (.getfield 175, 3) := by decide +kernel
theorem dX12_counted_86 : decode cX12_counted 86 = .ok (.iload_n 3, 1) := by decide +kernel
theorem dX12_counted_87 : decode cX12_counted 87 = .ok (.baload, 1) := by decide +kernel
theorem dX12_counted_88 : decode cX12_counted 88 = .ok (.ifCond .eq 7, 3) := by decide +kernel
theorem dX12_counted_91 : decode cX12_counted 91 = .ok (.iconst 1, 1) := by decide +kernel
theorem dX12_counted_92 : decode cX12_counted 92 = .ok (.goto 4, 3) := by decide +kernel
theorem dX12_counted_95 : decode cX12_counted 95 = .ok (.iconst 0, 1) := by decide +kernel
theorem dX12_counted_96 : decode cX12_counted 96 = .ok (.istore 4, 2) := by decide +kernel
theorem dX12_counted_98 : decode cX12_counted 98 = .ok (.goto 54, 3) := by decide +kernel
theorem dX12_counted_101 : decode cX12_counted 101 = .ok (.iload_n 3, 1) := by decide +kernel
theorem dX12_counted_102 : decode cX12_counted 102 = .ok (.aload_n 0, 1) := by decide +kernel
theorem dX12_counted_103 : decode cX12_counted 103 = .ok (.getfield 529, 3) := by decide +kernel
theorem dX12_counted_106 : decode cX12_counted 106 = .ok (.if_icmp .ge 16, 3) := by decide +kernel
theorem dX12_counted_109 : decode cX12_counted 109 = .ok (.aload_n 0, 1) := by decide +kernel
theorem dX12_counted_110 : decode cX12_counted 110 = .ok (.getfield 230, 3) := by decide +kernel
theorem dX12_counted_113 : decode cX12_counted 113 = .ok (.iload_n 3, 1) := by decide +kernel
theorem dX12_counted_114 : decode cX12_counted 114 = .ok (.baload, 1) := by decide +kernel
theorem dX12_counted_115 : decode cX12_counted 115 = .ok (.ifCond .eq 7, 3) := by decide +kernel
theorem dX12_counted_118 : decode cX12_counted 118 = .ok (.iconst 1, 1) := by decide +kernel
theorem dX12_counted_119 : decode cX12_counted 119 = .ok (.goto 4, 3) := by decide +kernel
theorem dX12_counted_122 : decode cX12_counted 122 = .ok (.iconst 0, 1) := by decide +kernel
theorem dX12_counted_123 : decode cX12_counted 123 = .ok (.istore 4, 2) := by decide +kernel
theorem dX12_counted_125 : decode cX12_counted 125 = .ok (.goto 27, 3) := by decide +kernel
theorem dX12_counted_128 : decode cX12_counted 128 = .ok (.iload_n 3, 1) := by decide +kernel
theorem dX12_counted_129 : decode cX12_counted 129 = .ok (.aload_n 0, 1) := by decide +kernel
theorem dX12_counted_130 : decode cX12_counted 130 = .ok (.getfield 268, 3) := by decide +kernel
theorem dX12_counted_133 : decode cX12_counted 133 = .ok (.if_icmp .ge 16, 3) := by decide +kernel
theorem dX12_counted_136 : decode cX12_counted 136 = .ok (.aload_n 0, 1) := by decide +kernel
theorem dX12_counted_137 : decode cX12_counted 137 = .ok (.getfield 254, 3) := by decide +kernel
theorem dX12_counted_140 : decode cX12_counted 140 = .ok (.iload_n 3, 1) := by decide +kernel
theorem dX12_counted_141 : decode cX12_counted 141 = .ok (.baload, 1) := by decide +kernel
theorem dX12_counted_142 : decode cX12_counted 142 = .ok (.ifCond .eq 7, 3) := by decide +kernel
theorem dX12_counted_145 : decode cX12_counted 145 = .ok (.iconst 1, 1) := by decide +kernel
theorem dX12_counted_146 : decode cX12_counted 146 = .ok (.goto 4, 3) := by decide +kernel
theorem dX12_counted_149 : decode cX12_counted 149 = .ok (.iconst 0, 1) := by decide +kernel
theorem dX12_counted_150 : decode cX12_counted 150 = .ok (.istore 4, 2) := by decide +kernel
theorem dX12_counted_152 : decode cX12_counted 152 = .ok (.iload_n 2, 1) := by decide +kernel
theorem dX12_counted_153 : decode cX12_counted 153 = .ok (.iload 4, 2) := by decide +kernel
theorem dX12_counted_155 : decode cX12_counted 155 = .ok (.ifCond .eq 7, 3) := by decide +kernel
theorem dX12_counted_158 : decode cX12_counted 158 = .ok (.iconst 1, 1) := by decide +kernel
theorem dX12_counted_159 : decode cX12_counted 159 = .ok (.goto 4, 3) := by decide +kernel
theorem dX12_counted_162 : decode cX12_counted 162 = .ok (.iconst 0, 1) := by decide +kernel
theorem dX12_counted_163 : decode cX12_counted 163 = .ok (.iadd, 1) := by decide +kernel
theorem dX12_counted_164 : decode cX12_counted 164 = .ok (.istore_n 2, 1) := by decide +kernel
theorem dX12_counted_165 : decode cX12_counted 165 = .ok (.iinc 3 1, 3) := by decide +kernel
theorem dX12_counted_168 : decode cX12_counted 168 = .ok (.goto (-164), 3) := by decide +kernel
theorem dX12_counted_171 : decode cX12_counted 171 = .ok (.iload_n 2, 1) := by decide +kernel
theorem dX12_counted_172 : decode cX12_counted 172 = .ok (.ireturn, 1) := by decide +kernel
theorem dX12_inState_0 : decode cX12_inState 0 = .ok (.iconst 0, 1) := by decide +kernel
theorem dX12_inState_1 : decode cX12_inState 1 = .ok (.istore_n 2, 1) := by decide +kernel
theorem dX12_inState_2 : decode cX12_inState 2 = .ok (.iconst 0, 1) := by decide +kernel
theorem dX12_inState_3 : decode cX12_inState 3 = .ok (.istore_n 3, 1) := by decide +kernel
theorem dX12_inState_4 : decode cX12_inState 4 = .ok (.iload_n 3, 1) := by decide +kernel
theorem dX12_inState_5 : decode cX12_inState 5 = .ok (.aload_n 0, 1) := by decide +kernel
theorem dX12_inState_6 : decode cX12_inState 6 = .ok (.getfield 431, 3) := by decide +kernel
theorem dX12_inState_9 : decode cX12_inState 9 = .ok (.if_icmp .ge 27, 3) := by decide +kernel
theorem dX12_inState_12 : decode cX12_inState 12 = .ok (.iload_n 2, 1) := by decide +kernel
theorem dX12_inState_13 : decode cX12_inState 13 = .ok (.aload_n 0, 1) := by decide +kernel
theorem dX12_inState_14 : decode cX12_inState 14 = .ok (.getfield 142, 3) := by decide +kernel
theorem dX12_inState_17 : decode cX12_inState 17 = .ok (.iload_n 3, 1) := by decide +kernel
theorem dX12_inState_18 : decode cX12_inState 18 = .ok (.iaload, 1) := by decide +kernel
theorem dX12_inState_19 : decode cX12_inState 19 = .ok (.iload_n 1, 1) := by decide +kernel
theorem dX12_inState_20 : decode cX12_inState 20 = .ok (.if_icmp .ne 7, 3) := by decide +kernel
theorem dX12_inState_23 : decode cX12_inState 23 = .ok (.iconst 1, 1) := by decide +kernel
theorem dX12_inState_24 : decode cX12_inState 24 = .ok (.goto 4, 3) := by decide +kernel
theorem dX12_inState_27 : decode cX12_inState 27 = .ok (.iconst 0, 1) := by decide +kernel
theorem dX12_inState_28 : decode cX12_inState 28 = .ok (.iadd, 1) := by decide +kernel
theorem dX12_inState_29 : decode cX12_inState 29 = .ok (.istore_n 2, 1) := by decide +kernel
theorem dX12_inState_30 : decode cX12_inState 30 = .ok (.iinc 3 1, 3) := by decide +kernel
theorem dX12_inState_33 : decode cX12_inState 33 = .ok (.goto (-29), 3) := by decide +kernel
theorem dX12_inState_36 : decode cX12_inState 36 = .ok (.iload_n 2, 1) := by decide +kernel
theorem dX12_inState_37 : decode cX12_inState 37 = .ok (.ireturn, 1) := by decide +kernel
theorem dX12_count_0 : decode cX12_count 0 = .ok (.iload_n 1, 1) := by decide +kernel
theorem dX12_count_1 : decode cX12_count 1 = .ok (.tableswitch 145 0 15 #[79, 84, 89, 94, 99, 139, 104, 109, 139, 114, 119, 124, 129, 139, 139, 134], 79) := by decide +kernel
theorem dX12_count_80 : decode cX12_count 80 = .ok (.aload_n 0, 1) := by decide +kernel
theorem dX12_count_81 : decode cX12_count 81 = .ok (.getfield 281, 3) := by decide +kernel
theorem dX12_count_84 : decode cX12_count 84 = .ok (.ireturn, 1) := by decide +kernel
theorem dX12_count_85 : decode cX12_count 85 = .ok (.aload_n 0, 1) := by decide +kernel
theorem dX12_count_86 : decode cX12_count 86 = .ok (.getfield 264, 3) := by decide +kernel
theorem dX12_count_89 : decode cX12_count 89 = .ok (.ireturn, 1) := by decide +kernel
theorem dX12_count_90 : decode cX12_count 90 = .ok (.aload_n 0, 1) := by decide +kernel
theorem dX12_count_91 : decode cX12_count 91 = .ok (.getfield 268, 3) := by decide +kernel
theorem dX12_count_94 : decode cX12_count 94 = .ok (.ireturn, 1) := by decide +kernel
theorem dX12_count_95 : decode cX12_count 95 = .ok (.aload_n 0, 1) := by decide +kernel
theorem dX12_count_96 : decode cX12_count 96 = .ok (.getfield 271, 3) := by decide +kernel
theorem dX12_count_99 : decode cX12_count 99 = .ok (.ireturn, 1) := by decide +kernel
theorem dX12_count_100 : decode cX12_count 100 = .ok (.aload_n 0, 1) := by decide +kernel
theorem dX12_count_101 : decode cX12_count 101 = .ok (.getfield 274, 3) := by decide +kernel
theorem dX12_count_104 : decode cX12_count 104 = .ok (.ireturn, 1) := by decide +kernel
theorem dX12_count_105 : decode cX12_count 105 = .ok (.aload_n 0, 1) := by decide +kernel
theorem dX12_count_106 : decode cX12_count 106 = .ok (.getfield 431, 3) := by decide +kernel
theorem dX12_count_109 : decode cX12_count 109 = .ok (.ireturn, 1) := by decide +kernel
theorem dX12_count_110 : decode cX12_count 110 = .ok (.aload_n 0, 1) := by decide +kernel
theorem dX12_count_111 : decode cX12_count 111 = .ok (.getfield 470, 3) := by decide +kernel
theorem dX12_count_114 : decode cX12_count 114 = .ok (.ireturn, 1) := by decide +kernel
theorem dX12_count_115 : decode cX12_count 115 = .ok (.aload_n 0, 1) := by decide +kernel
theorem dX12_count_116 : decode cX12_count 116 = .ok (.getfield 477, 3) := by decide +kernel
theorem dX12_count_119 : decode cX12_count 119 = .ok (.ireturn, 1) := by decide +kernel
theorem dX12_count_120 : decode cX12_count 120 = .ok (.aload_n 0, 1) := by decide +kernel
theorem dX12_count_121 : decode cX12_count 121 = .ok (.getfield 381, 3) := by decide +kernel
theorem dX12_count_124 : decode cX12_count 124 = .ok (.ireturn, 1) := by decide +kernel
theorem dX12_count_125 : decode cX12_count 125 = .ok (.aload_n 0, 1) := by decide +kernel
theorem dX12_count_126 : decode cX12_count 126 = .ok (.getfield 311, 3) := by decide +kernel
theorem dX12_count_129 : decode cX12_count 129 = .ok (.ireturn, 1) := by decide +kernel
theorem dX12_count_130 : decode cX12_count 130 = .ok (.aload_n 0, 1) := by decide +kernel
theorem dX12_count_131 : decode cX12_count 131 = .ok (.getfield 529, 3) := by decide +kernel
theorem dX12_count_134 : decode cX12_count 134 = .ok (.ireturn, 1) := by decide +kernel
theorem dX12_count_135 : decode cX12_count 135 = .ok (.aload_n 0, 1) := by decide +kernel
theorem dX12_count_136 : decode cX12_count 136 = .ok (.getfield 547, 3) := by decide +kernel
theorem dX12_count_139 : decode cX12_count 139 = .ok (.ireturn, 1) := by decide +kernel
theorem dX12_count_140 : decode cX12_count 140 = .ok (.aload_n 0, 1) := by decide +kernel
theorem dX12_count_141 : decode cX12_count 141 = .ok (.iload_n 1, 1) := by decide +kernel
theorem dX12_count_142 : decode cX12_count 142 = .ok (.invokevirtual 586, 3) := by decide +kernel
theorem dX12_count_145 : decode cX12_count 145 = .ok (.ireturn, 1) := by decide +kernel
theorem dX12_count_146 : decode cX12_count 146 = .ok (.iload_n 1, 1) := by decide +kernel
theorem dX12_count_147 : decode cX12_count 147 = .ok (.bipush 20, 2) := by decide +kernel
theorem dX12_count_149 : decode cX12_count 149 = .ok (.bipush 28, 2) := by decide +kernel
theorem dX12_count_151 : decode cX12_count 151 = .ok (.invokestatic 260, 3) := by decide +kernel
theorem dX12_count_154 : decode cX12_count 154 = .ok (.ifCond .eq 12, 3) := by decide +kernel
theorem dX12_count_157 : decode cX12_count 157 = .ok (.aload_n 0, 1) := by decide +kernel
theorem dX12_count_158 : decode cX12_count 158 = .ok (.iload_n 1, 1) := by decide +kernel
theorem dX12_count_159 : decode cX12_count 159 = .ok (.bipush 20, 2) := by decide +kernel
theorem dX12_count_161 : decode cX12_count 161 = .ok (.isub, 1) := by decide +kernel
theorem dX12_count_162 : decode cX12_count 162 = .ok (.invokevirtual 589, 3) := by decide +kernel
theorem dX12_count_165 : decode cX12_count 165 = .ok (.ireturn, 1) := by decide +kernel
theorem dX12_count_166 : decode cX12_count 166 = .ok (.iload_n 1, 1) := by decide +kernel
theorem dX12_count_167 : decode cX12_count 167 = .ok (.bipush 30, 2) := by decide +kernel
theorem dX12_count_169 : decode cX12_count 169 = .ok (.bipush 37, 2) := by decide +kernel
theorem dX12_count_171 : decode cX12_count 171 = .ok (.invokestatic 260, 3) := by decide +kernel
theorem dX12_count_174 : decode cX12_count 174 = .ok (.ifCond .eq 15, 3) := by decide +kernel
theorem dX12_count_177 : decode cX12_count 177 = .ok (.aload_n 0, 1) := by decide +kernel
theorem dX12_count_178 : decode cX12_count 178 = .ok (.getfield 49, 3) := by decide +kernel
theorem dX12_count_181 : decode cX12_count 181 = .ok (.iload_n 1, 1) := by decide +kernel
theorem dX12_count_182 : decode cX12_count 182 = .ok (.bipush 30, 2) := by decide +kernel
theorem dX12_count_184 : decode cX12_count 184 = .ok (.isub, 1) := by decide +kernel
theorem dX12_count_185 : decode cX12_count 185 = .ok (.iaload, 1) := by decide +kernel
theorem dX12_count_186 : decode cX12_count 186 = .ok (.goto 4, 3) := by decide +kernel
theorem dX12_count_189 : decode cX12_count 189 = .ok (.iconst (-1), 1) := by decide +kernel
theorem dX12_count_190 : decode cX12_count 190 = .ok (.ireturn, 1) := by decide +kernel
theorem dJ6_bitCount_0f7a4_0 : decode cJ6_bitCount_0f7a4 0 = .ok (.iload_n 0, 1) := by decide +kernel
theorem dJ6_bitCount_0f7a4_1 : decode cJ6_bitCount_0f7a4 1 = .ok (.iload_n 0, 1) := by decide +kernel
theorem dJ6_bitCount_0f7a4_2 : decode cJ6_bitCount_0f7a4 2 = .ok (.iconst 1, 1) := by decide +kernel
theorem dJ6_bitCount_0f7a4_3 : decode cJ6_bitCount_0f7a4 3 = .ok (.iushr, 1) := by decide +kernel
theorem dJ6_bitCount_0f7a4_4 : decode cJ6_bitCount_0f7a4 4 = .ok (.ldc_w 265, 3) := by decide +kernel
theorem dJ6_bitCount_0f7a4_7 : decode cJ6_bitCount_0f7a4 7 = .ok (.iand, 1) := by decide +kernel
theorem dJ6_bitCount_0f7a4_8 : decode cJ6_bitCount_0f7a4 8 = .ok (.isub, 1) := by decide +kernel
theorem dJ6_bitCount_0f7a4_9 : decode cJ6_bitCount_0f7a4 9 = .ok (.istore_n 0, 1) := by decide +kernel
theorem dJ6_bitCount_0f7a4_10 : decode cJ6_bitCount_0f7a4 10 = .ok (.iload_n 0, 1) := by decide +kernel
theorem dJ6_bitCount_0f7a4_11 : decode cJ6_bitCount_0f7a4 11 = .ok (.ldc_w 266, 3) := by decide +kernel
theorem dJ6_bitCount_0f7a4_14 : decode cJ6_bitCount_0f7a4 14 = .ok (.iand, 1) := by decide +kernel
theorem dJ6_bitCount_0f7a4_15 : decode cJ6_bitCount_0f7a4 15 = .ok (.iload_n 0, 1) := by decide +kernel
theorem dJ6_bitCount_0f7a4_16 : decode cJ6_bitCount_0f7a4 16 = .ok (.iconst 2, 1) := by decide +kernel
theorem dJ6_bitCount_0f7a4_17 : decode cJ6_bitCount_0f7a4 17 = .ok (.iushr, 1) := by decide +kernel
theorem dJ6_bitCount_0f7a4_18 : decode cJ6_bitCount_0f7a4 18 = .ok (.ldc_w 266, 3) := by decide +kernel
theorem dJ6_bitCount_0f7a4_21 : decode cJ6_bitCount_0f7a4 21 = .ok (.iand, 1) := by decide +kernel
theorem dJ6_bitCount_0f7a4_22 : decode cJ6_bitCount_0f7a4 22 = .ok (.iadd, 1) := by decide +kernel
theorem dJ6_bitCount_0f7a4_23 : decode cJ6_bitCount_0f7a4 23 = .ok (.istore_n 0, 1) := by decide +kernel
theorem dJ6_bitCount_0f7a4_24 : decode cJ6_bitCount_0f7a4 24 = .ok (.iload_n 0, 1) := by decide +kernel
theorem dJ6_bitCount_0f7a4_25 : decode cJ6_bitCount_0f7a4 25 = .ok (.iload_n 0, 1) := by decide +kernel
theorem dJ6_bitCount_0f7a4_26 : decode cJ6_bitCount_0f7a4 26 = .ok (.iconst 4, 1) := by decide +kernel
theorem dJ6_bitCount_0f7a4_27 : decode cJ6_bitCount_0f7a4 27 = .ok (.iushr, 1) := by decide +kernel
theorem dJ6_bitCount_0f7a4_28 : decode cJ6_bitCount_0f7a4 28 = .ok (.iadd, 1) := by decide +kernel
theorem dJ6_bitCount_0f7a4_29 : decode cJ6_bitCount_0f7a4 29 = .ok (.ldc_w 267, 3) := by decide +kernel
theorem dJ6_bitCount_0f7a4_32 : decode cJ6_bitCount_0f7a4 32 = .ok (.iand, 1) := by decide +kernel
theorem dJ6_bitCount_0f7a4_33 : decode cJ6_bitCount_0f7a4 33 = .ok (.istore_n 0, 1) := by decide +kernel
theorem dJ6_bitCount_0f7a4_34 : decode cJ6_bitCount_0f7a4 34 = .ok (.iload_n 0, 1) := by decide +kernel
theorem dJ6_bitCount_0f7a4_35 : decode cJ6_bitCount_0f7a4 35 = .ok (.iload_n 0, 1) := by decide +kernel
theorem dJ6_bitCount_0f7a4_36 : decode cJ6_bitCount_0f7a4 36 = .ok (.bipush 8, 2) := by decide +kernel
theorem dJ6_bitCount_0f7a4_38 : decode cJ6_bitCount_0f7a4 38 = .ok (.iushr, 1) := by decide +kernel
theorem dJ6_bitCount_0f7a4_39 : decode cJ6_bitCount_0f7a4 39 = .ok (.iadd, 1) := by decide +kernel
theorem dJ6_bitCount_0f7a4_40 : decode cJ6_bitCount_0f7a4 40 = .ok (.istore_n 0, 1) := by decide +kernel
theorem dJ6_bitCount_0f7a4_41 : decode cJ6_bitCount_0f7a4 41 = .ok (.iload_n 0, 1) := by decide +kernel
theorem dJ6_bitCount_0f7a4_42 : decode cJ6_bitCount_0f7a4 42 = .ok (.iload_n 0, 1) := by decide +kernel
theorem dJ6_bitCount_0f7a4_43 : decode cJ6_bitCount_0f7a4 43 = .ok (.bipush 16, 2) := by decide +kernel
theorem dJ6_bitCount_0f7a4_45 : decode cJ6_bitCount_0f7a4 45 = .ok (.iushr, 1) := by decide +kernel
theorem dJ6_bitCount_0f7a4_46 : decode cJ6_bitCount_0f7a4 46 = .ok (.iadd, 1) := by decide +kernel
theorem dJ6_bitCount_0f7a4_47 : decode cJ6_bitCount_0f7a4 47 = .ok (.istore_n 0, 1) := by decide +kernel
theorem dJ6_bitCount_0f7a4_48 : decode cJ6_bitCount_0f7a4 48 = .ok (.iload_n 0, 1) := by decide +kernel
theorem dJ6_bitCount_0f7a4_49 : decode cJ6_bitCount_0f7a4 49 = .ok (.bipush 63, 2) := by decide +kernel
theorem dJ6_bitCount_0f7a4_51 : decode cJ6_bitCount_0f7a4 51 = .ok (.iand, 1) := by decide +kernel
theorem dJ6_bitCount_0f7a4_52 : decode cJ6_bitCount_0f7a4 52 = .ok (.ireturn, 1) := by decide +kernel
theorem dJ9_abs_0f7a4_0 : decode cJ9_abs_0f7a4 0 = .ok (.iload_n 0, 1) := by decide +kernel
theorem dJ9_abs_0f7a4_1 : decode cJ9_abs_0f7a4 1 = .ok (.ifCond .ge 8, 3) := by decide +kernel
theorem dJ9_abs_0f7a4_4 : decode cJ9_abs_0f7a4 4 = .ok (.iload_n 0, 1) := by decide +kernel
theorem dJ9_abs_0f7a4_5 : decode cJ9_abs_0f7a4 5 = .ok (.ineg, 1) := by decide +kernel
theorem dJ9_abs_0f7a4_6 : decode cJ9_abs_0f7a4 6 = .ok (.goto 4, 3) := by decide +kernel
theorem dJ9_abs_0f7a4_9 : decode cJ9_abs_0f7a4 9 = .ok (.iload_n 0, 1) := by decide +kernel
theorem dJ9_abs_0f7a4_10 : decode cJ9_abs_0f7a4 10 = .ok (.ireturn, 1) := by decide +kernel
theorem dJ9_max_7cf53_0 : decode cJ9_max_7cf53 0 = .ok (.iload_n 0, 1) := by decide +kernel
theorem dJ9_max_7cf53_1 : decode cJ9_max_7cf53 1 = .ok (.iload_n 1, 1) := by decide +kernel
theorem dJ9_max_7cf53_2 : decode cJ9_max_7cf53 2 = .ok (.if_icmp .lt 7, 3) := by decide +kernel
theorem dJ9_max_7cf53_5 : decode cJ9_max_7cf53 5 = .ok (.iload_n 0, 1) := by decide +kernel
theorem dJ9_max_7cf53_6 : decode cJ9_max_7cf53 6 = .ok (.goto 4, 3) := by decide +kernel
theorem dJ9_max_7cf53_9 : decode cJ9_max_7cf53 9 = .ok (.iload_n 1, 1) := by decide +kernel
theorem dJ9_max_7cf53_10 : decode cJ9_max_7cf53 10 = .ok (.ireturn, 1) := by decide +kernel
theorem dJ9_min_7cf53_0 : decode cJ9_min_7cf53 0 = .ok (.iload_n 0, 1) := by decide +kernel
theorem dJ9_min_7cf53_1 : decode cJ9_min_7cf53 1 = .ok (.iload_n 1, 1) := by decide +kernel
theorem dJ9_min_7cf53_2 : decode cJ9_min_7cf53 2 = .ok (.if_icmp .gt 7, 3) := by decide +kernel
theorem dJ9_min_7cf53_5 : decode cJ9_min_7cf53 5 = .ok (.iload_n 0, 1) := by decide +kernel
theorem dJ9_min_7cf53_6 : decode cJ9_min_7cf53 6 = .ok (.goto 4, 3) := by decide +kernel
theorem dJ9_min_7cf53_9 : decode cJ9_min_7cf53 9 = .ok (.iload_n 1, 1) := by decide +kernel
theorem dJ9_min_7cf53_10 : decode cJ9_min_7cf53 10 = .ok (.ireturn, 1) := by decide +kernel
theorem dL_law_0 : decode cL_law 0 = .ok (.new 7, 3) := by decide +kernel
theorem dL_law_3 : decode cL_law 3 = .ok (.dup, 1) := by decide +kernel
theorem dL_law_4 : decode cL_law 4 = .ok (.invokespecial 9, 3) := by decide +kernel
theorem dL_law_7 : decode cL_law 7 = .ok (.astore_n 1, 1) := by decide +kernel
theorem dL_law_8 : decode cL_law 8 = .ok (.new 10, 3) := by decide +kernel
theorem dL_law_11 : decode cL_law 11 = .ok (.dup, 1) := by decide +kernel
theorem dL_law_12 : decode cL_law 12 = .ok (.invokespecial 12, 3) := by decide +kernel
theorem dL_law_15 : decode cL_law 15 = .ok (.astore_n 2, 1) := by decide +kernel
theorem dL_law_16 : decode cL_law 16 = .ok (.iconst 0, 1) := by decide +kernel
theorem dL_law_17 : decode cL_law 17 = .ok (.istore_n 3, 1) := by decide +kernel
theorem dL_law_18 : decode cL_law 18 = .ok (.iload_n 3, 1) := by decide +kernel
theorem dL_law_19 : decode cL_law 19 = .ok (.aload_n 0, 1) := by decide +kernel
theorem dL_law_20 : decode cL_law 20 = .ok (.arraylength, 1) := by decide +kernel
theorem dL_law_21 : decode cL_law 21 = .ok (.bipush 8, 2) := by decide +kernel
theorem dL_law_23 : decode cL_law 23 = .ok (.isub, 1) := by decide +kernel
theorem dL_law_24 : decode cL_law 24 = .ok (.if_icmp .gt 1296, 3) := by decide +kernel
theorem dL_law_27 : decode cL_law 27 = .ok (.aload_n 0, 1) := by decide +kernel
theorem dL_law_28 : decode cL_law 28 = .ok (.iload_n 3, 1) := by decide +kernel
theorem dL_law_29 : decode cL_law 29 = .ok (.iaload, 1) := by decide +kernel
theorem dL_law_30 : decode cL_law 30 = .ok (.bipush 63, 2) := by decide +kernel
theorem dL_law_32 : decode cL_law 32 = .ok (.iand, 1) := by decide +kernel
theorem dL_law_33 : decode cL_law 33 = .ok (.tableswitch 1281 0 34 #[155, 188, 211, 264, 297, 320, 353, 416, 439, 462, 495, 582, 635, 648, 697, 720, 753, 776, 799, 822, 855, 879, 922, 945, 968, 1001, 1034, 1057, 1080, 1123, 1136, 1169, 1202, 1225, 1258], 155) := by decide +kernel
theorem dL_law_188 : decode cL_law 188 = .ok (.aload_n 1, 1) := by decide +kernel
theorem dL_law_189 : decode cL_law 189 = .ok (.aload_n 0, 1) := by decide +kernel
theorem dL_law_190 : decode cL_law 190 = .ok (.iload_n 3, 1) := by decide +kernel
theorem dL_law_191 : decode cL_law 191 = .ok (.iconst 1, 1) := by decide +kernel
theorem dL_law_192 : decode cL_law 192 = .ok (.iadd, 1) := by decide +kernel
theorem dL_law_193 : decode cL_law 193 = .ok (.iaload, 1) := by decide +kernel
theorem dL_law_194 : decode cL_law 194 = .ok (.aload_n 0, 1) := by decide +kernel
theorem dL_law_195 : decode cL_law 195 = .ok (.iload_n 3, 1) := by decide +kernel
theorem dL_law_196 : decode cL_law 196 = .ok (.iconst 2, 1) := by decide +kernel
theorem dL_law_197 : decode cL_law 197 = .ok (.iadd, 1) := by decide +kernel
theorem dL_law_198 : decode cL_law 198 = .ok (.iaload, 1) := by decide +kernel
theorem dL_law_199 : decode cL_law 199 = .ok (.invokevirtual 13, 3) := by decide +kernel
theorem dL_law_202 : decode cL_law 202 = .ok (.aload_n 2, 1) := by decide +kernel
theorem dL_law_203 : decode cL_law 203 = .ok (.aload_n 0, 1) := by decide +kernel
theorem dL_law_204 : decode cL_law 204 = .ok (.iload_n 3, 1) := by decide +kernel
theorem dL_law_205 : decode cL_law 205 = .ok (.iconst 1, 1) := by decide +kernel
theorem dL_law_206 : decode cL_law 206 = .ok (.iadd, 1) := by decide +kernel
theorem dL_law_207 : decode cL_law 207 = .ok (.iaload, 1) := by decide +kernel
theorem dL_law_208 : decode cL_law 208 = .ok (.aload_n 0, 1) := by decide +kernel
theorem dL_law_209 : decode cL_law 209 = .ok (.iload_n 3, 1) := by decide +kernel
theorem dL_law_210 : decode cL_law 210 = .ok (.iconst 2, 1) := by decide +kernel
theorem dL_law_211 : decode cL_law 211 = .ok (.iadd, 1) := by decide +kernel
theorem dL_law_212 : decode cL_law 212 = .ok (.iaload, 1) := by decide +kernel
theorem dL_law_213 : decode cL_law 213 = .ok (.invokevirtual 17, 3) := by decide +kernel
theorem dL_law_216 : decode cL_law 216 = .ok (.if_icmp .eq 1098, 3) := by decide +kernel
theorem dL_law_219 : decode cL_law 219 = .ok (.iconst 0, 1) := by decide +kernel
theorem dL_law_220 : decode cL_law 220 = .ok (.ireturn, 1) := by decide +kernel
theorem dL_law_221 : decode cL_law 221 = .ok (.aload_n 1, 1) := by decide +kernel
theorem dL_law_222 : decode cL_law 222 = .ok (.aload_n 0, 1) := by decide +kernel
theorem dL_law_223 : decode cL_law 223 = .ok (.iload_n 3, 1) := by decide +kernel
theorem dL_law_224 : decode cL_law 224 = .ok (.iconst 1, 1) := by decide +kernel
theorem dL_law_225 : decode cL_law 225 = .ok (.iadd, 1) := by decide +kernel
theorem dL_law_226 : decode cL_law 226 = .ok (.iaload, 1) := by decide +kernel
theorem dL_law_227 : decode cL_law 227 = .ok (.invokevirtual 18, 3) := by decide +kernel
theorem dL_law_230 : decode cL_law 230 = .ok (.aload_n 2, 1) := by decide +kernel
theorem dL_law_231 : decode cL_law 231 = .ok (.aload_n 0, 1) := by decide +kernel
theorem dL_law_232 : decode cL_law 232 = .ok (.iload_n 3, 1) := by decide +kernel
theorem dL_law_233 : decode cL_law 233 = .ok (.iconst 1, 1) := by decide +kernel
theorem dL_law_234 : decode cL_law 234 = .ok (.iadd, 1) := by decide +kernel
theorem dL_law_235 : decode cL_law 235 = .ok (.iaload, 1) := by decide +kernel
theorem dL_law_236 : decode cL_law 236 = .ok (.invokevirtual 22, 3) := by decide +kernel
theorem dL_law_239 : decode cL_law 239 = .ok (.if_icmp .eq 1075, 3) := by decide +kernel
theorem dL_law_242 : decode cL_law 242 = .ok (.iconst 0, 1) := by decide +kernel
theorem dL_law_243 : decode cL_law 243 = .ok (.ireturn, 1) := by decide +kernel
theorem dL_law_244 : decode cL_law 244 = .ok (.aload_n 1, 1) := by decide +kernel
theorem dL_law_245 : decode cL_law 245 = .ok (.aload_n 0, 1) := by decide +kernel
theorem dL_law_246 : decode cL_law 246 = .ok (.iload_n 3, 1) := by decide +kernel
theorem dL_law_247 : decode cL_law 247 = .ok (.iconst 1, 1) := by decide +kernel
theorem dL_law_248 : decode cL_law 248 = .ok (.iadd, 1) := by decide +kernel
theorem dL_law_249 : decode cL_law 249 = .ok (.iaload, 1) := by decide +kernel
theorem dL_law_250 : decode cL_law 250 = .ok (.aload_n 0, 1) := by decide +kernel
theorem dL_law_251 : decode cL_law 251 = .ok (.iload_n 3, 1) := by decide +kernel
theorem dL_law_252 : decode cL_law 252 = .ok (.iconst 2, 1) := by decide +kernel
theorem dL_law_253 : decode cL_law 253 = .ok (.iadd, 1) := by decide +kernel
theorem dL_law_254 : decode cL_law 254 = .ok (.iaload, 1) := by decide +kernel
theorem dL_law_255 : decode cL_law 255 = .ok (.aload_n 0, 1) := by decide +kernel
theorem dL_law_256 : decode cL_law 256 = .ok (.iload_n 3, 1) := by decide +kernel
theorem dL_law_257 : decode cL_law 257 = .ok (.iconst 3, 1) := by decide +kernel
theorem dL_law_258 : decode cL_law 258 = .ok (.iadd, 1) := by decide +kernel
theorem dL_law_259 : decode cL_law 259 = .ok (.iaload, 1) := by decide +kernel
theorem dL_law_260 : decode cL_law 260 = .ok (.aload_n 0, 1) := by decide +kernel
theorem dL_law_261 : decode cL_law 261 = .ok (.iload_n 3, 1) := by decide +kernel
theorem dL_law_262 : decode cL_law 262 = .ok (.iconst 4, 1) := by decide +kernel
theorem dL_law_263 : decode cL_law 263 = .ok (.iadd, 1) := by decide +kernel
theorem dL_law_264 : decode cL_law 264 = .ok (.iaload, 1) := by decide +kernel
theorem dL_law_265 : decode cL_law 265 = .ok (.invokevirtual 23, 3) := by decide +kernel
theorem dL_law_268 : decode cL_law 268 = .ok (.aload_n 2, 1) := by decide +kernel
theorem dL_law_269 : decode cL_law 269 = .ok (.aload_n 0, 1) := by decide +kernel
theorem dL_law_270 : decode cL_law 270 = .ok (.iload_n 3, 1) := by decide +kernel
theorem dL_law_271 : decode cL_law 271 = .ok (.iconst 1, 1) := by decide +kernel
theorem dL_law_272 : decode cL_law 272 = .ok (.iadd, 1) := by decide +kernel
theorem dL_law_273 : decode cL_law 273 = .ok (.iaload, 1) := by decide +kernel
theorem dL_law_274 : decode cL_law 274 = .ok (.aload_n 0, 1) := by decide +kernel
theorem dL_law_275 : decode cL_law 275 = .ok (.iload_n 3, 1) := by decide +kernel
theorem dL_law_276 : decode cL_law 276 = .ok (.iconst 2, 1) := by decide +kernel
theorem dL_law_277 : decode cL_law 277 = .ok (.iadd, 1) := by decide +kernel
theorem dL_law_278 : decode cL_law 278 = .ok (.iaload, 1) := by decide +kernel
theorem dL_law_279 : decode cL_law 279 = .ok (.aload_n 0, 1) := by decide +kernel
theorem dL_law_280 : decode cL_law 280 = .ok (.iload_n 3, 1) := by decide +kernel
theorem dL_law_281 : decode cL_law 281 = .ok (.iconst 3, 1) := by decide +kernel
theorem dL_law_282 : decode cL_law 282 = .ok (.iadd, 1) := by decide +kernel
theorem dL_law_283 : decode cL_law 283 = .ok (.iaload, 1) := by decide +kernel
theorem dL_law_284 : decode cL_law 284 = .ok (.aload_n 0, 1) := by decide +kernel
theorem dL_law_285 : decode cL_law 285 = .ok (.iload_n 3, 1) := by decide +kernel
theorem dL_law_286 : decode cL_law 286 = .ok (.iconst 4, 1) := by decide +kernel
theorem dL_law_287 : decode cL_law 287 = .ok (.iadd, 1) := by decide +kernel
theorem dL_law_288 : decode cL_law 288 = .ok (.iaload, 1) := by decide +kernel
theorem dL_law_289 : decode cL_law 289 = .ok (.invokevirtual 27, 3) := by decide +kernel
theorem dL_law_292 : decode cL_law 292 = .ok (.if_icmp .eq 1022, 3) := by decide +kernel
theorem dL_law_295 : decode cL_law 295 = .ok (.iconst 0, 1) := by decide +kernel
theorem dL_law_296 : decode cL_law 296 = .ok (.ireturn, 1) := by decide +kernel
theorem dL_law_297 : decode cL_law 297 = .ok (.aload_n 1, 1) := by decide +kernel
theorem dL_law_298 : decode cL_law 298 = .ok (.aload_n 0, 1) := by decide +kernel
theorem dL_law_299 : decode cL_law 299 = .ok (.iload_n 3, 1) := by decide +kernel
theorem dL_law_300 : decode cL_law 300 = .ok (.iconst 1, 1) := by decide +kernel
theorem dL_law_301 : decode cL_law 301 = .ok (.iadd, 1) := by decide +kernel
theorem dL_law_302 : decode cL_law 302 = .ok (.iaload, 1) := by decide +kernel
theorem dL_law_303 : decode cL_law 303 = .ok (.aload_n 0, 1) := by decide +kernel
theorem dL_law_304 : decode cL_law 304 = .ok (.iload_n 3, 1) := by decide +kernel
theorem dL_law_305 : decode cL_law 305 = .ok (.iconst 2, 1) := by decide +kernel
theorem dL_law_306 : decode cL_law 306 = .ok (.iadd, 1) := by decide +kernel
theorem dL_law_307 : decode cL_law 307 = .ok (.iaload, 1) := by decide +kernel
theorem dL_law_308 : decode cL_law 308 = .ok (.invokevirtual 28, 3) := by decide +kernel
theorem dL_law_311 : decode cL_law 311 = .ok (.aload_n 2, 1) := by decide +kernel
theorem dL_law_312 : decode cL_law 312 = .ok (.aload_n 0, 1) := by decide +kernel
theorem dL_law_313 : decode cL_law 313 = .ok (.iload_n 3, 1) := by decide +kernel
theorem dL_law_314 : decode cL_law 314 = .ok (.iconst 1, 1) := by decide +kernel
theorem dL_law_315 : decode cL_law 315 = .ok (.iadd, 1) := by decide +kernel
theorem dL_law_316 : decode cL_law 316 = .ok (.iaload, 1) := by decide +kernel
theorem dL_law_317 : decode cL_law 317 = .ok (.aload_n 0, 1) := by decide +kernel
theorem dL_law_318 : decode cL_law 318 = .ok (.iload_n 3, 1) := by decide +kernel
theorem dL_law_319 : decode cL_law 319 = .ok (.iconst 2, 1) := by decide +kernel
theorem dL_law_320 : decode cL_law 320 = .ok (.iadd, 1) := by decide +kernel
theorem dL_law_321 : decode cL_law 321 = .ok (.iaload, 1) := by decide +kernel
theorem dL_law_322 : decode cL_law 322 = .ok (.invokevirtual 31, 3) := by decide +kernel
theorem dL_law_325 : decode cL_law 325 = .ok (.if_icmp .eq 989, 3) := by decide +kernel
theorem dL_law_328 : decode cL_law 328 = .ok (.iconst 0, 1) := by decide +kernel
theorem dL_law_329 : decode cL_law 329 = .ok (.ireturn, 1) := by decide +kernel
theorem dL_law_330 : decode cL_law 330 = .ok (.aload_n 1, 1) := by decide +kernel
theorem dL_law_331 : decode cL_law 331 = .ok (.aload_n 0, 1) := by decide +kernel
theorem dL_law_332 : decode cL_law 332 = .ok (.iload_n 3, 1) := by decide +kernel
theorem dL_law_333 : decode cL_law 333 = .ok (.iconst 1, 1) := by decide +kernel
theorem dL_law_334 : decode cL_law 334 = .ok (.iadd, 1) := by decide +kernel
theorem dL_law_335 : decode cL_law 335 = .ok (.iaload, 1) := by decide +kernel
theorem dL_law_336 : decode cL_law 336 = .ok (.invokevirtual 32, 3) := by decide +kernel
theorem dL_law_339 : decode cL_law 339 = .ok (.aload_n 2, 1) := by decide +kernel
theorem dL_law_340 : decode cL_law 340 = .ok (.aload_n 0, 1) := by decide +kernel
theorem dL_law_341 : decode cL_law 341 = .ok (.iload_n 3, 1) := by decide +kernel
theorem dL_law_342 : decode cL_law 342 = .ok (.iconst 1, 1) := by decide +kernel
theorem dL_law_343 : decode cL_law 343 = .ok (.iadd, 1) := by decide +kernel
theorem dL_law_344 : decode cL_law 344 = .ok (.iaload, 1) := by decide +kernel
theorem dL_law_345 : decode cL_law 345 = .ok (.invokevirtual 36, 3) := by decide +kernel
theorem dL_law_348 : decode cL_law 348 = .ok (.if_icmp .eq 966, 3) := by decide +kernel
theorem dL_law_351 : decode cL_law 351 = .ok (.iconst 0, 1) := by decide +kernel
theorem dL_law_352 : decode cL_law 352 = .ok (.ireturn, 1) := by decide +kernel
theorem dL_law_353 : decode cL_law 353 = .ok (.aload_n 1, 1) := by decide +kernel
theorem dL_law_354 : decode cL_law 354 = .ok (.aload_n 0, 1) := by decide +kernel
theorem dL_law_355 : decode cL_law 355 = .ok (.iload_n 3, 1) := by decide +kernel
theorem dL_law_356 : decode cL_law 356 = .ok (.iconst 1, 1) := by decide +kernel
theorem dL_law_357 : decode cL_law 357 = .ok (.iadd, 1) := by decide +kernel
theorem dL_law_358 : decode cL_law 358 = .ok (.iaload, 1) := by decide +kernel
theorem dL_law_359 : decode cL_law 359 = .ok (.aload_n 0, 1) := by decide +kernel
theorem dL_law_360 : decode cL_law 360 = .ok (.iload_n 3, 1) := by decide +kernel
theorem dL_law_361 : decode cL_law 361 = .ok (.iconst 2, 1) := by decide +kernel
theorem dL_law_362 : decode cL_law 362 = .ok (.iadd, 1) := by decide +kernel
theorem dL_law_363 : decode cL_law 363 = .ok (.iaload, 1) := by decide +kernel
theorem dL_law_364 : decode cL_law 364 = .ok (.invokevirtual 37, 3) := by decide +kernel
theorem dL_law_367 : decode cL_law 367 = .ok (.aload_n 2, 1) := by decide +kernel
theorem dL_law_368 : decode cL_law 368 = .ok (.aload_n 0, 1) := by decide +kernel
theorem dL_law_369 : decode cL_law 369 = .ok (.iload_n 3, 1) := by decide +kernel
theorem dL_law_370 : decode cL_law 370 = .ok (.iconst 1, 1) := by decide +kernel
theorem dL_law_371 : decode cL_law 371 = .ok (.iadd, 1) := by decide +kernel
theorem dL_law_372 : decode cL_law 372 = .ok (.iaload, 1) := by decide +kernel
theorem dL_law_373 : decode cL_law 373 = .ok (.aload_n 0, 1) := by decide +kernel
theorem dL_law_374 : decode cL_law 374 = .ok (.iload_n 3, 1) := by decide +kernel
theorem dL_law_375 : decode cL_law 375 = .ok (.iconst 2, 1) := by decide +kernel
theorem dL_law_376 : decode cL_law 376 = .ok (.iadd, 1) := by decide +kernel
theorem dL_law_377 : decode cL_law 377 = .ok (.iaload, 1) := by decide +kernel
theorem dL_law_378 : decode cL_law 378 = .ok (.invokevirtual 41, 3) := by decide +kernel
theorem dL_law_381 : decode cL_law 381 = .ok (.if_icmp .eq 933, 3) := by decide +kernel
theorem dL_law_384 : decode cL_law 384 = .ok (.iconst 0, 1) := by decide +kernel
theorem dL_law_385 : decode cL_law 385 = .ok (.ireturn, 1) := by decide +kernel
theorem dL_law_386 : decode cL_law 386 = .ok (.aload_n 1, 1) := by decide +kernel
theorem dL_law_387 : decode cL_law 387 = .ok (.aload_n 0, 1) := by decide +kernel
theorem dL_law_388 : decode cL_law 388 = .ok (.iload_n 3, 1) := by decide +kernel
theorem dL_law_389 : decode cL_law 389 = .ok (.iconst 1, 1) := by decide +kernel
theorem dL_law_390 : decode cL_law 390 = .ok (.iadd, 1) := by decide +kernel
theorem dL_law_391 : decode cL_law 391 = .ok (.iaload, 1) := by decide +kernel
theorem dL_law_392 : decode cL_law 392 = .ok (.aload_n 0, 1) := by decide +kernel
theorem dL_law_393 : decode cL_law 393 = .ok (.iload_n 3, 1) := by decide +kernel
theorem dL_law_394 : decode cL_law 394 = .ok (.iconst 2, 1) := by decide +kernel
theorem dL_law_395 : decode cL_law 395 = .ok (.iadd, 1) := by decide +kernel
theorem dL_law_396 : decode cL_law 396 = .ok (.iaload, 1) := by decide +kernel
theorem dL_law_397 : decode cL_law 397 = .ok (.aload_n 0, 1) := by decide +kernel
theorem dL_law_398 : decode cL_law 398 = .ok (.iload_n 3, 1) := by decide +kernel
theorem dL_law_399 : decode cL_law 399 = .ok (.iconst 3, 1) := by decide +kernel
theorem dL_law_400 : decode cL_law 400 = .ok (.iadd, 1) := by decide +kernel
theorem dL_law_401 : decode cL_law 401 = .ok (.iaload, 1) := by decide +kernel
theorem dL_law_402 : decode cL_law 402 = .ok (.aload_n 0, 1) := by decide +kernel
theorem dL_law_403 : decode cL_law 403 = .ok (.iload_n 3, 1) := by decide +kernel
theorem dL_law_404 : decode cL_law 404 = .ok (.iconst 4, 1) := by decide +kernel
theorem dL_law_405 : decode cL_law 405 = .ok (.iadd, 1) := by decide +kernel
theorem dL_law_406 : decode cL_law 406 = .ok (.iaload, 1) := by decide +kernel
theorem dL_law_407 : decode cL_law 407 = .ok (.aload_n 0, 1) := by decide +kernel
theorem dL_law_408 : decode cL_law 408 = .ok (.iload_n 3, 1) := by decide +kernel
theorem dL_law_409 : decode cL_law 409 = .ok (.iconst 5, 1) := by decide +kernel
theorem dL_law_410 : decode cL_law 410 = .ok (.iadd, 1) := by decide +kernel
theorem dL_law_411 : decode cL_law 411 = .ok (.iaload, 1) := by decide +kernel
theorem dL_law_412 : decode cL_law 412 = .ok (.invokevirtual 42, 3) := by decide +kernel
theorem dL_law_415 : decode cL_law 415 = .ok (.aload_n 2, 1) := by decide +kernel
theorem dL_law_416 : decode cL_law 416 = .ok (.aload_n 0, 1) := by decide +kernel
theorem dL_law_417 : decode cL_law 417 = .ok (.iload_n 3, 1) := by decide +kernel
theorem dL_law_418 : decode cL_law 418 = .ok (.iconst 1, 1) := by decide +kernel
theorem dL_law_419 : decode cL_law 419 = .ok (.iadd, 1) := by decide +kernel
theorem dL_law_420 : decode cL_law 420 = .ok (.iaload, 1) := by decide +kernel
theorem dL_law_421 : decode cL_law 421 = .ok (.aload_n 0, 1) := by decide +kernel
theorem dL_law_422 : decode cL_law 422 = .ok (.iload_n 3, 1) := by decide +kernel
theorem dL_law_423 : decode cL_law 423 = .ok (.iconst 2, 1) := by decide +kernel
theorem dL_law_424 : decode cL_law 424 = .ok (.iadd, 1) := by decide +kernel
theorem dL_law_425 : decode cL_law 425 = .ok (.iaload, 1) := by decide +kernel
theorem dL_law_426 : decode cL_law 426 = .ok (.aload_n 0, 1) := by decide +kernel
theorem dL_law_427 : decode cL_law 427 = .ok (.iload_n 3, 1) := by decide +kernel
theorem dL_law_428 : decode cL_law 428 = .ok (.iconst 3, 1) := by decide +kernel
theorem dL_law_429 : decode cL_law 429 = .ok (.iadd, 1) := by decide +kernel
theorem dL_law_430 : decode cL_law 430 = .ok (.iaload, 1) := by decide +kernel
theorem dL_law_431 : decode cL_law 431 = .ok (.aload_n 0, 1) := by decide +kernel
theorem dL_law_432 : decode cL_law 432 = .ok (.iload_n 3, 1) := by decide +kernel
theorem dL_law_433 : decode cL_law 433 = .ok (.iconst 4, 1) := by decide +kernel
theorem dL_law_434 : decode cL_law 434 = .ok (.iadd, 1) := by decide +kernel
theorem dL_law_435 : decode cL_law 435 = .ok (.iaload, 1) := by decide +kernel
theorem dL_law_436 : decode cL_law 436 = .ok (.aload_n 0, 1) := by decide +kernel
theorem dL_law_437 : decode cL_law 437 = .ok (.iload_n 3, 1) := by decide +kernel
theorem dL_law_438 : decode cL_law 438 = .ok (.iconst 5, 1) := by decide +kernel
theorem dL_law_439 : decode cL_law 439 = .ok (.iadd, 1) := by decide +kernel
theorem dL_law_440 : decode cL_law 440 = .ok (.iaload, 1) := by decide +kernel
theorem dL_law_441 : decode cL_law 441 = .ok (.invokevirtual 46, 3) := by decide +kernel
theorem dL_law_444 : decode cL_law 444 = .ok (.if_icmp .eq 870, 3) := by decide +kernel
theorem dL_law_447 : decode cL_law 447 = .ok (.iconst 0, 1) := by decide +kernel
theorem dL_law_448 : decode cL_law 448 = .ok (.ireturn, 1) := by decide +kernel
theorem dL_law_449 : decode cL_law 449 = .ok (.aload_n 1, 1) := by decide +kernel
theorem dL_law_450 : decode cL_law 450 = .ok (.aload_n 0, 1) := by decide +kernel
theorem dL_law_451 : decode cL_law 451 = .ok (.iload_n 3, 1) := by decide +kernel
theorem dL_law_452 : decode cL_law 452 = .ok (.iconst 1, 1) := by decide +kernel
theorem dL_law_453 : decode cL_law 453 = .ok (.iadd, 1) := by decide +kernel
theorem dL_law_454 : decode cL_law 454 = .ok (.iaload, 1) := by decide +kernel
theorem dL_law_455 : decode cL_law 455 = .ok (.invokevirtual 47, 3) := by decide +kernel
theorem dL_law_458 : decode cL_law 458 = .ok (.aload_n 2, 1) := by decide +kernel
theorem dL_law_459 : decode cL_law 459 = .ok (.aload_n 0, 1) := by decide +kernel
theorem dL_law_460 : decode cL_law 460 = .ok (.iload_n 3, 1) := by decide +kernel
theorem dL_law_461 : decode cL_law 461 = .ok (.iconst 1, 1) := by decide +kernel
theorem dL_law_462 : decode cL_law 462 = .ok (.iadd, 1) := by decide +kernel
theorem dL_law_463 : decode cL_law 463 = .ok (.iaload, 1) := by decide +kernel
theorem dL_law_464 : decode cL_law 464 = .ok (.invokevirtual 50, 3) := by decide +kernel
theorem dL_law_467 : decode cL_law 467 = .ok (.if_icmp .eq 847, 3) := by decide +kernel
theorem dL_law_470 : decode cL_law 470 = .ok (.iconst 0, 1) := by decide +kernel
theorem dL_law_471 : decode cL_law 471 = .ok (.ireturn, 1) := by decide +kernel
theorem dL_law_472 : decode cL_law 472 = .ok (.aload_n 1, 1) := by decide +kernel
theorem dL_law_473 : decode cL_law 473 = .ok (.aload_n 0, 1) := by decide +kernel
theorem dL_law_474 : decode cL_law 474 = .ok (.iload_n 3, 1) := by decide +kernel
theorem dL_law_475 : decode cL_law 475 = .ok (.iconst 1, 1) := by decide +kernel
theorem dL_law_476 : decode cL_law 476 = .ok (.iadd, 1) := by decide +kernel
theorem dL_law_477 : decode cL_law 477 = .ok (.iaload, 1) := by decide +kernel
theorem dL_law_478 : decode cL_law 478 = .ok (.invokevirtual 51, 3) := by decide +kernel
theorem dL_law_481 : decode cL_law 481 = .ok (.aload_n 2, 1) := by decide +kernel
theorem dL_law_482 : decode cL_law 482 = .ok (.aload_n 0, 1) := by decide +kernel
theorem dL_law_483 : decode cL_law 483 = .ok (.iload_n 3, 1) := by decide +kernel
theorem dL_law_484 : decode cL_law 484 = .ok (.iconst 1, 1) := by decide +kernel
theorem dL_law_485 : decode cL_law 485 = .ok (.iadd, 1) := by decide +kernel
theorem dL_law_486 : decode cL_law 486 = .ok (.iaload, 1) := by decide +kernel
theorem dL_law_487 : decode cL_law 487 = .ok (.invokevirtual 54, 3) := by decide +kernel
theorem dL_law_490 : decode cL_law 490 = .ok (.if_icmp .eq 824, 3) := by decide +kernel
theorem dL_law_493 : decode cL_law 493 = .ok (.iconst 0, 1) := by decide +kernel
theorem dL_law_494 : decode cL_law 494 = .ok (.ireturn, 1) := by decide +kernel
theorem dL_law_495 : decode cL_law 495 = .ok (.aload_n 1, 1) := by decide +kernel
theorem dL_law_496 : decode cL_law 496 = .ok (.aload_n 0, 1) := by decide +kernel
theorem dL_law_497 : decode cL_law 497 = .ok (.iload_n 3, 1) := by decide +kernel
theorem dL_law_498 : decode cL_law 498 = .ok (.iconst 1, 1) := by decide +kernel
theorem dL_law_499 : decode cL_law 499 = .ok (.iadd, 1) := by decide +kernel
theorem dL_law_500 : decode cL_law 500 = .ok (.iaload, 1) := by decide +kernel
theorem dL_law_501 : decode cL_law 501 = .ok (.aload_n 0, 1) := by decide +kernel
theorem dL_law_502 : decode cL_law 502 = .ok (.iload_n 3, 1) := by decide +kernel
theorem dL_law_503 : decode cL_law 503 = .ok (.iconst 2, 1) := by decide +kernel
theorem dL_law_504 : decode cL_law 504 = .ok (.iadd, 1) := by decide +kernel
theorem dL_law_505 : decode cL_law 505 = .ok (.iaload, 1) := by decide +kernel
theorem dL_law_506 : decode cL_law 506 = .ok (.invokevirtual 55, 3) := by decide +kernel
theorem dL_law_509 : decode cL_law 509 = .ok (.aload_n 2, 1) := by decide +kernel
theorem dL_law_510 : decode cL_law 510 = .ok (.aload_n 0, 1) := by decide +kernel
theorem dL_law_511 : decode cL_law 511 = .ok (.iload_n 3, 1) := by decide +kernel
theorem dL_law_512 : decode cL_law 512 = .ok (.iconst 1, 1) := by decide +kernel
theorem dL_law_513 : decode cL_law 513 = .ok (.iadd, 1) := by decide +kernel
theorem dL_law_514 : decode cL_law 514 = .ok (.iaload, 1) := by decide +kernel
theorem dL_law_515 : decode cL_law 515 = .ok (.aload_n 0, 1) := by decide +kernel
theorem dL_law_516 : decode cL_law 516 = .ok (.iload_n 3, 1) := by decide +kernel
theorem dL_law_517 : decode cL_law 517 = .ok (.iconst 2, 1) := by decide +kernel
theorem dL_law_518 : decode cL_law 518 = .ok (.iadd, 1) := by decide +kernel
theorem dL_law_519 : decode cL_law 519 = .ok (.iaload, 1) := by decide +kernel
theorem dL_law_520 : decode cL_law 520 = .ok (.invokevirtual 58, 3) := by decide +kernel
theorem dL_law_523 : decode cL_law 523 = .ok (.if_icmp .eq 791, 3) := by decide +kernel
theorem dL_law_526 : decode cL_law 526 = .ok (.iconst 0, 1) := by decide +kernel
theorem dL_law_527 : decode cL_law 527 = .ok (.ireturn, 1) := by decide +kernel
theorem dL_law_528 : decode cL_law 528 = .ok (.aload_n 1, 1) := by decide +kernel
theorem dL_law_529 : decode cL_law 529 = .ok (.aload_n 0, 1) := by decide +kernel
theorem dL_law_530 : decode cL_law 530 = .ok (.iload_n 3, 1) := by decide +kernel
theorem dL_law_531 : decode cL_law 531 = .ok (.iconst 1, 1) := by decide +kernel
theorem dL_law_532 : decode cL_law 532 = .ok (.iadd, 1) := by decide +kernel
theorem dL_law_533 : decode cL_law 533 = .ok (.iaload, 1) := by decide +kernel
theorem dL_law_534 : decode cL_law 534 = .ok (.aload_n 0, 1) := by decide +kernel
theorem dL_law_535 : decode cL_law 535 = .ok (.iload_n 3, 1) := by decide +kernel
theorem dL_law_536 : decode cL_law 536 = .ok (.iconst 2, 1) := by decide +kernel
theorem dL_law_537 : decode cL_law 537 = .ok (.iadd, 1) := by decide +kernel
theorem dL_law_538 : decode cL_law 538 = .ok (.iaload, 1) := by decide +kernel
theorem dL_law_539 : decode cL_law 539 = .ok (.aload_n 0, 1) := by decide +kernel
theorem dL_law_540 : decode cL_law 540 = .ok (.iload_n 3, 1) := by decide +kernel
theorem dL_law_541 : decode cL_law 541 = .ok (.iconst 3, 1) := by decide +kernel
theorem dL_law_542 : decode cL_law 542 = .ok (.iadd, 1) := by decide +kernel
theorem dL_law_543 : decode cL_law 543 = .ok (.iaload, 1) := by decide +kernel
theorem dL_law_544 : decode cL_law 544 = .ok (.aload_n 0, 1) := by decide +kernel
theorem dL_law_545 : decode cL_law 545 = .ok (.iload_n 3, 1) := by decide +kernel
theorem dL_law_546 : decode cL_law 546 = .ok (.iconst 4, 1) := by decide +kernel
theorem dL_law_547 : decode cL_law 547 = .ok (.iadd, 1) := by decide +kernel
theorem dL_law_548 : decode cL_law 548 = .ok (.iaload, 1) := by decide +kernel
theorem dL_law_549 : decode cL_law 549 = .ok (.aload_n 0, 1) := by decide +kernel
theorem dL_law_550 : decode cL_law 550 = .ok (.iload_n 3, 1) := by decide +kernel
theorem dL_law_551 : decode cL_law 551 = .ok (.iconst 5, 1) := by decide +kernel
theorem dL_law_552 : decode cL_law 552 = .ok (.iadd, 1) := by decide +kernel
theorem dL_law_553 : decode cL_law 553 = .ok (.iaload, 1) := by decide +kernel
theorem dL_law_554 : decode cL_law 554 = .ok (.aload_n 0, 1) := by decide +kernel
theorem dL_law_555 : decode cL_law 555 = .ok (.iload_n 3, 1) := by decide +kernel
theorem dL_law_556 : decode cL_law 556 = .ok (.bipush 6, 2) := by decide +kernel
theorem dL_law_558 : decode cL_law 558 = .ok (.iadd, 1) := by decide +kernel
theorem dL_law_559 : decode cL_law 559 = .ok (.iaload, 1) := by decide +kernel
theorem dL_law_560 : decode cL_law 560 = .ok (.aload_n 0, 1) := by decide +kernel
theorem dL_law_561 : decode cL_law 561 = .ok (.iload_n 3, 1) := by decide +kernel
theorem dL_law_562 : decode cL_law 562 = .ok (.bipush 7, 2) := by decide +kernel
theorem dL_law_564 : decode cL_law 564 = .ok (.iadd, 1) := by decide +kernel
theorem dL_law_565 : decode cL_law 565 = .ok (.iaload, 1) := by decide +kernel
theorem dL_law_566 : decode cL_law 566 = .ok (.invokevirtual 59, 3) := by decide +kernel
theorem dL_law_569 : decode cL_law 569 = .ok (.aload_n 2, 1) := by decide +kernel
theorem dL_law_570 : decode cL_law 570 = .ok (.aload_n 0, 1) := by decide +kernel
theorem dL_law_571 : decode cL_law 571 = .ok (.iload_n 3, 1) := by decide +kernel
theorem dL_law_572 : decode cL_law 572 = .ok (.iconst 1, 1) := by decide +kernel
theorem dL_law_573 : decode cL_law 573 = .ok (.iadd, 1) := by decide +kernel
theorem dL_law_574 : decode cL_law 574 = .ok (.iaload, 1) := by decide +kernel
theorem dL_law_575 : decode cL_law 575 = .ok (.aload_n 0, 1) := by decide +kernel
theorem dL_law_576 : decode cL_law 576 = .ok (.iload_n 3, 1) := by decide +kernel
theorem dL_law_577 : decode cL_law 577 = .ok (.iconst 2, 1) := by decide +kernel
theorem dL_law_578 : decode cL_law 578 = .ok (.iadd, 1) := by decide +kernel
theorem dL_law_579 : decode cL_law 579 = .ok (.iaload, 1) := by decide +kernel
theorem dL_law_580 : decode cL_law 580 = .ok (.aload_n 0, 1) := by decide +kernel
theorem dL_law_581 : decode cL_law 581 = .ok (.iload_n 3, 1) := by decide +kernel
theorem dL_law_582 : decode cL_law 582 = .ok (.iconst 3, 1) := by decide +kernel
theorem dL_law_583 : decode cL_law 583 = .ok (.iadd, 1) := by decide +kernel
theorem dL_law_584 : decode cL_law 584 = .ok (.iaload, 1) := by decide +kernel
theorem dL_law_585 : decode cL_law 585 = .ok (.aload_n 0, 1) := by decide +kernel
theorem dL_law_586 : decode cL_law 586 = .ok (.iload_n 3, 1) := by decide +kernel
theorem dL_law_587 : decode cL_law 587 = .ok (.iconst 4, 1) := by decide +kernel
theorem dL_law_588 : decode cL_law 588 = .ok (.iadd, 1) := by decide +kernel
theorem dL_law_589 : decode cL_law 589 = .ok (.iaload, 1) := by decide +kernel
theorem dL_law_590 : decode cL_law 590 = .ok (.aload_n 0, 1) := by decide +kernel
theorem dL_law_591 : decode cL_law 591 = .ok (.iload_n 3, 1) := by decide +kernel
theorem dL_law_592 : decode cL_law 592 = .ok (.iconst 5, 1) := by decide +kernel
theorem dL_law_593 : decode cL_law 593 = .ok (.iadd, 1) := by decide +kernel
theorem dL_law_594 : decode cL_law 594 = .ok (.iaload, 1) := by decide +kernel
theorem dL_law_595 : decode cL_law 595 = .ok (.aload_n 0, 1) := by decide +kernel
theorem dL_law_596 : decode cL_law 596 = .ok (.iload_n 3, 1) := by decide +kernel
theorem dL_law_597 : decode cL_law 597 = .ok (.bipush 6, 2) := by decide +kernel
theorem dL_law_599 : decode cL_law 599 = .ok (.iadd, 1) := by decide +kernel
theorem dL_law_600 : decode cL_law 600 = .ok (.iaload, 1) := by decide +kernel
theorem dL_law_601 : decode cL_law 601 = .ok (.aload_n 0, 1) := by decide +kernel
theorem dL_law_602 : decode cL_law 602 = .ok (.iload_n 3, 1) := by decide +kernel
theorem dL_law_603 : decode cL_law 603 = .ok (.bipush 7, 2) := by decide +kernel
theorem dL_law_605 : decode cL_law 605 = .ok (.iadd, 1) := by decide +kernel
theorem dL_law_606 : decode cL_law 606 = .ok (.iaload, 1) := by decide +kernel
theorem dL_law_607 : decode cL_law 607 = .ok (.invokevirtual 63, 3) := by decide +kernel
theorem dL_law_610 : decode cL_law 610 = .ok (.if_icmp .eq 704, 3) := by decide +kernel
theorem dL_law_613 : decode cL_law 613 = .ok (.iconst 0, 1) := by decide +kernel
theorem dL_law_614 : decode cL_law 614 = .ok (.ireturn, 1) := by decide +kernel
theorem dL_law_615 : decode cL_law 615 = .ok (.aload_n 1, 1) := by decide +kernel
theorem dL_law_616 : decode cL_law 616 = .ok (.aload_n 0, 1) := by decide +kernel
theorem dL_law_617 : decode cL_law 617 = .ok (.iload_n 3, 1) := by decide +kernel
theorem dL_law_618 : decode cL_law 618 = .ok (.iconst 1, 1) := by decide +kernel
theorem dL_law_619 : decode cL_law 619 = .ok (.iadd, 1) := by decide +kernel
theorem dL_law_620 : decode cL_law 620 = .ok (.iaload, 1) := by decide +kernel
theorem dL_law_621 : decode cL_law 621 = .ok (.aload_n 0, 1) := by decide +kernel
theorem dL_law_622 : decode cL_law 622 = .ok (.iload_n 3, 1) := by decide +kernel
theorem dL_law_623 : decode cL_law 623 = .ok (.iconst 2, 1) := by decide +kernel
theorem dL_law_624 : decode cL_law 624 = .ok (.iadd, 1) := by decide +kernel
theorem dL_law_625 : decode cL_law 625 = .ok (.iaload, 1) := by decide +kernel
theorem dL_law_626 : decode cL_law 626 = .ok (.aload_n 0, 1) := by decide +kernel
theorem dL_law_627 : decode cL_law 627 = .ok (.iload_n 3, 1) := by decide +kernel
theorem dL_law_628 : decode cL_law 628 = .ok (.iconst 3, 1) := by decide +kernel
theorem dL_law_629 : decode cL_law 629 = .ok (.iadd, 1) := by decide +kernel
theorem dL_law_630 : decode cL_law 630 = .ok (.iaload, 1) := by decide +kernel
theorem dL_law_631 : decode cL_law 631 = .ok (.aload_n 0, 1) := by decide +kernel
theorem dL_law_632 : decode cL_law 632 = .ok (.iload_n 3, 1) := by decide +kernel
theorem dL_law_633 : decode cL_law 633 = .ok (.iconst 4, 1) := by decide +kernel
theorem dL_law_634 : decode cL_law 634 = .ok (.iadd, 1) := by decide +kernel
theorem dL_law_635 : decode cL_law 635 = .ok (.iaload, 1) := by decide +kernel
theorem dL_law_636 : decode cL_law 636 = .ok (.invokevirtual 64, 3) := by decide +kernel
theorem dL_law_639 : decode cL_law 639 = .ok (.aload_n 2, 1) := by decide +kernel
theorem dL_law_640 : decode cL_law 640 = .ok (.aload_n 0, 1) := by decide +kernel
theorem dL_law_641 : decode cL_law 641 = .ok (.iload_n 3, 1) := by decide +kernel
theorem dL_law_642 : decode cL_law 642 = .ok (.iconst 1, 1) := by decide +kernel
theorem dL_law_643 : decode cL_law 643 = .ok (.iadd, 1) := by decide +kernel
theorem dL_law_644 : decode cL_law 644 = .ok (.iaload, 1) := by decide +kernel
theorem dL_law_645 : decode cL_law 645 = .ok (.aload_n 0, 1) := by decide +kernel
theorem dL_law_646 : decode cL_law 646 = .ok (.iload_n 3, 1) := by decide +kernel
theorem dL_law_647 : decode cL_law 647 = .ok (.iconst 2, 1) := by decide +kernel
theorem dL_law_648 : decode cL_law 648 = .ok (.iadd, 1) := by decide +kernel
theorem dL_law_649 : decode cL_law 649 = .ok (.iaload, 1) := by decide +kernel
theorem dL_law_650 : decode cL_law 650 = .ok (.aload_n 0, 1) := by decide +kernel
theorem dL_law_651 : decode cL_law 651 = .ok (.iload_n 3, 1) := by decide +kernel
theorem dL_law_652 : decode cL_law 652 = .ok (.iconst 3, 1) := by decide +kernel
theorem dL_law_653 : decode cL_law 653 = .ok (.iadd, 1) := by decide +kernel
theorem dL_law_654 : decode cL_law 654 = .ok (.iaload, 1) := by decide +kernel
theorem dL_law_655 : decode cL_law 655 = .ok (.aload_n 0, 1) := by decide +kernel
theorem dL_law_656 : decode cL_law 656 = .ok (.iload_n 3, 1) := by decide +kernel
theorem dL_law_657 : decode cL_law 657 = .ok (.iconst 4, 1) := by decide +kernel
theorem dL_law_658 : decode cL_law 658 = .ok (.iadd, 1) := by decide +kernel
theorem dL_law_659 : decode cL_law 659 = .ok (.iaload, 1) := by decide +kernel
theorem dL_law_660 : decode cL_law 660 = .ok (.invokevirtual 67, 3) := by decide +kernel
theorem dL_law_663 : decode cL_law 663 = .ok (.if_icmp .eq 651, 3) := by decide +kernel
theorem dL_law_666 : decode cL_law 666 = .ok (.iconst 0, 1) := by decide +kernel
theorem dL_law_667 : decode cL_law 667 = .ok (.ireturn, 1) := by decide +kernel
theorem dL_law_668 : decode cL_law 668 = .ok (.aload_n 1, 1) := by decide +kernel
theorem dL_law_669 : decode cL_law 669 = .ok (.invokevirtual 68, 3) := by decide +kernel
theorem dL_law_672 : decode cL_law 672 = .ok (.aload_n 2, 1) := by decide +kernel
theorem dL_law_673 : decode cL_law 673 = .ok (.invokevirtual 72, 3) := by decide +kernel
theorem dL_law_676 : decode cL_law 676 = .ok (.if_icmp .eq 638, 3) := by decide +kernel
theorem dL_law_679 : decode cL_law 679 = .ok (.iconst 0, 1) := by decide +kernel
theorem dL_law_680 : decode cL_law 680 = .ok (.ireturn, 1) := by decide +kernel
theorem dL_law_681 : decode cL_law 681 = .ok (.aload_n 1, 1) := by decide +kernel
theorem dL_law_682 : decode cL_law 682 = .ok (.aload_n 0, 1) := by decide +kernel
theorem dL_law_683 : decode cL_law 683 = .ok (.iload_n 3, 1) := by decide +kernel
theorem dL_law_684 : decode cL_law 684 = .ok (.iconst 1, 1) := by decide +kernel
theorem dL_law_685 : decode cL_law 685 = .ok (.iadd, 1) := by decide +kernel
theorem dL_law_686 : decode cL_law 686 = .ok (.iaload, 1) := by decide +kernel
theorem dL_law_687 : decode cL_law 687 = .ok (.aload_n 0, 1) := by decide +kernel
theorem dL_law_688 : decode cL_law 688 = .ok (.iload_n 3, 1) := by decide +kernel
theorem dL_law_689 : decode cL_law 689 = .ok (.iconst 2, 1) := by decide +kernel
theorem dL_law_690 : decode cL_law 690 = .ok (.iadd, 1) := by decide +kernel
theorem dL_law_691 : decode cL_law 691 = .ok (.iaload, 1) := by decide +kernel
theorem dL_law_692 : decode cL_law 692 = .ok (.ifCond .eq 7, 3) := by decide +kernel
theorem dL_law_695 : decode cL_law 695 = .ok (.iconst 1, 1) := by decide +kernel
theorem dL_law_696 : decode cL_law 696 = .ok (.goto 4, 3) := by decide +kernel
theorem dL_law_699 : decode cL_law 699 = .ok (.iconst 0, 1) := by decide +kernel
theorem dL_law_700 : decode cL_law 700 = .ok (.invokevirtual 73, 3) := by decide +kernel
theorem dL_law_703 : decode cL_law 703 = .ok (.aload_n 2, 1) := by decide +kernel
theorem dL_law_704 : decode cL_law 704 = .ok (.aload_n 0, 1) := by decide +kernel
theorem dL_law_705 : decode cL_law 705 = .ok (.iload_n 3, 1) := by decide +kernel
theorem dL_law_706 : decode cL_law 706 = .ok (.iconst 1, 1) := by decide +kernel
theorem dL_law_707 : decode cL_law 707 = .ok (.iadd, 1) := by decide +kernel
theorem dL_law_708 : decode cL_law 708 = .ok (.iaload, 1) := by decide +kernel
theorem dL_law_709 : decode cL_law 709 = .ok (.aload_n 0, 1) := by decide +kernel
theorem dL_law_710 : decode cL_law 710 = .ok (.iload_n 3, 1) := by decide +kernel
theorem dL_law_711 : decode cL_law 711 = .ok (.iconst 2, 1) := by decide +kernel
theorem dL_law_712 : decode cL_law 712 = .ok (.iadd, 1) := by decide +kernel
theorem dL_law_713 : decode cL_law 713 = .ok (.iaload, 1) := by decide +kernel
theorem dL_law_714 : decode cL_law 714 = .ok (.ifCond .eq 7, 3) := by decide +kernel
theorem dL_law_717 : decode cL_law 717 = .ok (.iconst 1, 1) := by decide +kernel
theorem dL_law_718 : decode cL_law 718 = .ok (.goto 4, 3) := by decide +kernel
theorem dL_law_721 : decode cL_law 721 = .ok (.iconst 0, 1) := by decide +kernel
theorem dL_law_722 : decode cL_law 722 = .ok (.invokevirtual 77, 3) := by decide +kernel
theorem dL_law_725 : decode cL_law 725 = .ok (.if_icmp .eq 589, 3) := by decide +kernel
theorem dL_law_728 : decode cL_law 728 = .ok (.iconst 0, 1) := by decide +kernel
theorem dL_law_729 : decode cL_law 729 = .ok (.ireturn, 1) := by decide +kernel
theorem dL_law_730 : decode cL_law 730 = .ok (.aload_n 1, 1) := by decide +kernel
theorem dL_law_731 : decode cL_law 731 = .ok (.aload_n 0, 1) := by decide +kernel
theorem dL_law_732 : decode cL_law 732 = .ok (.iload_n 3, 1) := by decide +kernel
theorem dL_law_733 : decode cL_law 733 = .ok (.iconst 1, 1) := by decide +kernel
theorem dL_law_734 : decode cL_law 734 = .ok (.iadd, 1) := by decide +kernel
theorem dL_law_735 : decode cL_law 735 = .ok (.iaload, 1) := by decide +kernel
theorem dL_law_736 : decode cL_law 736 = .ok (.invokevirtual 78, 3) := by decide +kernel
theorem dL_law_739 : decode cL_law 739 = .ok (.aload_n 2, 1) := by decide +kernel
theorem dL_law_740 : decode cL_law 740 = .ok (.aload_n 0, 1) := by decide +kernel
theorem dL_law_741 : decode cL_law 741 = .ok (.iload_n 3, 1) := by decide +kernel
theorem dL_law_742 : decode cL_law 742 = .ok (.iconst 1, 1) := by decide +kernel
theorem dL_law_743 : decode cL_law 743 = .ok (.iadd, 1) := by decide +kernel
theorem dL_law_744 : decode cL_law 744 = .ok (.iaload, 1) := by decide +kernel
theorem dL_law_745 : decode cL_law 745 = .ok (.invokevirtual 81, 3) := by decide +kernel
theorem dL_law_748 : decode cL_law 748 = .ok (.if_icmp .eq 566, 3) := by decide +kernel
theorem dL_law_751 : decode cL_law 751 = .ok (.iconst 0, 1) := by decide +kernel
theorem dL_law_752 : decode cL_law 752 = .ok (.ireturn, 1) := by decide +kernel
theorem dL_law_753 : decode cL_law 753 = .ok (.aload_n 1, 1) := by decide +kernel
theorem dL_law_754 : decode cL_law 754 = .ok (.aload_n 0, 1) := by decide +kernel
theorem dL_law_755 : decode cL_law 755 = .ok (.iload_n 3, 1) := by decide +kernel
theorem dL_law_756 : decode cL_law 756 = .ok (.iconst 1, 1) := by decide +kernel
theorem dL_law_757 : decode cL_law 757 = .ok (.iadd, 1) := by decide +kernel
theorem dL_law_758 : decode cL_law 758 = .ok (.iaload, 1) := by decide +kernel
theorem dL_law_759 : decode cL_law 759 = .ok (.aload_n 0, 1) := by decide +kernel
theorem dL_law_760 : decode cL_law 760 = .ok (.iload_n 3, 1) := by decide +kernel
theorem dL_law_761 : decode cL_law 761 = .ok (.iconst 2, 1) := by decide +kernel
theorem dL_law_762 : decode cL_law 762 = .ok (.iadd, 1) := by decide +kernel
theorem dL_law_763 : decode cL_law 763 = .ok (.iaload, 1) := by decide +kernel
theorem dL_law_764 : decode cL_law 764 = .ok (.invokevirtual 82, 3) := by decide +kernel
theorem dL_law_767 : decode cL_law 767 = .ok (.aload_n 2, 1) := by decide +kernel
theorem dL_law_768 : decode cL_law 768 = .ok (.aload_n 0, 1) := by decide +kernel
theorem dL_law_769 : decode cL_law 769 = .ok (.iload_n 3, 1) := by decide +kernel
theorem dL_law_770 : decode cL_law 770 = .ok (.iconst 1, 1) := by decide +kernel
theorem dL_law_771 : decode cL_law 771 = .ok (.iadd, 1) := by decide +kernel
theorem dL_law_772 : decode cL_law 772 = .ok (.iaload, 1) := by decide +kernel
theorem dL_law_773 : decode cL_law 773 = .ok (.aload_n 0, 1) := by decide +kernel
theorem dL_law_774 : decode cL_law 774 = .ok (.iload_n 3, 1) := by decide +kernel
theorem dL_law_775 : decode cL_law 775 = .ok (.iconst 2, 1) := by decide +kernel
theorem dL_law_776 : decode cL_law 776 = .ok (.iadd, 1) := by decide +kernel
theorem dL_law_777 : decode cL_law 777 = .ok (.iaload, 1) := by decide +kernel
theorem dL_law_778 : decode cL_law 778 = .ok (.invokevirtual 85, 3) := by decide +kernel
theorem dL_law_781 : decode cL_law 781 = .ok (.if_icmp .eq 533, 3) := by decide +kernel
theorem dL_law_784 : decode cL_law 784 = .ok (.iconst 0, 1) := by decide +kernel
theorem dL_law_785 : decode cL_law 785 = .ok (.ireturn, 1) := by decide +kernel
theorem dL_law_786 : decode cL_law 786 = .ok (.aload_n 1, 1) := by decide +kernel
theorem dL_law_787 : decode cL_law 787 = .ok (.aload_n 0, 1) := by decide +kernel
theorem dL_law_788 : decode cL_law 788 = .ok (.iload_n 3, 1) := by decide +kernel
theorem dL_law_789 : decode cL_law 789 = .ok (.iconst 1, 1) := by decide +kernel
theorem dL_law_790 : decode cL_law 790 = .ok (.iadd, 1) := by decide +kernel
theorem dL_law_791 : decode cL_law 791 = .ok (.iaload, 1) := by decide +kernel
theorem dL_law_792 : decode cL_law 792 = .ok (.invokevirtual 86, 3) := by decide +kernel
theorem dL_law_795 : decode cL_law 795 = .ok (.aload_n 2, 1) := by decide +kernel
theorem dL_law_796 : decode cL_law 796 = .ok (.aload_n 0, 1) := by decide +kernel
theorem dL_law_797 : decode cL_law 797 = .ok (.iload_n 3, 1) := by decide +kernel
theorem dL_law_798 : decode cL_law 798 = .ok (.iconst 1, 1) := by decide +kernel
theorem dL_law_799 : decode cL_law 799 = .ok (.iadd, 1) := by decide +kernel
theorem dL_law_800 : decode cL_law 800 = .ok (.iaload, 1) := by decide +kernel
theorem dL_law_801 : decode cL_law 801 = .ok (.invokevirtual 89, 3) := by decide +kernel
theorem dL_law_804 : decode cL_law 804 = .ok (.if_icmp .eq 510, 3) := by decide +kernel
theorem dL_law_807 : decode cL_law 807 = .ok (.iconst 0, 1) := by decide +kernel
theorem dL_law_808 : decode cL_law 808 = .ok (.ireturn, 1) := by decide +kernel
theorem dL_law_809 : decode cL_law 809 = .ok (.aload_n 1, 1) := by decide +kernel
theorem dL_law_810 : decode cL_law 810 = .ok (.aload_n 0, 1) := by decide +kernel
theorem dL_law_811 : decode cL_law 811 = .ok (.iload_n 3, 1) := by decide +kernel
theorem dL_law_812 : decode cL_law 812 = .ok (.iconst 1, 1) := by decide +kernel
theorem dL_law_813 : decode cL_law 813 = .ok (.iadd, 1) := by decide +kernel
theorem dL_law_814 : decode cL_law 814 = .ok (.iaload, 1) := by decide +kernel
theorem dL_law_815 : decode cL_law 815 = .ok (.invokevirtual 90, 3) := by decide +kernel
theorem dL_law_818 : decode cL_law 818 = .ok (.aload_n 2, 1) := by decide +kernel
theorem dL_law_819 : decode cL_law 819 = .ok (.aload_n 0, 1) := by decide +kernel
theorem dL_law_820 : decode cL_law 820 = .ok (.iload_n 3, 1) := by decide +kernel
theorem dL_law_821 : decode cL_law 821 = .ok (.iconst 1, 1) := by decide +kernel
theorem dL_law_822 : decode cL_law 822 = .ok (.iadd, 1) := by decide +kernel
theorem dL_law_823 : decode cL_law 823 = .ok (.iaload, 1) := by decide +kernel
theorem dL_law_824 : decode cL_law 824 = .ok (.invokevirtual 93, 3) := by decide +kernel
theorem dL_law_827 : decode cL_law 827 = .ok (.if_icmp .eq 487, 3) := by decide +kernel
theorem dL_law_830 : decode cL_law 830 = .ok (.iconst 0, 1) := by decide +kernel
theorem dL_law_831 : decode cL_law 831 = .ok (.ireturn, 1) := by decide +kernel
theorem dL_law_832 : decode cL_law 832 = .ok (.aload_n 1, 1) := by decide +kernel
theorem dL_law_833 : decode cL_law 833 = .ok (.aload_n 0, 1) := by decide +kernel
theorem dL_law_834 : decode cL_law 834 = .ok (.iload_n 3, 1) := by decide +kernel
theorem dL_law_835 : decode cL_law 835 = .ok (.iconst 1, 1) := by decide +kernel
theorem dL_law_836 : decode cL_law 836 = .ok (.iadd, 1) := by decide +kernel
theorem dL_law_837 : decode cL_law 837 = .ok (.iaload, 1) := by decide +kernel
theorem dL_law_838 : decode cL_law 838 = .ok (.invokevirtual 94, 3) := by decide +kernel
theorem dL_law_841 : decode cL_law 841 = .ok (.aload_n 2, 1) := by decide +kernel
theorem dL_law_842 : decode cL_law 842 = .ok (.aload_n 0, 1) := by decide +kernel
theorem dL_law_843 : decode cL_law 843 = .ok (.iload_n 3, 1) := by decide +kernel
theorem dL_law_844 : decode cL_law 844 = .ok (.iconst 1, 1) := by decide +kernel
theorem dL_law_845 : decode cL_law 845 = .ok (.iadd, 1) := by decide +kernel
theorem dL_law_846 : decode cL_law 846 = .ok (.iaload, 1) := by decide +kernel
theorem dL_law_847 : decode cL_law 847 = .ok (.invokevirtual 97, 3) := by decide +kernel
theorem dL_law_850 : decode cL_law 850 = .ok (.if_icmp .eq 464, 3) := by decide +kernel
theorem dL_law_853 : decode cL_law 853 = .ok (.iconst 0, 1) := by decide +kernel
theorem dL_law_854 : decode cL_law 854 = .ok (.ireturn, 1) := by decide +kernel
theorem dL_law_855 : decode cL_law 855 = .ok (.aload_n 1, 1) := by decide +kernel
theorem dL_law_856 : decode cL_law 856 = .ok (.aload_n 0, 1) := by decide +kernel
theorem dL_law_857 : decode cL_law 857 = .ok (.iload_n 3, 1) := by decide +kernel
theorem dL_law_858 : decode cL_law 858 = .ok (.iconst 1, 1) := by decide +kernel
theorem dL_law_859 : decode cL_law 859 = .ok (.iadd, 1) := by decide +kernel
theorem dL_law_860 : decode cL_law 860 = .ok (.iaload, 1) := by decide +kernel
theorem dL_law_861 : decode cL_law 861 = .ok (.aload_n 0, 1) := by decide +kernel
theorem dL_law_862 : decode cL_law 862 = .ok (.iload_n 3, 1) := by decide +kernel
theorem dL_law_863 : decode cL_law 863 = .ok (.iconst 2, 1) := by decide +kernel
theorem dL_law_864 : decode cL_law 864 = .ok (.iadd, 1) := by decide +kernel
theorem dL_law_865 : decode cL_law 865 = .ok (.iaload, 1) := by decide +kernel
theorem dL_law_866 : decode cL_law 866 = .ok (.invokevirtual 98, 3) := by decide +kernel
theorem dL_law_869 : decode cL_law 869 = .ok (.aload_n 2, 1) := by decide +kernel
theorem dL_law_870 : decode cL_law 870 = .ok (.aload_n 0, 1) := by decide +kernel
theorem dL_law_871 : decode cL_law 871 = .ok (.iload_n 3, 1) := by decide +kernel
theorem dL_law_872 : decode cL_law 872 = .ok (.iconst 1, 1) := by decide +kernel
theorem dL_law_873 : decode cL_law 873 = .ok (.iadd, 1) := by decide +kernel
theorem dL_law_874 : decode cL_law 874 = .ok (.iaload, 1) := by decide +kernel
theorem dL_law_875 : decode cL_law 875 = .ok (.aload_n 0, 1) := by decide +kernel
theorem dL_law_876 : decode cL_law 876 = .ok (.iload_n 3, 1) := by decide +kernel
theorem dL_law_877 : decode cL_law 877 = .ok (.iconst 2, 1) := by decide +kernel
theorem dL_law_878 : decode cL_law 878 = .ok (.iadd, 1) := by decide +kernel
theorem dL_law_879 : decode cL_law 879 = .ok (.iaload, 1) := by decide +kernel
theorem dL_law_880 : decode cL_law 880 = .ok (.invokevirtual 101, 3) := by decide +kernel
theorem dL_law_883 : decode cL_law 883 = .ok (.if_icmp .eq 431, 3) := by decide +kernel
theorem dL_law_886 : decode cL_law 886 = .ok (.iconst 0, 1) := by decide +kernel
theorem dL_law_887 : decode cL_law 887 = .ok (.ireturn, 1) := by decide +kernel
theorem dL_law_888 : decode cL_law 888 = .ok (.aload_n 1, 1) := by decide +kernel
theorem dL_law_889 : decode cL_law 889 = .ok (.aload_n 0, 1) := by decide +kernel
theorem dL_law_890 : decode cL_law 890 = .ok (.iload_n 3, 1) := by decide +kernel
theorem dL_law_891 : decode cL_law 891 = .ok (.iconst 1, 1) := by decide +kernel
theorem dL_law_892 : decode cL_law 892 = .ok (.iadd, 1) := by decide +kernel
theorem dL_law_893 : decode cL_law 893 = .ok (.iaload, 1) := by decide +kernel
theorem dL_law_894 : decode cL_law 894 = .ok (.invokevirtual 102, 3) := by decide +kernel
theorem dL_law_897 : decode cL_law 897 = .ok (.aload_n 2, 1) := by decide +kernel
theorem dL_law_898 : decode cL_law 898 = .ok (.aload_n 0, 1) := by decide +kernel
theorem dL_law_899 : decode cL_law 899 = .ok (.iload_n 3, 1) := by decide +kernel
theorem dL_law_900 : decode cL_law 900 = .ok (.iconst 1, 1) := by decide +kernel
theorem dL_law_901 : decode cL_law 901 = .ok (.iadd, 1) := by decide +kernel
theorem dL_law_902 : decode cL_law 902 = .ok (.iaload, 1) := by decide +kernel
theorem dL_law_903 : decode cL_law 903 = .ok (.invokevirtual 106, 3) := by decide +kernel
theorem dL_law_906 : decode cL_law 906 = .ok (.lcmp, 1) := by decide +kernel
theorem dL_law_907 : decode cL_law 907 = .ok (.ifCond .eq 407, 3) := by decide +kernel
theorem dL_law_910 : decode cL_law 910 = .ok (.iconst 0, 1) := by decide +kernel
theorem dL_law_911 : decode cL_law 911 = .ok (.ireturn, 1) := by decide +kernel
theorem dL_law_912 : decode cL_law 912 = .ok (.aload_n 1, 1) := by decide +kernel
theorem dL_law_913 : decode cL_law 913 = .ok (.aload_n 0, 1) := by decide +kernel
theorem dL_law_914 : decode cL_law 914 = .ok (.iload_n 3, 1) := by decide +kernel
theorem dL_law_915 : decode cL_law 915 = .ok (.iconst 1, 1) := by decide +kernel
theorem dL_law_916 : decode cL_law 916 = .ok (.iadd, 1) := by decide +kernel
theorem dL_law_917 : decode cL_law 917 = .ok (.iaload, 1) := by decide +kernel
theorem dL_law_918 : decode cL_law 918 = .ok (.aload_n 0, 1) := by decide +kernel
theorem dL_law_919 : decode cL_law 919 = .ok (.iload_n 3, 1) := by decide +kernel
theorem dL_law_920 : decode cL_law 920 = .ok (.iconst 2, 1) := by decide +kernel
theorem dL_law_921 : decode cL_law 921 = .ok (.iadd, 1) := by decide +kernel
theorem dL_law_922 : decode cL_law 922 = .ok (.iaload, 1) := by decide +kernel
theorem dL_law_923 : decode cL_law 923 = .ok (.aload_n 0, 1) := by decide +kernel
theorem dL_law_924 : decode cL_law 924 = .ok (.iload_n 3, 1) := by decide +kernel
theorem dL_law_925 : decode cL_law 925 = .ok (.iconst 3, 1) := by decide +kernel
theorem dL_law_926 : decode cL_law 926 = .ok (.iadd, 1) := by decide +kernel
theorem dL_law_927 : decode cL_law 927 = .ok (.iaload, 1) := by decide +kernel
theorem dL_law_928 : decode cL_law 928 = .ok (.invokevirtual 107, 3) := by decide +kernel
theorem dL_law_931 : decode cL_law 931 = .ok (.aload_n 2, 1) := by decide +kernel
theorem dL_law_932 : decode cL_law 932 = .ok (.aload_n 0, 1) := by decide +kernel
theorem dL_law_933 : decode cL_law 933 = .ok (.iload_n 3, 1) := by decide +kernel
theorem dL_law_934 : decode cL_law 934 = .ok (.iconst 1, 1) := by decide +kernel
theorem dL_law_935 : decode cL_law 935 = .ok (.iadd, 1) := by decide +kernel
theorem dL_law_936 : decode cL_law 936 = .ok (.iaload, 1) := by decide +kernel
theorem dL_law_937 : decode cL_law 937 = .ok (.aload_n 0, 1) := by decide +kernel
theorem dL_law_938 : decode cL_law 938 = .ok (.iload_n 3, 1) := by decide +kernel
theorem dL_law_939 : decode cL_law 939 = .ok (.iconst 2, 1) := by decide +kernel
theorem dL_law_940 : decode cL_law 940 = .ok (.iadd, 1) := by decide +kernel
theorem dL_law_941 : decode cL_law 941 = .ok (.iaload, 1) := by decide +kernel
theorem dL_law_942 : decode cL_law 942 = .ok (.aload_n 0, 1) := by decide +kernel
theorem dL_law_943 : decode cL_law 943 = .ok (.iload_n 3, 1) := by decide +kernel
theorem dL_law_944 : decode cL_law 944 = .ok (.iconst 3, 1) := by decide +kernel
theorem dL_law_945 : decode cL_law 945 = .ok (.iadd, 1) := by decide +kernel
theorem dL_law_946 : decode cL_law 946 = .ok (.iaload, 1) := by decide +kernel
theorem dL_law_947 : decode cL_law 947 = .ok (.invokevirtual 111, 3) := by decide +kernel
theorem dL_law_950 : decode cL_law 950 = .ok (.if_icmp .eq 364, 3) := by decide +kernel
theorem dL_law_953 : decode cL_law 953 = .ok (.iconst 0, 1) := by decide +kernel
theorem dL_law_954 : decode cL_law 954 = .ok (.ireturn, 1) := by decide +kernel
theorem dL_law_955 : decode cL_law 955 = .ok (.aload_n 1, 1) := by decide +kernel
theorem dL_law_956 : decode cL_law 956 = .ok (.aload_n 0, 1) := by decide +kernel
theorem dL_law_957 : decode cL_law 957 = .ok (.iload_n 3, 1) := by decide +kernel
theorem dL_law_958 : decode cL_law 958 = .ok (.iconst 1, 1) := by decide +kernel
theorem dL_law_959 : decode cL_law 959 = .ok (.iadd, 1) := by decide +kernel
theorem dL_law_960 : decode cL_law 960 = .ok (.iaload, 1) := by decide +kernel
theorem dL_law_961 : decode cL_law 961 = .ok (.invokevirtual 112, 3) := by decide +kernel
theorem dL_law_964 : decode cL_law 964 = .ok (.aload_n 2, 1) := by decide +kernel
theorem dL_law_965 : decode cL_law 965 = .ok (.aload_n 0, 1) := by decide +kernel
theorem dL_law_966 : decode cL_law 966 = .ok (.iload_n 3, 1) := by decide +kernel
theorem dL_law_967 : decode cL_law 967 = .ok (.iconst 1, 1) := by decide +kernel
theorem dL_law_968 : decode cL_law 968 = .ok (.iadd, 1) := by decide +kernel
theorem dL_law_969 : decode cL_law 969 = .ok (.iaload, 1) := by decide +kernel
theorem dL_law_970 : decode cL_law 970 = .ok (.invokevirtual 115, 3) := by decide +kernel
theorem dL_law_973 : decode cL_law 973 = .ok (.if_icmp .eq 341, 3) := by decide +kernel
theorem dL_law_976 : decode cL_law 976 = .ok (.iconst 0, 1) := by decide +kernel
theorem dL_law_977 : decode cL_law 977 = .ok (.ireturn, 1) := by decide +kernel
theorem dL_law_978 : decode cL_law 978 = .ok (.aload_n 1, 1) := by decide +kernel
theorem dL_law_979 : decode cL_law 979 = .ok (.aload_n 0, 1) := by decide +kernel
theorem dL_law_980 : decode cL_law 980 = .ok (.iload_n 3, 1) := by decide +kernel
theorem dL_law_981 : decode cL_law 981 = .ok (.iconst 1, 1) := by decide +kernel
theorem dL_law_982 : decode cL_law 982 = .ok (.iadd, 1) := by decide +kernel
theorem dL_law_983 : decode cL_law 983 = .ok (.iaload, 1) := by decide +kernel
theorem dL_law_984 : decode cL_law 984 = .ok (.invokevirtual 116, 3) := by decide +kernel
theorem dL_law_987 : decode cL_law 987 = .ok (.aload_n 2, 1) := by decide +kernel
theorem dL_law_988 : decode cL_law 988 = .ok (.aload_n 0, 1) := by decide +kernel
theorem dL_law_989 : decode cL_law 989 = .ok (.iload_n 3, 1) := by decide +kernel
theorem dL_law_990 : decode cL_law 990 = .ok (.iconst 1, 1) := by decide +kernel
theorem dL_law_991 : decode cL_law 991 = .ok (.iadd, 1) := by decide +kernel
theorem dL_law_992 : decode cL_law 992 = .ok (.iaload, 1) := by decide +kernel
theorem dL_law_993 : decode cL_law 993 = .ok (.invokevirtual 119, 3) := by decide +kernel
theorem dL_law_996 : decode cL_law 996 = .ok (.if_icmp .eq 318, 3) := by decide +kernel
theorem dL_law_999 : decode cL_law 999 = .ok (.iconst 0, 1) := by decide +kernel
theorem dL_law_1000 : decode cL_law 1000 = .ok (.ireturn, 1) := by decide +kernel
theorem dL_law_1001 : decode cL_law 1001 = .ok (.aload_n 1, 1) := by decide +kernel
theorem dL_law_1002 : decode cL_law 1002 = .ok (.aload_n 0, 1) := by decide +kernel
theorem dL_law_1003 : decode cL_law 1003 = .ok (.iload_n 3, 1) := by decide +kernel
theorem dL_law_1004 : decode cL_law 1004 = .ok (.iconst 1, 1) := by decide +kernel
theorem dL_law_1005 : decode cL_law 1005 = .ok (.iadd, 1) := by decide +kernel
theorem dL_law_1006 : decode cL_law 1006 = .ok (.iaload, 1) := by decide +kernel
theorem dL_law_1007 : decode cL_law 1007 = .ok (.aload_n 0, 1) := by decide +kernel
theorem dL_law_1008 : decode cL_law 1008 = .ok (.iload_n 3, 1) := by decide +kernel
theorem dL_law_1009 : decode cL_law 1009 = .ok (.iconst 2, 1) := by decide +kernel
theorem dL_law_1010 : decode cL_law 1010 = .ok (.iadd, 1) := by decide +kernel
theorem dL_law_1011 : decode cL_law 1011 = .ok (.iaload, 1) := by decide +kernel
theorem dL_law_1012 : decode cL_law 1012 = .ok (.invokevirtual 120, 3) := by decide +kernel
theorem dL_law_1015 : decode cL_law 1015 = .ok (.aload_n 2, 1) := by decide +kernel
theorem dL_law_1016 : decode cL_law 1016 = .ok (.aload_n 0, 1) := by decide +kernel
theorem dL_law_1017 : decode cL_law 1017 = .ok (.iload_n 3, 1) := by decide +kernel
theorem dL_law_1018 : decode cL_law 1018 = .ok (.iconst 1, 1) := by decide +kernel
theorem dL_law_1019 : decode cL_law 1019 = .ok (.iadd, 1) := by decide +kernel
theorem dL_law_1020 : decode cL_law 1020 = .ok (.iaload, 1) := by decide +kernel
theorem dL_law_1021 : decode cL_law 1021 = .ok (.aload_n 0, 1) := by decide +kernel
theorem dL_law_1022 : decode cL_law 1022 = .ok (.iload_n 3, 1) := by decide +kernel
theorem dL_law_1023 : decode cL_law 1023 = .ok (.iconst 2, 1) := by decide +kernel
theorem dL_law_1024 : decode cL_law 1024 = .ok (.iadd, 1) := by decide +kernel
theorem dL_law_1025 : decode cL_law 1025 = .ok (.iaload, 1) := by decide +kernel
theorem dL_law_1026 : decode cL_law 1026 = .ok (.invokevirtual 123, 3) := by decide +kernel
theorem dL_law_1029 : decode cL_law 1029 = .ok (.if_icmp .eq 285, 3) := by decide +kernel
theorem dL_law_1032 : decode cL_law 1032 = .ok (.iconst 0, 1) := by decide +kernel
theorem dL_law_1033 : decode cL_law 1033 = .ok (.ireturn, 1) := by decide +kernel
theorem dL_law_1034 : decode cL_law 1034 = .ok (.aload_n 1, 1) := by decide +kernel
theorem dL_law_1035 : decode cL_law 1035 = .ok (.aload_n 0, 1) := by decide +kernel
theorem dL_law_1036 : decode cL_law 1036 = .ok (.iload_n 3, 1) := by decide +kernel
theorem dL_law_1037 : decode cL_law 1037 = .ok (.iconst 1, 1) := by decide +kernel
theorem dL_law_1038 : decode cL_law 1038 = .ok (.iadd, 1) := by decide +kernel
theorem dL_law_1039 : decode cL_law 1039 = .ok (.iaload, 1) := by decide +kernel
theorem dL_law_1040 : decode cL_law 1040 = .ok (.aload_n 0, 1) := by decide +kernel
theorem dL_law_1041 : decode cL_law 1041 = .ok (.iload_n 3, 1) := by decide +kernel
theorem dL_law_1042 : decode cL_law 1042 = .ok (.iconst 2, 1) := by decide +kernel
theorem dL_law_1043 : decode cL_law 1043 = .ok (.iadd, 1) := by decide +kernel
theorem dL_law_1044 : decode cL_law 1044 = .ok (.iaload, 1) := by decide +kernel
theorem dL_law_1045 : decode cL_law 1045 = .ok (.invokevirtual 124, 3) := by decide +kernel
theorem dL_law_1048 : decode cL_law 1048 = .ok (.aload_n 2, 1) := by decide +kernel
theorem dL_law_1049 : decode cL_law 1049 = .ok (.aload_n 0, 1) := by decide +kernel
theorem dL_law_1050 : decode cL_law 1050 = .ok (.iload_n 3, 1) := by decide +kernel
theorem dL_law_1051 : decode cL_law 1051 = .ok (.iconst 1, 1) := by decide +kernel
theorem dL_law_1052 : decode cL_law 1052 = .ok (.iadd, 1) := by decide +kernel
theorem dL_law_1053 : decode cL_law 1053 = .ok (.iaload, 1) := by decide +kernel
theorem dL_law_1054 : decode cL_law 1054 = .ok (.aload_n 0, 1) := by decide +kernel
theorem dL_law_1055 : decode cL_law 1055 = .ok (.iload_n 3, 1) := by decide +kernel
theorem dL_law_1056 : decode cL_law 1056 = .ok (.iconst 2, 1) := by decide +kernel
theorem dL_law_1057 : decode cL_law 1057 = .ok (.iadd, 1) := by decide +kernel
theorem dL_law_1058 : decode cL_law 1058 = .ok (.iaload, 1) := by decide +kernel
theorem dL_law_1059 : decode cL_law 1059 = .ok (.invokevirtual 127, 3) := by decide +kernel
theorem dL_law_1062 : decode cL_law 1062 = .ok (.if_icmp .eq 252, 3) := by decide +kernel
theorem dL_law_1065 : decode cL_law 1065 = .ok (.iconst 0, 1) := by decide +kernel
theorem dL_law_1066 : decode cL_law 1066 = .ok (.ireturn, 1) := by decide +kernel
theorem dL_law_1067 : decode cL_law 1067 = .ok (.aload_n 1, 1) := by decide +kernel
theorem dL_law_1068 : decode cL_law 1068 = .ok (.aload_n 0, 1) := by decide +kernel
theorem dL_law_1069 : decode cL_law 1069 = .ok (.iload_n 3, 1) := by decide +kernel
theorem dL_law_1070 : decode cL_law 1070 = .ok (.iconst 1, 1) := by decide +kernel
theorem dL_law_1071 : decode cL_law 1071 = .ok (.iadd, 1) := by decide +kernel
theorem dL_law_1072 : decode cL_law 1072 = .ok (.iaload, 1) := by decide +kernel
theorem dL_law_1073 : decode cL_law 1073 = .ok (.invokevirtual 128, 3) := by decide +kernel
theorem dL_law_1076 : decode cL_law 1076 = .ok (.aload_n 2, 1) := by decide +kernel
theorem dL_law_1077 : decode cL_law 1077 = .ok (.aload_n 0, 1) := by decide +kernel
theorem dL_law_1078 : decode cL_law 1078 = .ok (.iload_n 3, 1) := by decide +kernel
theorem dL_law_1079 : decode cL_law 1079 = .ok (.iconst 1, 1) := by decide +kernel
theorem dL_law_1080 : decode cL_law 1080 = .ok (.iadd, 1) := by decide +kernel
theorem dL_law_1081 : decode cL_law 1081 = .ok (.iaload, 1) := by decide +kernel
theorem dL_law_1082 : decode cL_law 1082 = .ok (.invokevirtual 131, 3) := by decide +kernel
theorem dL_law_1085 : decode cL_law 1085 = .ok (.if_icmp .eq 229, 3) := by decide +kernel
theorem dL_law_1088 : decode cL_law 1088 = .ok (.iconst 0, 1) := by decide +kernel
theorem dL_law_1089 : decode cL_law 1089 = .ok (.ireturn, 1) := by decide +kernel
theorem dL_law_1090 : decode cL_law 1090 = .ok (.aload_n 1, 1) := by decide +kernel
theorem dL_law_1091 : decode cL_law 1091 = .ok (.aload_n 0, 1) := by decide +kernel
theorem dL_law_1092 : decode cL_law 1092 = .ok (.iload_n 3, 1) := by decide +kernel
theorem dL_law_1093 : decode cL_law 1093 = .ok (.iconst 1, 1) := by decide +kernel
theorem dL_law_1094 : decode cL_law 1094 = .ok (.iadd, 1) := by decide +kernel
theorem dL_law_1095 : decode cL_law 1095 = .ok (.iaload, 1) := by decide +kernel
theorem dL_law_1096 : decode cL_law 1096 = .ok (.invokevirtual 132, 3) := by decide +kernel
theorem dL_law_1099 : decode cL_law 1099 = .ok (.aload_n 2, 1) := by decide +kernel
theorem dL_law_1100 : decode cL_law 1100 = .ok (.aload_n 0, 1) := by decide +kernel
theorem dL_law_1101 : decode cL_law 1101 = .ok (.iload_n 3, 1) := by decide +kernel
theorem dL_law_1102 : decode cL_law 1102 = .ok (.iconst 1, 1) := by decide +kernel
theorem dL_law_1103 : decode cL_law 1103 = .ok (.iadd, 1) := by decide +kernel
theorem dL_law_1104 : decode cL_law 1104 = .ok (.iaload, 1) := by decide +kernel
theorem dL_law_1105 : decode cL_law 1105 = .ok (.invokevirtual 135, 3) := by decide +kernel
theorem dL_law_1108 : decode cL_law 1108 = .ok (.if_icmp .eq 206, 3) := by decide +kernel
theorem dL_law_1111 : decode cL_law 1111 = .ok (.iconst 0, 1) := by decide +kernel
theorem dL_law_1112 : decode cL_law 1112 = .ok (.ireturn, 1) := by decide +kernel
theorem dL_law_1113 : decode cL_law 1113 = .ok (.aload_n 1, 1) := by decide +kernel
theorem dL_law_1114 : decode cL_law 1114 = .ok (.aload_n 0, 1) := by decide +kernel
theorem dL_law_1115 : decode cL_law 1115 = .ok (.iload_n 3, 1) := by decide +kernel
theorem dL_law_1116 : decode cL_law 1116 = .ok (.iconst 1, 1) := by decide +kernel
theorem dL_law_1117 : decode cL_law 1117 = .ok (.iadd, 1) := by decide +kernel
theorem dL_law_1118 : decode cL_law 1118 = .ok (.iaload, 1) := by decide +kernel
theorem dL_law_1119 : decode cL_law 1119 = .ok (.aload_n 0, 1) := by decide +kernel
theorem dL_law_1120 : decode cL_law 1120 = .ok (.iload_n 3, 1) := by decide +kernel
theorem dL_law_1121 : decode cL_law 1121 = .ok (.iconst 2, 1) := by decide +kernel
theorem dL_law_1122 : decode cL_law 1122 = .ok (.iadd, 1) := by decide +kernel
theorem dL_law_1123 : decode cL_law 1123 = .ok (.iaload, 1) := by decide +kernel
theorem dL_law_1124 : decode cL_law 1124 = .ok (.aload_n 0, 1) := by decide +kernel
theorem dL_law_1125 : decode cL_law 1125 = .ok (.iload_n 3, 1) := by decide +kernel
theorem dL_law_1126 : decode cL_law 1126 = .ok (.iconst 3, 1) := by decide +kernel
theorem dL_law_1127 : decode cL_law 1127 = .ok (.iadd, 1) := by decide +kernel
theorem dL_law_1128 : decode cL_law 1128 = .ok (.iaload, 1) := by decide +kernel
theorem dL_law_1129 : decode cL_law 1129 = .ok (.invokevirtual 136, 3) := by decide +kernel
theorem dL_law_1132 : decode cL_law 1132 = .ok (.aload_n 2, 1) := by decide +kernel
theorem dL_law_1133 : decode cL_law 1133 = .ok (.aload_n 0, 1) := by decide +kernel
theorem dL_law_1134 : decode cL_law 1134 = .ok (.iload_n 3, 1) := by decide +kernel
theorem dL_law_1135 : decode cL_law 1135 = .ok (.iconst 1, 1) := by decide +kernel
theorem dL_law_1136 : decode cL_law 1136 = .ok (.iadd, 1) := by decide +kernel
theorem dL_law_1137 : decode cL_law 1137 = .ok (.iaload, 1) := by decide +kernel
theorem dL_law_1138 : decode cL_law 1138 = .ok (.aload_n 0, 1) := by decide +kernel
theorem dL_law_1139 : decode cL_law 1139 = .ok (.iload_n 3, 1) := by decide +kernel
theorem dL_law_1140 : decode cL_law 1140 = .ok (.iconst 2, 1) := by decide +kernel
theorem dL_law_1141 : decode cL_law 1141 = .ok (.iadd, 1) := by decide +kernel
theorem dL_law_1142 : decode cL_law 1142 = .ok (.iaload, 1) := by decide +kernel
theorem dL_law_1143 : decode cL_law 1143 = .ok (.aload_n 0, 1) := by decide +kernel
theorem dL_law_1144 : decode cL_law 1144 = .ok (.iload_n 3, 1) := by decide +kernel
theorem dL_law_1145 : decode cL_law 1145 = .ok (.iconst 3, 1) := by decide +kernel
theorem dL_law_1146 : decode cL_law 1146 = .ok (.iadd, 1) := by decide +kernel
theorem dL_law_1147 : decode cL_law 1147 = .ok (.iaload, 1) := by decide +kernel
theorem dL_law_1148 : decode cL_law 1148 = .ok (.invokevirtual 140, 3) := by decide +kernel
theorem dL_law_1151 : decode cL_law 1151 = .ok (.if_icmp .eq 163, 3) := by decide +kernel
theorem dL_law_1154 : decode cL_law 1154 = .ok (.iconst 0, 1) := by decide +kernel
theorem dL_law_1155 : decode cL_law 1155 = .ok (.ireturn, 1) := by decide +kernel
theorem dL_law_1156 : decode cL_law 1156 = .ok (.aload_n 1, 1) := by decide +kernel
theorem dL_law_1157 : decode cL_law 1157 = .ok (.invokevirtual 141, 3) := by decide +kernel
theorem dL_law_1160 : decode cL_law 1160 = .ok (.aload_n 2, 1) := by decide +kernel
theorem dL_law_1161 : decode cL_law 1161 = .ok (.invokevirtual 144, 3) := by decide +kernel
theorem dL_law_1164 : decode cL_law 1164 = .ok (.if_icmp .eq 150, 3) := by decide +kernel
theorem dL_law_1167 : decode cL_law 1167 = .ok (.iconst 0, 1) := by decide +kernel
theorem dL_law_1168 : decode cL_law 1168 = .ok (.ireturn, 1) := by decide +kernel
theorem dL_law_1169 : decode cL_law 1169 = .ok (.aload_n 1, 1) := by decide +kernel
theorem dL_law_1170 : decode cL_law 1170 = .ok (.aload_n 0, 1) := by decide +kernel
theorem dL_law_1171 : decode cL_law 1171 = .ok (.iload_n 3, 1) := by decide +kernel
theorem dL_law_1172 : decode cL_law 1172 = .ok (.iconst 1, 1) := by decide +kernel
theorem dL_law_1173 : decode cL_law 1173 = .ok (.iadd, 1) := by decide +kernel
theorem dL_law_1174 : decode cL_law 1174 = .ok (.iaload, 1) := by decide +kernel
theorem dL_law_1175 : decode cL_law 1175 = .ok (.aload_n 0, 1) := by decide +kernel
theorem dL_law_1176 : decode cL_law 1176 = .ok (.iload_n 3, 1) := by decide +kernel
theorem dL_law_1177 : decode cL_law 1177 = .ok (.iconst 2, 1) := by decide +kernel
theorem dL_law_1178 : decode cL_law 1178 = .ok (.iadd, 1) := by decide +kernel
theorem dL_law_1179 : decode cL_law 1179 = .ok (.iaload, 1) := by decide +kernel
theorem dL_law_1180 : decode cL_law 1180 = .ok (.invokevirtual 145, 3) := by decide +kernel
theorem dL_law_1183 : decode cL_law 1183 = .ok (.aload_n 2, 1) := by decide +kernel
theorem dL_law_1184 : decode cL_law 1184 = .ok (.aload_n 0, 1) := by decide +kernel
theorem dL_law_1185 : decode cL_law 1185 = .ok (.iload_n 3, 1) := by decide +kernel
theorem dL_law_1186 : decode cL_law 1186 = .ok (.iconst 1, 1) := by decide +kernel
theorem dL_law_1187 : decode cL_law 1187 = .ok (.iadd, 1) := by decide +kernel
theorem dL_law_1188 : decode cL_law 1188 = .ok (.iaload, 1) := by decide +kernel
theorem dL_law_1189 : decode cL_law 1189 = .ok (.aload_n 0, 1) := by decide +kernel
theorem dL_law_1190 : decode cL_law 1190 = .ok (.iload_n 3, 1) := by decide +kernel
theorem dL_law_1191 : decode cL_law 1191 = .ok (.iconst 2, 1) := by decide +kernel
theorem dL_law_1192 : decode cL_law 1192 = .ok (.iadd, 1) := by decide +kernel
theorem dL_law_1193 : decode cL_law 1193 = .ok (.iaload, 1) := by decide +kernel
theorem dL_law_1194 : decode cL_law 1194 = .ok (.invokevirtual 148, 3) := by decide +kernel
theorem dL_law_1197 : decode cL_law 1197 = .ok (.if_icmp .eq 117, 3) := by decide +kernel
theorem dL_law_1200 : decode cL_law 1200 = .ok (.iconst 0, 1) := by decide +kernel
theorem dL_law_1201 : decode cL_law 1201 = .ok (.ireturn, 1) := by decide +kernel
theorem dL_law_1202 : decode cL_law 1202 = .ok (.aload_n 1, 1) := by decide +kernel
theorem dL_law_1203 : decode cL_law 1203 = .ok (.aload_n 0, 1) := by decide +kernel
theorem dL_law_1204 : decode cL_law 1204 = .ok (.iload_n 3, 1) := by decide +kernel
theorem dL_law_1205 : decode cL_law 1205 = .ok (.iconst 1, 1) := by decide +kernel
theorem dL_law_1206 : decode cL_law 1206 = .ok (.iadd, 1) := by decide +kernel
theorem dL_law_1207 : decode cL_law 1207 = .ok (.iaload, 1) := by decide +kernel
theorem dL_law_1208 : decode cL_law 1208 = .ok (.aload_n 0, 1) := by decide +kernel
theorem dL_law_1209 : decode cL_law 1209 = .ok (.iload_n 3, 1) := by decide +kernel
theorem dL_law_1210 : decode cL_law 1210 = .ok (.iconst 2, 1) := by decide +kernel
theorem dL_law_1211 : decode cL_law 1211 = .ok (.iadd, 1) := by decide +kernel
theorem dL_law_1212 : decode cL_law 1212 = .ok (.iaload, 1) := by decide +kernel
theorem dL_law_1213 : decode cL_law 1213 = .ok (.invokevirtual 149, 3) := by decide +kernel
theorem dL_law_1216 : decode cL_law 1216 = .ok (.aload_n 2, 1) := by decide +kernel
theorem dL_law_1217 : decode cL_law 1217 = .ok (.aload_n 0, 1) := by decide +kernel
theorem dL_law_1218 : decode cL_law 1218 = .ok (.iload_n 3, 1) := by decide +kernel
theorem dL_law_1219 : decode cL_law 1219 = .ok (.iconst 1, 1) := by decide +kernel
theorem dL_law_1220 : decode cL_law 1220 = .ok (.iadd, 1) := by decide +kernel
theorem dL_law_1221 : decode cL_law 1221 = .ok (.iaload, 1) := by decide +kernel
theorem dL_law_1222 : decode cL_law 1222 = .ok (.aload_n 0, 1) := by decide +kernel
theorem dL_law_1223 : decode cL_law 1223 = .ok (.iload_n 3, 1) := by decide +kernel
theorem dL_law_1224 : decode cL_law 1224 = .ok (.iconst 2, 1) := by decide +kernel
theorem dL_law_1225 : decode cL_law 1225 = .ok (.iadd, 1) := by decide +kernel
theorem dL_law_1226 : decode cL_law 1226 = .ok (.iaload, 1) := by decide +kernel
theorem dL_law_1227 : decode cL_law 1227 = .ok (.invokevirtual 152, 3) := by decide +kernel
theorem dL_law_1230 : decode cL_law 1230 = .ok (.if_icmp .eq 84, 3) := by decide +kernel
theorem dL_law_1233 : decode cL_law 1233 = .ok (.iconst 0, 1) := by decide +kernel
theorem dL_law_1234 : decode cL_law 1234 = .ok (.ireturn, 1) := by decide +kernel
theorem dL_law_1235 : decode cL_law 1235 = .ok (.aload_n 1, 1) := by decide +kernel
theorem dL_law_1236 : decode cL_law 1236 = .ok (.aload_n 0, 1) := by decide +kernel
theorem dL_law_1237 : decode cL_law 1237 = .ok (.iload_n 3, 1) := by decide +kernel
theorem dL_law_1238 : decode cL_law 1238 = .ok (.iconst 1, 1) := by decide +kernel
theorem dL_law_1239 : decode cL_law 1239 = .ok (.iadd, 1) := by decide +kernel
theorem dL_law_1240 : decode cL_law 1240 = .ok (.iaload, 1) := by decide +kernel
theorem dL_law_1241 : decode cL_law 1241 = .ok (.invokevirtual 153, 3) := by decide +kernel
theorem dL_law_1244 : decode cL_law 1244 = .ok (.aload_n 2, 1) := by decide +kernel
theorem dL_law_1245 : decode cL_law 1245 = .ok (.aload_n 0, 1) := by decide +kernel
theorem dL_law_1246 : decode cL_law 1246 = .ok (.iload_n 3, 1) := by decide +kernel
theorem dL_law_1247 : decode cL_law 1247 = .ok (.iconst 1, 1) := by decide +kernel
theorem dL_law_1248 : decode cL_law 1248 = .ok (.iadd, 1) := by decide +kernel
theorem dL_law_1249 : decode cL_law 1249 = .ok (.iaload, 1) := by decide +kernel
theorem dL_law_1250 : decode cL_law 1250 = .ok (.invokevirtual 156, 3) := by decide +kernel
theorem dL_law_1253 : decode cL_law 1253 = .ok (.if_icmp .eq 61, 3) := by decide +kernel
theorem dL_law_1256 : decode cL_law 1256 = .ok (.iconst 0, 1) := by decide +kernel
theorem dL_law_1257 : decode cL_law 1257 = .ok (.ireturn, 1) := by decide +kernel
theorem dL_law_1258 : decode cL_law 1258 = .ok (.aload_n 1, 1) := by decide +kernel
theorem dL_law_1259 : decode cL_law 1259 = .ok (.aload_n 0, 1) := by decide +kernel
theorem dL_law_1260 : decode cL_law 1260 = .ok (.iload_n 3, 1) := by decide +kernel
theorem dL_law_1261 : decode cL_law 1261 = .ok (.iconst 1, 1) := by decide +kernel
theorem dL_law_1262 : decode cL_law 1262 = .ok (.iadd, 1) := by decide +kernel
theorem dL_law_1263 : decode cL_law 1263 = .ok (.iaload, 1) := by decide +kernel
theorem dL_law_1264 : decode cL_law 1264 = .ok (.aload_n 0, 1) := by decide +kernel
theorem dL_law_1265 : decode cL_law 1265 = .ok (.iload_n 3, 1) := by decide +kernel
theorem dL_law_1266 : decode cL_law 1266 = .ok (.iconst 2, 1) := by decide +kernel
theorem dL_law_1267 : decode cL_law 1267 = .ok (.iadd, 1) := by decide +kernel
theorem dL_law_1268 : decode cL_law 1268 = .ok (.iaload, 1) := by decide +kernel
theorem dL_law_1269 : decode cL_law 1269 = .ok (.invokevirtual 157, 3) := by decide +kernel
theorem dL_law_1272 : decode cL_law 1272 = .ok (.aload_n 2, 1) := by decide +kernel
theorem dL_law_1273 : decode cL_law 1273 = .ok (.aload_n 0, 1) := by decide +kernel
theorem dL_law_1274 : decode cL_law 1274 = .ok (.iload_n 3, 1) := by decide +kernel
theorem dL_law_1275 : decode cL_law 1275 = .ok (.iconst 1, 1) := by decide +kernel
theorem dL_law_1276 : decode cL_law 1276 = .ok (.iadd, 1) := by decide +kernel
theorem dL_law_1277 : decode cL_law 1277 = .ok (.iaload, 1) := by decide +kernel
theorem dL_law_1278 : decode cL_law 1278 = .ok (.aload_n 0, 1) := by decide +kernel
theorem dL_law_1279 : decode cL_law 1279 = .ok (.iload_n 3, 1) := by decide +kernel
theorem dL_law_1280 : decode cL_law 1280 = .ok (.iconst 2, 1) := by decide +kernel
theorem dL_law_1281 : decode cL_law 1281 = .ok (.iadd, 1) := by decide +kernel
theorem dL_law_1282 : decode cL_law 1282 = .ok (.iaload, 1) := by decide +kernel
theorem dL_law_1283 : decode cL_law 1283 = .ok (.invokevirtual 160, 3) := by decide +kernel
theorem dL_law_1286 : decode cL_law 1286 = .ok (.if_icmp .eq 28, 3) := by decide +kernel
theorem dL_law_1289 : decode cL_law 1289 = .ok (.iconst 0, 1) := by decide +kernel
theorem dL_law_1290 : decode cL_law 1290 = .ok (.ireturn, 1) := by decide +kernel
theorem dL_law_1291 : decode cL_law 1291 = .ok (.aload_n 1, 1) := by decide +kernel
theorem dL_law_1292 : decode cL_law 1292 = .ok (.aload_n 0, 1) := by decide +kernel
theorem dL_law_1293 : decode cL_law 1293 = .ok (.iload_n 3, 1) := by decide +kernel
theorem dL_law_1294 : decode cL_law 1294 = .ok (.iconst 1, 1) := by decide +kernel
theorem dL_law_1295 : decode cL_law 1295 = .ok (.iadd, 1) := by decide +kernel
theorem dL_law_1296 : decode cL_law 1296 = .ok (.iaload, 1) := by decide +kernel
theorem dL_law_1297 : decode cL_law 1297 = .ok (.invokevirtual 161, 3) := by decide +kernel
theorem dL_law_1300 : decode cL_law 1300 = .ok (.aload_n 2, 1) := by decide +kernel
theorem dL_law_1301 : decode cL_law 1301 = .ok (.aload_n 0, 1) := by decide +kernel
theorem dL_law_1302 : decode cL_law 1302 = .ok (.iload_n 3, 1) := by decide +kernel
theorem dL_law_1303 : decode cL_law 1303 = .ok (.iconst 1, 1) := by decide +kernel
theorem dL_law_1304 : decode cL_law 1304 = .ok (.iadd, 1) := by decide +kernel
theorem dL_law_1305 : decode cL_law 1305 = .ok (.iaload, 1) := by decide +kernel
theorem dL_law_1306 : decode cL_law 1306 = .ok (.invokevirtual 164, 3) := by decide +kernel
theorem dL_law_1309 : decode cL_law 1309 = .ok (.if_icmp .eq 5, 3) := by decide +kernel
theorem dL_law_1312 : decode cL_law 1312 = .ok (.iconst 0, 1) := by decide +kernel
theorem dL_law_1313 : decode cL_law 1313 = .ok (.ireturn, 1) := by decide +kernel
theorem dL_law_1314 : decode cL_law 1314 = .ok (.iinc 3 8, 3) := by decide +kernel
theorem dL_law_1317 : decode cL_law 1317 = .ok (.goto (-1299), 3) := by decide +kernel
theorem dL_law_1320 : decode cL_law 1320 = .ok (.iconst 1, 1) := by decide +kernel
theorem dL_law_1321 : decode cL_law 1321 = .ok (.ireturn, 1) := by decide +kernel
