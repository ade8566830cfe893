theorem dX10_pickGivers_52 : decode cX10_pickGivers 52 = .ok (.ireturn, 1) := by decide +kernel
theorem dX10_pickChildren_0 : decode cX10_pickChildren 0 = .ok (.iconst 0, 1) := by decide +kernel
theorem dX10_pickChildren_1 : decode cX10_pickChildren 1 = .ok (.istore_n 3, 1) := by decide +kernel
theorem dX10_pickChildren_2 : decode cX10_pickChildren 2 = .ok (.iconst 0, 1) := by decide +kernel
theorem dX10_pickChildren_3 : decode cX10_pickChildren 3 = .ok (.istore 4, 2) := by decide +kernel
theorem dX10_pickChildren_5 : decode cX10_pickChildren 5 = .ok (.iload 4, 2) := by decide +kernel
theorem dX10_pickChildren_7 : decode cX10_pickChildren 7 = .ok (.aload_n 1, 1) := by decide +kernel
theorem dX10_pickChildren_8 : decode cX10_pickChildren 8 = .ok (.getfield 77, 3) := by decide +kernel
theorem dX10_pickChildren_11 : decode cX10_pickChildren 11 = .ok (.if_icmp .ge 36, 3) := by decide +kernel
theorem dX10_pickChildren_14 : decode cX10_pickChildren 14 = .ok (.iload_n 3, 1) := by decide +kernel
theorem dX10_pickChildren_15 : decode cX10_pickChildren 15 = .ok (.bipush 6, 2) := by decide +kernel
theorem dX10_pickChildren_17 : decode cX10_pickChildren 17 = .ok (.if_icmp .ge 30, 3) := by decide +kernel
theorem dX10_pickChildren_20 : decode cX10_pickChildren 20 = .ok (.aload_n 1, 1) := by decide +kernel
theorem dX10_pickChildren_21 : decode cX10_pickChildren 21 = .ok (.iload 4, 2) := by decide +kernel
theorem dX10_pickChildren_23 : decode cX10_pickChildren 23 = .ok (.iload_n 2, 1) := by decide +kernel
theorem dX10_pickChildren_24 : decode cX10_pickChildren 24 = .ok (.invokevirtual 79, 3) := by decide +kernel
theorem dX10_pickChildren_27 : decode cX10_pickChildren 27 = .ok (.ifCond .eq 14, 3) := by decide +kernel
theorem dX10_pickChildren_30 : decode cX10_pickChildren 30 = .ok (.aload_n 0, 1) := by decide +kernel
theorem dX10_pickChildren_31 : decode cX10_pickChildren 31 = .ok (.getfield 25, 3) := by decide +kernel
theorem dX10_pickChildren_34 : decode cX10_pickChildren 34 = .ok (.iload_n 3, 1) := by decide +kernel
theorem dX10_pickChildren_35 : decode cX10_pickChildren 35 = .ok (.iload 4, 2) := by decide +kernel
theorem dX10_pickChildren_37 : decode cX10_pickChildren 37 = .ok (.iastore, 1) := by decide +kernel
theorem dX10_pickChildren_38 : decode cX10_pickChildren 38 = .ok (.iinc 3 1, 3) := by decide +kernel
theorem dX10_pickChildren_41 : decode cX10_pickChildren 41 = .ok (.iinc 4 1, 3) := by decide +kernel
theorem dX10_pickChildren_44 : decode cX10_pickChildren 44 = .ok (.goto (-39), 3) := by decide +kernel
theorem dX10_pickChildren_47 : decode cX10_pickChildren 47 = .ok (.iload_n 3, 1) := by decide +kernel
theorem dX10_pickChildren_48 : decode cX10_pickChildren 48 = .ok (.ireturn, 1) := by decide +kernel
theorem dX10_pointsOf_0 : decode cX10_pointsOf 0 = .ok (.iconst 0, 1) := by decide +kernel
theorem dX10_pointsOf_1 : decode cX10_pointsOf 1 = .ok (.istore 4, 2) := by decide +kernel
theorem dX10_pointsOf_3 : decode cX10_pointsOf 3 = .ok (.iload 4, 2) := by decide +kernel
theorem dX10_pointsOf_5 : decode cX10_pointsOf 5 = .ok (.aload_n 0, 1) := by decide +kernel
theorem dX10_pointsOf_6 : decode cX10_pointsOf 6 = .ok (.getfield 15, 3) := by decide +kernel
theorem dX10_pointsOf_9 : decode cX10_pointsOf 9 = .ok (.iload_n 2, 1) := by decide +kernel
theorem dX10_pointsOf_10 : decode cX10_pointsOf 10 = .ok (.iaload, 1) := by decide +kernel
theorem dX10_pointsOf_11 : decode cX10_pointsOf 11 = .ok (.aload_n 1, 1) := by decide +kernel
theorem dX10_pointsOf_12 : decode cX10_pointsOf 12 = .ok (.getfield 83, 3) := by decide +kernel
theorem dX10_pointsOf_15 : decode cX10_pointsOf 15 = .ok (.iload_n 3, 1) := by decide +kernel
theorem dX10_pointsOf_16 : decode cX10_pointsOf 16 = .ok (.iaload, 1) := by decide +kernel
theorem dX10_pointsOf_17 : decode cX10_pointsOf 17 = .ok (.ishr, 1) := by decide +kernel
theorem dX10_pointsOf_18 : decode cX10_pointsOf 18 = .ok (.iconst 1, 1) := by decide +kernel
theorem dX10_pointsOf_19 : decode cX10_pointsOf 19 = .ok (.iand, 1) := by decide +kernel
theorem dX10_pointsOf_20 : decode cX10_pointsOf 20 = .ok (.ifCond .eq 7, 3) := by decide +kernel
theorem dX10_pointsOf_23 : decode cX10_pointsOf 23 = .ok (.iconst 3, 1) := by decide +kernel
theorem dX10_pointsOf_24 : decode cX10_pointsOf 24 = .ok (.goto 4, 3) := by decide +kernel
theorem dX10_pointsOf_27 : decode cX10_pointsOf 27 = .ok (.iconst 0, 1) := by decide +kernel
theorem dX10_pointsOf_28 : decode cX10_pointsOf 28 = .ok (.iadd, 1) := by decide +kernel
theorem dX10_pointsOf_29 : decode cX10_pointsOf 29 = .ok (.istore 4, 2) := by decide +kernel
theorem dX10_pointsOf_31 : decode cX10_pointsOf 31 = .ok (.iload 4, 2) := by decide +kernel
theorem dX10_pointsOf_33 : decode cX10_pointsOf 33 = .ok (.aload_n 0, 1) := by decide +kernel
theorem dX10_pointsOf_34 : decode cX10_pointsOf 34 = .ok (.getfield 19, 3) := by decide +kernel
theorem dX10_pointsOf_37 : decode cX10_pointsOf 37 = .ok (.iload_n 2, 1) := by decide +kernel
theorem dX10_pointsOf_38 : decode cX10_pointsOf 38 = .ok (.iaload, 1) := by decide +kernel
theorem dX10_pointsOf_39 : decode cX10_pointsOf 39 = .ok (.aload_n 1, 1) := by decide +kernel
theorem dX10_pointsOf_40 : decode cX10_pointsOf 40 = .ok (.getfield 86, 3) := by decide +kernel
theorem dX10_pointsOf_43 : decode cX10_pointsOf 43 = .ok (.iload_n 3, 1) := by decide +kernel
theorem dX10_pointsOf_44 : decode cX10_pointsOf 44 = .ok (.iaload, 1) := by decide +kernel
theorem dX10_pointsOf_45 : decode cX10_pointsOf 45 = .ok (.ishr, 1) := by decide +kernel
theorem dX10_pointsOf_46 : decode cX10_pointsOf 46 = .ok (.iconst 1, 1) := by decide +kernel
theorem dX10_pointsOf_47 : decode cX10_pointsOf 47 = .ok (.iand, 1) := by decide +kernel
theorem dX10_pointsOf_48 : decode cX10_pointsOf 48 = .ok (.ifCond .eq 7, 3) := by decide +kernel
theorem dX10_pointsOf_51 : decode cX10_pointsOf 51 = .ok (.iconst 1, 1) := by decide +kernel
theorem dX10_pointsOf_52 : decode cX10_pointsOf 52 = .ok (.goto 4, 3) := by decide +kernel
theorem dX10_pointsOf_55 : decode cX10_pointsOf 55 = .ok (.iconst 0, 1) := by decide +kernel
theorem dX10_pointsOf_56 : decode cX10_pointsOf 56 = .ok (.iadd, 1) := by decide +kernel
theorem dX10_pointsOf_57 : decode cX10_pointsOf 57 = .ok (.istore 4, 2) := by decide +kernel
theorem dX10_pointsOf_59 : decode cX10_pointsOf 59 = .ok (.iload 4, 2) := by decide +kernel
theorem dX10_pointsOf_61 : decode cX10_pointsOf 61 = .ok (.aload_n 1, 1) := by decide +kernel
theorem dX10_pointsOf_62 : decode cX10_pointsOf 62 = .ok (.getfield 89, 3) := by decide +kernel
theorem dX10_pointsOf_65 : decode cX10_pointsOf 65 = .ok (.iload_n 2, 1) := by decide +kernel
theorem dX10_pointsOf_66 : decode cX10_pointsOf 66 = .ok (.iaload, 1) := by decide +kernel
theorem dX10_pointsOf_67 : decode cX10_pointsOf 67 = .ok (.aload_n 1, 1) := by decide +kernel
theorem dX10_pointsOf_68 : decode cX10_pointsOf 68 = .ok (.getfield 92, 3) := by decide +kernel
theorem dX10_pointsOf_71 : decode cX10_pointsOf 71 = .ok (.iload_n 3, 1) := by decide +kernel
theorem dX10_pointsOf_72 : decode cX10_pointsOf 72 = .ok (.iaload, 1) := by decide +kernel
theorem dX10_pointsOf_73 : decode cX10_pointsOf 73 = .ok (.if_icmp .ne 7, 3) := by decide +kernel
theorem dX10_pointsOf_76 : decode cX10_pointsOf 76 = .ok (.iconst 2, 1) := by decide +kernel
theorem dX10_pointsOf_77 : decode cX10_pointsOf 77 = .ok (.goto 4, 3) := by decide +kernel
theorem dX10_pointsOf_80 : decode cX10_pointsOf 80 = .ok (.iconst 0, 1) := by decide +kernel
theorem dX10_pointsOf_81 : decode cX10_pointsOf 81 = .ok (.iadd, 1) := by decide +kernel
theorem dX10_pointsOf_82 : decode cX10_pointsOf 82 = .ok (.istore 4, 2) := by decide +kernel
theorem dX10_pointsOf_84 : decode cX10_pointsOf 84 = .ok (.iload 4, 2) := by decide +kernel
theorem dX10_pointsOf_86 : decode cX10_pointsOf 86 = .ok (.aload_n 1, 1) := by decide +kernel
theorem dX10_pointsOf_87 : decode cX10_pointsOf 87 = .ok (.iload_n 2, 1) := by decide +kernel
theorem dX10_pointsOf_88 : decode cX10_pointsOf 88 = .ok (.iload_n 3, 1) := by decide +kernel
theorem dX10_pointsOf_89 : decode cX10_pointsOf 89 = .ok (.invokevirtual 95, 3) := by decide +kernel
theorem dX10_pointsOf_92 : decode cX10_pointsOf 92 = .ok (.ifCond .eq 7, 3) := by decide +kernel
theorem dX10_pointsOf_95 : decode cX10_pointsOf 95 = .ok (.iconst 4, 1) := by decide +kernel
theorem dX10_pointsOf_96 : decode cX10_pointsOf 96 = .ok (.goto 4, 3) := by decide +kernel
theorem dX10_pointsOf_99 : decode cX10_pointsOf 99 = .ok (.iconst 0, 1) := by decide +kernel
theorem dX10_pointsOf_100 : decode cX10_pointsOf 100 = .ok (.iadd, 1) := by decide +kernel
theorem dX10_pointsOf_101 : decode cX10_pointsOf 101 = .ok (.istore 4, 2) := by decide +kernel
theorem dX10_pointsOf_103 : decode cX10_pointsOf 103 = .ok (.iload 4, 2) := by decide +kernel
theorem dX10_pointsOf_105 : decode cX10_pointsOf 105 = .ok (.ireturn, 1) := by decide +kernel
theorem dX11_init_0 : decode cX11_init 0 = .ok (.aload_n 0, 1) := by decide +kernel
theorem dX11_init_1 : decode cX11_init 1 = .ok (.invokespecial 1, 3) := by decide +kernel
theorem dX11_init_4 : decode cX11_init 4 = .ok (.aload_n 0, 1) := by decide +kernel
theorem dX11_init_5 : decode cX11_init 5 = .ok (.sipush 240, 3) := by decide +kernel
theorem dX11_init_8 : decode cX11_init 8 = .ok (.newarray .char, 2) := by decide +kernel
theorem dX11_init_10 : decode cX11_init 10 = .ok (.putfield 9, 3) := by decide +kernel
theorem dX11_init_13 : decode cX11_init 13 = .ok (.aload_n 0, 1) := by decide +kernel
theorem dX11_init_14 : decode cX11_init 14 = .ok (.bipush 8, 2) := by decide +kernel
theorem dX11_init_16 : decode cX11_init 16 = .ok (.newarray .int, 2) := by decide +kernel
theorem dX11_init_18 : decode cX11_init 18 = .ok (.dup, 1) := by decide +kernel
theorem dX11_init_19 : decode cX11_init 19 = .ok (.iconst 0, 1) := by decide +kernel
theorem dX11_init_20 : decode cX11_init 20 = .ok (.bipush 7, 2) := by decide +kernel
theorem dX11_init_22 : decode cX11_init 22 = .ok (.iastore, 1) := by decide +kernel
theorem dX11_init_23 : decode cX11_init 23 = .ok (.dup, 1) := by decide +kernel
theorem dX11_init_24 : decode cX11_init 24 = .ok (.iconst 1, 1) := by decide +kernel
theorem dX11_init_25 : decode cX11_init 25 = .ok (.iconst 2, 1) := by decide +kernel
theorem dX11_init_26 : decode cX11_init 26 = .ok (.iastore, 1) := by decide +kernel
theorem dX11_init_27 : decode cX11_init 27 = .ok (.dup, 1) := by decide +kernel
theorem dX11_init_28 : decode cX11_init 28 = .ok (.iconst 2, 1) := by decide +kernel
theorem dX11_init_29 : decode cX11_init 29 = .ok (.iconst 5, 1) := by decide +kernel
theorem dX11_init_30 : decode cX11_init 30 = .ok (.iastore, 1) := by decide +kernel
theorem dX11_init_31 : decode cX11_init 31 = .ok (.dup, 1) := by decide +kernel
theorem dX11_init_32 : decode cX11_init 32 = .ok (.iconst 3, 1) := by decide +kernel
theorem dX11_init_33 : decode cX11_init 33 = .ok (.iconst 3, 1) := by decide +kernel
theorem dX11_init_34 : decode cX11_init 34 = .ok (.iastore, 1) := by decide +kernel
theorem dX11_init_35 : decode cX11_init 35 = .ok (.dup, 1) := by decide +kernel
theorem dX11_init_36 : decode cX11_init 36 = .ok (.iconst 4, 1) := by decide +kernel
theorem dX11_init_37 : decode cX11_init 37 = .ok (.bipush 60, 2) := by decide +kernel
theorem dX11_init_39 : decode cX11_init 39 = .ok (.iastore, 1) := by decide +kernel
theorem dX11_init_40 : decode cX11_init 40 = .ok (.dup, 1) := by decide +kernel
theorem dX11_init_41 : decode cX11_init 41 = .ok (.iconst 5, 1) := by decide +kernel
theorem dX11_init_42 : decode cX11_init 42 = .ok (.bipush 10, 2) := by decide +kernel
theorem dX11_init_44 : decode cX11_init 44 = .ok (.iastore, 1) := by decide +kernel
theorem dX11_init_45 : decode cX11_init 45 = .ok (.dup, 1) := by decide +kernel
theorem dX11_init_46 : decode cX11_init 46 = .ok (.bipush 6, 2) := by decide +kernel
theorem dX11_init_48 : decode cX11_init 48 = .ok (.bipush 40, 2) := by decide +kernel
theorem dX11_init_50 : decode cX11_init 50 = .ok (.iastore, 1) := by decide +kernel
theorem dX11_init_51 : decode cX11_init 51 = .ok (.dup, 1) := by decide +kernel
theorem dX11_init_52 : decode cX11_init 52 = .ok (.bipush 7, 2) := by decide +kernel
theorem dX11_init_54 : decode cX11_init 54 = .ok (.sipush 5000, 3) := by decide +kernel
theorem dX11_init_57 : decode cX11_init 57 = .ok (.iastore, 1) := by decide +kernel
theorem dX11_init_58 : decode cX11_init 58 = .ok (.putfield 13, 3) := by decide +kernel
theorem dX11_init_61 : decode cX11_init 61 = .ok (.aload_n 0, 1) := by decide +kernel
theorem dX11_init_62 : decode cX11_init 62 = .ok (.new 17, 3) := by decide +kernel
theorem dX11_init_65 : decode cX11_init 65 = .ok (.dup, 1) := by decide +kernel
theorem dX11_init_66 : decode cX11_init 66 = .ok (.invokespecial 19, 3) := by decide +kernel
theorem dX11_init_69 : decode cX11_init 69 = .ok (.putfield 20, 3) := by decide +kernel
theorem dX11_init_72 : decode cX11_init 72 = .ok (.aload_n 0, 1) := by decide +kernel
theorem dX11_init_73 : decode cX11_init 73 = .ok (.new 17, 3) := by decide +kernel
theorem dX11_init_76 : decode cX11_init 76 = .ok (.dup, 1) := by decide +kernel
theorem dX11_init_77 : decode cX11_init 77 = .ok (.invokespecial 19, 3) := by decide +kernel
theorem dX11_init_80 : decode cX11_init 80 = .ok (.putfield 24, 3) := by decide +kernel
theorem dX11_init_83 : decode cX11_init 83 = .ok (.aload_n 0, 1) := by decide +kernel
theorem dX11_init_84 : decode cX11_init 84 = .ok (.new 27, 3) := by decide +kernel
theorem dX11_init_87 : decode cX11_init 87 = .ok (.dup, 1) := by decide +kernel
theorem dX11_init_88 : decode cX11_init 88 = .ok (.invokespecial 29, 3) := by decide +kernel
theorem dX11_init_91 : decode cX11_init 91 = .ok (.putfield 30, 3) := by decide +kernel
theorem dX11_init_94 : decode cX11_init 94 = .ok (.aload_n 0, 1) := by decide +kernel
theorem dX11_init_95 : decode cX11_init 95 = .ok (.new 34, 3) := by decide +kernel
theorem dX11_init_98 : decode cX11_init 98 = .ok (.dup, 1) := by decide +kernel
theorem dX11_init_99 : decode cX11_init 99 = .ok (.invokespecial 36, 3) := by decide +kernel
theorem dX11_init_102 : decode cX11_init 102 = .ok (.putfield 37, 3) := by decide +kernel
theorem dX11_init_105 : decode cX11_init 105 = .ok (.aload_n 0, 1) := by decide +kernel
theorem dX11_init_106 : decode cX11_init 106 = .ok (.new 41, 3) := by decide +kernel
theorem dX11_init_109 : decode cX11_init 109 = .ok (.dup, 1) := by decide +kernel
theorem dX11_init_110 : decode cX11_init 110 = .ok (.aload_n 0, 1) := by decide +kernel
theorem dX11_init_111 : decode cX11_init 111 = .ok (.getfield 37, 3) := by decide +kernel
theorem dX11_init_114 : decode cX11_init 114 = .ok (.aload_n 0, 1) := by decide +kernel
theorem dX11_init_115 : decode cX11_init 115 = .ok (.getfield 13, 3) := by decide +kernel
theorem dX11_init_118 : decode cX11_init 118 = .ok (.invokespecial 43, 3) := by decide +kernel
theorem dX11_init_121 : decode cX11_init 121 = .ok (.putfield 46, 3) := by decide +kernel
theorem dX11_init_124 : decode cX11_init 124 = .ok (.aload_n 0, 1) := by decide +kernel
theorem dX11_init_125 : decode cX11_init 125 = .ok (.new 50, 3) := by decide +kernel
theorem dX11_init_128 : decode cX11_init 128 = .ok (.dup, 1) := by decide +kernel
theorem dX11_init_129 : decode cX11_init 129 = .ok (.invokespecial 52, 3) := by decide +kernel
theorem dX11_init_132 : decode cX11_init 132 = .ok (.putfield 53, 3) := by decide +kernel
theorem dX11_init_135 : decode cX11_init 135 = .ok (.aload_n 0, 1) := by decide +kernel
theorem dX11_init_136 : decode cX11_init 136 = .ok (.new 57, 3) := by decide +kernel
theorem dX11_init_139 : decode cX11_init 139 = .ok (.dup, 1) := by decide +kernel
theorem dX11_init_140 : decode cX11_init 140 = .ok (.aload_n 0, 1) := by decide +kernel
theorem dX11_init_141 : decode cX11_init 141 = .ok (.getfield 13, 3) := by decide +kernel
theorem dX11_init_144 : decode cX11_init 144 = .ok (.invokespecial 59, 3) := by decide +kernel
theorem dX11_init_147 : decode cX11_init 147 = .ok (.putfield 62, 3) := by decide +kernel
theorem dX11_init_150 : decode cX11_init 150 = .ok (.aload_n 0, 1) := by decide +kernel
theorem dX11_init_151 : decode cX11_init 151 = .ok (.new 66, 3) := by decide +kernel
theorem dX11_init_154 : decode cX11_init 154 = .ok (.dup, 1) := by decide +kernel
theorem dX11_init_155 : decode cX11_init 155 = .ok (.invokespecial 68, 3) := by decide +kernel
theorem dX11_init_158 : decode cX11_init 158 = .ok (.putfield 69, 3) := by decide +kernel
theorem dX11_init_161 : decode cX11_init 161 = .ok (.aload_n 0, 1) := by decide +kernel
theorem dX11_init_162 : decode cX11_init 162 = .ok (.new 73, 3) := by decide +kernel
theorem dX11_init_165 : decode cX11_init 165 = .ok (.dup, 1) := by decide +kernel
theorem dX11_init_166 : decode cX11_init 166 = .ok (.invokespecial 75, 3) := by decide +kernel
theorem dX11_init_169 : decode cX11_init 169 = .ok (.putfield 76, 3) := by decide +kernel
theorem dX11_init_172 : decode cX11_init 172 = .ok (.return_, 1) := by decide +kernel
theorem dX11_village_0 : decode cX11_village 0 = .ok (.iload_n 1, 1) := by decide +kernel
theorem dX11_village_1 : decode cX11_village 1 = .ok (.iconst 1, 1) := by decide +kernel
theorem dX11_village_2 : decode cX11_village 2 = .ok (.bipush 60, 2) := by decide +kernel
theorem dX11_village_4 : decode cX11_village 4 = .ok (.invokestatic 80, 3) := by decide +kernel
theorem dX11_village_7 : decode cX11_village 7 = .ok (.ifCond .eq 14, 3) := by decide +kernel
theorem dX11_village_10 : decode cX11_village 10 = .ok (.iload_n 2, 1) := by decide +kernel
theorem dX11_village_11 : decode cX11_village 11 = .ok (.iconst 0, 1) := by decide +kernel
theorem dX11_village_12 : decode cX11_village 12 = .ok (.sipush 4095, 3) := by decide +kernel
theorem dX11_village_15 : decode cX11_village 15 = .ok (.invokestatic 80, 3) := by decide +kernel
theorem dX11_village_18 : decode cX11_village 18 = .ok (.ifCond .ne 5, 3) := by decide +kernel
theorem dX11_village_21 : decode cX11_village 21 = .ok (.iconst (-1), 1) := by decide +kernel
theorem dX11_village_22 : decode cX11_village 22 = .ok (.ireturn, 1) := by decide +kernel
theorem dX11_village_23 : decode cX11_village 23 = .ok (.aload_n 0, 1) := by decide +kernel
theorem dX11_village_24 : decode cX11_village 24 = .ok (.getfield 37, 3) := by decide +kernel
theorem dX11_village_27 : decode cX11_village 27 = .ok (.iload_n 1, 1) := by decide +kernel
theorem dX11_village_28 : decode cX11_village 28 = .ok (.iload_n 2, 1) := by decide +kernel
theorem dX11_village_29 : decode cX11_village 29 = .ok (.invokevirtual 84, 3) := by decide +kernel
theorem dX11_village_32 : decode cX11_village 32 = .ok (.ireturn, 1) := by decide +kernel
theorem dX11_giver_0 : decode cX11_giver 0 = .ok (.iload_n 1, 1) := by decide +kernel
theorem dX11_giver_1 : decode cX11_giver 1 = .ok (.iconst 0, 1) := by decide +kernel
theorem dX11_giver_2 : decode cX11_giver 2 = .ok (.iconst 5, 1) := by decide +kernel
theorem dX11_giver_3 : decode cX11_giver 3 = .ok (.invokestatic 80, 3) := by decide +kernel
theorem dX11_giver_6 : decode cX11_giver 6 = .ok (.ifCond .eq 14, 3) := by decide +kernel
theorem dX11_giver_9 : decode cX11_giver 9 = .ok (.aload_n 0, 1) := by decide +kernel
theorem dX11_giver_10 : decode cX11_giver 10 = .ok (.getfield 37, 3) := by decide +kernel
theorem dX11_giver_13 : decode cX11_giver 13 = .ok (.iload_n 1, 1) := by decide +kernel
theorem dX11_giver_14 : decode cX11_giver 14 = .ok (.invokevirtual 88, 3) := by decide +kernel
theorem dX11_giver_17 : decode cX11_giver 17 = .ok (.goto 4, 3) := by decide +kernel
theorem dX11_giver_20 : decode cX11_giver 20 = .ok (.iconst (-1), 1) := by decide +kernel
theorem dX11_giver_21 : decode cX11_giver 21 = .ok (.ireturn, 1) := by decide +kernel
theorem dX11_child_0 : decode cX11_child 0 = .ok (.aload_n 0, 1) := by decide +kernel
theorem dX11_child_1 : decode cX11_child 1 = .ok (.getfield 37, 3) := by decide +kernel
theorem dX11_child_4 : decode cX11_child 4 = .ok (.iload_n 1, 1) := by decide +kernel
theorem dX11_child_5 : decode cX11_child 5 = .ok (.invokevirtual 92, 3) := by decide +kernel
theorem dX11_child_8 : decode cX11_child 8 = .ok (.ifCond .eq 21, 3) := by decide +kernel
theorem dX11_child_11 : decode cX11_child 11 = .ok (.iload_n 2, 1) := by decide +kernel
theorem dX11_child_12 : decode cX11_child 12 = .ok (.iconst 0, 1) := by decide +kernel
theorem dX11_child_13 : decode cX11_child 13 = .ok (.iconst 5, 1) := by decide +kernel
theorem dX11_child_14 : decode cX11_child 14 = .ok (.invokestatic 80, 3) := by decide +kernel
theorem dX11_child_17 : decode cX11_child 17 = .ok (.ifCond .eq 12, 3) := by decide +kernel
theorem dX11_child_20 : decode cX11_child 20 = .ok (.iload_n 3, 1) := by decide +kernel
theorem dX11_child_21 : decode cX11_child 21 = .ok (.iconst 0, 1) := by decide +kernel
theorem dX11_child_22 : decode cX11_child 22 = .ok (.iconst 4, 1) := by decide +kernel
theorem dX11_child_23 : decode cX11_child 23 = .ok (.invokestatic 80, 3) := by decide +kernel
theorem dX11_child_26 : decode cX11_child 26 = .ok (.ifCond .ne 5, 3) := by decide +kernel
theorem dX11_child_29 : decode cX11_child 29 = .ok (.iconst (-1), 1) := by decide +kernel
theorem dX11_child_30 : decode cX11_child 30 = .ok (.ireturn, 1) := by decide +kernel
theorem dX11_child_31 : decode cX11_child 31 = .ok (.iload 4, 2) := by decide +kernel
theorem dX11_child_33 : decode cX11_child 33 = .ok (.iconst (-1), 1) := by decide +kernel
theorem dX11_child_34 : decode cX11_child 34 = .ok (.if_icmp .eq 17, 3) := by decide +kernel
theorem dX11_child_37 : decode cX11_child 37 = .ok (.aload_n 0, 1) := by decide +kernel
theorem dX11_child_38 : decode cX11_child 38 = .ok (.getfield 37, 3) := by decide +kernel
theorem dX11_child_41 : decode cX11_child 41 = .ok (.iload 4, 2) := by decide +kernel
theorem dX11_child_43 : decode cX11_child 43 = .ok (.invokevirtual 96, 3) := by decide +kernel
theorem dX11_child_46 : decode cX11_child 46 = .ok (.ifCond .ne 5, 3) := by decide +kernel
theorem dX11_child_49 : decode cX11_child 49 = .ok (.iconst (-1), 1) := by decide +kernel
theorem dX11_child_50 : decode cX11_child 50 = .ok (.ireturn, 1) := by decide +kernel
theorem dX11_child_51 : decode cX11_child 51 = .ok (.aload_n 0, 1) := by decide +kernel
theorem dX11_child_52 : decode cX11_child 52 = .ok (.getfield 37, 3) := by decide +kernel
theorem dX11_child_55 : decode cX11_child 55 = .ok (.iload_n 1, 1) := by decide +kernel
theorem dX11_child_56 : decode cX11_child 56 = .ok (.iload_n 2, 1) := by decide +kernel
theorem dX11_child_57 : decode cX11_child 57 = .ok (.iload_n 3, 1) := by decide +kernel
theorem dX11_child_58 : decode cX11_child 58 = .ok (.iload 4, 2) := by decide +kernel
theorem dX11_child_60 : decode cX11_child 60 = .ok (.invokevirtual 99, 3) := by decide +kernel
theorem dX11_child_63 : decode cX11_child 63 = .ok (.ireturn, 1) := by decide +kernel
theorem dX11_pair_0 : decode cX11_pair 0 = .ok (.aload_n 0, 1) := by decide +kernel
theorem dX11_pair_1 : decode cX11_pair 1 = .ok (.getfield 37, 3) := by decide +kernel
theorem dX11_pair_4 : decode cX11_pair 4 = .ok (.iload_n 1, 1) := by decide +kernel
theorem dX11_pair_5 : decode cX11_pair 5 = .ok (.invokevirtual 103, 3) := by decide +kernel
theorem dX11_pair_8 : decode cX11_pair 8 = .ok (.ifCond .eq 29, 3) := by decide +kernel
theorem dX11_pair_11 : decode cX11_pair 11 = .ok (.aload_n 0, 1) := by decide +kernel
theorem dX11_pair_12 : decode cX11_pair 12 = .ok (.getfield 37, 3) := by decide +kernel
theorem dX11_pair_15 : decode cX11_pair 15 = .ok (.iload_n 2, 1) := by decide +kernel
theorem dX11_pair_16 : decode cX11_pair 16 = .ok (.aload_n 0, 1) := by decide +kernel
theorem dX11_pair_17 : decode cX11_pair 17 = .ok (.getfield 106, 3) := by decide +kernel
theorem dX11_pair_20 : decode cX11_pair 20 = .ok (.invokevirtual 110, 3) := by decide +kernel
theorem dX11_pair_23 : decode cX11_pair 23 = .ok (.ifCond .eq 14, 3) := by decide +kernel
theorem dX11_pair_26 : decode cX11_pair 26 = .ok (.aload_n 0, 1) := by decide +kernel
theorem dX11_pair_27 : decode cX11_pair 27 = .ok (.getfield 37, 3) := by decide +kernel
theorem dX11_pair_30 : decode cX11_pair 30 = .ok (.iload_n 1, 1) := by decide +kernel
theorem dX11_pair_31 : decode cX11_pair 31 = .ok (.invokevirtual 114, 3) := by decide +kernel
theorem dX11_pair_34 : decode cX11_pair 34 = .ok (.ifCond .ne 5, 3) := by decide +kernel
theorem dX11_pair_37 : decode cX11_pair 37 = .ok (.iconst (-1), 1) := by decide +kernel
theorem dX11_pair_38 : decode cX11_pair 38 = .ok (.ireturn, 1) := by decide +kernel
theorem dX11_pair_39 : decode cX11_pair 39 = .ok (.aload_n 0, 1) := by decide +kernel
theorem dX11_pair_40 : decode cX11_pair 40 = .ok (.getfield 37, 3) := by decide +kernel
theorem dX11_pair_43 : decode cX11_pair 43 = .ok (.iload_n 1, 1) := by decide +kernel
theorem dX11_pair_44 : decode cX11_pair 44 = .ok (.iload_n 2, 1) := by decide +kernel
theorem dX11_pair_45 : decode cX11_pair 45 = .ok (.aload_n 0, 1) := by decide +kernel
theorem dX11_pair_46 : decode cX11_pair 46 = .ok (.getfield 106, 3) := by decide +kernel
theorem dX11_pair_49 : decode cX11_pair 49 = .ok (.invokevirtual 117, 3) := by decide +kernel
theorem dX11_pair_52 : decode cX11_pair 52 = .ok (.ireturn, 1) := by decide +kernel
theorem dX11_end_0 : decode cX11_end 0 = .ok (.aload_n 0, 1) := by decide +kernel
theorem dX11_end_1 : decode cX11_end 1 = .ok (.getfield 37, 3) := by decide +kernel
theorem dX11_end_4 : decode cX11_end 4 = .ok (.iload_n 1, 1) := by decide +kernel
theorem dX11_end_5 : decode cX11_end 5 = .ok (.invokevirtual 121, 3) := by decide +kernel
theorem dX11_end_8 : decode cX11_end 8 = .ok (.astore_n 2, 1) := by decide +kernel
theorem dX11_end_9 : decode cX11_end 9 = .ok (.aload_n 2, 1) := by decide +kernel
theorem dX11_end_10 : decode cX11_end 10 = .ok (.ifnonnull 5, 3) := by decide +kernel
theorem dX11_end_13 : decode cX11_end 13 = .ok (.iconst 0, 1) := by decide +kernel
theorem dX11_end_14 : decode cX11_end 14 = .ok (.ireturn, 1) := by decide +kernel
theorem dX11_end_15 : decode cX11_end 15 = .ok (.aload_n 2, 1) := by decide +kernel
theorem dX11_end_16 : decode cX11_end 16 = .ok (.aload_n 0, 1) := by decide +kernel
theorem dX11_end_17 : decode cX11_end 17 = .ok (.getfield 106, 3) := by decide +kernel
theorem dX11_end_20 : decode cX11_end 20 = .ok (.putfield 125, 3) := by decide +kernel
theorem dX11_end_23 : decode cX11_end 23 = .ok (.iconst 1, 1) := by decide +kernel
theorem dX11_end_24 : decode cX11_end 24 = .ok (.ireturn, 1) := by decide +kernel
theorem dX11_number_0 : decode cX11_number 0 = .ok (.iload_n 1, 1) := by decide +kernel
theorem dX11_number_1 : decode cX11_number 1 = .ok (.iconst 0, 1) := by decide +kernel
theorem dX11_number_2 : decode cX11_number 2 = .ok (.bipush 7, 2) := by decide +kernel
theorem dX11_number_4 : decode cX11_number 4 = .ok (.invokestatic 80, 3) := by decide +kernel
theorem dX11_number_7 : decode cX11_number 7 = .ok (.ifCond .eq 20, 3) := by decide +kernel
theorem dX11_number_10 : decode cX11_number 10 = .ok (.iload_n 2, 1) := by decide +kernel
theorem dX11_number_11 : decode cX11_number 11 = .ok (.getstatic 130, 3) := by decide +kernel
theorem dX11_number_14 : decode cX11_number 14 = .ok (.iload_n 1, 1) := by decide +kernel
theorem dX11_number_15 : decode cX11_number 15 = .ok (.iaload, 1) := by decide +kernel
theorem dX11_number_16 : decode cX11_number 16 = .ok (.getstatic 133, 3) := by decide +kernel
theorem dX11_number_19 : decode cX11_number 19 = .ok (.iload_n 1, 1) := by decide +kernel
theorem dX11_number_20 : decode cX11_number 20 = .ok (.iaload, 1) := by decide +kernel
theorem dX11_number_21 : decode cX11_number 21 = .ok (.invokestatic 80, 3) := by decide +kernel
theorem dX11_number_24 : decode cX11_number 24 = .ok (.ifCond .ne 5, 3) := by decide +kernel
theorem dX11_number_27 : decode cX11_number 27 = .ok (.iconst 0, 1) := by decide +kernel
theorem dX11_number_28 : decode cX11_number 28 = .ok (.ireturn, 1) := by decide +kernel
theorem dX11_number_29 : decode cX11_number 29 = .ok (.iload_n 1, 1) := by decide +kernel
theorem dX11_number_30 : decode cX11_number 30 = .ok (.iconst 5, 1) := by decide +kernel
theorem dX11_number_31 : decode cX11_number 31 = .ok (.if_icmp .ne 19, 3) := by decide +kernel
theorem dX11_number_34 : decode cX11_number 34 = .ok (.iload_n 2, 1) := by decide +kernel
theorem dX11_number_35 : decode cX11_number 35 = .ok (.aload_n 0, 1) := by decide +kernel
theorem dX11_number_36 : decode cX11_number 36 = .ok (.getfield 13, 3) := by decide +kernel
theorem dX11_number_39 : decode cX11_number 39 = .ok (.bipush 6, 2) := by decide +kernel
theorem dX11_number_41 : decode cX11_number 41 = .ok (.iaload, 1) := by decide +kernel
theorem dX11_number_42 : decode cX11_number 42 = .ok (.iadd, 1) := by decide +kernel
theorem dX11_number_43 : decode cX11_number 43 = .ok (.bipush 100, 2) := by decide +kernel
theorem dX11_number_45 : decode cX11_number 45 = .ok (.if_icmp .le 5, 3) := by decide +kernel
theorem dX11_number_48 : decode cX11_number 48 = .ok (.iconst 0, 1) := by decide +kernel
theorem dX11_number_49 : decode cX11_number 49 = .ok (.ireturn, 1) := by decide +kernel
theorem dX11_number_50 : decode cX11_number 50 = .ok (.iload_n 1, 1) := by decide +kernel
theorem dX11_number_51 : decode cX11_number 51 = .ok (.bipush 6, 2) := by decide +kernel
theorem dX11_number_53 : decode cX11_number 53 = .ok (.if_icmp .ne 18, 3) := by decide +kernel
theorem dX11_number_56 : decode cX11_number 56 = .ok (.iload_n 2, 1) := by decide +kernel
theorem dX11_number_57 : decode cX11_number 57 = .ok (.aload_n 0, 1) := by decide +kernel
theorem dX11_number_58 : decode cX11_number 58 = .ok (.getfield 13, 3) := by decide +kernel
theorem dX11_number_61 : decode cX11_number 61 = .ok (.iconst 5, 1) := by decide +kernel
theorem dX11_number_62 : decode cX11_number 62 = .ok (.iaload, 1) := by decide +kernel
theorem dX11_number_63 : decode cX11_number 63 = .ok (.iadd, 1) := by decide +kernel
theorem dX11_number_64 : decode cX11_number 64 = .ok (.bipush 100, 2) := by decide +kernel
theorem dX11_number_66 : decode cX11_number 66 = .ok (.if_icmp .le 5, 3) := by decide +kernel
theorem dX11_number_69 : decode cX11_number 69 = .ok (.iconst 0, 1) := by decide +kernel
theorem dX11_number_70 : decode cX11_number 70 = .ok (.ireturn, 1) := by decide +kernel
theorem dX11_number_71 : decode cX11_number 71 = .ok (.aload_n 0, 1) := by decide +kernel
theorem dX11_number_72 : decode cX11_number 72 = .ok (.getfield 13, 3) := by decide +kernel
theorem dX11_number_75 : decode cX11_number 75 = .ok (.iload_n 1, 1) := by decide +kernel
theorem dX11_number_76 : decode cX11_number 76 = .ok (.iload_n 2, 1) := by decide +kernel
theorem dX11_number_77 : decode cX11_number 77 = .ok (.iastore, 1) := by decide +kernel
theorem dX11_number_78 : decode cX11_number 78 = .ok (.iconst 1, 1) := by decide +kernel
theorem dX11_number_79 : decode cX11_number 79 = .ok (.ireturn, 1) := by decide +kernel
theorem dX11_feed_0 : decode cX11_feed 0 = .ok (.aload_n 0, 1) := by decide +kernel
theorem dX11_feed_1 : decode cX11_feed 1 = .ok (.getfield 136, 3) := by decide +kernel
theorem dX11_feed_4 : decode cX11_feed 4 = .ok (.sipush 220, 3) := by decide +kernel
theorem dX11_feed_7 : decode cX11_feed 7 = .ok (.if_icmp .le 5, 3) := by decide +kernel
theorem dX11_feed_10 : decode cX11_feed 10 = .ok (.iconst (-1), 1) := by decide +kernel
theorem dX11_feed_11 : decode cX11_feed 11 = .ok (.ireturn, 1) := by decide +kernel
theorem dX11_feed_12 : decode cX11_feed 12 = .ok (.aload_n 0, 1) := by decide +kernel
theorem dX11_feed_13 : decode cX11_feed 13 = .ok (.iload_n 1, 1) := by decide +kernel
theorem dX11_feed_14 : decode cX11_feed 14 = .ok (.invokevirtual 139, 3) := by decide +kernel
theorem dX11_feed_17 : decode cX11_feed 17 = .ok (.aload_n 0, 1) := by decide +kernel
theorem dX11_feed_18 : decode cX11_feed 18 = .ok (.iload_n 2, 1) := by decide +kernel
theorem dX11_feed_19 : decode cX11_feed 19 = .ok (.invokevirtual 139, 3) := by decide +kernel
theorem dX11_feed_22 : decode cX11_feed 22 = .ok (.aload_n 0, 1) := by decide +kernel
theorem dX11_feed_23 : decode cX11_feed 23 = .ok (.iload_n 3, 1) := by decide +kernel
theorem dX11_feed_24 : decode cX11_feed 24 = .ok (.invokevirtual 139, 3) := by decide +kernel
theorem dX11_feed_27 : decode cX11_feed 27 = .ok (.aload_n 0, 1) := by decide +kernel
theorem dX11_feed_28 : decode cX11_feed 28 = .ok (.iload 4, 2) := by decide +kernel
theorem dX11_feed_30 : decode cX11_feed 30 = .ok (.invokevirtual 139, 3) := by decide +kernel
theorem dX11_feed_33 : decode cX11_feed 33 = .ok (.aload_n 0, 1) := by decide +kernel
theorem dX11_feed_34 : decode cX11_feed 34 = .ok (.iload 5, 2) := by decide +kernel
theorem dX11_feed_36 : decode cX11_feed 36 = .ok (.invokevirtual 139, 3) := by decide +kernel
theorem dX11_feed_39 : decode cX11_feed 39 = .ok (.aload_n 0, 1) := by decide +kernel
theorem dX11_feed_40 : decode cX11_feed 40 = .ok (.getfield 136, 3) := by decide +kernel
theorem dX11_feed_43 : decode cX11_feed 43 = .ok (.ireturn, 1) := by decide +kernel
theorem dX11_rules_0 : decode cX11_rules 0 = .ok (.iload_n 1, 1) := by decide +kernel
theorem dX11_rules_1 : decode cX11_rules 1 = .ok (.ifCond .lt 18, 3) := by decide +kernel
theorem dX11_rules_4 : decode cX11_rules 4 = .ok (.iload_n 1, 1) := by decide +kernel
theorem dX11_rules_5 : decode cX11_rules 5 = .ok (.sipush 200, 3) := by decide +kernel
theorem dX11_rules_8 : decode cX11_rules 8 = .ok (.if_icmp .gt 11, 3) := by decide +kernel
theorem dX11_rules_11 : decode cX11_rules 11 = .ok (.iload_n 1, 1) := by decide +kernel
theorem dX11_rules_12 : decode cX11_rules 12 = .ok (.aload_n 0, 1) := by decide +kernel
theorem dX11_rules_13 : decode cX11_rules 13 = .ok (.getfield 136, 3) := by decide +kernel
theorem dX11_rules_16 : decode cX11_rules 16 = .ok (.if_icmp .le 5, 3) := by decide +kernel
theorem dX11_rules_19 : decode cX11_rules 19 = .ok (.iconst (-1), 1) := by decide +kernel
theorem dX11_rules_20 : decode cX11_rules 20 = .ok (.ireturn, 1) := by decide +kernel
theorem dX11_rules_21 : decode cX11_rules 21 = .ok (.aload_n 0, 1) := by decide +kernel
theorem dX11_rules_22 : decode cX11_rules 22 = .ok (.getfield 24, 3) := by decide +kernel
theorem dX11_rules_25 : decode cX11_rules 25 = .ok (.aload_n 0, 1) := by decide +kernel
theorem dX11_rules_26 : decode cX11_rules 26 = .ok (.getfield 9, 3) := by decide +kernel
theorem dX11_rules_29 : decode cX11_rules 29 = .ok (.iload_n 1, 1) := by decide +kernel
theorem dX11_rules_30 : decode cX11_rules 30 = .ok (.invokevirtual 143, 3) := by decide +kernel
theorem dX11_rules_33 : decode cX11_rules 33 = .ok (.istore_n 2, 1) := by decide +kernel
theorem dX11_rules_34 : decode cX11_rules 34 = .ok (.aload_n 0, 1) := by decide +kernel
theorem dX11_rules_35 : decode cX11_rules 35 = .ok (.iconst 0, 1) := by decide +kernel
theorem dX11_rules_36 : decode cX11_rules 36 = .ok (.putfield 136, 3) := by decide +kernel
theorem dX11_rules_39 : decode cX11_rules 39 = .ok (.iload_n 2, 1) := by decide +kernel
theorem dX11_rules_40 : decode cX11_rules 40 = .ok (.ifCond .ne 21, 3) := by decide +kernel
theorem dX11_rules_43 : decode cX11_rules 43 = .ok (.aload_n 0, 1) := by decide +kernel
theorem dX11_rules_44 : decode cX11_rules 44 = .ok (.getfield 20, 3) := by decide +kernel
theorem dX11_rules_47 : decode cX11_rules 47 = .ok (.astore_n 3, 1) := by decide +kernel
theorem dX11_rules_48 : decode cX11_rules 48 = .ok (.aload_n 0, 1) := by decide +kernel
theorem dX11_rules_49 : decode cX11_rules 49 = .ok (.aload_n 0, 1) := by decide +kernel
theorem dX11_rules_50 : decode cX11_rules 50 = .ok (.getfield 24, 3) := by decide +kernel
theorem dX11_rules_53 : decode cX11_rules 53 = .ok (.putfield 20, 3) := by decide +kernel
theorem dX11_rules_56 : decode cX11_rules 56 = .ok (.aload_n 0, 1) := by decide +kernel
theorem dX11_rules_57 : decode cX11_rules 57 = .ok (.aload_n 3, 1) := by decide +kernel
theorem dX11_rules_58 : decode cX11_rules 58 = .ok (.putfield 24, 3) := by decide +kernel
theorem dX11_rules_61 : decode cX11_rules 61 = .ok (.iload_n 2, 1) := by decide +kernel
theorem dX11_rules_62 : decode cX11_rules 62 = .ok (.ireturn, 1) := by decide +kernel
theorem dX11_look_0 : decode cX11_look 0 = .ok (.aload_n 0, 1) := by decide +kernel
theorem dX11_look_1 : decode cX11_look 1 = .ok (.iload_n 1, 1) := by decide +kernel
theorem dX11_look_2 : decode cX11_look 2 = .ok (.invokevirtual 147, 3) := by decide +kernel
theorem dX11_look_5 : decode cX11_look 5 = .ok (.ifCond .ne 5, 3) := by decide +kernel
theorem dX11_look_8 : decode cX11_look 8 = .ok (.iconst (-1), 1) := by decide +kernel
theorem dX11_look_9 : decode cX11_look 9 = .ok (.ireturn, 1) := by decide +kernel
theorem dX11_look_10 : decode cX11_look 10 = .ok (.aload_n 0, 1) := by decide +kernel
theorem dX11_look_11 : decode cX11_look 11 = .ok (.getfield 30, 3) := by decide +kernel
theorem dX11_look_14 : decode cX11_look 14 = .ok (.aload_n 0, 1) := by decide +kernel
theorem dX11_look_15 : decode cX11_look 15 = .ok (.getfield 20, 3) := by decide +kernel
theorem dX11_look_18 : decode cX11_look 18 = .ok (.aload_n 0, 1) := by decide +kernel
theorem dX11_look_19 : decode cX11_look 19 = .ok (.getfield 9, 3) := by decide +kernel
theorem dX11_look_22 : decode cX11_look 22 = .ok (.iload_n 1, 1) := by decide +kernel
theorem dX11_look_23 : decode cX11_look 23 = .ok (.invokevirtual 150, 3) := by decide +kernel
theorem dX11_look_26 : decode cX11_look 26 = .ok (.aload_n 0, 1) := by decide +kernel
theorem dX11_look_27 : decode cX11_look 27 = .ok (.getfield 30, 3) := by decide +kernel
theorem dX11_look_30 : decode cX11_look 30 = .ok (.getfield 154, 3) := by decide +kernel
theorem dX11_look_33 : decode cX11_look 33 = .ok (.ireturn, 1) := by decide +kernel
theorem dX11_found_0 : decode cX11_found 0 = .ok (.iload_n 1, 1) := by decide +kernel
theorem dX11_found_1 : decode cX11_found 1 = .ok (.iconst 0, 1) := by decide +kernel
theorem dX11_found_2 : decode cX11_found 2 = .ok (.aload_n 0, 1) := by decide +kernel
theorem dX11_found_3 : decode cX11_found 3 = .ok (.getfield 30, 3) := by decide +kernel
theorem dX11_found_6 : decode cX11_found 6 = .ok (.getfield 154, 3) := by decide +kernel
theorem dX11_found_9 : decode cX11_found 9 = .ok (.iconst 1, 1) := by decide +kernel
theorem dX11_found_10 : decode cX11_found 10 = .ok (.isub, 1) := by decide +kernel
theorem dX11_found_11 : decode cX11_found 11 = .ok (.invokestatic 80, 3) := by decide +kernel
theorem dX11_found_14 : decode cX11_found 14 = .ok (.ifCond .ne 5, 3) := by decide +kernel
theorem dX11_found_17 : decode cX11_found 17 = .ok (.iconst (-1), 1) := by decide +kernel
theorem dX11_found_18 : decode cX11_found 18 = .ok (.ireturn, 1) := by decide +kernel
theorem dX11_found_19 : decode cX11_found 19 = .ok (.iload_n 2, 1) := by decide +kernel
theorem dX11_found_20 : decode cX11_found 20 = .ok (.tableswitch 72 0 3 #[32, 42, 52, 62], 32) := by decide +kernel
theorem dX11_found_52 : decode cX11_found 52 = .ok (.aload_n 0, 1) := by decide +kernel
theorem dX11_found_53 : decode cX11_found 53 = .ok (.getfield 30, 3) := by decide +kernel
theorem dX11_found_56 : decode cX11_found 56 = .ok (.getfield 157, 3) := by decide +kernel
theorem dX11_found_59 : decode cX11_found 59 = .ok (.iload_n 1, 1) := by decide +kernel
theorem dX11_found_60 : decode cX11_found 60 = .ok (.iaload, 1) := by decide +kernel
theorem dX11_found_61 : decode cX11_found 61 = .ok (.ireturn, 1) := by decide +kernel
theorem dX11_found_62 : decode cX11_found 62 = .ok (.aload_n 0, 1) := by decide +kernel
theorem dX11_found_63 : decode cX11_found 63 = .ok (.getfield 30, 3) := by decide +kernel
theorem dX11_found_66 : decode cX11_found 66 = .ok (.getfield 160, 3) := by decide +kernel
theorem dX11_found_69 : decode cX11_found 69 = .ok (.iload_n 1, 1) := by decide +kernel
theorem dX11_found_70 : decode cX11_found 70 = .ok (.iaload, 1) := by decide +kernel
theorem dX11_found_71 : decode cX11_found 71 = .ok (.ireturn, 1) := by decide +kernel
theorem dX11_found_72 : decode cX11_found 72 = .ok (.aload_n 0, 1) := by decide +kernel
theorem dX11_found_73 : decode cX11_found 73 = .ok (.getfield 30, 3) := by decide +kernel
theorem dX11_found_76 : decode cX11_found 76 = .ok (.getfield 163, 3) := by decide +kernel
theorem dX11_found_79 : decode cX11_found 79 = .ok (.iload_n 1, 1) := by decide +kernel
theorem dX11_found_80 : decode cX11_found 80 = .ok (.iaload, 1) := by decide +kernel
theorem dX11_found_81 : decode cX11_found 81 = .ok (.ireturn, 1) := by decide +kernel
theorem dX11_found_82 : decode cX11_found 82 = .ok (.aload_n 0, 1) := by decide +kernel
theorem dX11_found_83 : decode cX11_found 83 = .ok (.getfield 30, 3) := by decide +kernel
theorem dX11_found_86 : decode cX11_found 86 = .ok (.getfield 166, 3) := by decide +kernel
theorem dX11_found_89 : decode cX11_found 89 = .ok (.iload_n 1, 1) := by decide +kernel
theorem dX11_found_90 : decode cX11_found 90 = .ok (.iaload, 1) := by decide +kernel
theorem dX11_found_91 : decode cX11_found 91 = .ok (.ireturn, 1) := by decide +kernel
theorem dX11_found_92 : decode cX11_found 92 = .ok (.iconst (-1), 1) := by decide +kernel
theorem dX11_found_93 : decode cX11_found 93 = .ok (.ireturn, 1) := by decide +kernel
theorem dX11_letter_0 : decode cX11_letter 0 = .ok (.aload_n 0, 1) := by decide +kernel
theorem dX11_letter_1 : decode cX11_letter 1 = .ok (.getfield 37, 3) := by decide +kernel
theorem dX11_letter_4 : decode cX11_letter 4 = .ok (.iload_n 1, 1) := by decide +kernel
theorem dX11_letter_5 : decode cX11_letter 5 = .ok (.invokevirtual 121, 3) := by decide +kernel
theorem dX11_letter_8 : decode cX11_letter 8 = .ok (.astore 8, 2) := by decide +kernel
theorem dX11_letter_10 : decode cX11_letter 10 = .ok (.aload 8, 2) := by decide +kernel
theorem dX11_letter_12 : decode cX11_letter 12 = .ok (.ifnull 25, 3) := by decide +kernel
theorem dX11_letter_15 : decode cX11_letter 15 = .ok (.iload_n 2, 1) := by decide +kernel
theorem dX11_letter_16 : decode cX11_letter 16 = .ok (.iconst 0, 1) := by decide +kernel
theorem dX11_letter_17 : decode cX11_letter 17 = .ok (.iconst 1, 1) := by decide +kernel
theorem dX11_letter_18 : decode cX11_letter 18 = .ok (.invokestatic 80, 3) := by decide +kernel
theorem dX11_letter_21 : decode cX11_letter 21 = .ok (.ifCond .eq 16, 3) := by decide +kernel
theorem dX11_letter_24 : decode cX11_letter 24 = .ok (.aload_n 0, 1) := by decide +kernel
theorem dX11_letter_25 : decode cX11_letter 25 = .ok (.getfield 46, 3) := by decide +kernel
theorem dX11_letter_28 : decode cX11_letter 28 = .ok (.getfield 169, 3) := by decide +kernel
theorem dX11_letter_31 : decode cX11_letter 31 = .ok (.sipush 200, 3) := by decide +kernel
theorem dX11_letter_34 : decode cX11_letter 34 = .ok (.if_icmp .lt 5, 3) := by decide +kernel
theorem dX11_letter_37 : decode cX11_letter 37 = .ok (.iconst (-1), 1) := by decide +kernel
theorem dX11_letter_38 : decode cX11_letter 38 = .ok (.ireturn, 1) := by decide +kernel
theorem dX11_letter_39 : decode cX11_letter 39 = .ok (.iload_n 3, 1) := by decide +kernel
theorem dX11_letter_40 : decode cX11_letter 40 = .ok (.invokestatic 170, 3) := by decide +kernel
theorem dX11_letter_43 : decode cX11_letter 43 = .ok (.ifCond .eq 36, 3) := by decide +kernel
theorem dX11_letter_46 : decode cX11_letter 46 = .ok (.iload 4, 2) := by decide +kernel
theorem dX11_letter_48 : decode cX11_letter 48 = .ok (.invokestatic 170, 3) := by decide +kernel
theorem dX11_letter_51 : decode cX11_letter 51 = .ok (.ifCond .eq 28, 3) := by decide +kernel
theorem dX11_letter_54 : decode cX11_letter 54 = .ok (.iload 5, 2) := by decide +kernel
theorem dX11_letter_56 : decode cX11_letter 56 = .ok (.invokestatic 170, 3) := by decide +kernel
theorem dX11_letter_59 : decode cX11_letter 59 = .ok (.ifCond .eq 20, 3) := by decide +kernel
theorem dX11_letter_62 : decode cX11_letter 62 = .ok (.iload 6, 2) := by decide +kernel
theorem dX11_letter_64 : decode cX11_letter 64 = .ok (.invokestatic 170, 3) := by decide +kernel
theorem dX11_letter_67 : decode cX11_letter 67 = .ok (.ifCond .eq 12, 3) := by decide +kernel
theorem dX11_letter_70 : decode cX11_letter 70 = .ok (.aload_n 0, 1) := by decide +kernel
theorem dX11_letter_71 : decode cX11_letter 71 = .ok (.iload 7, 2) := by decide +kernel
theorem dX11_letter_73 : decode cX11_letter 73 = .ok (.invokevirtual 147, 3) := by decide +kernel
theorem dX11_letter_76 : decode cX11_letter 76 = .ok (.ifCond .ne 5, 3) := by decide +kernel
theorem dX11_letter_79 : decode cX11_letter 79 = .ok (.iconst (-1), 1) := by decide +kernel
theorem dX11_letter_80 : decode cX11_letter 80 = .ok (.ireturn, 1) := by decide +kernel
theorem dX11_letter_81 : decode cX11_letter 81 = .ok (.new 173, 3) := by decide +kernel
theorem dX11_letter_84 : decode cX11_letter 84 = .ok (.dup, 1) := by decide +kernel
theorem dX11_letter_85 : decode cX11_letter 85 = .ok (.aload 8, 2) := by decide +kernel
theorem dX11_letter_87 : decode cX11_letter 87 = .ok (.iload_n 2, 1) := by decide +kernel
theorem dX11_letter_88 : decode cX11_letter 88 = .ok (.aload_n 0, 1) := by decide +kernel
theorem dX11_letter_89 : decode cX11_letter 89 = .ok (.getfield 106, 3) := by decide +kernel
theorem dX11_letter_92 : decode cX11_letter 92 = .ok (.aload_n 0, 1) := by decide +kernel
theorem dX11_letter_93 : decode cX11_letter 93 = .ok (.getfield 9, 3) := by decide +kernel
theorem dX11_letter_96 : decode cX11_letter 96 = .ok (.iload 7, 2) := by decide +kernel
theorem dX11_letter_98 : decode cX11_letter 98 = .ok (.invokespecial 175, 3) := by decide +kernel
theorem dX11_letter_101 : decode cX11_letter 101 = .ok (.astore 9, 2) := by decide +kernel
theorem dX11_letter_103 : decode cX11_letter 103 = .ok (.aload 9, 2) := by decide +kernel
theorem dX11_letter_105 : decode cX11_letter 105 = .ok (.getfield 178, 3) := by decide +kernel
theorem dX11_letter_108 : decode cX11_letter 108 = .ok (.iconst 0, 1) := by decide +kernel
theorem dX11_letter_109 : decode cX11_letter 109 = .ok (.iload_n 3, 1) := by decide +kernel
theorem dX11_letter_110 : decode cX11_letter 110 = .ok (.iastore, 1) := by decide +kernel
theorem dX11_letter_111 : decode cX11_letter 111 = .ok (.aload 9, 2) := by decide +kernel
theorem dX11_letter_113 : decode cX11_letter 113 = .ok (.getfield 178, 3) := by decide +kernel
theorem dX11_letter_116 : decode cX11_letter 116 = .ok (.iconst 1, 1) := by decide +kernel
theorem dX11_letter_117 : decode cX11_letter 117 = .ok (.iload 4, 2) := by decide +kernel
theorem dX11_letter_119 : decode cX11_letter 119 = .ok (.iastore, 1) := by decide +kernel
theorem dX11_letter_120 : decode cX11_letter 120 = .ok (.aload 9, 2) := by decide +kernel
theorem dX11_letter_122 : decode cX11_letter 122 = .ok (.getfield 178, 3) := by decide +kernel
theorem dX11_letter_125 : decode cX11_letter 125 = .ok (.iconst 2, 1) := by decide +kernel
theorem dX11_letter_126 : decode cX11_letter 126 = .ok (.iload 5, 2) := by decide +kernel
theorem dX11_letter_128 : decode cX11_letter 128 = .ok (.iastore, 1) := by decide +kernel
theorem dX11_letter_129 : decode cX11_letter 129 = .ok (.aload 9, 2) := by decide +kernel
theorem dX11_letter_131 : decode cX11_letter 131 = .ok (.getfield 178, 3) := by decide +kernel
theorem dX11_letter_134 : decode cX11_letter 134 = .ok (.iconst 3, 1) := by decide +kernel
theorem dX11_letter_135 : decode cX11_letter 135 = .ok (.iload 6, 2) := by decide +kernel
theorem dX11_letter_137 : decode cX11_letter 137 = .ok (.iastore, 1) := by decide +kernel
theorem dX11_letter_138 : decode cX11_letter 138 = .ok (.aload_n 0, 1) := by decide +kernel
theorem dX11_letter_139 : decode cX11_letter 139 = .ok (.iconst 0, 1) := by decide +kernel
theorem dX11_letter_140 : decode cX11_letter 140 = .ok (.putfield 136, 3) := by decide +kernel
theorem dX11_letter_143 : decode cX11_letter 143 = .ok (.aload_n 0, 1) := by decide +kernel
theorem dX11_letter_144 : decode cX11_letter 144 = .ok (.getfield 46, 3) := by decide +kernel
theorem dX11_letter_147 : decode cX11_letter 147 = .ok (.aload 9, 2) := by decide +kernel
theorem dX11_letter_149 : decode cX11_letter 149 = .ok (.invokevirtual 181, 3) := by decide +kernel
theorem dX11_letter_152 : decode cX11_letter 152 = .ok (.ireturn, 1) := by decide +kernel
theorem dX11_translator_0 : decode cX11_translator 0 = .ok (.ldc 185, 2) := by decide +kernel
theorem dX11_translator_2 : decode cX11_translator 2 = .ok (.istore 5, 2) := by decide +kernel
theorem dX11_translator_4 : decode cX11_translator 4 = .ok (.iload_n 1, 1) := by decide +kernel
theorem dX11_translator_5 : decode cX11_translator 5 = .ok (.iconst 0, 1) := by decide +kernel
theorem dX11_translator_6 : decode cX11_translator 6 = .ok (.iload 5, 2) := by decide +kernel
theorem dX11_translator_8 : decode cX11_translator 8 = .ok (.invokestatic 80, 3) := by decide +kernel
theorem dX11_translator_11 : decode cX11_translator 11 = .ok (.ifCond .eq 13, 3) := by decide +kernel
theorem dX11_translator_14 : decode cX11_translator 14 = .ok (.iload_n 2, 1) := by decide +kernel
theorem dX11_translator_15 : decode cX11_translator 15 = .ok (.iconst 0, 1) := by decide +kernel
theorem dX11_translator_16 : decode cX11_translator 16 = .ok (.iload 5, 2) := by decide +kernel
theorem dX11_translator_18 : decode cX11_translator 18 = .ok (.invokestatic 80, 3) := by decide +kernel
theorem dX11_translator_21 : decode cX11_translator 21 = .ok (.ifCond .ne 5, 3) := by decide +kernel
theorem dX11_translator_24 : decode cX11_translator 24 = .ok (.iconst (-1), 1) := by decide +kernel
theorem dX11_translator_25 : decode cX11_translator 25 = .ok (.ireturn, 1) := by decide +kernel
theorem dX11_translator_26 : decode cX11_translator 26 = .ok (.iload_n 3, 1) := by decide +kernel
theorem dX11_translator_27 : decode cX11_translator 27 = .ok (.iconst 1, 1) := by decide +kernel
theorem dX11_translator_28 : decode cX11_translator 28 = .ok (.iconst 4, 1) := by decide +kernel
theorem dX11_translator_29 : decode cX11_translator 29 = .ok (.invokestatic 80, 3) := by decide +kernel
theorem dX11_translator_32 : decode cX11_translator 32 = .ok (.ifCond .eq 14, 3) := by decide +kernel
theorem dX11_translator_35 : decode cX11_translator 35 = .ok (.iload 4, 2) := by decide +kernel
theorem dX11_translator_37 : decode cX11_translator 37 = .ok (.iconst 0, 1) := by decide +kernel
theorem dX11_translator_38 : decode cX11_translator 38 = .ok (.bipush 127, 2) := by decide +kernel
theorem dX11_translator_40 : decode cX11_translator 40 = .ok (.invokestatic 80, 3) := by decide +kernel
theorem dX11_translator_43 : decode cX11_translator 43 = .ok (.ifCond .ne 5, 3) := by decide +kernel
theorem dX11_translator_46 : decode cX11_translator 46 = .ok (.iconst (-1), 1) := by decide +kernel
theorem dX11_translator_47 : decode cX11_translator 47 = .ok (.ireturn, 1) := by decide +kernel
theorem dX11_translator_48 : decode cX11_translator 48 = .ok (.aload_n 0, 1) := by decide +kernel
theorem dX11_translator_49 : decode cX11_translator 49 = .ok (.getfield 53, 3) := by decide +kernel
theorem dX11_translator_52 : decode cX11_translator 52 = .ok (.iload_n 1, 1) := by decide +kernel
theorem dX11_translator_53 : decode cX11_translator 53 = .ok (.i2l, 1) := by decide +kernel
theorem dX11_translator_54 : decode cX11_translator 54 = .ok (.iload_n 2, 1) := by decide +kernel
theorem dX11_translator_55 : decode cX11_translator 55 = .ok (.i2l, 1) := by decide +kernel
theorem dX11_translator_56 : decode cX11_translator 56 = .ok (.bipush 18, 2) := by decide +kernel
theorem dX11_translator_58 : decode cX11_translator 58 = .ok (.lshl, 1) := by decide +kernel
theorem dX11_translator_59 : decode cX11_translator 59 = .ok (.lor, 1) := by decide +kernel
theorem dX11_translator_60 : decode cX11_translator 60 = .ok (.iload_n 3, 1) := by decide +kernel
theorem dX11_translator_61 : decode cX11_translator 61 = .ok (.iload 4, 2) := by decide +kernel
theorem dX11_translator_63 : decode cX11_translator 63 = .ok (.invokevirtual 186, 3) := by decide +kernel
theorem dX11_translator_66 : decode cX11_translator 66 = .ok (.ireturn, 1) := by decide +kernel
theorem dX11_day_0 : decode cX11_day 0 = .ok (.aload_n 0, 1) := by decide +kernel
theorem dX11_day_1 : decode cX11_day 1 = .ok (.getfield 106, 3) := by decide +kernel
theorem dX11_day_4 : decode cX11_day 4 = .ok (.sipush 3599, 3) := by decide +kernel
theorem dX11_day_7 : decode cX11_day 7 = .ok (.if_icmp .lt 5, 3) := by decide +kernel
theorem dX11_day_10 : decode cX11_day 10 = .ok (.iconst (-1), 1) := by decide +kernel
theorem dX11_day_11 : decode cX11_day 11 = .ok (.ireturn, 1) := by decide +kernel
theorem dX11_day_12 : decode cX11_day 12 = .ok (.aload_n 0, 1) := by decide +kernel
theorem dX11_day_13 : decode cX11_day 13 = .ok (.dup, 1) := by decide +kernel
theorem dX11_day_14 : decode cX11_day 14 = .ok (.getfield 106, 3) := by decide +kernel
theorem dX11_day_17 : decode cX11_day 17 = .ok (.iconst 1, 1) := by decide +kernel
theorem dX11_day_18 : decode cX11_day 18 = .ok (.iadd, 1) := by decide +kernel
theorem dX11_day_19 : decode cX11_day 19 = .ok (.putfield 106, 3) := by decide +kernel
theorem dX11_day_22 : decode cX11_day 22 = .ok (.aload_n 0, 1) := by decide +kernel
theorem dX11_day_23 : decode cX11_day 23 = .ok (.getfield 46, 3) := by decide +kernel
theorem dX11_day_26 : decode cX11_day 26 = .ok (.aload_n 0, 1) := by decide +kernel
theorem dX11_day_27 : decode cX11_day 27 = .ok (.getfield 106, 3) := by decide +kernel
theorem dX11_day_30 : decode cX11_day 30 = .ok (.invokevirtual 189, 3) := by decide +kernel
theorem dX11_day_33 : decode cX11_day 33 = .ok (.aload_n 0, 1) := by decide +kernel
theorem dX11_day_34 : decode cX11_day 34 = .ok (.getfield 46, 3) := by decide +kernel
theorem dX11_day_37 : decode cX11_day 37 = .ok (.aload_n 0, 1) := by decide +kernel
theorem dX11_day_38 : decode cX11_day 38 = .ok (.getfield 20, 3) := by decide +kernel
theorem dX11_day_41 : decode cX11_day 41 = .ok (.aload_n 0, 1) := by decide +kernel
theorem dX11_day_42 : decode cX11_day 42 = .ok (.getfield 106, 3) := by decide +kernel
theorem dX11_day_45 : decode cX11_day 45 = .ok (.invokevirtual 192, 3) := by decide +kernel
theorem dX11_day_48 : decode cX11_day 48 = .ok (.aload_n 0, 1) := by decide +kernel
theorem dX11_day_49 : decode cX11_day 49 = .ok (.getfield 53, 3) := by decide +kernel
theorem dX11_day_52 : decode cX11_day 52 = .ok (.aload_n 0, 1) := by decide +kernel
theorem dX11_day_53 : decode cX11_day 53 = .ok (.getfield 46, 3) := by decide +kernel
theorem dX11_day_56 : decode cX11_day 56 = .ok (.aload_n 0, 1) := by decide +kernel
theorem dX11_day_57 : decode cX11_day 57 = .ok (.getfield 37, 3) := by decide +kernel
theorem dX11_day_60 : decode cX11_day 60 = .ok (.aload_n 0, 1) := by decide +kernel
theorem dX11_day_61 : decode cX11_day 61 = .ok (.getfield 106, 3) := by decide +kernel
theorem dX11_day_64 : decode cX11_day 64 = .ok (.invokevirtual 196, 3) := by decide +kernel
theorem dX11_day_67 : decode cX11_day 67 = .ok (.aload_n 0, 1) := by decide +kernel
theorem dX11_day_68 : decode cX11_day 68 = .ok (.getfield 46, 3) := by decide +kernel
theorem dX11_day_71 : decode cX11_day 71 = .ok (.aload_n 0, 1) := by decide +kernel
theorem dX11_day_72 : decode cX11_day 72 = .ok (.getfield 106, 3) := by decide +kernel
theorem dX11_day_75 : decode cX11_day 75 = .ok (.invokevirtual 200, 3) := by decide +kernel
theorem dX11_day_78 : decode cX11_day 78 = .ok (.aload_n 0, 1) := by decide +kernel
theorem dX11_day_79 : decode cX11_day 79 = .ok (.getfield 46, 3) := by decide +kernel
theorem dX11_day_82 : decode cX11_day 82 = .ok (.aload_n 0, 1) := by decide +kernel
theorem dX11_day_83 : decode cX11_day 83 = .ok (.getfield 106, 3) := by decide +kernel
theorem dX11_day_86 : decode cX11_day 86 = .ok (.invokevirtual 203, 3) := by decide +kernel
theorem dX11_day_89 : decode cX11_day 89 = .ok (.aload_n 0, 1) := by decide +kernel
theorem dX11_day_90 : decode cX11_day 90 = .ok (.getfield 46, 3) := by decide +kernel
theorem dX11_day_93 : decode cX11_day 93 = .ok (.invokevirtual 206, 3) := by decide +kernel
theorem dX11_day_96 : decode cX11_day 96 = .ok (.aload_n 0, 1) := by decide +kernel
theorem dX11_day_97 : decode cX11_day 97 = .ok (.getfield 106, 3) := by decide +kernel
theorem dX11_day_100 : decode cX11_day 100 = .ok (.ireturn, 1) := by decide +kernel
theorem dX11_decide_0 : decode cX11_decide 0 = .ok (.aload_n 0, 1) := by decide +kernel
theorem dX11_decide_1 : decode cX11_decide 1 = .ok (.getfield 46, 3) := by decide +kernel
theorem dX11_decide_4 : decode cX11_decide 4 = .ok (.iload_n 1, 1) := by decide +kernel
theorem dX11_decide_5 : decode cX11_decide 5 = .ok (.invokevirtual 209, 3) := by decide +kernel
theorem dX11_decide_8 : decode cX11_decide 8 = .ok (.astore_n 3, 1) := by decide +kernel
theorem dX11_decide_9 : decode cX11_decide 9 = .ok (.aload_n 3, 1) := by decide +kernel
theorem dX11_decide_10 : decode cX11_decide 10 = .ok (.ifnull 11, 3) := by decide +kernel
theorem dX11_decide_13 : decode cX11_decide 13 = .ok (.aload_n 3, 1) := by decide +kernel
theorem dX11_decide_14 : decode cX11_decide 14 = .ok (.getfield 213, 3) := by decide +kernel
theorem dX11_decide_17 : decode cX11_decide 17 = .ok (.iconst 3, 1) := by decide +kernel
theorem dX11_decide_18 : decode cX11_decide 18 = .ok (.if_icmp .eq 5, 3) := by decide +kernel
theorem dX11_decide_21 : decode cX11_decide 21 = .ok (.iconst 0, 1) := by decide +kernel
theorem dX11_decide_22 : decode cX11_decide 22 = .ok (.ireturn, 1) := by decide +kernel
theorem dX11_decide_23 : decode cX11_decide 23 = .ok (.iload_n 2, 1) := by decide +kernel
theorem dX11_decide_24 : decode cX11_decide 24 = .ok (.ifCond .eq 22, 3) := by decide +kernel
theorem dX11_decide_27 : decode cX11_decide 27 = .ok (.aload_n 0, 1) := by decide +kernel
theorem dX11_decide_28 : decode cX11_decide 28 = .ok (.getfield 46, 3) := by decide +kernel
theorem dX11_decide_31 : decode cX11_decide 31 = .ok (.aload_n 3, 1) := by decide +kernel
theorem dX11_decide_32 : decode cX11_decide 32 = .ok (.aload_n 0, 1) := by decide +kernel
theorem dX11_decide_33 : decode cX11_decide 33 = .ok (.getfield 20, 3) := by decide +kernel
theorem dX11_decide_36 : decode cX11_decide 36 = .ok (.aload_n 0, 1) := by decide +kernel
theorem dX11_decide_37 : decode cX11_decide 37 = .ok (.getfield 106, 3) := by decide +kernel
theorem dX11_decide_40 : decode cX11_decide 40 = .ok (.invokevirtual 216, 3) := by decide +kernel
theorem dX11_decide_43 : decode cX11_decide 43 = .ok (.goto 13, 3) := by decide +kernel
theorem dX11_decide_46 : decode cX11_decide 46 = .ok (.aload_n 3, 1) := by decide +kernel
theorem dX11_decide_47 : decode cX11_decide 47 = .ok (.bipush 7, 2) := by decide +kernel
theorem dX11_decide_49 : decode cX11_decide 49 = .ok (.aload_n 0, 1) := by decide +kernel
theorem dX11_decide_50 : decode cX11_decide 50 = .ok (.getfield 106, 3) := by decide +kernel
theorem dX11_decide_53 : decode cX11_decide 53 = .ok (.invokevirtual 220, 3) := by decide +kernel
theorem dX11_decide_56 : decode cX11_decide 56 = .ok (.iconst 1, 1) := by decide +kernel
theorem dX11_decide_57 : decode cX11_decide 57 = .ok (.ireturn, 1) := by decide +kernel
theorem dX11_lose_0 : decode cX11_lose 0 = .ok (.aload_n 0, 1) := by decide +kernel
theorem dX11_lose_1 : decode cX11_lose 1 = .ok (.getfield 46, 3) := by decide +kernel
theorem dX11_lose_4 : decode cX11_lose 4 = .ok (.iload_n 1, 1) := by decide +kernel
theorem dX11_lose_5 : decode cX11_lose 5 = .ok (.invokevirtual 224, 3) := by decide +kernel
theorem dX11_lose_8 : decode cX11_lose 8 = .ok (.ifCond .eq 20, 3) := by decide +kernel
theorem dX11_lose_11 : decode cX11_lose 11 = .ok (.aload_n 0, 1) := by decide +kernel
theorem dX11_lose_12 : decode cX11_lose 12 = .ok (.getfield 46, 3) := by decide +kernel
theorem dX11_lose_15 : decode cX11_lose 15 = .ok (.iload_n 1, 1) := by decide +kernel
theorem dX11_lose_16 : decode cX11_lose 16 = .ok (.bipush 8, 2) := by decide +kernel
theorem dX11_lose_18 : decode cX11_lose 18 = .ok (.aload_n 0, 1) := by decide +kernel
theorem dX11_lose_19 : decode cX11_lose 19 = .ok (.getfield 106, 3) := by decide +kernel
theorem dX11_lose_22 : decode cX11_lose 22 = .ok (.invokevirtual 227, 3) := by decide +kernel
theorem dX11_lose_25 : decode cX11_lose 25 = .ok (.goto 4, 3) := by decide +kernel
theorem dX11_lose_28 : decode cX11_lose 28 = .ok (.iconst (-1), 1) := by decide +kernel
theorem dX11_lose_29 : decode cX11_lose 29 = .ok (.ireturn, 1) := by decide +kernel
theorem dX11_about_0 : decode cX11_about 0 = .ok (.aload_n 0, 1) := by decide +kernel
theorem dX11_about_1 : decode cX11_about 1 = .ok (.getfield 46, 3) := by decide +kernel
theorem dX11_about_4 : decode cX11_about 4 = .ok (.iload_n 1, 1) := by decide +kernel
theorem dX11_about_5 : decode cX11_about 5 = .ok (.invokevirtual 209, 3) := by decide +kernel
theorem dX11_about_8 : decode cX11_about 8 = .ok (.astore_n 3, 1) := by decide +kernel
theorem dX11_about_9 : decode cX11_about 9 = .ok (.aload_n 3, 1) := by decide +kernel
theorem dX11_about_10 : decode cX11_about 10 = .ok (.ifnonnull 7, 3) := by decide +kernel
theorem dX11_about_13 : decode cX11_about 13 = .ok (.iconst (-1), 1) := by decide +kernel
theorem dX11_about_14 : decode cX11_about 14 = .ok (.goto 8, 3) := by decide +kernel
theorem dX11_about_17 : decode cX11_about 17 = .ok (.aload_n 3, 1) := by decide +kernel
theorem dX11_about_18 : decode cX11_about 18 = .ok (.iload_n 2, 1) := by decide +kernel
theorem dX11_about_19 : decode cX11_about 19 = .ok (.invokevirtual 230, 3) := by decide +kernel
theorem dX11_about_22 : decode cX11_about 22 = .ok (.ireturn, 1) := by decide +kernel
theorem dX11_hints_0 : decode cX11_hints 0 = .ok (.aload_n 0, 1) := by decide +kernel
theorem dX11_hints_1 : decode cX11_hints 1 = .ok (.getfield 37, 3) := by decide +kernel
theorem dX11_hints_4 : decode cX11_hints 4 = .ok (.iload_n 1, 1) := by decide +kernel
theorem dX11_hints_5 : decode cX11_hints 5 = .ok (.invokevirtual 233, 3) := by decide +kernel
theorem dX11_hints_8 : decode cX11_hints 8 = .ok (.astore_n 2, 1) := by decide +kernel
theorem dX11_hints_9 : decode cX11_hints 9 = .ok (.aload_n 2, 1) := by decide +kernel
theorem dX11_hints_10 : decode cX11_hints 10 = .ok (.ifnonnull 7, 3) := by decide +kernel
theorem dX11_hints_13 : decode cX11_hints 13 = .ok (.iconst (-1), 1) := by decide +kernel
theorem dX11_hints_14 : decode cX11_hints 14 = .ok (.goto 7, 3) := by decide +kernel
theorem dX11_hints_17 : decode cX11_hints 17 = .ok (.aload_n 2, 1) := by decide +kernel
theorem dX11_hints_18 : decode cX11_hints 18 = .ok (.getfield 236, 3) := by decide +kernel
theorem dX11_hints_21 : decode cX11_hints 21 = .ok (.ireturn, 1) := by decide +kernel
theorem dX11_unlike_0 : decode cX11_unlike 0 = .ok (.aload_n 0, 1) := by decide +kernel
theorem dX11_unlike_1 : decode cX11_unlike 1 = .ok (.getfield 46, 3) := by decide +kernel
theorem dX11_unlike_4 : decode cX11_unlike 4 = .ok (.iload_n 1, 1) := by decide +kernel
theorem dX11_unlike_5 : decode cX11_unlike 5 = .ok (.invokevirtual 209, 3) := by decide +kernel
theorem dX11_unlike_8 : decode cX11_unlike 8 = .ok (.astore_n 2, 1) := by decide +kernel
theorem dX11_unlike_9 : decode cX11_unlike 9 = .ok (.aload_n 2, 1) := by decide +kernel
theorem dX11_unlike_10 : decode cX11_unlike 10 = .ok (.ifnonnull 5, 3) := by decide +kernel
theorem dX11_unlike_13 : decode cX11_unlike 13 = .ok (.iconst (-1), 1) := by decide +kernel
theorem dX11_unlike_14 : decode cX11_unlike 14 = .ok (.ireturn, 1) := by decide +kernel
theorem dX11_unlike_15 : decode cX11_unlike 15 = .ok (.aload_n 0, 1) := by decide +kernel
theorem dX11_unlike_16 : decode cX11_unlike 16 = .ok (.getfield 46, 3) := by decide +kernel
theorem dX11_unlike_19 : decode cX11_unlike 19 = .ok (.aload_n 2, 1) := by decide +kernel
theorem dX11_unlike_20 : decode cX11_unlike 20 = .ok (.invokevirtual 239, 3) := by decide +kernel
theorem dX11_unlike_23 : decode cX11_unlike 23 = .ok (.ifCond .eq 7, 3) := by decide +kernel
theorem dX11_unlike_26 : decode cX11_unlike 26 = .ok (.iconst 1, 1) := by decide +kernel
theorem dX11_unlike_27 : decode cX11_unlike 27 = .ok (.goto 4, 3) := by decide +kernel
theorem dX11_unlike_30 : decode cX11_unlike 30 = .ok (.iconst 0, 1) := by decide +kernel
theorem dX11_unlike_31 : decode cX11_unlike 31 = .ok (.ireturn, 1) := by decide +kernel
theorem dX11_lag_0 : decode cX11_lag 0 = .ok (.iload_n 1, 1) := by decide +kernel
theorem dX11_lag_1 : decode cX11_lag 1 = .ok (.iconst 0, 1) := by decide +kernel
theorem dX11_lag_2 : decode cX11_lag 2 = .ok (.iconst 5, 1) := by decide +kernel
theorem dX11_lag_3 : decode cX11_lag 3 = .ok (.invokestatic 80, 3) := by decide +kernel
theorem dX11_lag_6 : decode cX11_lag 6 = .ok (.ifCond .eq 14, 3) := by decide +kernel
theorem dX11_lag_9 : decode cX11_lag 9 = .ok (.aload_n 0, 1) := by decide +kernel
theorem dX11_lag_10 : decode cX11_lag 10 = .ok (.getfield 46, 3) := by decide +kernel
theorem dX11_lag_13 : decode cX11_lag 13 = .ok (.iload_n 1, 1) := by decide +kernel
theorem dX11_lag_14 : decode cX11_lag 14 = .ok (.invokevirtual 243, 3) := by decide +kernel
theorem dX11_lag_17 : decode cX11_lag 17 = .ok (.goto 4, 3) := by decide +kernel
theorem dX11_lag_20 : decode cX11_lag 20 = .ok (.iconst (-1), 1) := by decide +kernel
theorem dX11_lag_21 : decode cX11_lag 21 = .ok (.ireturn, 1) := by decide +kernel
theorem dX11_gift_0 : decode cX11_gift 0 = .ok (.aload_n 0, 1) := by decide +kernel
theorem dX11_gift_1 : decode cX11_gift 1 = .ok (.getfield 37, 3) := by decide +kernel
theorem dX11_gift_4 : decode cX11_gift 4 = .ok (.iload_n 1, 1) := by decide +kernel
theorem dX11_gift_5 : decode cX11_gift 5 = .ok (.invokevirtual 121, 3) := by decide +kernel
theorem dX11_gift_8 : decode cX11_gift 8 = .ok (.astore_n 3, 1) := by decide +kernel
theorem dX11_gift_9 : decode cX11_gift 9 = .ok (.aload_n 3, 1) := by decide +kernel
theorem dX11_gift_10 : decode cX11_gift 10 = .ok (.ifnull 13, 3) := by decide +kernel
theorem dX11_gift_13 : decode cX11_gift 13 = .ok (.iload_n 2, 1) := by decide +kernel
theorem dX11_gift_14 : decode cX11_gift 14 = .ok (.iconst 1, 1) := by decide +kernel
theorem dX11_gift_15 : decode cX11_gift 15 = .ok (.ldc 246, 2) := by decide +kernel
theorem dX11_gift_17 : decode cX11_gift 17 = .ok (.invokestatic 80, 3) := by decide +kernel
theorem dX11_gift_20 : decode cX11_gift 20 = .ok (.ifCond .ne 5, 3) := by decide +kernel
theorem dX11_gift_23 : decode cX11_gift 23 = .ok (.iconst (-1), 1) := by decide +kernel
theorem dX11_gift_24 : decode cX11_gift 24 = .ok (.ireturn, 1) := by decide +kernel
theorem dX11_gift_25 : decode cX11_gift 25 = .ok (.aload_n 0, 1) := by decide +kernel
theorem dX11_gift_26 : decode cX11_gift 26 = .ok (.getfield 62, 3) := by decide +kernel
theorem dX11_gift_29 : decode cX11_gift 29 = .ok (.aload_n 3, 1) := by decide +kernel
theorem dX11_gift_30 : decode cX11_gift 30 = .ok (.getfield 247, 3) := by decide +kernel
theorem dX11_gift_33 : decode cX11_gift 33 = .ok (.aload_n 0, 1) := by decide +kernel
theorem dX11_gift_34 : decode cX11_gift 34 = .ok (.getfield 37, 3) := by decide +kernel
theorem dX11_gift_37 : decode cX11_gift 37 = .ok (.getfield 250, 3) := by decide +kernel
theorem dX11_gift_40 : decode cX11_gift 40 = .ok (.aload_n 3, 1) := by decide +kernel
theorem dX11_gift_41 : decode cX11_gift 41 = .ok (.getfield 247, 3) := by decide +kernel
theorem dX11_gift_44 : decode cX11_gift 44 = .ok (.iaload, 1) := by decide +kernel
theorem dX11_gift_45 : decode cX11_gift 45 = .ok (.iload_n 2, 1) := by decide +kernel
theorem dX11_gift_46 : decode cX11_gift 46 = .ok (.aload_n 0, 1) := by decide +kernel
theorem dX11_gift_47 : decode cX11_gift 47 = .ok (.getfield 106, 3) := by decide +kernel
theorem dX11_gift_50 : decode cX11_gift 50 = .ok (.sipush 360, 3) := by decide +kernel
theorem dX11_gift_53 : decode cX11_gift 53 = .ok (.idiv, 1) := by decide +kernel
theorem dX11_gift_54 : decode cX11_gift 54 = .ok (.invokevirtual 253, 3) := by decide +kernel
theorem dX11_gift_57 : decode cX11_gift 57 = .ok (.ireturn, 1) := by decide +kernel
theorem dX11_coin_0 : decode cX11_coin 0 = .ok (.aload_n 0, 1) := by decide +kernel
theorem dX11_coin_1 : decode cX11_coin 1 = .ok (.getfield 62, 3) := by decide +kernel
theorem dX11_coin_4 : decode cX11_coin 4 = .ok (.iload_n 1, 1) := by decide +kernel
theorem dX11_coin_5 : decode cX11_coin 5 = .ok (.aload_n 0, 1) := by decide +kernel
theorem dX11_coin_6 : decode cX11_coin 6 = .ok (.getfield 106, 3) := by decide +kernel
theorem dX11_coin_9 : decode cX11_coin 9 = .ok (.sipush 360, 3) := by decide +kernel
theorem dX11_coin_12 : decode cX11_coin 12 = .ok (.idiv, 1) := by decide +kernel
theorem dX11_coin_13 : decode cX11_coin 13 = .ok (.invokevirtual 256, 3) := by decide +kernel
theorem dX11_coin_16 : decode cX11_coin 16 = .ok (.lreturn, 1) := by decide +kernel
theorem dX11_project_0 : decode cX11_project 0 = .ok (.aload_n 0, 1) := by decide +kernel
theorem dX11_project_1 : decode cX11_project 1 = .ok (.getfield 37, 3) := by decide +kernel
theorem dX11_project_4 : decode cX11_project 4 = .ok (.iload_n 1, 1) := by decide +kernel
theorem dX11_project_5 : decode cX11_project 5 = .ok (.invokevirtual 92, 3) := by decide +kernel
theorem dX11_project_8 : decode cX11_project 8 = .ok (.ifCond .eq 24, 3) := by decide +kernel
theorem dX11_project_11 : decode cX11_project 11 = .ok (.iload_n 2, 1) := by decide +kernel
theorem dX11_project_12 : decode cX11_project 12 = .ok (.iconst 1, 1) := by decide +kernel
theorem dX11_project_13 : decode cX11_project 13 = .ok (.ldc 246, 2) := by decide +kernel
theorem dX11_project_15 : decode cX11_project 15 = .ok (.invokestatic 80, 3) := by decide +kernel
theorem dX11_project_18 : decode cX11_project 18 = .ok (.ifCond .eq 14, 3) := by decide +kernel
theorem dX11_project_21 : decode cX11_project 21 = .ok (.iload_n 3, 1) := by decide +kernel
theorem dX11_project_22 : decode cX11_project 22 = .ok (.iconst 0, 1) := by decide +kernel
theorem dX11_project_23 : decode cX11_project 23 = .ok (.sipush 1000, 3) := by decide +kernel
theorem dX11_project_26 : decode cX11_project 26 = .ok (.invokestatic 80, 3) := by decide +kernel
theorem dX11_project_29 : decode cX11_project 29 = .ok (.ifCond .ne 5, 3) := by decide +kernel
theorem dX11_project_32 : decode cX11_project 32 = .ok (.iconst (-1), 1) := by decide +kernel
theorem dX11_project_33 : decode cX11_project 33 = .ok (.ireturn, 1) := by decide +kernel
theorem dX11_project_34 : decode cX11_project 34 = .ok (.aload_n 0, 1) := by decide +kernel
theorem dX11_project_35 : decode cX11_project 35 = .ok (.getfield 62, 3) := by decide +kernel
theorem dX11_project_38 : decode cX11_project 38 = .ok (.iload_n 1, 1) := by decide +kernel
theorem dX11_project_39 : decode cX11_project 39 = .ok (.iload_n 2, 1) := by decide +kernel
theorem dX11_project_40 : decode cX11_project 40 = .ok (.iload_n 3, 1) := by decide +kernel
theorem dX11_project_41 : decode cX11_project 41 = .ok (.invokevirtual 259, 3) := by decide +kernel
theorem dX11_project_44 : decode cX11_project 44 = .ok (.ireturn, 1) := by decide +kernel
theorem dX11_choice_0 : decode cX11_choice 0 = .ok (.aload_n 0, 1) := by decide +kernel
theorem dX11_choice_1 : decode cX11_choice 1 = .ok (.getfield 37, 3) := by decide +kernel
theorem dX11_choice_4 : decode cX11_choice 4 = .ok (.iload_n 1, 1) := by decide +kernel
theorem dX11_choice_5 : decode cX11_choice 5 = .ok (.invokevirtual 92, 3) := by decide +kernel
theorem dX11_choice_8 : decode cX11_choice 8 = .ok (.ifCond .eq 14, 3) := by decide +kernel
theorem dX11_choice_11 : decode cX11_choice 11 = .ok (.aload_n 0, 1) := by decide +kernel
theorem dX11_choice_12 : decode cX11_choice 12 = .ok (.getfield 62, 3) := by decide +kernel
theorem dX11_choice_15 : decode cX11_choice 15 = .ok (.iload_n 1, 1) := by decide +kernel
theorem dX11_choice_16 : decode cX11_choice 16 = .ok (.invokevirtual 262, 3) := by decide +kernel
theorem dX11_choice_19 : decode cX11_choice 19 = .ok (.goto 4, 3) := by decide +kernel
theorem dX11_choice_22 : decode cX11_choice 22 = .ok (.iconst (-1), 1) := by decide +kernel
theorem dX11_choice_23 : decode cX11_choice 23 = .ok (.ireturn, 1) := by decide +kernel
theorem dX11_build_0 : decode cX11_build 0 = .ok (.aload_n 0, 1) := by decide +kernel
theorem dX11_build_1 : decode cX11_build 1 = .ok (.getfield 37, 3) := by decide +kernel
theorem dX11_build_4 : decode cX11_build 4 = .ok (.iload_n 1, 1) := by decide +kernel
theorem dX11_build_5 : decode cX11_build 5 = .ok (.invokevirtual 92, 3) := by decide +kernel
theorem dX11_build_8 : decode cX11_build 8 = .ok (.ifCond .eq 14, 3) := by decide +kernel
theorem dX11_build_11 : decode cX11_build 11 = .ok (.aload_n 0, 1) := by decide +kernel
theorem dX11_build_12 : decode cX11_build 12 = .ok (.getfield 62, 3) := by decide +kernel
theorem dX11_build_15 : decode cX11_build 15 = .ok (.iload_n 1, 1) := by decide +kernel
theorem dX11_build_16 : decode cX11_build 16 = .ok (.invokevirtual 265, 3) := by decide +kernel
theorem dX11_build_19 : decode cX11_build 19 = .ok (.goto 4, 3) := by decide +kernel
theorem dX11_build_22 : decode cX11_build 22 = .ok (.iconst (-1), 1) := by decide +kernel
theorem dX11_build_23 : decode cX11_build 23 = .ok (.ireturn, 1) := by decide +kernel
theorem dX11_leaves_0 : decode cX11_leaves 0 = .ok (.aload_n 0, 1) := by decide +kernel
theorem dX11_leaves_1 : decode cX11_leaves 1 = .ok (.getfield 37, 3) := by decide +kernel
theorem dX11_leaves_4 : decode cX11_leaves 4 = .ok (.iload_n 1, 1) := by decide +kernel
theorem dX11_leaves_5 : decode cX11_leaves 5 = .ok (.invokevirtual 96, 3) := by decide +kernel
theorem dX11_leaves_8 : decode cX11_leaves 8 = .ok (.ifCond .eq 26, 3) := by decide +kernel
theorem dX11_leaves_11 : decode cX11_leaves 11 = .ok (.iload_n 2, 1) := by decide +kernel
theorem dX11_leaves_12 : decode cX11_leaves 12 = .ok (.iconst (-1), 1) := by decide +kernel
theorem dX11_leaves_13 : decode cX11_leaves 13 = .ok (.sipush 3599, 3) := by decide +kernel
theorem dX11_leaves_16 : decode cX11_leaves 16 = .ok (.invokestatic 80, 3) := by decide +kernel
theorem dX11_leaves_19 : decode cX11_leaves 19 = .ok (.ifCond .eq 15, 3) := by decide +kernel
theorem dX11_leaves_22 : decode cX11_leaves 22 = .ok (.aload_n 0, 1) := by decide +kernel
theorem dX11_leaves_23 : decode cX11_leaves 23 = .ok (.getfield 37, 3) := by decide +kernel
theorem dX11_leaves_26 : decode cX11_leaves 26 = .ok (.getfield 268, 3) := by decide +kernel
theorem dX11_leaves_29 : decode cX11_leaves 29 = .ok (.bipush 100, 2) := by decide +kernel
theorem dX11_leaves_31 : decode cX11_leaves 31 = .ok (.if_icmp .lt 5, 3) := by decide +kernel
theorem dX11_leaves_34 : decode cX11_leaves 34 = .ok (.iconst 0, 1) := by decide +kernel
theorem dX11_leaves_35 : decode cX11_leaves 35 = .ok (.ireturn, 1) := by decide +kernel
theorem dX11_leaves_36 : decode cX11_leaves 36 = .ok (.aload_n 0, 1) := by decide +kernel
theorem dX11_leaves_37 : decode cX11_leaves 37 = .ok (.getfield 37, 3) := by decide +kernel
theorem dX11_leaves_40 : decode cX11_leaves 40 = .ok (.iload_n 1, 1) := by decide +kernel
theorem dX11_leaves_41 : decode cX11_leaves 41 = .ok (.iload_n 2, 1) := by decide +kernel
theorem dX11_leaves_42 : decode cX11_leaves 42 = .ok (.aload_n 0, 1) := by decide +kernel
theorem dX11_leaves_43 : decode cX11_leaves 43 = .ok (.getfield 106, 3) := by decide +kernel
theorem dX11_leaves_46 : decode cX11_leaves 46 = .ok (.invokevirtual 271, 3) := by decide +kernel
theorem dX11_leaves_49 : decode cX11_leaves 49 = .ok (.iconst 1, 1) := by decide +kernel
theorem dX11_leaves_50 : decode cX11_leaves 50 = .ok (.ireturn, 1) := by decide +kernel
theorem dX11_left_0 : decode cX11_left 0 = .ok (.aload_n 0, 1) := by decide +kernel
theorem dX11_left_1 : decode cX11_left 1 = .ok (.getfield 37, 3) := by decide +kernel
theorem dX11_left_4 : decode cX11_left 4 = .ok (.iload_n 1, 1) := by decide +kernel
theorem dX11_left_5 : decode cX11_left 5 = .ok (.invokevirtual 96, 3) := by decide +kernel
theorem dX11_left_8 : decode cX11_left 8 = .ok (.ifCond .eq 14, 3) := by decide +kernel
theorem dX11_left_11 : decode cX11_left 11 = .ok (.iload_n 2, 1) := by decide +kernel
theorem dX11_left_12 : decode cX11_left 12 = .ok (.iconst 0, 1) := by decide +kernel
theorem dX11_left_13 : decode cX11_left 13 = .ok (.sipush 3599, 3) := by decide +kernel
theorem dX11_left_16 : decode cX11_left 16 = .ok (.invokestatic 80, 3) := by decide +kernel
theorem dX11_left_19 : decode cX11_left 19 = .ok (.ifCond .ne 5, 3) := by decide +kernel
theorem dX11_left_22 : decode cX11_left 22 = .ok (.iconst (-1), 1) := by decide +kernel
theorem dX11_left_23 : decode cX11_left 23 = .ok (.ireturn, 1) := by decide +kernel
theorem dX11_left_24 : decode cX11_left 24 = .ok (.aload_n 0, 1) := by decide +kernel
theorem dX11_left_25 : decode cX11_left 25 = .ok (.getfield 37, 3) := by decide +kernel
theorem dX11_left_28 : decode cX11_left 28 = .ok (.iload_n 1, 1) := by decide +kernel
theorem dX11_left_29 : decode cX11_left 29 = .ok (.iload_n 2, 1) := by decide +kernel
theorem dX11_left_30 : decode cX11_left 30 = .ok (.invokevirtual 275, 3) := by decide +kernel
theorem dX11_left_33 : decode cX11_left 33 = .ok (.ireturn, 1) := by decide +kernel
theorem dX11_amiss_0 : decode cX11_amiss 0 = .ok (.iload_n 1, 1) := by decide +kernel
theorem dX11_amiss_1 : decode cX11_amiss 1 = .ok (.iconst 0, 1) := by decide +kernel
theorem dX11_amiss_2 : decode cX11_amiss 2 = .ok (.sipush 3599, 3) := by decide +kernel
theorem dX11_amiss_5 : decode cX11_amiss 5 = .ok (.invokestatic 80, 3) := by decide +kernel
theorem dX11_amiss_8 : decode cX11_amiss 8 = .ok (.ifCond .eq 14, 3) := by decide +kernel
theorem dX11_amiss_11 : decode cX11_amiss 11 = .ok (.aload_n 0, 1) := by decide +kernel
theorem dX11_amiss_12 : decode cX11_amiss 12 = .ok (.getfield 46, 3) := by decide +kernel
theorem dX11_amiss_15 : decode cX11_amiss 15 = .ok (.iload_n 1, 1) := by decide +kernel
theorem dX11_amiss_16 : decode cX11_amiss 16 = .ok (.invokevirtual 278, 3) := by decide +kernel
theorem dX11_amiss_19 : decode cX11_amiss 19 = .ok (.goto 4, 3) := by decide +kernel
theorem dX11_amiss_22 : decode cX11_amiss 22 = .ok (.iconst (-1), 1) := by decide +kernel
theorem dX11_amiss_23 : decode cX11_amiss 23 = .ok (.ireturn, 1) := by decide +kernel
theorem dX11_silent_0 : decode cX11_silent 0 = .ok (.aload_n 0, 1) := by decide +kernel
theorem dX11_silent_1 : decode cX11_silent 1 = .ok (.getfield 37, 3) := by decide +kernel
theorem dX11_silent_4 : decode cX11_silent 4 = .ok (.iload_n 1, 1) := by decide +kernel
theorem dX11_silent_5 : decode cX11_silent 5 = .ok (.invokevirtual 121, 3) := by decide +kernel
theorem dX11_silent_8 : decode cX11_silent 8 = .ok (.astore_n 2, 1) := by decide +kernel
theorem dX11_silent_9 : decode cX11_silent 9 = .ok (.aload_n 2, 1) := by decide +kernel
theorem dX11_silent_10 : decode cX11_silent 10 = .ok (.ifnonnull 5, 3) := by decide +kernel
theorem dX11_silent_13 : decode cX11_silent 13 = .ok (.iconst (-1), 1) := by decide +kernel
theorem dX11_silent_14 : decode cX11_silent 14 = .ok (.ireturn, 1) := by decide +kernel
theorem dX11_silent_15 : decode cX11_silent 15 = .ok (.aload_n 2, 1) := by decide +kernel
theorem dX11_silent_16 : decode cX11_silent 16 = .ok (.getfield 281, 3) := by decide +kernel
theorem dX11_silent_19 : decode cX11_silent 19 = .ok (.iconst (-1), 1) := by decide +kernel
theorem dX11_silent_20 : decode cX11_silent 20 = .ok (.if_icmp .ne 10, 3) := by decide +kernel
theorem dX11_silent_23 : decode cX11_silent 23 = .ok (.aload_n 2, 1) := by decide +kernel
theorem dX11_silent_24 : decode cX11_silent 24 = .ok (.getfield 284, 3) := by decide +kernel
theorem dX11_silent_27 : decode cX11_silent 27 = .ok (.goto 7, 3) := by decide +kernel
theorem dX11_silent_30 : decode cX11_silent 30 = .ok (.aload_n 2, 1) := by decide +kernel
theorem dX11_silent_31 : decode cX11_silent 31 = .ok (.getfield 281, 3) := by decide +kernel
theorem dX11_silent_34 : decode cX11_silent 34 = .ok (.istore_n 3, 1) := by decide +kernel
theorem dX11_silent_35 : decode cX11_silent 35 = .ok (.aload_n 0, 1) := by decide +kernel
theorem dX11_silent_36 : decode cX11_silent 36 = .ok (.getfield 106, 3) := by decide +kernel
theorem dX11_silent_39 : decode cX11_silent 39 = .ok (.bipush 30, 2) := by decide +kernel
theorem dX11_silent_41 : decode cX11_silent 41 = .ok (.idiv, 1) := by decide +kernel
theorem dX11_silent_42 : decode cX11_silent 42 = .ok (.iload_n 3, 1) := by decide +kernel
theorem dX11_silent_43 : decode cX11_silent 43 = .ok (.bipush 30, 2) := by decide +kernel
theorem dX11_silent_45 : decode cX11_silent 45 = .ok (.idiv, 1) := by decide +kernel
theorem dX11_silent_46 : decode cX11_silent 46 = .ok (.isub, 1) := by decide +kernel
theorem dX11_silent_47 : decode cX11_silent 47 = .ok (.ireturn, 1) := by decide +kernel
theorem dX11_wish_0 : decode cX11_wish 0 = .ok (.aload_n 0, 1) := by decide +kernel
theorem dX11_wish_1 : decode cX11_wish 1 = .ok (.getfield 37, 3) := by decide +kernel
theorem dX11_wish_4 : decode cX11_wish 4 = .ok (.iload_n 1, 1) := by decide +kernel
theorem dX11_wish_5 : decode cX11_wish 5 = .ok (.invokevirtual 103, 3) := by decide +kernel
theorem dX11_wish_8 : decode cX11_wish 8 = .ok (.ifCond .eq 23, 3) := by decide +kernel
theorem dX11_wish_11 : decode cX11_wish 11 = .ok (.iload_n 2, 1) := by decide +kernel
theorem dX11_wish_12 : decode cX11_wish 12 = .ok (.iconst 0, 1) := by decide +kernel
theorem dX11_wish_13 : decode cX11_wish 13 = .ok (.bipush 31, 2) := by decide +kernel
theorem dX11_wish_15 : decode cX11_wish 15 = .ok (.invokestatic 80, 3) := by decide +kernel
theorem dX11_wish_18 : decode cX11_wish 18 = .ok (.ifCond .eq 13, 3) := by decide +kernel
theorem dX11_wish_21 : decode cX11_wish 21 = .ok (.iload_n 3, 1) := by decide +kernel
theorem dX11_wish_22 : decode cX11_wish 22 = .ok (.iconst 0, 1) := by decide +kernel
theorem dX11_wish_23 : decode cX11_wish 23 = .ok (.bipush 63, 2) := by decide +kernel
theorem dX11_wish_25 : decode cX11_wish 25 = .ok (.invokestatic 80, 3) := by decide +kernel
theorem dX11_wish_28 : decode cX11_wish 28 = .ok (.ifCond .ne 5, 3) := by decide +kernel
theorem dX11_wish_31 : decode cX11_wish 31 = .ok (.iconst 0, 1) := by decide +kernel
theorem dX11_wish_32 : decode cX11_wish 32 = .ok (.ireturn, 1) := by decide +kernel
theorem dX11_wish_33 : decode cX11_wish 33 = .ok (.aload_n 0, 1) := by decide +kernel
theorem dX11_wish_34 : decode cX11_wish 34 = .ok (.getfield 69, 3) := by decide +kernel
theorem dX11_wish_37 : decode cX11_wish 37 = .ok (.iload_n 1, 1) := by decide +kernel
theorem dX11_wish_38 : decode cX11_wish 38 = .ok (.iload_n 2, 1) := by decide +kernel
theorem dX11_wish_39 : decode cX11_wish 39 = .ok (.iload_n 3, 1) := by decide +kernel
theorem dX11_wish_40 : decode cX11_wish 40 = .ok (.invokevirtual 287, 3) := by decide +kernel
theorem dX11_wish_43 : decode cX11_wish 43 = .ok (.iconst 1, 1) := by decide +kernel
theorem dX11_wish_44 : decode cX11_wish 44 = .ok (.ireturn, 1) := by decide +kernel
theorem dX11_pairing_0 : decode cX11_pairing 0 = .ok (.aload_n 0, 1) := by decide +kernel
theorem dX11_pairing_1 : decode cX11_pairing 1 = .ok (.getfield 69, 3) := by decide +kernel
theorem dX11_pairing_4 : decode cX11_pairing 4 = .ok (.aload_n 0, 1) := by decide +kernel
theorem dX11_pairing_5 : decode cX11_pairing 5 = .ok (.getfield 37, 3) := by decide +kernel
theorem dX11_pairing_8 : decode cX11_pairing 8 = .ok (.aload_n 0, 1) := by decide +kernel
theorem dX11_pairing_9 : decode cX11_pairing 9 = .ok (.getfield 106, 3) := by decide +kernel
theorem dX11_pairing_12 : decode cX11_pairing 12 = .ok (.invokevirtual 289, 3) := by decide +kernel
theorem dX11_pairing_15 : decode cX11_pairing 15 = .ok (.ireturn, 1) := by decide +kernel
theorem dX11_trial_0 : decode cX11_trial 0 = .ok (.iload_n 1, 1) := by decide +kernel
theorem dX11_trial_1 : decode cX11_trial 1 = .ok (.iconst 0, 1) := by decide +kernel
theorem dX11_trial_2 : decode cX11_trial 2 = .ok (.iconst 1, 1) := by decide +kernel
theorem dX11_trial_3 : decode cX11_trial 3 = .ok (.aload_n 0, 1) := by decide +kernel
theorem dX11_trial_4 : decode cX11_trial 4 = .ok (.getfield 37, 3) := by decide +kernel
theorem dX11_trial_7 : decode cX11_trial 7 = .ok (.getfield 293, 3) := by decide +kernel
theorem dX11_trial_10 : decode cX11_trial 10 = .ok (.ishl, 1) := by decide +kernel
theorem dX11_trial_11 : decode cX11_trial 11 = .ok (.iconst 1, 1) := by decide +kernel
theorem dX11_trial_12 : decode cX11_trial 12 = .ok (.isub, 1) := by decide +kernel
theorem dX11_trial_13 : decode cX11_trial 13 = .ok (.invokestatic 80, 3) := by decide +kernel
theorem dX11_trial_16 : decode cX11_trial 16 = .ok (.istore_n 3, 1) := by decide +kernel
theorem dX11_trial_17 : decode cX11_trial 17 = .ok (.iload_n 3, 1) := by decide +kernel
theorem dX11_trial_18 : decode cX11_trial 18 = .ok (.ifCond .eq 11, 3) := by decide +kernel
theorem dX11_trial_21 : decode cX11_trial 21 = .ok (.iload_n 2, 1) := by decide +kernel
theorem dX11_trial_22 : decode cX11_trial 22 = .ok (.iload_n 1, 1) := by decide +kernel
theorem dX11_trial_23 : decode cX11_trial 23 = .ok (.iconst (-1), 1) := by decide +kernel
theorem dX11_trial_24 : decode cX11_trial 24 = .ok (.ixor, 1) := by decide +kernel
theorem dX11_trial_25 : decode cX11_trial 25 = .ok (.iand, 1) := by decide +kernel
theorem dX11_trial_26 : decode cX11_trial 26 = .ok (.ifCond .eq 5, 3) := by decide +kernel
theorem dX11_trial_29 : decode cX11_trial 29 = .ok (.iconst 0, 1) := by decide +kernel
theorem dX11_trial_30 : decode cX11_trial 30 = .ok (.ireturn, 1) := by decide +kernel
theorem dX11_trial_31 : decode cX11_trial 31 = .ok (.aload_n 0, 1) := by decide +kernel
theorem dX11_trial_32 : decode cX11_trial 32 = .ok (.getfield 76, 3) := by decide +kernel
theorem dX11_trial_35 : decode cX11_trial 35 = .ok (.iload_n 1, 1) := by decide +kernel
theorem dX11_trial_36 : decode cX11_trial 36 = .ok (.iload_n 2, 1) := by decide +kernel
theorem dX11_trial_37 : decode cX11_trial 37 = .ok (.invokevirtual 296, 3) := by decide +kernel
theorem dX11_trial_40 : decode cX11_trial 40 = .ok (.iconst 1, 1) := by decide +kernel
theorem dX11_trial_41 : decode cX11_trial 41 = .ok (.ireturn, 1) := by decide +kernel
theorem dX11_outcome_0 : decode cX11_outcome 0 = .ok (.iload_n 2, 1) := by decide +kernel
theorem dX11_outcome_1 : decode cX11_outcome 1 = .ok (.iconst (-1), 1) := by decide +kernel
theorem dX11_outcome_2 : decode cX11_outcome 2 = .ok (.sipush 999, 3) := by decide +kernel
theorem dX11_outcome_5 : decode cX11_outcome 5 = .ok (.invokestatic 80, 3) := by decide +kernel
theorem dX11_outcome_8 : decode cX11_outcome 8 = .ok (.ifCond .eq 14, 3) := by decide +kernel
theorem dX11_outcome_11 : decode cX11_outcome 11 = .ok (.aload_n 0, 1) := by decide +kernel
theorem dX11_outcome_12 : decode cX11_outcome 12 = .ok (.getfield 76, 3) := by decide +kernel
theorem dX11_outcome_15 : decode cX11_outcome 15 = .ok (.iload_n 1, 1) := by decide +kernel
theorem dX11_outcome_16 : decode cX11_outcome 16 = .ok (.invokevirtual 299, 3) := by decide +kernel
theorem dX11_outcome_19 : decode cX11_outcome 19 = .ok (.ifCond .ne 5, 3) := by decide +kernel
theorem dX11_outcome_22 : decode cX11_outcome 22 = .ok (.iconst 0, 1) := by decide +kernel
theorem dX11_outcome_23 : decode cX11_outcome 23 = .ok (.ireturn, 1) := by decide +kernel
theorem dX11_outcome_24 : decode cX11_outcome 24 = .ok (.aload_n 0, 1) := by decide +kernel
theorem dX11_outcome_25 : decode cX11_outcome 25 = .ok (.getfield 76, 3) := by decide +kernel
theorem dX11_outcome_28 : decode cX11_outcome 28 = .ok (.getfield 302, 3) := by decide +kernel
theorem dX11_outcome_31 : decode cX11_outcome 31 = .ok (.iload_n 1, 1) := by decide +kernel
theorem dX11_outcome_32 : decode cX11_outcome 32 = .ok (.iload_n 2, 1) := by decide +kernel
theorem dX11_outcome_33 : decode cX11_outcome 33 = .ok (.iastore, 1) := by decide +kernel
theorem dX11_outcome_34 : decode cX11_outcome 34 = .ok (.iconst 1, 1) := by decide +kernel
theorem dX11_outcome_35 : decode cX11_outcome 35 = .ok (.ireturn, 1) := by decide +kernel
theorem dX11_doubt_0 : decode cX11_doubt 0 = .ok (.iload_n 1, 1) := by decide +kernel
theorem dX11_doubt_1 : decode cX11_doubt 1 = .ok (.tableswitch 73 0 2 #[27, 36, 45], 27) := by decide +kernel
theorem dX11_doubt_28 : decode cX11_doubt 28 = .ok (.aload_n 0, 1) := by decide +kernel
theorem dX11_doubt_29 : decode cX11_doubt 29 = .ok (.getfield 76, 3) := by decide +kernel
theorem dX11_doubt_32 : decode cX11_doubt 32 = .ok (.iconst 1, 1) := by decide +kernel
theorem dX11_doubt_33 : decode cX11_doubt 33 = .ok (.invokevirtual 305, 3) := by decide +kernel
theorem dX11_doubt_36 : decode cX11_doubt 36 = .ok (.ireturn, 1) := by decide +kernel
theorem dX11_doubt_37 : decode cX11_doubt 37 = .ok (.aload_n 0, 1) := by decide +kernel
theorem dX11_doubt_38 : decode cX11_doubt 38 = .ok (.getfield 76, 3) := by decide +kernel
theorem dX11_doubt_41 : decode cX11_doubt 41 = .ok (.iconst 0, 1) := by decide +kernel
theorem dX11_doubt_42 : decode cX11_doubt 42 = .ok (.invokevirtual 305, 3) := by decide +kernel
theorem dX11_doubt_45 : decode cX11_doubt 45 = .ok (.ireturn, 1) := by decide +kernel
theorem dX11_doubt_46 : decode cX11_doubt 46 = .ok (.bipush 20, 2) := by decide +kernel
theorem dX11_doubt_48 : decode cX11_doubt 48 = .ok (.aload_n 0, 1) := by decide +kernel
theorem dX11_doubt_49 : decode cX11_doubt 49 = .ok (.getfield 76, 3) := by decide +kernel
theorem dX11_doubt_52 : decode cX11_doubt 52 = .ok (.iconst 1, 1) := by decide +kernel
theorem dX11_doubt_53 : decode cX11_doubt 53 = .ok (.invokevirtual 305, 3) := by decide +kernel
theorem dX11_doubt_56 : decode cX11_doubt 56 = .ok (.imul, 1) := by decide +kernel
theorem dX11_doubt_57 : decode cX11_doubt 57 = .ok (.aload_n 0, 1) := by decide +kernel
theorem dX11_doubt_58 : decode cX11_doubt 58 = .ok (.getfield 76, 3) := by decide +kernel
theorem dX11_doubt_61 : decode cX11_doubt 61 = .ok (.iconst 0, 1) := by decide +kernel
theorem dX11_doubt_62 : decode cX11_doubt 62 = .ok (.invokevirtual 305, 3) := by decide +kernel
theorem dX11_doubt_65 : decode cX11_doubt 65 = .ok (.if_icmp .gt 7, 3) := by decide +kernel
theorem dX11_doubt_68 : decode cX11_doubt 68 = .ok (.iconst 1, 1) := by decide +kernel
theorem dX11_doubt_69 : decode cX11_doubt 69 = .ok (.goto 4, 3) := by decide +kernel
theorem dX11_doubt_72 : decode cX11_doubt 72 = .ok (.iconst 0, 1) := by decide +kernel
theorem dX11_doubt_73 : decode cX11_doubt 73 = .ok (.ireturn, 1) := by decide +kernel
theorem dX11_doubt_74 : decode cX11_doubt 74 = .ok (.iconst (-1), 1) := by decide +kernel
theorem dX11_doubt_75 : decode cX11_doubt 75 = .ok (.ireturn, 1) := by decide +kernel
theorem dX11_of_0 : decode cX11_of 0 = .ok (.aload_n 0, 1) := by decide +kernel
theorem dX11_of_1 : decode cX11_of 1 = .ok (.getfield 37, 3) := by decide +kernel
theorem dX11_of_4 : decode cX11_of 4 = .ok (.iload_n 1, 1) := by decide +kernel
theorem dX11_of_5 : decode cX11_of 5 = .ok (.invokevirtual 233, 3) := by decide +kernel
theorem dX11_of_8 : decode cX11_of 8 = .ok (.astore_n 3, 1) := by decide +kernel
theorem dX11_of_9 : decode cX11_of 9 = .ok (.aload_n 3, 1) := by decide +kernel
theorem dX11_of_10 : decode cX11_of 10 = .ok (.ifnonnull 7, 3) := by decide +kernel
theorem dX11_of_13 : decode cX11_of 13 = .ok (.iconst (-1), 1) := by decide +kernel
theorem dX11_of_14 : decode cX11_of 14 = .ok (.goto 8, 3) := by decide +kernel
theorem dX11_of_17 : decode cX11_of 17 = .ok (.aload_n 3, 1) := by decide +kernel
theorem dX11_of_18 : decode cX11_of 18 = .ok (.iload_n 2, 1) := by decide +kernel
theorem dX11_of_19 : decode cX11_of 19 = .ok (.invokevirtual 309, 3) := by decide +kernel
theorem dX11_of_22 : decode cX11_of 22 = .ok (.ireturn, 1) := by decide +kernel
theorem dX11_count_0 : decode cX11_count 0 = .ok (.iload_n 1, 1) := by decide +kernel
theorem dX11_count_1 : decode cX11_count 1 = .ok (.bipush 20, 2) := by decide +kernel
theorem dX11_count_3 : decode cX11_count 3 = .ok (.bipush 28, 2) := by decide +kernel
theorem dX11_count_5 : decode cX11_count 5 = .ok (.invokestatic 80, 3) := by decide +kernel
theorem dX11_count_8 : decode cX11_count 8 = .ok (.ifCond .eq 15, 3) := by decide +kernel
theorem dX11_count_11 : decode cX11_count 11 = .ok (.aload_n 0, 1) := by decide +kernel
theorem dX11_count_12 : decode cX11_count 12 = .ok (.getfield 46, 3) := by decide +kernel
theorem dX11_count_15 : decode cX11_count 15 = .ok (.iload_n 1, 1) := by decide +kernel
theorem dX11_count_16 : decode cX11_count 16 = .ok (.bipush 20, 2) := by decide +kernel
theorem dX11_count_18 : decode cX11_count 18 = .ok (.isub, 1) := by decide +kernel
theorem dX11_count_19 : decode cX11_count 19 = .ok (.invokevirtual 310, 3) := by decide +kernel
theorem dX11_count_22 : decode cX11_count 22 = .ok (.ireturn, 1) := by decide +kernel
theorem dX11_count_23 : decode cX11_count 23 = .ok (.iload_n 1, 1) := by decide +kernel
theorem dX11_count_24 : decode cX11_count 24 = .ok (.bipush 30, 2) := by decide +kernel
theorem dX11_count_26 : decode cX11_count 26 = .ok (.bipush 37, 2) := by decide +kernel
theorem dX11_count_28 : decode cX11_count 28 = .ok (.invokestatic 80, 3) := by decide +kernel
theorem dX11_count_31 : decode cX11_count 31 = .ok (.ifCond .eq 13, 3) := by decide +kernel
theorem dX11_count_34 : decode cX11_count 34 = .ok (.aload_n 0, 1) := by decide +kernel
theorem dX11_count_35 : decode cX11_count 35 = .ok (.getfield 13, 3) := by decide +kernel
theorem dX11_count_38 : decode cX11_count 38 = .ok (.iload_n 1, 1) := by decide +kernel
theorem dX11_count_39 : decode cX11_count 39 = .ok (.bipush 30, 2) := by decide +kernel
theorem dX11_count_41 : decode cX11_count 41 = .ok (.isub, 1) := by decide +kernel
theorem dX11_count_42 : decode cX11_count 42 = .ok (.iaload, 1) := by decide +kernel
theorem dX11_count_43 : decode cX11_count 43 = .ok (.ireturn, 1) := by decide +kernel
theorem dX11_count_44 : decode cX11_count 44 = .ok (.iload_n 1, 1) := by decide +kernel
theorem dX11_count_45 : decode cX11_count 45 = .ok (.tableswitch 204 0 15 #[79, 84, 92, 100, 108, 116, 124, 132, 140, 148, 156, 164, 169, 177, 188, 196], 79) := by decide +kernel
theorem dX11_count_124 : decode cX11_count 124 = .ok (.aload_n 0, 1) := by decide +kernel
theorem dX11_count_125 : decode cX11_count 125 = .ok (.getfield 106, 3) := by decide +kernel
theorem dX11_count_128 : decode cX11_count 128 = .ok (.ireturn, 1) := by decide +kernel
theorem dX11_count_129 : decode cX11_count 129 = .ok (.aload_n 0, 1) := by decide +kernel
theorem dX11_count_130 : decode cX11_count 130 = .ok (.getfield 37, 3) := by decide +kernel
theorem dX11_count_133 : decode cX11_count 133 = .ok (.getfield 313, 3) := by decide +kernel
theorem dX11_count_136 : decode cX11_count 136 = .ok (.ireturn, 1) := by decide +kernel
theorem dX11_count_137 : decode cX11_count 137 = .ok (.aload_n 0, 1) := by decide +kernel
theorem dX11_count_138 : decode cX11_count 138 = .ok (.getfield 37, 3) := by decide +kernel
theorem dX11_count_141 : decode cX11_count 141 = .ok (.getfield 316, 3) := by decide +kernel
theorem dX11_count_144 : decode cX11_count 144 = .ok (.ireturn, 1) := by decide +kernel
theorem dX11_count_145 : decode cX11_count 145 = .ok (.aload_n 0, 1) := by decide +kernel
theorem dX11_count_146 : decode cX11_count 146 = .ok (.getfield 37, 3) := by decide +kernel
theorem dX11_count_149 : decode cX11_count 149 = .ok (.getfield 293, 3) := by decide +kernel
theorem dX11_count_152 : decode cX11_count 152 = .ok (.ireturn, 1) := by decide +kernel
theorem dX11_count_153 : decode cX11_count 153 = .ok (.aload_n 0, 1) := by decide +kernel
theorem dX11_count_154 : decode cX11_count 154 = .ok (.getfield 37, 3) := by decide +kernel
theorem dX11_count_157 : decode cX11_count 157 = .ok (.getfield 319, 3) := by decide +kernel
theorem dX11_count_160 : decode cX11_count 160 = .ok (.ireturn, 1) := by decide +kernel
theorem dX11_count_161 : decode cX11_count 161 = .ok (.aload_n 0, 1) := by decide +kernel
theorem dX11_count_162 : decode cX11_count 162 = .ok (.getfield 37, 3) := by decide +kernel
theorem dX11_count_165 : decode cX11_count 165 = .ok (.invokevirtual 322, 3) := by decide +kernel
theorem dX11_count_168 : decode cX11_count 168 = .ok (.ireturn, 1) := by decide +kernel
theorem dX11_count_169 : decode cX11_count 169 = .ok (.aload_n 0, 1) := by decide +kernel
theorem dX11_count_170 : decode cX11_count 170 = .ok (.getfield 46, 3) := by decide +kernel
theorem dX11_count_173 : decode cX11_count 173 = .ok (.getfield 169, 3) := by decide +kernel
theorem dX11_count_176 : decode cX11_count 176 = .ok (.ireturn, 1) := by decide +kernel
theorem dX11_count_177 : decode cX11_count 177 = .ok (.aload_n 0, 1) := by decide +kernel
theorem dX11_count_178 : decode cX11_count 178 = .ok (.getfield 46, 3) := by decide +kernel
theorem dX11_count_181 : decode cX11_count 181 = .ok (.getfield 326, 3) := by decide +kernel
theorem dX11_count_184 : decode cX11_count 184 = .ok (.ireturn, 1) := by decide +kernel
theorem dX11_count_185 : decode cX11_count 185 = .ok (.aload_n 0, 1) := by decide +kernel
theorem dX11_count_186 : decode cX11_count 186 = .ok (.getfield 46, 3) := by decide +kernel
theorem dX11_count_189 : decode cX11_count 189 = .ok (.invokevirtual 329, 3) := by decide +kernel
theorem dX11_count_192 : decode cX11_count 192 = .ok (.ireturn, 1) := by decide +kernel
theorem dX11_count_193 : decode cX11_count 193 = .ok (.aload_n 0, 1) := by decide +kernel
theorem dX11_count_194 : decode cX11_count 194 = .ok (.getfield 53, 3) := by decide +kernel
theorem dX11_count_197 : decode cX11_count 197 = .ok (.getfield 332, 3) := by decide +kernel
theorem dX11_count_200 : decode cX11_count 200 = .ok (.ireturn, 1) := by decide +kernel
theorem dX11_count_201 : decode cX11_count 201 = .ok (.aload_n 0, 1) := by decide +kernel
theorem dX11_count_202 : decode cX11_count 202 = .ok (.getfield 20, 3) := by decide +kernel
theorem dX11_count_205 : decode cX11_count 205 = .ok (.getfield 333, 3) := by decide +kernel
theorem dX11_count_208 : decode cX11_count 208 = .ok (.ireturn, 1) := by decide +kernel
theorem dX11_count_209 : decode cX11_count 209 = .ok (.aload_n 0, 1) := by decide +kernel
theorem dX11_count_210 : decode cX11_count 210 = .ok (.getfield 136, 3) := by decide +kernel
theorem dX11_count_213 : decode cX11_count 213 = .ok (.ireturn, 1) := by decide +kernel
theorem dX11_count_214 : decode cX11_count 214 = .ok (.aload_n 0, 1) := by decide +kernel
theorem dX11_count_215 : decode cX11_count 215 = .ok (.getfield 62, 3) := by decide +kernel
theorem dX11_count_218 : decode cX11_count 218 = .ok (.getfield 334, 3) := by decide +kernel
theorem dX11_count_221 : decode cX11_count 221 = .ok (.ireturn, 1) := by decide +kernel
theorem dX11_count_222 : decode cX11_count 222 = .ok (.aload_n 0, 1) := by decide +kernel
theorem dX11_count_223 : decode cX11_count 223 = .ok (.getfield 62, 3) := by decide +kernel
theorem dX11_count_226 : decode cX11_count 226 = .ok (.getfield 337, 3) := by decide +kernel
theorem dX11_count_229 : decode cX11_count 229 = .ok (.invokestatic 340, 3) := by decide +kernel
theorem dX11_count_232 : decode cX11_count 232 = .ok (.ireturn, 1) := by decide +kernel
theorem dX11_count_233 : decode cX11_count 233 = .ok (.aload_n 0, 1) := by decide +kernel
theorem dX11_count_234 : decode cX11_count 234 = .ok (.getfield 69, 3) := by decide +kernel
theorem dX11_count_237 : decode cX11_count 237 = .ok (.invokevirtual 345, 3) := by decide +kernel
theorem dX11_count_240 : decode cX11_count 240 = .ok (.ireturn, 1) := by decide +kernel
theorem dX11_count_241 : decode cX11_count 241 = .ok (.aload_n 0, 1) := by decide +kernel
theorem dX11_count_242 : decode cX11_count 242 = .ok (.getfield 37, 3) := by decide +kernel
theorem dX11_count_245 : decode cX11_count 245 = .ok (.getfield 268, 3) := by decide +kernel
theorem dX11_count_248 : decode cX11_count 248 = .ok (.ireturn, 1) := by decide +kernel
theorem dX11_count_249 : decode cX11_count 249 = .ok (.iconst (-1), 1) := by decide +kernel
theorem dX11_count_250 : decode cX11_count 250 = .ok (.ireturn, 1) := by decide +kernel
theorem dX11_feedBytes_0 : decode cX11_feedBytes 0 = .ok (.bipush 24, 2) := by decide +kernel
theorem dX11_feedBytes_2 : decode cX11_feedBytes 2 = .ok (.istore_n 2, 1) := by decide +kernel
theorem dX11_feedBytes_3 : decode cX11_feedBytes 3 = .ok (.iload_n 2, 1) := by decide +kernel
theorem dX11_feedBytes_4 : decode cX11_feedBytes 4 = .ok (.ifCond .lt 46, 3) := by decide +kernel
theorem dX11_feedBytes_7 : decode cX11_feedBytes 7 = .ok (.aload_n 0, 1) := by decide +kernel
theorem dX11_feedBytes_8 : decode cX11_feedBytes 8 = .ok (.getfield 136, 3) := by decide +kernel
theorem dX11_feedBytes_11 : decode cX11_feedBytes 11 = .ok (.sipush 240, 3) := by decide +kernel
theorem dX11_feedBytes_14 : decode cX11_feedBytes 14 = .ok (.if_icmp .ge 36, 3) := by decide +kernel
theorem dX11_feedBytes_17 : decode cX11_feedBytes 17 = .ok (.aload_n 0, 1) := by decide +kernel
theorem dX11_feedBytes_18 : decode cX11_feedBytes 18 = .ok (.getfield 9, 3) := by decide +kernel
theorem dX11_feedBytes_21 : decode cX11_feedBytes 21 = .ok (.aload_n 0, 1) := by decide +kernel
theorem dX11_feedBytes_22 : decode cX11_feedBytes 22 = .ok (.getfield 136, 3) := by decide +kernel
theorem dX11_feedBytes_25 : decode cX11_feedBytes 25 = .ok (.iload_n 1, 1) := by decide +kernel
theorem dX11_feedBytes_26 : decode cX11_feedBytes 26 = .ok (.iload_n 2, 1) := by decide +kernel
theorem dX11_feedBytes_27 : decode cX11_feedBytes 27 = .ok (.iushr, 1) := by decide +kernel
theorem dX11_feedBytes_28 : decode cX11_feedBytes 28 = .ok (.sipush 255, 3) := by decide +kernel
theorem dX11_feedBytes_31 : decode cX11_feedBytes 31 = .ok (.iand, 1) := by decide +kernel
theorem dX11_feedBytes_32 : decode cX11_feedBytes 32 = .ok (.i2c, 1) := by decide +kernel
theorem dX11_feedBytes_33 : decode cX11_feedBytes 33 = .ok (.castore, 1) := by decide +kernel
theorem dX11_feedBytes_34 : decode cX11_feedBytes 34 = .ok (.aload_n 0, 1) := by decide +kernel
theorem dX11_feedBytes_35 : decode cX11_feedBytes 35 = .ok (.dup, 1) := by decide +kernel
theorem dX11_feedBytes_36 : decode cX11_feedBytes 36 = .ok (.getfield 136, 3) := by decide +kernel
theorem dX11_feedBytes_39 : decode cX11_feedBytes 39 = .ok (.iconst 1, 1) := by decide +kernel
theorem dX11_feedBytes_40 : decode cX11_feedBytes 40 = .ok (.iadd, 1) := by decide +kernel
theorem dX11_feedBytes_41 : decode cX11_feedBytes 41 = .ok (.putfield 136, 3) := by decide +kernel
theorem dX11_feedBytes_44 : decode cX11_feedBytes 44 = .ok (.iinc 2 (-8), 3) := by decide +kernel
theorem dX11_feedBytes_47 : decode cX11_feedBytes 47 = .ok (.goto (-44), 3) := by decide +kernel
theorem dX11_feedBytes_50 : decode cX11_feedBytes 50 = .ok (.return_, 1) := by decide +kernel
theorem dX11_tapeHasText_0 : decode cX11_tapeHasText 0 = .ok (.iload_n 1, 1) := by decide +kernel
theorem dX11_tapeHasText_1 : decode cX11_tapeHasText 1 = .ok (.iconst 1, 1) := by decide +kernel
theorem dX11_tapeHasText_2 : decode cX11_tapeHasText 2 = .ok (.if_icmp .lt 18, 3) := by decide +kernel
theorem dX11_tapeHasText_5 : decode cX11_tapeHasText 5 = .ok (.iload_n 1, 1) := by decide +kernel
theorem dX11_tapeHasText_6 : decode cX11_tapeHasText 6 = .ok (.sipush 160, 3) := by decide +kernel
theorem dX11_tapeHasText_9 : decode cX11_tapeHasText 9 = .ok (.if_icmp .gt 11, 3) := by decide +kernel
theorem dX11_tapeHasText_12 : decode cX11_tapeHasText 12 = .ok (.iload_n 1, 1) := by decide +kernel
theorem dX11_tapeHasText_13 : decode cX11_tapeHasText 13 = .ok (.aload_n 0, 1) := by decide +kernel
theorem dX11_tapeHasText_14 : decode cX11_tapeHasText 14 = .ok (.getfield 136, 3) := by decide +kernel
theorem dX11_tapeHasText_17 : decode cX11_tapeHasText 17 = .ok (.if_icmp .le 5, 3) := by decide +kernel
theorem dX11_tapeHasText_20 : decode cX11_tapeHasText 20 = .ok (.iconst 0, 1) := by decide +kernel
theorem dX11_tapeHasText_21 : decode cX11_tapeHasText 21 = .ok (.ireturn, 1) := by decide +kernel
theorem dX11_tapeHasText_22 : decode cX11_tapeHasText 22 = .ok (.iconst 0, 1) := by decide +kernel
theorem dX11_tapeHasText_23 : decode cX11_tapeHasText 23 = .ok (.istore_n 2, 1) := by decide +kernel
theorem dX11_tapeHasText_24 : decode cX11_tapeHasText 24 = .ok (.iload_n 2, 1) := by decide +kernel
theorem dX11_tapeHasText_25 : decode cX11_tapeHasText 25 = .ok (.iload_n 1, 1) := by decide +kernel
theorem dX11_tapeHasText_26 : decode cX11_tapeHasText 26 = .ok (.if_icmp .ge 45, 3) := by decide +kernel
theorem dX11_tapeHasText_29 : decode cX11_tapeHasText 29 = .ok (.aload_n 0, 1) := by decide +kernel
theorem dX11_tapeHasText_30 : decode cX11_tapeHasText 30 = .ok (.getfield 9, 3) := by decide +kernel
theorem dX11_tapeHasText_33 : decode cX11_tapeHasText 33 = .ok (.iload_n 2, 1) := by decide +kernel
theorem dX11_tapeHasText_34 : decode cX11_tapeHasText 34 = .ok (.caload, 1) := by decide +kernel
theorem dX11_tapeHasText_35 : decode cX11_tapeHasText 35 = .ok (.invokestatic 348, 3) := by decide +kernel
theorem dX11_tapeHasText_38 : decode cX11_tapeHasText 38 = .ok (.ifCond .ne 27, 3) := by decide +kernel
theorem dX11_tapeHasText_41 : decode cX11_tapeHasText 41 = .ok (.aload_n 0, 1) := by decide +kernel
theorem dX11_tapeHasText_42 : decode cX11_tapeHasText 42 = .ok (.getfield 9, 3) := by decide +kernel
theorem dX11_tapeHasText_45 : decode cX11_tapeHasText 45 = .ok (.iload_n 2, 1) := by decide +kernel
theorem dX11_tapeHasText_46 : decode cX11_tapeHasText 46 = .ok (.caload, 1) := by decide +kernel
theorem dX11_tapeHasText_47 : decode cX11_tapeHasText 47 = .ok (.bipush 32, 2) := by decide +kernel
theorem dX11_tapeHasText_49 : decode cX11_tapeHasText 49 = .ok (.if_icmp .eq 16, 3) := by decide +kernel
theorem dX11_tapeHasText_52 : decode cX11_tapeHasText 52 = .ok (.aload_n 0, 1) := by decide +kernel
theorem dX11_tapeHasText_53 : decode cX11_tapeHasText 53 = .ok (.getfield 9, 3) := by decide +kernel
theorem dX11_tapeHasText_56 : decode cX11_tapeHasText 56 = .ok (.iload_n 2, 1) := by decide +kernel
theorem dX11_tapeHasText_57 : decode cX11_tapeHasText 57 = .ok (.caload, 1) := by decide +kernel
theorem dX11_tapeHasText_58 : decode cX11_tapeHasText 58 = .ok (.bipush 10, 2) := by decide +kernel
theorem dX11_tapeHasText_60 : decode cX11_tapeHasText 60 = .ok (.if_icmp .eq 5, 3) := by decide +kernel
theorem dX11_tapeHasText_63 : decode cX11_tapeHasText 63 = .ok (.iconst 0, 1) := by decide +kernel
theorem dX11_tapeHasText_64 : decode cX11_tapeHasText 64 = .ok (.ireturn, 1) := by decide +kernel
theorem dX11_tapeHasText_65 : decode cX11_tapeHasText 65 = .ok (.iinc 2 1, 3) := by decide +kernel
theorem dX11_tapeHasText_68 : decode cX11_tapeHasText 68 = .ok (.goto (-44), 3) := by decide +kernel
theorem dX11_tapeHasText_71 : decode cX11_tapeHasText 71 = .ok (.iconst 1, 1) := by decide +kernel
theorem dX11_tapeHasText_72 : decode cX11_tapeHasText 72 = .ok (.ireturn, 1) := by decide +kernel
theorem dX11_within_0 : decode cX11_within 0 = .ok (.iload_n 0, 1) := by decide +kernel
theorem dX11_within_1 : decode cX11_within 1 = .ok (.iload_n 1, 1) := by decide +kernel
theorem dX11_within_2 : decode cX11_within 2 = .ok (.if_icmp .lt 12, 3) := by decide +kernel
theorem dX11_within_5 : decode cX11_within 5 = .ok (.iload_n 0, 1) := by decide +kernel
theorem dX11_within_6 : decode cX11_within 6 = .ok (.iload_n 2, 1) := by decide +kernel
theorem dX11_within_7 : decode cX11_within 7 = .ok (.if_icmp .gt 7, 3) := by decide +kernel
theorem dX11_within_10 : decode cX11_within 10 = .ok (.iconst 1, 1) := by decide +kernel
theorem dX11_within_11 : decode cX11_within 11 = .ok (.goto 4, 3) := by decide +kernel
theorem dX11_within_14 : decode cX11_within 14 = .ok (.iconst 0, 1) := by decide +kernel
theorem dX11_within_15 : decode cX11_within 15 = .ok (.ireturn, 1) := by decide +kernel
theorem dX11_isMark_0 : decode cX11_isMark 0 = .ok (.iload_n 0, 1) := by decide +kernel
theorem dX11_isMark_1 : decode cX11_isMark 1 = .ok (.iconst 0, 1) := by decide +kernel
theorem dX11_isMark_2 : decode cX11_isMark 2 = .ok (.bipush 99, 2) := by decide +kernel
theorem dX11_isMark_4 : decode cX11_isMark 4 = .ok (.invokestatic 80, 3) := by decide +kernel
theorem dX11_isMark_7 : decode cX11_isMark 7 = .ok (.ireturn, 1) := by decide +kernel
theorem dX11_isSmallLetter_0 : decode cX11_isSmallLetter 0 = .ok (.iload_n 0, 1) := by decide +kernel
theorem dX11_isSmallLetter_1 : decode cX11_isSmallLetter 1 = .ok (.bipush 97, 2) := by decide +kernel
theorem dX11_isSmallLetter_3 : decode cX11_isSmallLetter 3 = .ok (.if_icmp .lt 13, 3) := by decide +kernel
theorem dX11_isSmallLetter_6 : decode cX11_isSmallLetter 6 = .ok (.iload_n 0, 1) := by decide +kernel
theorem dX11_isSmallLetter_7 : decode cX11_isSmallLetter 7 = .ok (.bipush 122, 2) := by decide +kernel
theorem dX11_isSmallLetter_9 : decode cX11_isSmallLetter 9 = .ok (.if_icmp .gt 7, 3) := by decide +kernel
theorem dX11_isSmallLetter_12 : decode cX11_isSmallLetter 12 = .ok (.iconst 1, 1) := by decide +kernel
theorem dX11_isSmallLetter_13 : decode cX11_isSmallLetter 13 = .ok (.goto 4, 3) := by decide +kernel
theorem dX11_isSmallLetter_16 : decode cX11_isSmallLetter 16 = .ok (.iconst 0, 1) := by decide +kernel
theorem dX11_isSmallLetter_17 : decode cX11_isSmallLetter 17 = .ok (.ireturn, 1) := by decide +kernel
theorem dX11_isDigit_0 : decode cX11_isDigit 0 = .ok (.iload_n 0, 1) := by decide +kernel
theorem dX11_isDigit_1 : decode cX11_isDigit 1 = .ok (.bipush 48, 2) := by decide +kernel
theorem dX11_isDigit_3 : decode cX11_isDigit 3 = .ok (.if_icmp .lt 13, 3) := by decide +kernel
theorem dX11_isDigit_6 : decode cX11_isDigit 6 = .ok (.iload_n 0, 1) := by decide +kernel
theorem dX11_isDigit_7 : decode cX11_isDigit 7 = .ok (.bipush 57, 2) := by decide +kernel
theorem dX11_isDigit_9 : decode cX11_isDigit 9 = .ok (.if_icmp .gt 7, 3) := by decide +kernel
theorem dX11_isDigit_12 : decode cX11_isDigit 12 = .ok (.iconst 1, 1) := by decide +kernel
theorem dX11_isDigit_13 : decode cX11_isDigit 13 = .ok (.goto 4, 3) := by decide +kernel
theorem dX11_isDigit_16 : decode cX11_isDigit 16 = .ok (.iconst 0, 1) := by decide +kernel
theorem dX11_isDigit_17 : decode cX11_isDigit 17 = .ok (.ireturn, 1) := by decide +kernel
theorem dX11_isWordSign_0 : decode cX11_isWordSign 0 = .ok (.iload_n 0, 1) := by decide +kernel
theorem dX11_isWordSign_1 : decode cX11_isWordSign 1 = .ok (.invokestatic 351, 3) := by decide +kernel
theorem dX11_isWordSign_4 : decode cX11_isWordSign 4 = .ok (.ifCond .ne 10, 3) := by decide +kernel
theorem dX11_isWordSign_7 : decode cX11_isWordSign 7 = .ok (.iload_n 0, 1) := by decide +kernel
theorem dX11_isWordSign_8 : decode cX11_isWordSign 8 = .ok (.invokestatic 354, 3) := by decide +kernel
theorem dX11_isWordSign_11 : decode cX11_isWordSign 11 = .ok (.ifCond .eq 7, 3) := by decide +kernel
theorem dX11_isWordSign_14 : decode cX11_isWordSign 14 = .ok (.iconst 1, 1) := by decide +kernel
theorem dX11_isWordSign_15 : decode cX11_isWordSign 15 = .ok (.goto 4, 3) := by decide +kernel
theorem dX11_isWordSign_18 : decode cX11_isWordSign 18 = .ok (.iconst 0, 1) := by decide +kernel
theorem dX11_isWordSign_19 : decode cX11_isWordSign 19 = .ok (.ireturn, 1) := by decide +kernel
theorem dX12_init_0 : decode cX12_init 0 = .ok (.aload_n 0, 1) := by decide +kernel
theorem dX12_init_1 : decode cX12_init 1 = .ok (.invokespecial 1, 3) := by decide +kernel
theorem dX12_init_4 : decode cX12_init 4 = .ok (.aload_n 0, 1) := by decide +kernel
theorem dX12_init_5 : decode cX12_init 5 = .ok (.bipush 6, 2) := by decide +kernel
theorem dX12_init_7 : decode cX12_init 7 = .ok (.newarray .int, 2) := by decide +kernel
theorem dX12_init_9 : decode cX12_init 9 = .ok (.putfield 7, 3) := by decide +kernel
theorem dX12_init_12 : decode cX12_init 12 = .ok (.aload_n 0, 1) := by decide +kernel
theorem dX12_init_13 : decode cX12_init 13 = .ok (.bipush 6, 2) := by decide +kernel
theorem dX12_init_15 : decode cX12_init 15 = .ok (.newarray .int, 2) := by decide +kernel
theorem dX12_init_17 : decode cX12_init 17 = .ok (.putfield 13, 3) := by decide +kernel
theorem dX12_init_20 : decode cX12_init 20 = .ok (.aload_n 0, 1) := by decide +kernel
theorem dX12_init_21 : decode cX12_init 21 = .ok (.bipush 16, 2) := by decide +kernel
theorem dX12_init_23 : decode cX12_init 23 = .ok (.newarray .int, 2) := by decide +kernel
theorem dX12_init_25 : decode cX12_init 25 = .ok (.putfield 16, 3) := by decide +kernel
theorem dX12_init_28 : decode cX12_init 28 = .ok (.aload_n 0, 1) := by decide +kernel
theorem dX12_init_29 : decode cX12_init 29 = .ok (.bipush 16, 2) := by decide +kernel
theorem dX12_init_31 : decode cX12_init 31 = .ok (.newarray .int, 2) := by decide +kernel
theorem dX12_init_33 : decode cX12_init 33 = .ok (.putfield 19, 3) := by decide +kernel
theorem dX12_init_36 : decode cX12_init 36 = .ok (.aload_n 0, 1) := by decide +kernel
theorem dX12_init_37 : decode cX12_init 37 = .ok (.bipush 16, 2) := by decide +kernel
theorem dX12_init_39 : decode cX12_init 39 = .ok (.newarray .int, 2) := by decide +kernel
theorem dX12_init_41 : decode cX12_init 41 = .ok (.putfield 22, 3) := by decide +kernel
theorem dX12_init_44 : decode cX12_init 44 = .ok (.aload_n 0, 1) := by decide +kernel
theorem dX12_init_45 : decode cX12_init 45 = .ok (.bipush 16, 2) := by decide +kernel
theorem dX12_init_47 : decode cX12_init 47 = .ok (.newarray .int, 2) := by decide +kernel
theorem dX12_init_49 : decode cX12_init 49 = .ok (.putfield 25, 3) := by decide +kernel
theorem dX12_init_52 : decode cX12_init 52 = .ok (.aload_n 0, 1) := by decide +kernel
theorem dX12_init_53 : decode cX12_init 53 = .ok (.bipush 16, 2) := by decide +kernel
theorem dX12_init_55 : decode cX12_init 55 = .ok (.newarray .int, 2) := by decide +kernel
theorem dX12_init_57 : decode cX12_init 57 = .ok (.putfield 28, 3) := by decide +kernel
theorem dX12_init_60 : decode cX12_init 60 = .ok (.aload_n 0, 1) := by decide +kernel
theorem dX12_init_61 : decode cX12_init 61 = .ok (.bipush 40, 2) := by decide +kernel
theorem dX12_init_63 : decode cX12_init 63 = .ok (.newarray .int, 2) := by decide +kernel
theorem dX12_init_65 : decode cX12_init 65 = .ok (.putfield 31, 3) := by decide +kernel
theorem dX12_init_68 : decode cX12_init 68 = .ok (.aload_n 0, 1) := by decide +kernel
theorem dX12_init_69 : decode cX12_init 69 = .ok (.bipush 40, 2) := by decide +kernel
theorem dX12_init_71 : decode cX12_init 71 = .ok (.newarray .int, 2) := by decide +kernel
theorem dX12_init_73 : decode cX12_init 73 = .ok (.putfield 34, 3) := by decide +kernel
theorem dX12_init_76 : decode cX12_init 76 = .ok (.aload_n 0, 1) := by decide +kernel
theorem dX12_init_77 : decode cX12_init 77 = .ok (.bipush 40, 2) := by decide +kernel
theorem dX12_init_79 : decode cX12_init 79 = .ok (.newarray .int, 2) := by decide +kernel
theorem dX12_init_81 : decode cX12_init 81 = .ok (.putfield 37, 3) := by decide +kernel
theorem dX12_init_84 : decode cX12_init 84 = .ok (.aload_n 0, 1) := by decide +kernel
theorem dX12_init_85 : decode cX12_init 85 = .ok (.bipush 40, 2) := by decide +kernel
theorem dX12_init_87 : decode cX12_init 87 = .ok (.newarray .int, 2) := by decide +kernel
theorem dX12_init_89 : decode cX12_init 89 = .ok (.putfield 40, 3) := by decide +kernel
theorem dX12_init_92 : decode cX12_init 92 = .ok (.aload_n 0, 1) := by decide +kernel
theorem dX12_init_93 : decode cX12_init 93 = .ok (.bipush 40, 2) := by decide +kernel
theorem dX12_init_95 : decode cX12_init 95 = .ok (.newarray .int, 2) := by decide +kernel
theorem dX12_init_97 : decode cX12_init 97 = .ok (.putfield 43, 3) := by decide +kernel
theorem dX12_init_100 : decode cX12_init 100 = .ok (.aload_n 0, 1) := by decide +kernel
theorem dX12_init_101 : decode cX12_init 101 = .ok (.bipush 40, 2) := by decide +kernel
theorem dX12_init_103 : decode cX12_init 103 = .ok (.newarray .int, 2) := by decide +kernel
theorem dX12_init_105 : decode cX12_init 105 = .ok (.putfield 46, 3) := by decide +kernel
theorem dX12_init_108 : decode cX12_init 108 = .ok (.aload_n 0, 1) := by decide +kernel
theorem dX12_init_109 : decode cX12_init 109 = .ok (.bipush 8, 2) := by decide +kernel
theorem dX12_init_111 : decode cX12_init 111 = .ok (.newarray .int, 2) := by decide +kernel
theorem dX12_init_113 : decode cX12_init 113 = .ok (.putfield 49, 3) := by decide +kernel
theorem dX12_init_116 : decode cX12_init 116 = .ok (.aload_n 0, 1) := by decide +kernel
theorem dX12_init_117 : decode cX12_init 117 = .ok (.sipush 240, 3) := by decide +kernel
theorem dX12_init_120 : decode cX12_init 120 = .ok (.newarray .byte, 2) := by decide +kernel
theorem dX12_init_122 : decode cX12_init 122 = .ok (.putfield 52, 3) := by decide +kernel
theorem dX12_init_125 : decode cX12_init 125 = .ok (.aload_n 0, 1) := by decide +kernel
theorem dX12_init_126 : decode cX12_init 126 = .ok (.sipush 420, 3) := by decide +kernel
theorem dX12_init_129 : decode cX12_init 129 = .ok (.newarray .int, 2) := by decide +kernel
theorem dX12_init_131 : decode cX12_init 131 = .ok (.putfield 56, 3) := by decide +kernel
theorem dX12_init_134 : decode cX12_init 134 = .ok (.aload_n 0, 1) := by decide +kernel
theorem dX12_init_135 : decode cX12_init 135 = .ok (.sipush 420, 3) := by decide +kernel
theorem dX12_init_138 : decode cX12_init 138 = .ok (.newarray .int, 2) := by decide +kernel
theorem dX12_init_140 : decode cX12_init 140 = .ok (.putfield 59, 3) := by decide +kernel
theorem dX12_init_143 : decode cX12_init 143 = .ok (.aload_n 0, 1) := by decide +kernel
theorem dX12_init_144 : decode cX12_init 144 = .ok (.sipush 420, 3) := by decide +kernel
theorem dX12_init_147 : decode cX12_init 147 = .ok (.newarray .int, 2) := by decide +kernel
theorem dX12_init_149 : decode cX12_init 149 = .ok (.putfield 62, 3) := by decide +kernel
theorem dX12_init_152 : decode cX12_init 152 = .ok (.aload_n 0, 1) := by decide +kernel
theorem dX12_init_153 : decode cX12_init 153 = .ok (.sipush 420, 3) := by decide +kernel
theorem dX12_init_156 : decode cX12_init 156 = .ok (.newarray .int, 2) := by decide +kernel
theorem dX12_init_158 : decode cX12_init 158 = .ok (.putfield 65, 3) := by decide +kernel
theorem dX12_init_161 : decode cX12_init 161 = .ok (.aload_n 0, 1) := by decide +kernel
theorem dX12_init_162 : decode cX12_init 162 = .ok (.sipush 420, 3) := by decide +kernel
theorem dX12_init_165 : decode cX12_init 165 = .ok (.newarray .int, 2) := by decide +kernel
theorem dX12_init_167 : decode cX12_init 167 = .ok (.putfield 68, 3) := by decide +kernel
theorem dX12_init_170 : decode cX12_init 170 = .ok (.aload_n 0, 1) := by decide +kernel
theorem dX12_init_171 : decode cX12_init 171 = .ok (.sipush 420, 3) := by decide +kernel
theorem dX12_init_174 : decode cX12_init 174 = .ok (.newarray .int, 2) := by decide +kernel
theorem dX12_init_176 : decode cX12_init 176 = .ok (.putfield 71, 3) := by decide +kernel
theorem dX12_init_179 : decode cX12_init 179 = .ok (.aload_n 0, 1) := by decide +kernel
theorem dX12_init_180 : decode cX12_init 180 = .ok (.sipush 420, 3) := by decide +kernel
theorem dX12_init_183 : decode cX12_init 183 = .ok (.newarray .int, 2) := by decide +kernel
theorem dX12_init_185 : decode cX12_init 185 = .ok (.putfield 74, 3) := by decide +kernel
theorem dX12_init_188 : decode cX12_init 188 = .ok (.aload_n 0, 1) := by decide +kernel
theorem dX12_init_189 : decode cX12_init 189 = .ok (.sipush 420, 3) := by decide +kernel
theorem dX12_init_192 : decode cX12_init 192 = .ok (.newarray .int, 2) := by decide +kernel
theorem dX12_init_194 : decode cX12_init 194 = .ok (.putfield 77, 3) := by decide +kernel
theorem dX12_init_197 : decode cX12_init 197 = .ok (.aload_n 0, 1) := by decide +kernel
theorem dX12_init_198 : decode cX12_init 198 = .ok (.bipush 12, 2) := by decide +kernel
theorem dX12_init_200 : decode cX12_init 200 = .ok (.newarray .int, 2) := by decide +kernel
theorem dX12_init_202 : decode cX12_init 202 = .ok (.putfield 80, 3) := by decide +kernel
theorem dX12_init_205 : decode cX12_init 205 = .ok (.aload_n 0, 1) := by decide +kernel
theorem dX12_init_206 : decode cX12_init 206 = .ok (.bipush 12, 2) := by decide +kernel
theorem dX12_init_208 : decode cX12_init 208 = .ok (.newarray .int, 2) := by decide +kernel
theorem dX12_init_210 : decode cX12_init 210 = .ok (.putfield 83, 3) := by decide +kernel
theorem dX12_init_213 : decode cX12_init 213 = .ok (.aload_n 0, 1) := by decide +kernel
theorem dX12_init_214 : decode cX12_init 214 = .ok (.bipush 12, 2) := by decide +kernel
theorem dX12_init_216 : decode cX12_init 216 = .ok (.newarray .int, 2) := by decide +kernel
theorem dX12_init_218 : decode cX12_init 218 = .ok (.putfield 86, 3) := by decide +kernel
theorem dX12_init_221 : decode cX12_init 221 = .ok (.aload_n 0, 1) := by decide +kernel
theorem dX12_init_222 : decode cX12_init 222 = .ok (.bipush 12, 2) := by decide +kernel
theorem dX12_init_224 : decode cX12_init 224 = .ok (.newarray .int, 2) := by decide +kernel
theorem dX12_init_226 : decode cX12_init 226 = .ok (.putfield 89, 3) := by decide +kernel
theorem dX12_init_229 : decode cX12_init 229 = .ok (.aload_n 0, 1) := by decide +kernel
theorem dX12_init_230 : decode cX12_init 230 = .ok (.sipush 220, 3) := by decide +kernel
theorem dX12_init_233 : decode cX12_init 233 = .ok (.newarray .int, 2) := by decide +kernel
theorem dX12_init_235 : decode cX12_init 235 = .ok (.putfield 92, 3) := by decide +kernel
theorem dX12_init_238 : decode cX12_init 238 = .ok (.aload_n 0, 1) := by decide +kernel
theorem dX12_init_239 : decode cX12_init 239 = .ok (.bipush 8, 2) := by decide +kernel
theorem dX12_init_241 : decode cX12_init 241 = .ok (.newarray .int, 2) := by decide +kernel
theorem dX12_init_243 : decode cX12_init 243 = .ok (.putfield 95, 3) := by decide +kernel
theorem dX12_init_246 : decode cX12_init 246 = .ok (.aload_n 0, 1) := by decide +kernel
theorem dX12_init_247 : decode cX12_init 247 = .ok (.bipush 8, 2) := by decide +kernel
theorem dX12_init_249 : decode cX12_init 249 = .ok (.newarray .int, 2) := by decide +kernel
theorem dX12_init_251 : decode cX12_init 251 = .ok (.putfield 98, 3) := by decide +kernel
theorem dX12_init_254 : decode cX12_init 254 = .ok (.aload_n 0, 1) := by decide +kernel
theorem dX12_init_255 : decode cX12_init 255 = .ok (.ldc 101, 2) := by decide +kernel
theorem dX12_init_257 : decode cX12_init 257 = .ok (.newarray .long, 2) := by decide +kernel
theorem dX12_init_259 : decode cX12_init 259 = .ok (.putfield 102, 3) := by decide +kernel
theorem dX12_init_262 : decode cX12_init 262 = .ok (.aload_n 0, 1) := by decide +kernel
theorem dX12_init_263 : decode cX12_init 263 = .ok (.sipush 160, 3) := by decide +kernel
theorem dX12_init_266 : decode cX12_init 266 = .ok (.newarray .byte, 2) := by decide +kernel
theorem dX12_init_268 : decode cX12_init 268 = .ok (.putfield 106, 3) := by decide +kernel
theorem dX12_init_271 : decode cX12_init 271 = .ok (.aload_n 0, 1) := by decide +kernel
theorem dX12_init_272 : decode cX12_init 272 = .ok (.sipush 160, 3) := by decide +kernel
theorem dX12_init_275 : decode cX12_init 275 = .ok (.newarray .int, 2) := by decide +kernel
theorem dX12_init_277 : decode cX12_init 277 = .ok (.putfield 109, 3) := by decide +kernel
theorem dX12_init_280 : decode cX12_init 280 = .ok (.aload_n 0, 1) := by decide +kernel
theorem dX12_init_281 : decode cX12_init 281 = .ok (.sipush 160, 3) := by decide +kernel
theorem dX12_init_284 : decode cX12_init 284 = .ok (.newarray .int, 2) := by decide +kernel
theorem dX12_init_286 : decode cX12_init 286 = .ok (.putfield 112, 3) := by decide +kernel
theorem dX12_init_289 : decode cX12_init 289 = .ok (.aload_n 0, 1) := by decide +kernel
theorem dX12_init_290 : decode cX12_init 290 = .ok (.sipush 160, 3) := by decide +kernel
theorem dX12_init_293 : decode cX12_init 293 = .ok (.newarray .int, 2) := by decide +kernel
theorem dX12_init_295 : decode cX12_init 295 = .ok (.putfield 115, 3) := by decide +kernel
theorem dX12_init_298 : decode cX12_init 298 = .ok (.aload_n 0, 1) := by decide +kernel
theorem dX12_init_299 : decode cX12_init 299 = .ok (.sipush 160, 3) := by decide +kernel
theorem dX12_init_302 : decode cX12_init 302 = .ok (.newarray .int, 2) := by decide +kernel
theorem dX12_init_304 : decode cX12_init 304 = .ok (.putfield 118, 3) := by decide +kernel
theorem dX12_init_307 : decode cX12_init 307 = .ok (.aload_n 0, 1) := by decide +kernel
theorem dX12_init_308 : decode cX12_init 308 = .ok (.sipush 160, 3) := by decide +kernel
theorem dX12_init_311 : decode cX12_init 311 = .ok (.newarray .int, 2) := by decide +kernel
theorem dX12_init_313 : decode cX12_init 313 = .ok (.putfield 121, 3) := by decide +kernel
theorem dX12_init_316 : decode cX12_init 316 = .ok (.aload_n 0, 1) := by decide +kernel
theorem dX12_init_317 : decode cX12_init 317 = .ok (.sipush 160, 3) := by decide +kernel
theorem dX12_init_320 : decode cX12_init 320 = .ok (.newarray .int, 2) := by decide +kernel
theorem dX12_init_322 : decode cX12_init 322 = .ok (.putfield 124, 3) := by decide +kernel
theorem dX12_init_325 : decode cX12_init 325 = .ok (.aload_n 0, 1) := by decide +kernel
theorem dX12_init_326 : decode cX12_init 326 = .ok (.sipush 160, 3) := by decide +kernel
theorem dX12_init_329 : decode cX12_init 329 = .ok (.newarray .int, 2) := by decide +kernel
theorem dX12_init_331 : decode cX12_init 331 = .ok (.putfield 127, 3) := by decide +kernel
theorem dX12_init_334 : decode cX12_init 334 = .ok (.aload_n 0, 1) := by decide +kernel
theorem dX12_init_335 : decode cX12_init 335 = .ok (.sipush 160, 3) := by decide +kernel
theorem dX12_init_338 : decode cX12_init 338 = .ok (.newarray .int, 2) := by decide +kernel
theorem dX12_init_340 : decode cX12_init 340 = .ok (.putfield 130, 3) := by decide +kernel
theorem dX12_init_343 : decode cX12_init 343 = .ok (.aload_n 0, 1) := by decide +kernel
theorem dX12_init_344 : decode cX12_init 344 = .ok (.sipush 200, 3) := by decide +kernel
theorem dX12_init_347 : decode cX12_init 347 = .ok (.newarray .int, 2) := by decide +kernel
theorem dX12_init_349 : decode cX12_init 349 = .ok (.putfield 133, 3) := by decide +kernel
theorem dX12_init_352 : decode cX12_init 352 = .ok (.aload_n 0, 1) := by decide +kernel
theorem dX12_init_353 : decode cX12_init 353 = .ok (.sipush 200, 3) := by decide +kernel
theorem dX12_init_356 : decode cX12_init 356 = .ok (.newarray .int, 2) := by decide +kernel
theorem dX12_init_358 : decode cX12_init 358 = .ok (.putfield 136, 3) := by decide +kernel
theorem dX12_init_361 : decode cX12_init 361 = .ok (.aload_n 0, 1) := by decide +kernel
theorem dX12_init_362 : decode cX12_init 362 = .ok (.sipush 200, 3) := by decide +kernel
theorem dX12_init_365 : decode cX12_init 365 = .ok (.newarray .int, 2) := by decide +kernel
theorem dX12_init_367 : decode cX12_init 367 = .ok (.putfield 139, 3) := by decide +kernel
theorem dX12_init_370 : decode cX12_init 370 = .ok (.aload_n 0, 1) := by decide +kernel
theorem dX12_init_371 : decode cX12_init 371 = .ok (.sipush 200, 3) := by decide +kernel
theorem dX12_init_374 : decode cX12_init 374 = .ok (.newarray .int, 2) := by decide +kernel
theorem dX12_init_376 : decode cX12_init 376 = .ok (.putfield 142, 3) := by decide +kernel
theorem dX12_init_379 : decode cX12_init 379 = .ok (.aload_n 0, 1) := by decide +kernel
theorem dX12_init_380 : decode cX12_init 380 = .ok (.sipush 200, 3) := by decide +kernel
theorem dX12_init_383 : decode cX12_init 383 = .ok (.newarray .int, 2) := by decide +kernel
theorem dX12_init_385 : decode cX12_init 385 = .ok (.putfield 145, 3) := by decide +kernel
theorem dX12_init_388 : decode cX12_init 388 = .ok (.aload_n 0, 1) := by decide +kernel
theorem dX12_init_389 : decode cX12_init 389 = .ok (.sipush 200, 3) := by decide +kernel
theorem dX12_init_392 : decode cX12_init 392 = .ok (.newarray .int, 2) := by decide +kernel
theorem dX12_init_394 : decode cX12_init 394 = .ok (.putfield 148, 3) := by decide +kernel
theorem dX12_init_397 : decode cX12_init 397 = .ok (.aload_n 0, 1) := by decide +kernel
theorem dX12_init_398 : decode cX12_init 398 = .ok (.sipush 200, 3) := by decide +kernel
theorem dX12_init_401 : decode cX12_init 401 = .ok (.newarray .int, 2) := by decide +kernel
theorem dX12_init_403 : decode cX12_init 403 = .ok (.putfield 151, 3) := by decide +kernel
theorem dX12_init_406 : decode cX12_init 406 = .ok (.aload_n 0, 1) := by decide +kernel
theorem dX12_init_407 : decode cX12_init 407 = .ok (.sipush 200, 3) := by decide +kernel
theorem dX12_init_410 : decode cX12_init 410 = .ok (.newarray .int, 2) := by decide +kernel
theorem dX12_init_412 : decode cX12_init 412 = .ok (.putfield 154, 3) := by decide +kernel
theorem dX12_init_415 : decode cX12_init 415 = .ok (.aload_n 0, 1) := by decide +kernel
theorem dX12_init_416 : decode cX12_init 416 = .ok (.sipush 200, 3) := by decide +kernel
theorem dX12_init_419 : decode cX12_init 419 = .ok (.newarray .int, 2) := by decide +kernel
theorem dX12_init_421 : decode cX12_init 421 = .ok (.putfield 157, 3) := by decide +kernel
theorem dX12_init_424 : decode cX12_init 424 = .ok (.aload_n 0, 1) := by decide +kernel
theorem dX12_init_425 : decode cX12_init 425 = .ok (.sipush 800, 3) := by decide +kernel
theorem dX12_init_428 : decode cX12_init 428 = .ok (.newarray .int, 2) := by decide +kernel
theorem dX12_init_430 : decode cX12_init 430 = .ok (.putfield 160, 3) := by decide +kernel
theorem dX12_init_433 : decode cX12_init 433 = .ok (.aload_n 0, 1) := by decide +kernel
theorem dX12_init_434 : decode cX12_init 434 = .ok (.sipush 1200, 3) := by decide +kernel
theorem dX12_init_437 : decode cX12_init 437 = .ok (.newarray .int, 2) := by decide +kernel
theorem dX12_init_439 : decode cX12_init 439 = .ok (.putfield 163, 3) := by decide +kernel
theorem dX12_init_442 : decode cX12_init 442 = .ok (.aload_n 0, 1) := by decide +kernel
theorem dX12_init_443 : decode cX12_init 443 = .ok (.sipush 32000, 3) := by decide +kernel
theorem dX12_init_446 : decode cX12_init 446 = .ok (.newarray .byte, 2) := by decide +kernel
theorem dX12_init_448 : decode cX12_init 448 = .ok (.putfield 166, 3) := by decide +kernel
theorem dX12_init_451 : decode cX12_init 451 = .ok (.aload_n 0, 1) := by decide +kernel
theorem dX12_init_452 : decode cX12_init 452 = .ok (.sipush 1300, 3) := by decide +kernel
theorem dX12_init_455 : decode cX12_init 455 = .ok (.newarray .int, 2) := by decide +kernel
theorem dX12_init_457 : decode cX12_init 457 = .ok (.putfield 169, 3) := by decide +kernel
theorem dX12_init_460 : decode cX12_init 460 = .ok (.aload_n 0, 1) := by decide +kernel
theorem dX12_init_461 : decode cX12_init 461 = .ok (.sipush 1300, 3) := by decide +kernel
theorem dX12_init_464 : decode cX12_init 464 = .ok (.newarray .int, 2) := by decide +kernel
theorem dX12_init_466 : decode cX12_init 466 = .ok (.putfield 172, 3) := by decide +kernel
theorem dX12_init_469 : decode cX12_init 469 = .ok (.aload_n 0, 1) := by decide +kernel
theorem dX12_init_470 : decode cX12_init 470 = .ok (.sipush 1300, 3) := by decide +kernel
theorem dX12_init_473 : decode cX12_init 473 = .ok (.newarray .boolean, 2) := by decide +kernel
theorem dX12_init_475 : decode cX12_init 475 = .ok (.putfield 175, 3) := by decide +kernel
theorem dX12_init_478 : decode cX12_init 478 = .ok (.aload_n 0, 1) := by decide +kernel
theorem dX12_init_479 : decode cX12_init 479 = .ok (.bipush 32, 2) := by decide +kernel
theorem dX12_init_481 : decode cX12_init 481 = .ok (.newarray .int, 2) := by decide +kernel
theorem dX12_init_483 : decode cX12_init 483 = .ok (.putfield 179, 3) := by decide +kernel
theorem dX12_init_486 : decode cX12_init 486 = .ok (.aload_n 0, 1) := by decide +kernel
theorem dX12_init_487 : decode cX12_init 487 = .ok (.sipush 128, 3) := by decide +kernel
theorem dX12_init_490 : decode cX12_init 490 = .ok (.newarray .int, 2) := by decide +kernel
theorem dX12_init_492 : decode cX12_init 492 = .ok (.putfield 182, 3) := by decide +kernel
theorem dX12_init_495 : decode cX12_init 495 = .ok (.aload_n 0, 1) := by decide +kernel
theorem dX12_init_496 : decode cX12_init 496 = .ok (.bipush 6, 2) := by decide +kernel
theorem dX12_init_498 : decode cX12_init 498 = .ok (.newarray .int, 2) := by decide +kernel
theorem dX12_init_500 : decode cX12_init 500 = .ok (.putfield 185, 3) := by decide +kernel
theorem dX12_init_503 : decode cX12_init 503 = .ok (.aload_n 0, 1) := by decide +kernel
theorem dX12_init_504 : decode cX12_init 504 = .ok (.bipush 6, 2) := by decide +kernel
theorem dX12_init_506 : decode cX12_init 506 = .ok (.newarray .int, 2) := by decide +kernel
theorem dX12_init_508 : decode cX12_init 508 = .ok (.putfield 188, 3) := by decide +kernel
theorem dX12_init_511 : decode cX12_init 511 = .ok (.aload_n 0, 1) := by decide +kernel
theorem dX12_init_512 : decode cX12_init 512 = .ok (.bipush 6, 2) := by decide +kernel
theorem dX12_init_514 : decode cX12_init 514 = .ok (.newarray .int, 2) := by decide +kernel
theorem dX12_init_516 : decode cX12_init 516 = .ok (.putfield 191, 3) := by decide +kernel
theorem dX12_init_519 : decode cX12_init 519 = .ok (.aload_n 0, 1) := by decide +kernel
theorem dX12_init_520 : decode cX12_init 520 = .ok (.bipush 6, 2) := by decide +kernel
theorem dX12_init_522 : decode cX12_init 522 = .ok (.newarray .int, 2) := by decide +kernel
theorem dX12_init_524 : decode cX12_init 524 = .ok (.putfield 194, 3) := by decide +kernel
theorem dX12_init_527 : decode cX12_init 527 = .ok (.aload_n 0, 1) := by decide +kernel
theorem dX12_init_528 : decode cX12_init 528 = .ok (.bipush 6, 2) := by decide +kernel
theorem dX12_init_530 : decode cX12_init 530 = .ok (.newarray .int, 2) := by decide +kernel
theorem dX12_init_532 : decode cX12_init 532 = .ok (.putfield 197, 3) := by decide +kernel
theorem dX12_init_535 : decode cX12_init 535 = .ok (.aload_n 0, 1) := by decide +kernel
theorem dX12_init_536 : decode cX12_init 536 = .ok (.bipush 6, 2) := by decide +kernel
theorem dX12_init_538 : decode cX12_init 538 = .ok (.newarray .int, 2) := by decide +kernel
theorem dX12_init_540 : decode cX12_init 540 = .ok (.putfield 200, 3) := by decide +kernel
theorem dX12_init_543 : decode cX12_init 543 = .ok (.aload_n 0, 1) := by decide +kernel
theorem dX12_init_544 : decode cX12_init 544 = .ok (.bipush 6, 2) := by decide +kernel
theorem dX12_init_546 : decode cX12_init 546 = .ok (.newarray .int, 2) := by decide +kernel
theorem dX12_init_548 : decode cX12_init 548 = .ok (.putfield 203, 3) := by decide +kernel
theorem dX12_init_551 : decode cX12_init 551 = .ok (.aload_n 0, 1) := by decide +kernel
theorem dX12_init_552 : decode cX12_init 552 = .ok (.bipush 6, 2) := by decide +kernel
theorem dX12_init_554 : decode cX12_init 554 = .ok (.newarray .int, 2) := by decide +kernel
theorem dX12_init_556 : decode cX12_init 556 = .ok (.putfield 206, 3) := by decide +kernel
theorem dX12_init_559 : decode cX12_init 559 = .ok (.aload_n 0, 1) := by decide +kernel
theorem dX12_init_560 : decode cX12_init 560 = .ok (.bipush 6, 2) := by decide +kernel
theorem dX12_init_562 : decode cX12_init 562 = .ok (.newarray .long, 2) := by decide +kernel
theorem dX12_init_564 : decode cX12_init 564 = .ok (.putfield 209, 3) := by decide +kernel
theorem dX12_init_567 : decode cX12_init 567 = .ok (.aload_n 0, 1) := by decide +kernel
theorem dX12_init_568 : decode cX12_init 568 = .ok (.bipush 16, 2) := by decide +kernel
theorem dX12_init_570 : decode cX12_init 570 = .ok (.newarray .long, 2) := by decide +kernel
theorem dX12_init_572 : decode cX12_init 572 = .ok (.putfield 212, 3) := by decide +kernel
theorem dX12_init_575 : decode cX12_init 575 = .ok (.aload_n 0, 1) := by decide +kernel
theorem dX12_init_576 : decode cX12_init 576 = .ok (.bipush 16, 2) := by decide +kernel
theorem dX12_init_578 : decode cX12_init 578 = .ok (.newarray .int, 2) := by decide +kernel
theorem dX12_init_580 : decode cX12_init 580 = .ok (.putfield 215, 3) := by decide +kernel
theorem dX12_init_583 : decode cX12_init 583 = .ok (.aload_n 0, 1) := by decide +kernel
theorem dX12_init_584 : decode cX12_init 584 = .ok (.bipush 16, 2) := by decide +kernel
theorem dX12_init_586 : decode cX12_init 586 = .ok (.newarray .int, 2) := by decide +kernel
theorem dX12_init_588 : decode cX12_init 588 = .ok (.putfield 218, 3) := by decide +kernel
theorem dX12_init_591 : decode cX12_init 591 = .ok (.aload_n 0, 1) := by decide +kernel
theorem dX12_init_592 : decode cX12_init 592 = .ok (.bipush 12, 2) := by decide +kernel
theorem dX12_init_594 : decode cX12_init 594 = .ok (.newarray .int, 2) := by decide +kernel
theorem dX12_init_596 : decode cX12_init 596 = .ok (.putfield 221, 3) := by decide +kernel
theorem dX12_init_599 : decode cX12_init 599 = .ok (.aload_n 0, 1) := by decide +kernel
theorem dX12_init_600 : decode cX12_init 600 = .ok (.bipush 12, 2) := by decide +kernel
theorem dX12_init_602 : decode cX12_init 602 = .ok (.newarray .int, 2) := by decide +kernel
theorem dX12_init_604 : decode cX12_init 604 = .ok (.putfield 224, 3) := by decide +kernel
theorem dX12_init_607 : decode cX12_init 607 = .ok (.aload_n 0, 1) := by decide +kernel
theorem dX12_init_608 : decode cX12_init 608 = .ok (.bipush 12, 2) := by decide +kernel
theorem dX12_init_610 : decode cX12_init 610 = .ok (.newarray .int, 2) := by decide +kernel
theorem dX12_init_612 : decode cX12_init 612 = .ok (.putfield 227, 3) := by decide +kernel
theorem dX12_init_615 : decode cX12_init 615 = .ok (.aload_n 0, 1) := by decide +kernel
theorem dX12_init_616 : decode cX12_init 616 = .ok (.bipush 12, 2) := by decide +kernel
theorem dX12_init_618 : decode cX12_init 618 = .ok (.newarray .boolean, 2) := by decide +kernel
theorem dX12_init_620 : decode cX12_init 620 = .ok (.putfield 230, 3) := by decide +kernel
theorem dX12_init_623 : decode cX12_init 623 = .ok (.aload_n 0, 1) := by decide +kernel
theorem dX12_init_624 : decode cX12_init 624 = .ok (.bipush 100, 2) := by decide +kernel
theorem dX12_init_626 : decode cX12_init 626 = .ok (.newarray .int, 2) := by decide +kernel
theorem dX12_init_628 : decode cX12_init 628 = .ok (.putfield 233, 3) := by decide +kernel
theorem dX12_init_631 : decode cX12_init 631 = .ok (.aload_n 0, 1) := by decide +kernel
theorem dX12_init_632 : decode cX12_init 632 = .ok (.bipush 100, 2) := by decide +kernel
theorem dX12_init_634 : decode cX12_init 634 = .ok (.newarray .int, 2) := by decide +kernel
theorem dX12_init_636 : decode cX12_init 636 = .ok (.putfield 236, 3) := by decide +kernel
theorem dX12_init_639 : decode cX12_init 639 = .ok (.aload_n 0, 1) := by decide +kernel
theorem dX12_init_640 : decode cX12_init 640 = .ok (.bipush 100, 2) := by decide +kernel
theorem dX12_init_642 : decode cX12_init 642 = .ok (.newarray .int, 2) := by decide +kernel
theorem dX12_init_644 : decode cX12_init 644 = .ok (.putfield 239, 3) := by decide +kernel
theorem dX12_init_647 : decode cX12_init 647 = .ok (.aload_n 0, 1) := by decide +kernel
theorem dX12_init_648 : decode cX12_init 648 = .ok (.bipush 16, 2) := by decide +kernel
theorem dX12_init_650 : decode cX12_init 650 = .ok (.newarray .int, 2) := by decide +kernel
theorem dX12_init_652 : decode cX12_init 652 = .ok (.putfield 242, 3) := by decide +kernel
theorem dX12_init_655 : decode cX12_init 655 = .ok (.aload_n 0, 1) := by decide +kernel
theorem dX12_init_656 : decode cX12_init 656 = .ok (.bipush 16, 2) := by decide +kernel
theorem dX12_init_658 : decode cX12_init 658 = .ok (.newarray .int, 2) := by decide +kernel
theorem dX12_init_660 : decode cX12_init 660 = .ok (.putfield 245, 3) := by decide +kernel
theorem dX12_init_663 : decode cX12_init 663 = .ok (.aload_n 0, 1) := by decide +kernel
theorem dX12_init_664 : decode cX12_init 664 = .ok (.bipush 6, 2) := by decide +kernel
theorem dX12_init_666 : decode cX12_init 666 = .ok (.newarray .int, 2) := by decide +kernel
theorem dX12_init_668 : decode cX12_init 668 = .ok (.putfield 248, 3) := by decide +kernel
theorem dX12_init_671 : decode cX12_init 671 = .ok (.aload_n 0, 1) := by decide +kernel
theorem dX12_init_672 : decode cX12_init 672 = .ok (.bipush 6, 2) := by decide +kernel
theorem dX12_init_674 : decode cX12_init 674 = .ok (.newarray .int, 2) := by decide +kernel
theorem dX12_init_676 : decode cX12_init 676 = .ok (.putfield 251, 3) := by decide +kernel
theorem dX12_init_679 : decode cX12_init 679 = .ok (.aload_n 0, 1) := by decide +kernel
theorem dX12_init_680 : decode cX12_init 680 = .ok (.bipush 16, 2) := by decide +kernel
theorem dX12_init_682 : decode cX12_init 682 = .ok (.newarray .boolean, 2) := by decide +kernel
theorem dX12_init_684 : decode cX12_init 684 = .ok (.putfield 254, 3) := by decide +kernel
theorem dX12_init_687 : decode cX12_init 687 = .ok (.aload_n 0, 1) := by decide +kernel
theorem dX12_init_688 : decode cX12_init 688 = .ok (.bipush 16, 2) := by decide +kernel
theorem dX12_init_690 : decode cX12_init 690 = .ok (.newarray .int, 2) := by decide +kernel
theorem dX12_init_692 : decode cX12_init 692 = .ok (.putfield 257, 3) := by decide +kernel
theorem dX12_init_695 : decode cX12_init 695 = .ok (.aload_n 0, 1) := by decide +kernel
theorem dX12_init_696 : decode cX12_init 696 = .ok (.getfield 49, 3) := by decide +kernel
theorem dX12_init_699 : decode cX12_init 699 = .ok (.iconst 0, 1) := by decide +kernel
theorem dX12_init_700 : decode cX12_init 700 = .ok (.bipush 7, 2) := by decide +kernel
theorem dX12_init_702 : decode cX12_init 702 = .ok (.iastore, 1) := by decide +kernel
theorem dX12_init_703 : decode cX12_init 703 = .ok (.aload_n 0, 1) := by decide +kernel
theorem dX12_init_704 : decode cX12_init 704 = .ok (.getfield 49, 3) := by decide +kernel
theorem dX12_init_707 : decode cX12_init 707 = .ok (.iconst 1, 1) := by decide +kernel
theorem dX12_init_708 : decode cX12_init 708 = .ok (.iconst 2, 1) := by decide +kernel
theorem dX12_init_709 : decode cX12_init 709 = .ok (.iastore, 1) := by decide +kernel
theorem dX12_init_710 : decode cX12_init 710 = .ok (.aload_n 0, 1) := by decide +kernel
theorem dX12_init_711 : decode cX12_init 711 = .ok (.getfield 49, 3) := by decide +kernel
theorem dX12_init_714 : decode cX12_init 714 = .ok (.iconst 2, 1) := by decide +kernel
theorem dX12_init_715 : decode cX12_init 715 = .ok (.iconst 5, 1) := by decide +kernel
theorem dX12_init_716 : decode cX12_init 716 = .ok (.iastore, 1) := by decide +kernel
theorem dX12_init_717 : decode cX12_init 717 = .ok (.aload_n 0, 1) := by decide +kernel
theorem dX12_init_718 : decode cX12_init 718 = .ok (.getfield 49, 3) := by decide +kernel
theorem dX12_init_721 : decode cX12_init 721 = .ok (.iconst 3, 1) := by decide +kernel
theorem dX12_init_722 : decode cX12_init 722 = .ok (.iconst 3, 1) := by decide +kernel
theorem dX12_init_723 : decode cX12_init 723 = .ok (.iastore, 1) := by decide +kernel
theorem dX12_init_724 : decode cX12_init 724 = .ok (.aload_n 0, 1) := by decide +kernel
theorem dX12_init_725 : decode cX12_init 725 = .ok (.getfield 49, 3) := by decide +kernel
theorem dX12_init_728 : decode cX12_init 728 = .ok (.iconst 4, 1) := by decide +kernel
theorem dX12_init_729 : decode cX12_init 729 = .ok (.bipush 60, 2) := by decide +kernel
theorem dX12_init_731 : decode cX12_init 731 = .ok (.iastore, 1) := by decide +kernel
theorem dX12_init_732 : decode cX12_init 732 = .ok (.aload_n 0, 1) := by decide +kernel
theorem dX12_init_733 : decode cX12_init 733 = .ok (.getfield 49, 3) := by decide +kernel
theorem dX12_init_736 : decode cX12_init 736 = .ok (.iconst 5, 1) := by decide +kernel
theorem dX12_init_737 : decode cX12_init 737 = .ok (.bipush 10, 2) := by decide +kernel
theorem dX12_init_739 : decode cX12_init 739 = .ok (.iastore, 1) := by decide +kernel
theorem dX12_init_740 : decode cX12_init 740 = .ok (.aload_n 0, 1) := by decide +kernel
theorem dX12_init_741 : decode cX12_init 741 = .ok (.getfield 49, 3) := by decide +kernel
theorem dX12_init_744 : decode cX12_init 744 = .ok (.bipush 6, 2) := by decide +kernel
theorem dX12_init_746 : decode cX12_init 746 = .ok (.bipush 40, 2) := by decide +kernel
theorem dX12_init_748 : decode cX12_init 748 = .ok (.iastore, 1) := by decide +kernel
theorem dX12_init_749 : decode cX12_init 749 = .ok (.aload_n 0, 1) := by decide +kernel
theorem dX12_init_750 : decode cX12_init 750 = .ok (.getfield 49, 3) := by decide +kernel
theorem dX12_init_753 : decode cX12_init 753 = .ok (.bipush 7, 2) := by decide +kernel
theorem dX12_init_755 : decode cX12_init 755 = .ok (.sipush 5000, 3) := by decide +kernel
theorem dX12_init_758 : decode cX12_init 758 = .ok (.iastore, 1) := by decide +kernel
theorem dX12_init_759 : decode cX12_init 759 = .ok (.return_, 1) := by decide +kernel
theorem dX12_in_0 : decode cX12_in 0 = .ok (.iload_n 0, 1) := by decide +kernel
theorem dX12_in_1 : decode cX12_in 1 = .ok (.iload_n 1, 1) := by decide +kernel
theorem dX12_in_2 : decode cX12_in 2 = .ok (.if_icmp .lt 12, 3) := by decide +kernel
theorem dX12_in_5 : decode cX12_in 5 = .ok (.iload_n 0, 1) := by decide +kernel
theorem dX12_in_6 : decode cX12_in 6 = .ok (.iload_n 2, 1) := by decide +kernel
theorem dX12_in_7 : decode cX12_in 7 = .ok (.if_icmp .gt 7, 3) := by decide +kernel
theorem dX12_in_10 : decode cX12_in 10 = .ok (.iconst 1, 1) := by decide +kernel
theorem dX12_in_11 : decode cX12_in 11 = .ok (.goto 4, 3) := by decide +kernel
theorem dX12_in_14 : decode cX12_in 14 = .ok (.iconst 0, 1) := by decide +kernel
theorem dX12_in_15 : decode cX12_in 15 = .ok (.ireturn, 1) := by decide +kernel
theorem dX12_isDay_0 : decode cX12_isDay 0 = .ok (.iload_n 0, 1) := by decide +kernel
theorem dX12_isDay_1 : decode cX12_isDay 1 = .ok (.ifCond .lt 14, 3) := by decide +kernel
theorem dX12_isDay_4 : decode cX12_isDay 4 = .ok (.iload_n 0, 1) := by decide +kernel
theorem dX12_isDay_5 : decode cX12_isDay 5 = .ok (.sipush 3599, 3) := by decide +kernel
theorem dX12_isDay_8 : decode cX12_isDay 8 = .ok (.if_icmp .gt 7, 3) := by decide +kernel
theorem dX12_isDay_11 : decode cX12_isDay 11 = .ok (.iconst 1, 1) := by decide +kernel
theorem dX12_isDay_12 : decode cX12_isDay 12 = .ok (.goto 4, 3) := by decide +kernel
theorem dX12_isDay_15 : decode cX12_isDay 15 = .ok (.iconst 0, 1) := by decide +kernel
theorem dX12_isDay_16 : decode cX12_isDay 16 = .ok (.ireturn, 1) := by decide +kernel
theorem dX12_village_0 : decode cX12_village 0 = .ok (.iload_n 1, 1) := by decide +kernel
theorem dX12_village_1 : decode cX12_village 1 = .ok (.iconst 1, 1) := by decide +kernel
theorem dX12_village_2 : decode cX12_village 2 = .ok (.bipush 60, 2) := by decide +kernel
theorem dX12_village_4 : decode cX12_village 4 = .ok (.invokestatic 260, 3) := by decide +kernel
theorem dX12_village_7 : decode cX12_village 7 = .ok (.ifCond .eq 23, 3) := by decide +kernel
theorem dX12_village_10 : decode cX12_village 10 = .ok (.iload_n 2, 1) := by decide +kernel
theorem dX12_village_11 : decode cX12_village 11 = .ok (.iconst 0, 1) := by decide +kernel
theorem dX12_village_12 : decode cX12_village 12 = .ok (.sipush 4095, 3) := by decide +kernel
theorem dX12_village_15 : decode cX12_village 15 = .ok (.invokestatic 260, 3) := by decide +kernel
theorem dX12_village_18 : decode cX12_village 18 = .ok (.ifCond .eq 12, 3) := by decide +kernel
theorem dX12_village_21 : decode cX12_village 21 = .ok (.aload_n 0, 1) := by decide +kernel
theorem dX12_village_22 : decode cX12_village 22 = .ok (.getfield 264, 3) := by decide +kernel
theorem dX12_village_25 : decode cX12_village 25 = .ok (.bipush 6, 2) := by decide +kernel
theorem dX12_village_27 : decode cX12_village 27 = .ok (.if_icmp .ne 5, 3) := by decide +kernel
theorem dX12_village_30 : decode cX12_village 30 = .ok (.iconst (-1), 1) := by decide +kernel
theorem dX12_village_31 : decode cX12_village 31 = .ok (.ireturn, 1) := by decide +kernel
theorem dX12_village_32 : decode cX12_village 32 = .ok (.aload_n 0, 1) := by decide +kernel
theorem dX12_village_33 : decode cX12_village 33 = .ok (.getfield 7, 3) := by decide +kernel
theorem dX12_village_36 : decode cX12_village 36 = .ok (.aload_n 0, 1) := by decide +kernel
theorem dX12_village_37 : decode cX12_village 37 = .ok (.getfield 264, 3) := by decide +kernel
theorem dX12_village_40 : decode cX12_village 40 = .ok (.iload_n 1, 1) := by decide +kernel
theorem dX12_village_41 : decode cX12_village 41 = .ok (.iastore, 1) := by decide +kernel
theorem dX12_village_42 : decode cX12_village 42 = .ok (.aload_n 0, 1) := by decide +kernel
theorem dX12_village_43 : decode cX12_village 43 = .ok (.getfield 13, 3) := by decide +kernel
theorem dX12_village_46 : decode cX12_village 46 = .ok (.aload_n 0, 1) := by decide +kernel
theorem dX12_village_47 : decode cX12_village 47 = .ok (.getfield 264, 3) := by decide +kernel
theorem dX12_village_50 : decode cX12_village 50 = .ok (.iload_n 2, 1) := by decide +kernel
theorem dX12_village_51 : decode cX12_village 51 = .ok (.iastore, 1) := by decide +kernel
theorem dX12_village_52 : decode cX12_village 52 = .ok (.aload_n 0, 1) := by decide +kernel
theorem dX12_village_53 : decode cX12_village 53 = .ok (.aload_n 0, 1) := by decide +kernel
theorem dX12_village_54 : decode cX12_village 54 = .ok (.getfield 264, 3) := by decide +kernel
theorem dX12_village_57 : decode cX12_village 57 = .ok (.iconst 1, 1) := by decide +kernel
theorem dX12_village_58 : decode cX12_village 58 = .ok (.iadd, 1) := by decide +kernel
theorem dX12_village_59 : decode cX12_village 59 = .ok (.putfield 264, 3) := by decide +kernel
theorem dX12_village_62 : decode cX12_village 62 = .ok (.aload_n 0, 1) := by decide +kernel
theorem dX12_village_63 : decode cX12_village 63 = .ok (.getfield 264, 3) := by decide +kernel
theorem dX12_village_66 : decode cX12_village 66 = .ok (.iconst 1, 1) := by decide +kernel
theorem dX12_village_67 : decode cX12_village 67 = .ok (.isub, 1) := by decide +kernel
theorem dX12_village_68 : decode cX12_village 68 = .ok (.ireturn, 1) := by decide +kernel
theorem dX12_giver_0 : decode cX12_giver 0 = .ok (.iload_n 1, 1) := by decide +kernel
theorem dX12_giver_1 : decode cX12_giver 1 = .ok (.iconst 0, 1) := by decide +kernel
theorem dX12_giver_2 : decode cX12_giver 2 = .ok (.iconst 5, 1) := by decide +kernel
theorem dX12_giver_3 : decode cX12_giver 3 = .ok (.invokestatic 260, 3) := by decide +kernel
theorem dX12_giver_6 : decode cX12_giver 6 = .ok (.ifCond .eq 12, 3) := by decide +kernel
theorem dX12_giver_9 : decode cX12_giver 9 = .ok (.aload_n 0, 1) := by decide +kernel
theorem dX12_giver_10 : decode cX12_giver 10 = .ok (.getfield 268, 3) := by decide +kernel
theorem dX12_giver_13 : decode cX12_giver 13 = .ok (.bipush 16, 2) := by decide +kernel
theorem dX12_giver_15 : decode cX12_giver 15 = .ok (.if_icmp .ne 5, 3) := by decide +kernel
theorem dX12_giver_18 : decode cX12_giver 18 = .ok (.iconst (-1), 1) := by decide +kernel
theorem dX12_giver_19 : decode cX12_giver 19 = .ok (.ireturn, 1) := by decide +kernel
theorem dX12_giver_20 : decode cX12_giver 20 = .ok (.aload_n 0, 1) := by decide +kernel
theorem dX12_giver_21 : decode cX12_giver 21 = .ok (.getfield 16, 3) := by decide +kernel
theorem dX12_giver_24 : decode cX12_giver 24 = .ok (.aload_n 0, 1) := by decide +kernel
theorem dX12_giver_25 : decode cX12_giver 25 = .ok (.getfield 268, 3) := by decide +kernel
theorem dX12_giver_28 : decode cX12_giver 28 = .ok (.iload_n 1, 1) := by decide +kernel
theorem dX12_giver_29 : decode cX12_giver 29 = .ok (.iastore, 1) := by decide +kernel
theorem dX12_giver_30 : decode cX12_giver 30 = .ok (.aload_n 0, 1) := by decide +kernel
theorem dX12_giver_31 : decode cX12_giver 31 = .ok (.aload_n 0, 1) := by decide +kernel
theorem dX12_giver_32 : decode cX12_giver 32 = .ok (.getfield 268, 3) := by decide +kernel
theorem dX12_giver_35 : decode cX12_giver 35 = .ok (.iconst 1, 1) := by decide +kernel
theorem dX12_giver_36 : decode cX12_giver 36 = .ok (.iadd, 1) := by decide +kernel
theorem dX12_giver_37 : decode cX12_giver 37 = .ok (.putfield 268, 3) := by decide +kernel
theorem dX12_giver_40 : decode cX12_giver 40 = .ok (.aload_n 0, 1) := by decide +kernel
theorem dX12_giver_41 : decode cX12_giver 41 = .ok (.getfield 268, 3) := by decide +kernel
theorem dX12_giver_44 : decode cX12_giver 44 = .ok (.iconst 1, 1) := by decide +kernel
theorem dX12_giver_45 : decode cX12_giver 45 = .ok (.isub, 1) := by decide +kernel
theorem dX12_giver_46 : decode cX12_giver 46 = .ok (.ireturn, 1) := by decide +kernel
theorem dX12_child_0 : decode cX12_child 0 = .ok (.iload_n 1, 1) := by decide +kernel
theorem dX12_child_1 : decode cX12_child 1 = .ok (.iconst 0, 1) := by decide +kernel
theorem dX12_child_2 : decode cX12_child 2 = .ok (.aload_n 0, 1) := by decide +kernel
theorem dX12_child_3 : decode cX12_child 3 = .ok (.getfield 264, 3) := by decide +kernel
theorem dX12_child_6 : decode cX12_child 6 = .ok (.iconst 1, 1) := by decide +kernel
theorem dX12_child_7 : decode cX12_child 7 = .ok (.isub, 1) := by decide +kernel
theorem dX12_child_8 : decode cX12_child 8 = .ok (.invokestatic 260, 3) := by decide +kernel
theorem dX12_child_11 : decode cX12_child 11 = .ok (.ifCond .eq 45, 3) := by decide +kernel
theorem dX12_child_14 : decode cX12_child 14 = .ok (.iload_n 2, 1) := by decide +kernel
theorem dX12_child_15 : decode cX12_child 15 = .ok (.iconst 0, 1) := by decide +kernel
theorem dX12_child_16 : decode cX12_child 16 = .ok (.iconst 5, 1) := by decide +kernel
theorem dX12_child_17 : decode cX12_child 17 = .ok (.invokestatic 260, 3) := by decide +kernel
theorem dX12_child_20 : decode cX12_child 20 = .ok (.ifCond .eq 36, 3) := by decide +kernel
theorem dX12_child_23 : decode cX12_child 23 = .ok (.iload_n 3, 1) := by decide +kernel
theorem dX12_child_24 : decode cX12_child 24 = .ok (.iconst 0, 1) := by decide +kernel
theorem dX12_child_25 : decode cX12_child 25 = .ok (.iconst 4, 1) := by decide +kernel
theorem dX12_child_26 : decode cX12_child 26 = .ok (.invokestatic 260, 3) := by decide +kernel
theorem dX12_child_29 : decode cX12_child 29 = .ok (.ifCond .eq 27, 3) := by decide +kernel
theorem dX12_child_32 : decode cX12_child 32 = .ok (.iload 4, 2) := by decide +kernel
theorem dX12_child_34 : decode cX12_child 34 = .ok (.iconst (-1), 1) := by decide +kernel
theorem dX12_child_35 : decode cX12_child 35 = .ok (.aload_n 0, 1) := by decide +kernel
theorem dX12_child_36 : decode cX12_child 36 = .ok (.getfield 271, 3) := by decide +kernel
theorem dX12_child_39 : decode cX12_child 39 = .ok (.iconst 1, 1) := by decide +kernel
theorem dX12_child_40 : decode cX12_child 40 = .ok (.isub, 1) := by decide +kernel
theorem dX12_child_41 : decode cX12_child 41 = .ok (.invokestatic 260, 3) := by decide +kernel
theorem dX12_child_44 : decode cX12_child 44 = .ok (.ifCond .eq 12, 3) := by decide +kernel
theorem dX12_child_47 : decode cX12_child 47 = .ok (.aload_n 0, 1) := by decide +kernel
theorem dX12_child_48 : decode cX12_child 48 = .ok (.getfield 271, 3) := by decide +kernel
theorem dX12_child_51 : decode cX12_child 51 = .ok (.bipush 16, 2) := by decide +kernel
theorem dX12_child_53 : decode cX12_child 53 = .ok (.if_icmp .ne 5, 3) := by decide +kernel
theorem dX12_child_56 : decode cX12_child 56 = .ok (.iconst (-1), 1) := by decide +kernel
theorem dX12_child_57 : decode cX12_child 57 = .ok (.ireturn, 1) := by decide +kernel
theorem dX12_child_58 : decode cX12_child 58 = .ok (.aload_n 0, 1) := by decide +kernel
theorem dX12_child_59 : decode cX12_child 59 = .ok (.getfield 19, 3) := by decide +kernel
theorem dX12_child_62 : decode cX12_child 62 = .ok (.aload_n 0, 1) := by decide +kernel
theorem dX12_child_63 : decode cX12_child 63 = .ok (.getfield 271, 3) := by decide +kernel
theorem dX12_child_66 : decode cX12_child 66 = .ok (.iload_n 1, 1) := by decide +kernel
theorem dX12_child_67 : decode cX12_child 67 = .ok (.iastore, 1) := by decide +kernel
theorem dX12_child_68 : decode cX12_child 68 = .ok (.aload_n 0, 1) := by decide +kernel
theorem dX12_child_69 : decode cX12_child 69 = .ok (.getfield 22, 3) := by decide +kernel
theorem dX12_child_72 : decode cX12_child 72 = .ok (.aload_n 0, 1) := by decide +kernel
theorem dX12_child_73 : decode cX12_child 73 = .ok (.getfield 271, 3) := by decide +kernel
theorem dX12_child_76 : decode cX12_child 76 = .ok (.iload_n 2, 1) := by decide +kernel
theorem dX12_child_77 : decode cX12_child 77 = .ok (.iastore, 1) := by decide +kernel
theorem dX12_child_78 : decode cX12_child 78 = .ok (.aload_n 0, 1) := by decide +kernel
theorem dX12_child_79 : decode cX12_child 79 = .ok (.getfield 25, 3) := by decide +kernel
theorem dX12_child_82 : decode cX12_child 82 = .ok (.aload_n 0, 1) := by decide +kernel
theorem dX12_child_83 : decode cX12_child 83 = .ok (.getfield 271, 3) := by decide +kernel
theorem dX12_child_86 : decode cX12_child 86 = .ok (.iload_n 3, 1) := by decide +kernel
theorem dX12_child_87 : decode cX12_child 87 = .ok (.iastore, 1) := by decide +kernel
theorem dX12_child_88 : decode cX12_child 88 = .ok (.aload_n 0, 1) := by decide +kernel
theorem dX12_child_89 : decode cX12_child 89 = .ok (.getfield 28, 3) := by decide +kernel
theorem dX12_child_92 : decode cX12_child 92 = .ok (.aload_n 0, 1) := by decide +kernel
theorem dX12_child_93 : decode cX12_child 93 = .ok (.getfield 271, 3) := by decide +kernel
theorem dX12_child_96 : decode cX12_child 96 = .ok (.iload 4, 2) := by decide +kernel
theorem dX12_child_98 : decode cX12_child 98 = .ok (.iastore, 1) := by decide +kernel
theorem dX12_child_99 : decode cX12_child 99 = .ok (.aload_n 0, 1) := by decide +kernel
theorem dX12_child_100 : decode cX12_child 100 = .ok (.aload_n 0, 1) := by decide +kernel
theorem dX12_child_101 : decode cX12_child 101 = .ok (.getfield 271, 3) := by decide +kernel
theorem dX12_child_104 : decode cX12_child 104 = .ok (.iconst 1, 1) := by decide +kernel
theorem dX12_child_105 : decode cX12_child 105 = .ok (.iadd, 1) := by decide +kernel
theorem dX12_child_106 : decode cX12_child 106 = .ok (.putfield 271, 3) := by decide +kernel
theorem dX12_child_109 : decode cX12_child 109 = .ok (.aload_n 0, 1) := by decide +kernel
theorem dX12_child_110 : decode cX12_child 110 = .ok (.getfield 271, 3) := by decide +kernel
theorem dX12_child_113 : decode cX12_child 113 = .ok (.iconst 1, 1) := by decide +kernel
theorem dX12_child_114 : decode cX12_child 114 = .ok (.isub, 1) := by decide +kernel
theorem dX12_child_115 : decode cX12_child 115 = .ok (.ireturn, 1) := by decide +kernel
theorem dX12_isGiver_0 : decode cX12_isGiver 0 = .ok (.iload_n 1, 1) := by decide +kernel
theorem dX12_isGiver_1 : decode cX12_isGiver 1 = .ok (.ifCond .lt 15, 3) := by decide +kernel
theorem dX12_isGiver_4 : decode cX12_isGiver 4 = .ok (.iload_n 1, 1) := by decide +kernel
theorem dX12_isGiver_5 : decode cX12_isGiver 5 = .ok (.aload_n 0, 1) := by decide +kernel
theorem dX12_isGiver_6 : decode cX12_isGiver 6 = .ok (.getfield 268, 3) := by decide +kernel
theorem dX12_isGiver_9 : decode cX12_isGiver 9 = .ok (.if_icmp .ge 7, 3) := by decide +kernel
theorem dX12_isGiver_12 : decode cX12_isGiver 12 = .ok (.iconst 1, 1) := by decide +kernel
theorem dX12_isGiver_13 : decode cX12_isGiver 13 = .ok (.goto 4, 3) := by decide +kernel
theorem dX12_isGiver_16 : decode cX12_isGiver 16 = .ok (.iconst 0, 1) := by decide +kernel
theorem dX12_isGiver_17 : decode cX12_isGiver 17 = .ok (.ireturn, 1) := by decide +kernel
theorem dX12_isChild_0 : decode cX12_isChild 0 = .ok (.iload_n 1, 1) := by decide +kernel
theorem dX12_isChild_1 : decode cX12_isChild 1 = .ok (.ifCond .lt 15, 3) := by decide +kernel
theorem dX12_isChild_4 : decode cX12_isChild 4 = .ok (.iload_n 1, 1) := by decide +kernel
theorem dX12_isChild_5 : decode cX12_isChild 5 = .ok (.aload_n 0, 1) := by decide +kernel
theorem dX12_isChild_6 : decode cX12_isChild 6 = .ok (.getfield 271, 3) := by decide +kernel
theorem dX12_isChild_9 : decode cX12_isChild 9 = .ok (.if_icmp .ge 7, 3) := by decide +kernel
theorem dX12_isChild_12 : decode cX12_isChild 12 = .ok (.iconst 1, 1) := by decide +kernel
theorem dX12_isChild_13 : decode cX12_isChild 13 = .ok (.goto 4, 3) := by decide +kernel
theorem dX12_isChild_16 : decode cX12_isChild 16 = .ok (.iconst 0, 1) := by decide +kernel
theorem dX12_isChild_17 : decode cX12_isChild 17 = .ok (.ireturn, 1) := by decide +kernel
theorem dX12_isPair_0 : decode cX12_isPair 0 = .ok (.iload_n 1, 1) := by decide +kernel
theorem dX12_isPair_1 : decode cX12_isPair 1 = .ok (.ifCond .lt 15, 3) := by decide +kernel
theorem dX12_isPair_4 : decode cX12_isPair 4 = .ok (.iload_n 1, 1) := by decide +kernel
theorem dX12_isPair_5 : decode cX12_isPair 5 = .ok (.aload_n 0, 1) := by decide +kernel
theorem dX12_isPair_6 : decode cX12_isPair 6 = .ok (.getfield 274, 3) := by decide +kernel
theorem dX12_isPair_9 : decode cX12_isPair 9 = .ok (.if_icmp .ge 7, 3) := by decide +kernel
theorem dX12_isPair_12 : decode cX12_isPair 12 = .ok (.iconst 1, 1) := by decide +kernel
theorem dX12_isPair_13 : decode cX12_isPair 13 = .ok (.goto 4, 3) := by decide +kernel
theorem dX12_isPair_16 : decode cX12_isPair 16 = .ok (.iconst 0, 1) := by decide +kernel
theorem dX12_isPair_17 : decode cX12_isPair 17 = .ok (.ireturn, 1) := by decide +kernel
theorem dX12_isOpen_0 : decode cX12_isOpen 0 = .ok (.aload_n 0, 1) := by decide +kernel
theorem dX12_isOpen_1 : decode cX12_isOpen 1 = .ok (.getfield 40, 3) := by decide +kernel
theorem dX12_isOpen_4 : decode cX12_isOpen 4 = .ok (.iload_n 1, 1) := by decide +kernel
theorem dX12_isOpen_5 : decode cX12_isOpen 5 = .ok (.iaload, 1) := by decide +kernel
theorem dX12_isOpen_6 : decode cX12_isOpen 6 = .ok (.iconst (-1), 1) := by decide +kernel
theorem dX12_isOpen_7 : decode cX12_isOpen 7 = .ok (.if_icmp .ne 7, 3) := by decide +kernel
theorem dX12_isOpen_10 : decode cX12_isOpen 10 = .ok (.iconst 1, 1) := by decide +kernel
theorem dX12_isOpen_11 : decode cX12_isOpen 11 = .ok (.goto 4, 3) := by decide +kernel
theorem dX12_isOpen_14 : decode cX12_isOpen 14 = .ok (.iconst 0, 1) := by decide +kernel
theorem dX12_isOpen_15 : decode cX12_isOpen 15 = .ok (.ireturn, 1) := by decide +kernel
theorem dX12_pairOf_0 : decode cX12_pairOf 0 = .ok (.iconst 0, 1) := by decide +kernel
theorem dX12_pairOf_1 : decode cX12_pairOf 1 = .ok (.istore_n 2, 1) := by decide +kernel
theorem dX12_pairOf_2 : decode cX12_pairOf 2 = .ok (.iload_n 2, 1) := by decide +kernel
theorem dX12_pairOf_3 : decode cX12_pairOf 3 = .ok (.aload_n 0, 1) := by decide +kernel
theorem dX12_pairOf_4 : decode cX12_pairOf 4 = .ok (.getfield 274, 3) := by decide +kernel
theorem dX12_pairOf_7 : decode cX12_pairOf 7 = .ok (.if_icmp .ge 29, 3) := by decide +kernel
theorem dX12_pairOf_10 : decode cX12_pairOf 10 = .ok (.aload_n 0, 1) := by decide +kernel
theorem dX12_pairOf_11 : decode cX12_pairOf 11 = .ok (.iload_n 2, 1) := by decide +kernel
theorem dX12_pairOf_12 : decode cX12_pairOf 12 = .ok (.invokevirtual 277, 3) := by decide +kernel
theorem dX12_pairOf_15 : decode cX12_pairOf 15 = .ok (.ifCond .eq 15, 3) := by decide +kernel
theorem dX12_pairOf_18 : decode cX12_pairOf 18 = .ok (.aload_n 0, 1) := by decide +kernel
theorem dX12_pairOf_19 : decode cX12_pairOf 19 = .ok (.getfield 34, 3) := by decide +kernel
theorem dX12_pairOf_22 : decode cX12_pairOf 22 = .ok (.iload_n 2, 1) := by decide +kernel
theorem dX12_pairOf_23 : decode cX12_pairOf 23 = .ok (.iaload, 1) := by decide +kernel
theorem dX12_pairOf_24 : decode cX12_pairOf 24 = .ok (.iload_n 1, 1) := by decide +kernel
theorem dX12_pairOf_25 : decode cX12_pairOf 25 = .ok (.if_icmp .ne 5, 3) := by decide +kernel
theorem dX12_pairOf_28 : decode cX12_pairOf 28 = .ok (.iload_n 2, 1) := by decide +kernel
theorem dX12_pairOf_29 : decode cX12_pairOf 29 = .ok (.ireturn, 1) := by decide +kernel
theorem dX12_pairOf_30 : decode cX12_pairOf 30 = .ok (.iinc 2 1, 3) := by decide +kernel
theorem dX12_pairOf_33 : decode cX12_pairOf 33 = .ok (.goto (-31), 3) := by decide +kernel
theorem dX12_pairOf_36 : decode cX12_pairOf 36 = .ok (.iconst (-1), 1) := by decide +kernel
theorem dX12_pairOf_37 : decode cX12_pairOf 37 = .ok (.ireturn, 1) := by decide +kernel
theorem dX12_pairsOf_0 : decode cX12_pairsOf 0 = .ok (.iconst 0, 1) := by decide +kernel
theorem dX12_pairsOf_1 : decode cX12_pairsOf 1 = .ok (.istore_n 2, 1) := by decide +kernel
theorem dX12_pairsOf_2 : decode cX12_pairsOf 2 = .ok (.iconst 0, 1) := by decide +kernel
theorem dX12_pairsOf_3 : decode cX12_pairsOf 3 = .ok (.istore_n 3, 1) := by decide +kernel
theorem dX12_pairsOf_4 : decode cX12_pairsOf 4 = .ok (.iload_n 3, 1) := by decide +kernel
theorem dX12_pairsOf_5 : decode cX12_pairsOf 5 = .ok (.aload_n 0, 1) := by decide +kernel
theorem dX12_pairsOf_6 : decode cX12_pairsOf 6 = .ok (.getfield 274, 3) := by decide +kernel
theorem dX12_pairsOf_9 : decode cX12_pairsOf 9 = .ok (.if_icmp .ge 35, 3) := by decide +kernel
theorem dX12_pairsOf_12 : decode cX12_pairsOf 12 = .ok (.iload_n 2, 1) := by decide +kernel
theorem dX12_pairsOf_13 : decode cX12_pairsOf 13 = .ok (.aload_n 0, 1) := by decide +kernel
theorem dX12_pairsOf_14 : decode cX12_pairsOf 14 = .ok (.iload_n 3, 1) := by decide +kernel
theorem dX12_pairsOf_15 : decode cX12_pairsOf 15 = .ok (.invokevirtual 277, 3) := by decide +kernel
theorem dX12_pairsOf_18 : decode cX12_pairsOf 18 = .ok (.ifCond .eq 17, 3) := by decide +kernel
theorem dX12_pairsOf_21 : decode cX12_pairsOf 21 = .ok (.aload_n 0, 1) := by decide +kernel
theorem dX12_pairsOf_22 : decode cX12_pairsOf 22 = .ok (.getfield 31, 3) := by decide +kernel
theorem dX12_pairsOf_25 : decode cX12_pairsOf 25 = .ok (.iload_n 3, 1) := by decide +kernel
theorem dX12_pairsOf_26 : decode cX12_pairsOf 26 = .ok (.iaload, 1) := by decide +kernel
theorem dX12_pairsOf_27 : decode cX12_pairsOf 27 = .ok (.iload_n 1, 1) := by decide +kernel
theorem dX12_pairsOf_28 : decode cX12_pairsOf 28 = .ok (.if_icmp .ne 7, 3) := by decide +kernel
theorem dX12_pairsOf_31 : decode cX12_pairsOf 31 = .ok (.iconst 1, 1) := by decide +kernel
theorem dX12_pairsOf_32 : decode cX12_pairsOf 32 = .ok (.goto 4, 3) := by decide +kernel
theorem dX12_pairsOf_35 : decode cX12_pairsOf 35 = .ok (.iconst 0, 1) := by decide +kernel
theorem dX12_pairsOf_36 : decode cX12_pairsOf 36 = .ok (.iadd, 1) := by decide +kernel
theorem dX12_pairsOf_37 : decode cX12_pairsOf 37 = .ok (.istore_n 2, 1) := by decide +kernel
theorem dX12_pairsOf_38 : decode cX12_pairsOf 38 = .ok (.iinc 3 1, 3) := by decide +kernel
theorem dX12_pairsOf_41 : decode cX12_pairsOf 41 = .ok (.goto (-37), 3) := by decide +kernel
theorem dX12_pairsOf_44 : decode cX12_pairsOf 44 = .ok (.iload_n 2, 1) := by decide +kernel
theorem dX12_pairsOf_45 : decode cX12_pairsOf 45 = .ok (.ireturn, 1) := by decide +kernel
theorem dX12_begins_0 : decode cX12_begins 0 = .ok (.aload_n 0, 1) := by decide +kernel
theorem dX12_begins_1 : decode cX12_begins 1 = .ok (.getfield 31, 3) := by decide +kernel
theorem dX12_begins_4 : decode cX12_begins 4 = .ok (.aload_n 0, 1) := by decide +kernel
theorem dX12_begins_5 : decode cX12_begins 5 = .ok (.getfield 274, 3) := by decide +kernel
theorem dX12_begins_8 : decode cX12_begins 8 = .ok (.iload_n 1, 1) := by decide +kernel
theorem dX12_begins_9 : decode cX12_begins 9 = .ok (.iastore, 1) := by decide +kernel
theorem dX12_begins_10 : decode cX12_begins 10 = .ok (.aload_n 0, 1) := by decide +kernel
theorem dX12_begins_11 : decode cX12_begins 11 = .ok (.getfield 34, 3) := by decide +kernel
theorem dX12_begins_14 : decode cX12_begins 14 = .ok (.aload_n 0, 1) := by decide +kernel
theorem dX12_begins_15 : decode cX12_begins 15 = .ok (.getfield 274, 3) := by decide +kernel
theorem dX12_begins_18 : decode cX12_begins 18 = .ok (.iload_n 2, 1) := by decide +kernel
theorem dX12_begins_19 : decode cX12_begins 19 = .ok (.iastore, 1) := by decide +kernel
theorem dX12_begins_20 : decode cX12_begins 20 = .ok (.aload_n 0, 1) := by decide +kernel
theorem dX12_begins_21 : decode cX12_begins 21 = .ok (.getfield 37, 3) := by decide +kernel
theorem dX12_begins_24 : decode cX12_begins 24 = .ok (.aload_n 0, 1) := by decide +kernel
theorem dX12_begins_25 : decode cX12_begins 25 = .ok (.getfield 274, 3) := by decide +kernel
theorem dX12_begins_28 : decode cX12_begins 28 = .ok (.aload_n 0, 1) := by decide +kernel
theorem dX12_begins_29 : decode cX12_begins 29 = .ok (.getfield 281, 3) := by decide +kernel
theorem dX12_begins_32 : decode cX12_begins 32 = .ok (.iastore, 1) := by decide +kernel
theorem dX12_begins_33 : decode cX12_begins 33 = .ok (.aload_n 0, 1) := by decide +kernel
theorem dX12_begins_34 : decode cX12_begins 34 = .ok (.getfield 40, 3) := by decide +kernel
theorem dX12_begins_37 : decode cX12_begins 37 = .ok (.aload_n 0, 1) := by decide +kernel
theorem dX12_begins_38 : decode cX12_begins 38 = .ok (.getfield 274, 3) := by decide +kernel
theorem dX12_begins_41 : decode cX12_begins 41 = .ok (.iconst (-1), 1) := by decide +kernel
theorem dX12_begins_42 : decode cX12_begins 42 = .ok (.iastore, 1) := by decide +kernel
theorem dX12_begins_43 : decode cX12_begins 43 = .ok (.aload_n 0, 1) := by decide +kernel
theorem dX12_begins_44 : decode cX12_begins 44 = .ok (.getfield 43, 3) := by decide +kernel
theorem dX12_begins_47 : decode cX12_begins 47 = .ok (.aload_n 0, 1) := by decide +kernel
theorem dX12_begins_48 : decode cX12_begins 48 = .ok (.getfield 274, 3) := by decide +kernel
theorem dX12_begins_51 : decode cX12_begins 51 = .ok (.iconst 0, 1) := by decide +kernel
theorem dX12_begins_52 : decode cX12_begins 52 = .ok (.iastore, 1) := by decide +kernel
theorem dX12_begins_53 : decode cX12_begins 53 = .ok (.aload_n 0, 1) := by decide +kernel
theorem dX12_begins_54 : decode cX12_begins 54 = .ok (.getfield 46, 3) := by decide +kernel
theorem dX12_begins_57 : decode cX12_begins 57 = .ok (.aload_n 0, 1) := by decide +kernel
theorem dX12_begins_58 : decode cX12_begins 58 = .ok (.getfield 274, 3) := by decide +kernel
theorem dX12_begins_61 : decode cX12_begins 61 = .ok (.iconst (-1), 1) := by decide +kernel
theorem dX12_begins_62 : decode cX12_begins 62 = .ok (.iastore, 1) := by decide +kernel
theorem dX12_begins_63 : decode cX12_begins 63 = .ok (.aload_n 0, 1) := by decide +kernel
theorem dX12_begins_64 : decode cX12_begins 64 = .ok (.aload_n 0, 1) := by decide +kernel
theorem dX12_begins_65 : decode cX12_begins 65 = .ok (.getfield 274, 3) := by decide +kernel
theorem dX12_begins_68 : decode cX12_begins 68 = .ok (.iconst 1, 1) := by decide +kernel
theorem dX12_begins_69 : decode cX12_begins 69 = .ok (.iadd, 1) := by decide +kernel
theorem dX12_begins_70 : decode cX12_begins 70 = .ok (.putfield 274, 3) := by decide +kernel
theorem dX12_begins_73 : decode cX12_begins 73 = .ok (.aload_n 0, 1) := by decide +kernel
theorem dX12_begins_74 : decode cX12_begins 74 = .ok (.getfield 274, 3) := by decide +kernel
theorem dX12_begins_77 : decode cX12_begins 77 = .ok (.iconst 1, 1) := by decide +kernel
theorem dX12_begins_78 : decode cX12_begins 78 = .ok (.isub, 1) := by decide +kernel
theorem dX12_begins_79 : decode cX12_begins 79 = .ok (.ireturn, 1) := by decide +kernel
theorem dX12_pair_0 : decode cX12_pair 0 = .ok (.aload_n 0, 1) := by decide +kernel
theorem dX12_pair_1 : decode cX12_pair 1 = .ok (.iload_n 1, 1) := by decide +kernel
theorem dX12_pair_2 : decode cX12_pair 2 = .ok (.invokevirtual 284, 3) := by decide +kernel
theorem dX12_pair_5 : decode cX12_pair 5 = .ok (.ifCond .eq 51, 3) := by decide +kernel
theorem dX12_pair_8 : decode cX12_pair 8 = .ok (.aload_n 0, 1) := by decide +kernel
theorem dX12_pair_9 : decode cX12_pair 9 = .ok (.iload_n 2, 1) := by decide +kernel
theorem dX12_pair_10 : decode cX12_pair 10 = .ok (.invokevirtual 287, 3) := by decide +kernel
theorem dX12_pair_13 : decode cX12_pair 13 = .ok (.ifCond .eq 43, 3) := by decide +kernel
theorem dX12_pair_16 : decode cX12_pair 16 = .ok (.aload_n 0, 1) := by decide +kernel
theorem dX12_pair_17 : decode cX12_pair 17 = .ok (.iload_n 2, 1) := by decide +kernel
theorem dX12_pair_18 : decode cX12_pair 18 = .ok (.invokevirtual 290, 3) := by decide +kernel
theorem dX12_pair_21 : decode cX12_pair 21 = .ok (.iconst (-1), 1) := by decide +kernel
theorem dX12_pair_22 : decode cX12_pair 22 = .ok (.if_icmp .ne 34, 3) := by decide +kernel
theorem dX12_pair_25 : decode cX12_pair 25 = .ok (.aload_n 0, 1) := by decide +kernel
theorem dX12_pair_26 : decode cX12_pair 26 = .ok (.iload_n 1, 1) := by decide +kernel
theorem dX12_pair_27 : decode cX12_pair 27 = .ok (.invokevirtual 294, 3) := by decide +kernel
theorem dX12_pair_30 : decode cX12_pair 30 = .ok (.iconst 2, 1) := by decide +kernel
theorem dX12_pair_31 : decode cX12_pair 31 = .ok (.if_icmp .ge 25, 3) := by decide +kernel
theorem dX12_pair_34 : decode cX12_pair 34 = .ok (.aload_n 0, 1) := by decide +kernel
theorem dX12_pair_35 : decode cX12_pair 35 = .ok (.iload_n 2, 1) := by decide +kernel
theorem dX12_pair_36 : decode cX12_pair 36 = .ok (.aload_n 0, 1) := by decide +kernel
theorem dX12_pair_37 : decode cX12_pair 37 = .ok (.getfield 281, 3) := by decide +kernel
theorem dX12_pair_40 : decode cX12_pair 40 = .ok (.invokevirtual 297, 3) := by decide +kernel
theorem dX12_pair_43 : decode cX12_pair 43 = .ok (.iconst (-1), 1) := by decide +kernel
theorem dX12_pair_44 : decode cX12_pair 44 = .ok (.if_icmp .ne 12, 3) := by decide +kernel
theorem dX12_pair_47 : decode cX12_pair 47 = .ok (.aload_n 0, 1) := by decide +kernel
theorem dX12_pair_48 : decode cX12_pair 48 = .ok (.getfield 274, 3) := by decide +kernel
theorem dX12_pair_51 : decode cX12_pair 51 = .ok (.bipush 40, 2) := by decide +kernel
theorem dX12_pair_53 : decode cX12_pair 53 = .ok (.if_icmp .ne 5, 3) := by decide +kernel
theorem dX12_pair_56 : decode cX12_pair 56 = .ok (.iconst (-1), 1) := by decide +kernel
theorem dX12_pair_57 : decode cX12_pair 57 = .ok (.ireturn, 1) := by decide +kernel
theorem dX12_pair_58 : decode cX12_pair 58 = .ok (.aload_n 0, 1) := by decide +kernel
theorem dX12_pair_59 : decode cX12_pair 59 = .ok (.iload_n 1, 1) := by decide +kernel
theorem dX12_pair_60 : decode cX12_pair 60 = .ok (.iload_n 2, 1) := by decide +kernel
theorem dX12_pair_61 : decode cX12_pair 61 = .ok (.invokevirtual 301, 3) := by decide +kernel
theorem dX12_pair_64 : decode cX12_pair 64 = .ok (.ireturn, 1) := by decide +kernel
theorem dX12_end_0 : decode cX12_end 0 = .ok (.aload_n 0, 1) := by decide +kernel
theorem dX12_end_1 : decode cX12_end 1 = .ok (.iload_n 1, 1) := by decide +kernel
theorem dX12_end_2 : decode cX12_end 2 = .ok (.invokevirtual 304, 3) := by decide +kernel
theorem dX12_end_5 : decode cX12_end 5 = .ok (.ifCond .eq 11, 3) := by decide +kernel
theorem dX12_end_8 : decode cX12_end 8 = .ok (.aload_n 0, 1) := by decide +kernel
theorem dX12_end_9 : decode cX12_end 9 = .ok (.iload_n 1, 1) := by decide +kernel
theorem dX12_end_10 : decode cX12_end 10 = .ok (.invokevirtual 277, 3) := by decide +kernel
theorem dX12_end_13 : decode cX12_end 13 = .ok (.ifCond .ne 5, 3) := by decide +kernel
theorem dX12_end_16 : decode cX12_end 16 = .ok (.iconst 0, 1) := by decide +kernel
theorem dX12_end_17 : decode cX12_end 17 = .ok (.ireturn, 1) := by decide +kernel
theorem dX12_end_18 : decode cX12_end 18 = .ok (.aload_n 0, 1) := by decide +kernel
theorem dX12_end_19 : decode cX12_end 19 = .ok (.getfield 40, 3) := by decide +kernel
theorem dX12_end_22 : decode cX12_end 22 = .ok (.iload_n 1, 1) := by decide +kernel
theorem dX12_end_23 : decode cX12_end 23 = .ok (.aload_n 0, 1) := by decide +kernel
theorem dX12_end_24 : decode cX12_end 24 = .ok (.getfield 281, 3) := by decide +kernel
theorem dX12_end_27 : decode cX12_end 27 = .ok (.iastore, 1) := by decide +kernel
theorem dX12_end_28 : decode cX12_end 28 = .ok (.iconst 1, 1) := by decide +kernel
theorem dX12_end_29 : decode cX12_end 29 = .ok (.ireturn, 1) := by decide +kernel
theorem dX12_mostOf_0 : decode cX12_mostOf 0 = .ok (.iload_n 0, 1) := by decide +kernel
theorem dX12_mostOf_1 : decode cX12_mostOf 1 = .ok (.tableswitch 62 0 6 #[43, 46, 49, 52, 55, 59, 59], 43) := by decide +kernel
theorem dX12_mostOf_44 : decode cX12_mostOf 44 = .ok (.bipush 60, 2) := by decide +kernel
theorem dX12_mostOf_46 : decode cX12_mostOf 46 = .ok (.ireturn, 1) := by decide +kernel
theorem dX12_mostOf_47 : decode cX12_mostOf 47 = .ok (.bipush 127, 2) := by decide +kernel
theorem dX12_mostOf_49 : decode cX12_mostOf 49 = .ok (.ireturn, 1) := by decide +kernel
theorem dX12_mostOf_50 : decode cX12_mostOf 50 = .ok (.bipush 20, 2) := by decide +kernel
theorem dX12_mostOf_52 : decode cX12_mostOf 52 = .ok (.ireturn, 1) := by decide +kernel
theorem dX12_mostOf_53 : decode cX12_mostOf 53 = .ok (.bipush 8, 2) := by decide +kernel
theorem dX12_mostOf_55 : decode cX12_mostOf 55 = .ok (.ireturn, 1) := by decide +kernel
theorem dX12_mostOf_56 : decode cX12_mostOf 56 = .ok (.sipush 400, 3) := by decide +kernel
theorem dX12_mostOf_59 : decode cX12_mostOf 59 = .ok (.ireturn, 1) := by decide +kernel
theorem dX12_mostOf_60 : decode cX12_mostOf 60 = .ok (.bipush 100, 2) := by decide +kernel
theorem dX12_mostOf_62 : decode cX12_mostOf 62 = .ok (.ireturn, 1) := by decide +kernel
theorem dX12_mostOf_63 : decode cX12_mostOf 63 = .ok (.ldc_w 307, 3) := by decide +kernel
theorem dX12_mostOf_66 : decode cX12_mostOf 66 = .ok (.ireturn, 1) := by decide +kernel
theorem dX12_number_0 : decode cX12_number 0 = .ok (.iload_n 1, 1) := by decide +kernel
theorem dX12_number_1 : decode cX12_number 1 = .ok (.iconst 0, 1) := by decide +kernel
theorem dX12_number_2 : decode cX12_number 2 = .ok (.bipush 7, 2) := by decide +kernel
theorem dX12_number_4 : decode cX12_number 4 = .ok (.invokestatic 260, 3) := by decide +kernel
theorem dX12_number_7 : decode cX12_number 7 = .ok (.ifCond .eq 24, 3) := by decide +kernel
theorem dX12_number_10 : decode cX12_number 10 = .ok (.iload_n 2, 1) := by decide +kernel
theorem dX12_number_11 : decode cX12_number 11 = .ok (.iload_n 1, 1) := by decide +kernel
theorem dX12_number_12 : decode cX12_number 12 = .ok (.iconst 4, 1) := by decide +kernel
theorem dX12_number_13 : decode cX12_number 13 = .ok (.if_icmp .ge 7, 3) := by decide +kernel
theorem dX12_number_16 : decode cX12_number 16 = .ok (.iconst 1, 1) := by decide +kernel
theorem dX12_number_17 : decode cX12_number 17 = .ok (.goto 4, 3) := by decide +kernel
theorem dX12_number_20 : decode cX12_number 20 = .ok (.iconst 0, 1) := by decide +kernel
theorem dX12_number_21 : decode cX12_number 21 = .ok (.iload_n 1, 1) := by decide +kernel
theorem dX12_number_22 : decode cX12_number 22 = .ok (.invokestatic 308, 3) := by decide +kernel
theorem dX12_number_25 : decode cX12_number 25 = .ok (.invokestatic 260, 3) := by decide +kernel
theorem dX12_number_28 : decode cX12_number 28 = .ok (.ifCond .ne 5, 3) := by decide +kernel
theorem dX12_number_31 : decode cX12_number 31 = .ok (.iconst 0, 1) := by decide +kernel
theorem dX12_number_32 : decode cX12_number 32 = .ok (.ireturn, 1) := by decide +kernel
theorem dX12_number_33 : decode cX12_number 33 = .ok (.iload_n 1, 1) := by decide +kernel
theorem dX12_number_34 : decode cX12_number 34 = .ok (.iconst 5, 1) := by decide +kernel
theorem dX12_number_35 : decode cX12_number 35 = .ok (.if_icmp .ne 17, 3) := by decide +kernel
theorem dX12_number_38 : decode cX12_number 38 = .ok (.iload_n 2, 1) := by decide +kernel
theorem dX12_number_39 : decode cX12_number 39 = .ok (.aload_n 0, 1) := by decide +kernel
theorem dX12_number_40 : decode cX12_number 40 = .ok (.getfield 49, 3) := by decide +kernel
theorem dX12_number_43 : decode cX12_number 43 = .ok (.bipush 6, 2) := by decide +kernel
theorem dX12_number_45 : decode cX12_number 45 = .ok (.iaload, 1) := by decide +kernel
theorem dX12_number_46 : decode cX12_number 46 = .ok (.iadd, 1) := by decide +kernel
theorem dX12_number_47 : decode cX12_number 47 = .ok (.bipush 100, 2) := by decide +kernel
theorem dX12_number_49 : decode cX12_number 49 = .ok (.if_icmp .gt 22, 3) := by decide +kernel
theorem dX12_number_52 : decode cX12_number 52 = .ok (.iload_n 1, 1) := by decide +kernel
theorem dX12_number_53 : decode cX12_number 53 = .ok (.bipush 6, 2) := by decide +kernel
theorem dX12_number_55 : decode cX12_number 55 = .ok (.if_icmp .ne 18, 3) := by decide +kernel
theorem dX12_number_58 : decode cX12_number 58 = .ok (.iload_n 2, 1) := by decide +kernel
theorem dX12_number_59 : decode cX12_number 59 = .ok (.aload_n 0, 1) := by decide +kernel
theorem dX12_number_60 : decode cX12_number 60 = .ok (.getfield 49, 3) := by decide +kernel
theorem dX12_number_63 : decode cX12_number 63 = .ok (.iconst 5, 1) := by decide +kernel
theorem dX12_number_64 : decode cX12_number 64 = .ok (.iaload, 1) := by decide +kernel
theorem dX12_number_65 : decode cX12_number 65 = .ok (.iadd, 1) := by decide +kernel
theorem dX12_number_66 : decode cX12_number 66 = .ok (.bipush 100, 2) := by decide +kernel
theorem dX12_number_68 : decode cX12_number 68 = .ok (.if_icmp .le 5, 3) := by decide +kernel
theorem dX12_number_71 : decode cX12_number 71 = .ok (.iconst 0, 1) := by decide +kernel
theorem dX12_number_72 : decode cX12_number 72 = .ok (.ireturn, 1) := by decide +kernel
theorem dX12_number_73 : decode cX12_number 73 = .ok (.aload_n 0, 1) := by decide +kernel
theorem dX12_number_74 : decode cX12_number 74 = .ok (.getfield 49, 3) := by decide +kernel
theorem dX12_number_77 : decode cX12_number 77 = .ok (.iload_n 1, 1) := by decide +kernel
theorem dX12_number_78 : decode cX12_number 78 = .ok (.iload_n 2, 1) := by decide +kernel
theorem dX12_number_79 : decode cX12_number 79 = .ok (.iastore, 1) := by decide +kernel
theorem dX12_number_80 : decode cX12_number 80 = .ok (.iconst 1, 1) := by decide +kernel
theorem dX12_number_81 : decode cX12_number 81 = .ok (.ireturn, 1) := by decide +kernel
theorem dX12_types_0 : decode cX12_types 0 = .ok (.iconst 3, 1) := by decide +kernel
theorem dX12_types_1 : decode cX12_types 1 = .ok (.istore_n 2, 1) := by decide +kernel
theorem dX12_types_2 : decode cX12_types 2 = .ok (.iload_n 2, 1) := by decide +kernel
theorem dX12_types_3 : decode cX12_types 3 = .ok (.ifCond .lt 35, 3) := by decide +kernel
theorem dX12_types_6 : decode cX12_types 6 = .ok (.aload_n 0, 1) := by decide +kernel
theorem dX12_types_7 : decode cX12_types 7 = .ok (.getfield 52, 3) := by decide +kernel
theorem dX12_types_10 : decode cX12_types 10 = .ok (.aload_n 0, 1) := by decide +kernel
theorem dX12_types_11 : decode cX12_types 11 = .ok (.getfield 311, 3) := by decide +kernel
theorem dX12_types_14 : decode cX12_types 14 = .ok (.iload_n 1, 1) := by decide +kernel
theorem dX12_types_15 : decode cX12_types 15 = .ok (.bipush 8, 2) := by decide +kernel
theorem dX12_types_17 : decode cX12_types 17 = .ok (.iload_n 2, 1) := by decide +kernel
theorem dX12_types_18 : decode cX12_types 18 = .ok (.imul, 1) := by decide +kernel
theorem dX12_types_19 : decode cX12_types 19 = .ok (.ishr, 1) := by decide +kernel
theorem dX12_types_20 : decode cX12_types 20 = .ok (.i2b, 1) := by decide +kernel
theorem dX12_types_21 : decode cX12_types 21 = .ok (.bastore, 1) := by decide +kernel
theorem dX12_types_22 : decode cX12_types 22 = .ok (.aload_n 0, 1) := by decide +kernel
theorem dX12_types_23 : decode cX12_types 23 = .ok (.aload_n 0, 1) := by decide +kernel
theorem dX12_types_24 : decode cX12_types 24 = .ok (.getfield 311, 3) := by decide +kernel
theorem dX12_types_27 : decode cX12_types 27 = .ok (.iconst 1, 1) := by decide +kernel
theorem dX12_types_28 : decode cX12_types 28 = .ok (.iadd, 1) := by decide +kernel
theorem dX12_types_29 : decode cX12_types 29 = .ok (.putfield 311, 3) := by decide +kernel
theorem dX12_types_32 : decode cX12_types 32 = .ok (.iinc 2 (-1), 3) := by decide +kernel
theorem dX12_types_35 : decode cX12_types 35 = .ok (.goto (-33), 3) := by decide +kernel
theorem dX12_types_38 : decode cX12_types 38 = .ok (.return_, 1) := by decide +kernel
theorem dX12_feed_0 : decode cX12_feed 0 = .ok (.aload_n 0, 1) := by decide +kernel
theorem dX12_feed_1 : decode cX12_feed 1 = .ok (.getfield 311, 3) := by decide +kernel
theorem dX12_feed_4 : decode cX12_feed 4 = .ok (.bipush 20, 2) := by decide +kernel
theorem dX12_feed_6 : decode cX12_feed 6 = .ok (.iadd, 1) := by decide +kernel
theorem dX12_feed_7 : decode cX12_feed 7 = .ok (.sipush 240, 3) := by decide +kernel
theorem dX12_feed_10 : decode cX12_feed 10 = .ok (.if_icmp .le 5, 3) := by decide +kernel
theorem dX12_feed_13 : decode cX12_feed 13 = .ok (.iconst (-1), 1) := by decide +kernel
theorem dX12_feed_14 : decode cX12_feed 14 = .ok (.ireturn, 1) := by decide +kernel
theorem dX12_feed_15 : decode cX12_feed 15 = .ok (.aload_n 0, 1) := by decide +kernel
theorem dX12_feed_16 : decode cX12_feed 16 = .ok (.iload_n 1, 1) := by decide +kernel
theorem dX12_feed_17 : decode cX12_feed 17 = .ok (.invokevirtual 314, 3) := by decide +kernel
theorem dX12_feed_20 : decode cX12_feed 20 = .ok (.aload_n 0, 1) := by decide +kernel
theorem dX12_feed_21 : decode cX12_feed 21 = .ok (.iload_n 2, 1) := by decide +kernel
theorem dX12_feed_22 : decode cX12_feed 22 = .ok (.invokevirtual 314, 3) := by decide +kernel
theorem dX12_feed_25 : decode cX12_feed 25 = .ok (.aload_n 0, 1) := by decide +kernel
theorem dX12_feed_26 : decode cX12_feed 26 = .ok (.iload_n 3, 1) := by decide +kernel
theorem dX12_feed_27 : decode cX12_feed 27 = .ok (.invokevirtual 314, 3) := by decide +kernel
theorem dX12_feed_30 : decode cX12_feed 30 = .ok (.aload_n 0, 1) := by decide +kernel
theorem dX12_feed_31 : decode cX12_feed 31 = .ok (.iload 4, 2) := by decide +kernel
theorem dX12_feed_33 : decode cX12_feed 33 = .ok (.invokevirtual 314, 3) := by decide +kernel
theorem dX12_feed_36 : decode cX12_feed 36 = .ok (.aload_n 0, 1) := by decide +kernel
theorem dX12_feed_37 : decode cX12_feed 37 = .ok (.iload 5, 2) := by decide +kernel
theorem dX12_feed_39 : decode cX12_feed 39 = .ok (.invokevirtual 314, 3) := by decide +kernel
theorem dX12_feed_42 : decode cX12_feed 42 = .ok (.aload_n 0, 1) := by decide +kernel
theorem dX12_feed_43 : decode cX12_feed 43 = .ok (.getfield 311, 3) := by decide +kernel
theorem dX12_feed_46 : decode cX12_feed 46 = .ok (.ireturn, 1) := by decide +kernel
theorem dX12_sign_0 : decode cX12_sign 0 = .ok (.aload_n 0, 1) := by decide +kernel
theorem dX12_sign_1 : decode cX12_sign 1 = .ok (.getfield 318, 3) := by decide +kernel
theorem dX12_sign_4 : decode cX12_sign 4 = .ok (.aload_n 0, 1) := by decide +kernel
theorem dX12_sign_5 : decode cX12_sign 5 = .ok (.getfield 321, 3) := by decide +kernel
theorem dX12_sign_8 : decode cX12_sign 8 = .ok (.if_icmp .ge 19, 3) := by decide +kernel
theorem dX12_sign_11 : decode cX12_sign 11 = .ok (.aload_n 0, 1) := by decide +kernel
theorem dX12_sign_12 : decode cX12_sign 12 = .ok (.getfield 52, 3) := by decide +kernel
theorem dX12_sign_15 : decode cX12_sign 15 = .ok (.aload_n 0, 1) := by decide +kernel
theorem dX12_sign_16 : decode cX12_sign 16 = .ok (.getfield 318, 3) := by decide +kernel
theorem dX12_sign_19 : decode cX12_sign 19 = .ok (.baload, 1) := by decide +kernel
theorem dX12_sign_20 : decode cX12_sign 20 = .ok (.sipush 255, 3) := by decide +kernel
theorem dX12_sign_23 : decode cX12_sign 23 = .ok (.iand, 1) := by decide +kernel
theorem dX12_sign_24 : decode cX12_sign 24 = .ok (.goto 4, 3) := by decide +kernel
theorem dX12_sign_27 : decode cX12_sign 27 = .ok (.iconst 0, 1) := by decide +kernel
theorem dX12_sign_28 : decode cX12_sign 28 = .ok (.ireturn, 1) := by decide +kernel
theorem dX12_wrong_0 : decode cX12_wrong 0 = .ok (.aload_n 0, 1) := by decide +kernel
theorem dX12_wrong_1 : decode cX12_wrong 1 = .ok (.sipush 1000, 3) := by decide +kernel
theorem dX12_wrong_4 : decode cX12_wrong 4 = .ok (.iload_n 1, 1) := by decide +kernel
theorem dX12_wrong_5 : decode cX12_wrong 5 = .ok (.imul, 1) := by decide +kernel
theorem dX12_wrong_6 : decode cX12_wrong 6 = .ok (.aload_n 0, 1) := by decide +kernel
theorem dX12_wrong_7 : decode cX12_wrong 7 = .ok (.getfield 318, 3) := by decide +kernel
theorem dX12_wrong_10 : decode cX12_wrong 10 = .ok (.iadd, 1) := by decide +kernel
theorem dX12_wrong_11 : decode cX12_wrong 11 = .ok (.putfield 324, 3) := by decide +kernel
theorem dX12_wrong_14 : decode cX12_wrong 14 = .ok (.iconst 0, 1) := by decide +kernel
theorem dX12_wrong_15 : decode cX12_wrong 15 = .ok (.ireturn, 1) := by decide +kernel
theorem dX12_part_0 : decode cX12_part 0 = .ok (.aload_n 0, 1) := by decide +kernel
theorem dX12_part_1 : decode cX12_part 1 = .ok (.getfield 68, 3) := by decide +kernel
theorem dX12_part_4 : decode cX12_part 4 = .ok (.aload_n 0, 1) := by decide +kernel
theorem dX12_part_5 : decode cX12_part 5 = .ok (.getfield 327, 3) := by decide +kernel
theorem dX12_part_8 : decode cX12_part 8 = .ok (.iload_n 1, 1) := by decide +kernel
theorem dX12_part_9 : decode cX12_part 9 = .ok (.iastore, 1) := by decide +kernel
theorem dX12_part_10 : decode cX12_part 10 = .ok (.aload_n 0, 1) := by decide +kernel
theorem dX12_part_11 : decode cX12_part 11 = .ok (.getfield 71, 3) := by decide +kernel
theorem dX12_part_14 : decode cX12_part 14 = .ok (.aload_n 0, 1) := by decide +kernel
theorem dX12_part_15 : decode cX12_part 15 = .ok (.getfield 327, 3) := by decide +kernel
theorem dX12_part_18 : decode cX12_part 18 = .ok (.iload_n 2, 1) := by decide +kernel
theorem dX12_part_19 : decode cX12_part 19 = .ok (.iastore, 1) := by decide +kernel
theorem dX12_part_20 : decode cX12_part 20 = .ok (.aload_n 0, 1) := by decide +kernel
theorem dX12_part_21 : decode cX12_part 21 = .ok (.getfield 74, 3) := by decide +kernel
theorem dX12_part_24 : decode cX12_part 24 = .ok (.aload_n 0, 1) := by decide +kernel
theorem dX12_part_25 : decode cX12_part 25 = .ok (.getfield 327, 3) := by decide +kernel
theorem dX12_part_28 : decode cX12_part 28 = .ok (.iload_n 3, 1) := by decide +kernel
theorem dX12_part_29 : decode cX12_part 29 = .ok (.iastore, 1) := by decide +kernel
theorem dX12_part_30 : decode cX12_part 30 = .ok (.aload_n 0, 1) := by decide +kernel
theorem dX12_part_31 : decode cX12_part 31 = .ok (.getfield 77, 3) := by decide +kernel
theorem dX12_part_34 : decode cX12_part 34 = .ok (.aload_n 0, 1) := by decide +kernel
theorem dX12_part_35 : decode cX12_part 35 = .ok (.getfield 327, 3) := by decide +kernel
theorem dX12_part_38 : decode cX12_part 38 = .ok (.iload 4, 2) := by decide +kernel
theorem dX12_part_40 : decode cX12_part 40 = .ok (.iastore, 1) := by decide +kernel
theorem dX12_part_41 : decode cX12_part 41 = .ok (.aload_n 0, 1) := by decide +kernel
theorem dX12_part_42 : decode cX12_part 42 = .ok (.aload_n 0, 1) := by decide +kernel
theorem dX12_part_43 : decode cX12_part 43 = .ok (.getfield 327, 3) := by decide +kernel
theorem dX12_part_46 : decode cX12_part 46 = .ok (.iconst 1, 1) := by decide +kernel
theorem dX12_part_47 : decode cX12_part 47 = .ok (.iadd, 1) := by decide +kernel
theorem dX12_part_48 : decode cX12_part 48 = .ok (.putfield 327, 3) := by decide +kernel
theorem dX12_part_51 : decode cX12_part 51 = .ok (.aload_n 0, 1) := by decide +kernel
theorem dX12_part_52 : decode cX12_part 52 = .ok (.getfield 327, 3) := by decide +kernel
theorem dX12_part_55 : decode cX12_part 55 = .ok (.iconst 1, 1) := by decide +kernel
theorem dX12_part_56 : decode cX12_part 56 = .ok (.isub, 1) := by decide +kernel
theorem dX12_part_57 : decode cX12_part 57 = .ok (.ireturn, 1) := by decide +kernel
theorem dX12_pushes_0 : decode cX12_pushes 0 = .ok (.aload_n 0, 1) := by decide +kernel
theorem dX12_pushes_1 : decode cX12_pushes 1 = .ok (.getfield 92, 3) := by decide +kernel
theorem dX12_pushes_4 : decode cX12_pushes 4 = .ok (.aload_n 0, 1) := by decide +kernel
theorem dX12_pushes_5 : decode cX12_pushes 5 = .ok (.getfield 330, 3) := by decide +kernel
theorem dX12_pushes_8 : decode cX12_pushes 8 = .ok (.iload_n 1, 1) := by decide +kernel
theorem dX12_pushes_9 : decode cX12_pushes 9 = .ok (.iastore, 1) := by decide +kernel
theorem dX12_pushes_10 : decode cX12_pushes 10 = .ok (.aload_n 0, 1) := by decide +kernel
theorem dX12_pushes_11 : decode cX12_pushes 11 = .ok (.aload_n 0, 1) := by decide +kernel
theorem dX12_pushes_12 : decode cX12_pushes 12 = .ok (.getfield 330, 3) := by decide +kernel
theorem dX12_pushes_15 : decode cX12_pushes 15 = .ok (.iconst 1, 1) := by decide +kernel
theorem dX12_pushes_16 : decode cX12_pushes 16 = .ok (.iadd, 1) := by decide +kernel
theorem dX12_pushes_17 : decode cX12_pushes 17 = .ok (.putfield 330, 3) := by decide +kernel
theorem dX12_pushes_20 : decode cX12_pushes 20 = .ok (.return_, 1) := by decide +kernel
theorem dX12_joins_0 : decode cX12_joins 0 = .ok (.aload_n 0, 1) := by decide +kernel
theorem dX12_joins_1 : decode cX12_joins 1 = .ok (.getfield 92, 3) := by decide +kernel
theorem dX12_joins_4 : decode cX12_joins 4 = .ok (.aload_n 0, 1) := by decide +kernel
theorem dX12_joins_5 : decode cX12_joins 5 = .ok (.getfield 330, 3) := by decide +kernel
theorem dX12_joins_8 : decode cX12_joins 8 = .ok (.iconst 1, 1) := by decide +kernel
theorem dX12_joins_9 : decode cX12_joins 9 = .ok (.isub, 1) := by decide +kernel
theorem dX12_joins_10 : decode cX12_joins 10 = .ok (.iaload, 1) := by decide +kernel
theorem dX12_joins_11 : decode cX12_joins 11 = .ok (.istore_n 2, 1) := by decide +kernel
theorem dX12_joins_12 : decode cX12_joins 12 = .ok (.aload_n 0, 1) := by decide +kernel
theorem dX12_joins_13 : decode cX12_joins 13 = .ok (.getfield 92, 3) := by decide +kernel
theorem dX12_joins_16 : decode cX12_joins 16 = .ok (.aload_n 0, 1) := by decide +kernel
theorem dX12_joins_17 : decode cX12_joins 17 = .ok (.getfield 330, 3) := by decide +kernel
theorem dX12_joins_20 : decode cX12_joins 20 = .ok (.iconst 2, 1) := by decide +kernel
theorem dX12_joins_21 : decode cX12_joins 21 = .ok (.isub, 1) := by decide +kernel
theorem dX12_joins_22 : decode cX12_joins 22 = .ok (.iaload, 1) := by decide +kernel
theorem dX12_joins_23 : decode cX12_joins 23 = .ok (.istore_n 3, 1) := by decide +kernel
theorem dX12_joins_24 : decode cX12_joins 24 = .ok (.aload_n 0, 1) := by decide +kernel
theorem dX12_joins_25 : decode cX12_joins 25 = .ok (.aload_n 0, 1) := by decide +kernel
theorem dX12_joins_26 : decode cX12_joins 26 = .ok (.getfield 330, 3) := by decide +kernel
theorem dX12_joins_29 : decode cX12_joins 29 = .ok (.iconst 2, 1) := by decide +kernel
theorem dX12_joins_30 : decode cX12_joins 30 = .ok (.isub, 1) := by decide +kernel
theorem dX12_joins_31 : decode cX12_joins 31 = .ok (.putfield 330, 3) := by decide +kernel
theorem dX12_joins_34 : decode cX12_joins 34 = .ok (.aload_n 0, 1) := by decide +kernel
theorem dX12_joins_35 : decode cX12_joins 35 = .ok (.aload_n 0, 1) := by decide +kernel
theorem dX12_joins_36 : decode cX12_joins 36 = .ok (.iload_n 1, 1) := by decide +kernel
theorem dX12_joins_37 : decode cX12_joins 37 = .ok (.iconst 0, 1) := by decide +kernel
theorem dX12_joins_38 : decode cX12_joins 38 = .ok (.iload_n 3, 1) := by decide +kernel
theorem dX12_joins_39 : decode cX12_joins 39 = .ok (.iload_n 2, 1) := by decide +kernel
theorem dX12_joins_40 : decode cX12_joins 40 = .ok (.invokevirtual 333, 3) := by decide +kernel
theorem dX12_joins_43 : decode cX12_joins 43 = .ok (.invokevirtual 337, 3) := by decide +kernel
theorem dX12_joins_46 : decode cX12_joins 46 = .ok (.return_, 1) := by decide +kernel
theorem dX12_isLetter_0 : decode cX12_isLetter 0 = .ok (.iload_n 0, 1) := by decide +kernel
theorem dX12_isLetter_1 : decode cX12_isLetter 1 = .ok (.bipush 97, 2) := by decide +kernel
theorem dX12_isLetter_3 : decode cX12_isLetter 3 = .ok (.if_icmp .lt 13, 3) := by decide +kernel
theorem dX12_isLetter_6 : decode cX12_isLetter 6 = .ok (.iload_n 0, 1) := by decide +kernel
theorem dX12_isLetter_7 : decode cX12_isLetter 7 = .ok (.bipush 122, 2) := by decide +kernel
theorem dX12_isLetter_9 : decode cX12_isLetter 9 = .ok (.if_icmp .gt 7, 3) := by decide +kernel
theorem dX12_isLetter_12 : decode cX12_isLetter 12 = .ok (.iconst 1, 1) := by decide +kernel
theorem dX12_isLetter_13 : decode cX12_isLetter 13 = .ok (.goto 4, 3) := by decide +kernel
theorem dX12_isLetter_16 : decode cX12_isLetter 16 = .ok (.iconst 0, 1) := by decide +kernel
theorem dX12_isLetter_17 : decode cX12_isLetter 17 = .ok (.ireturn, 1) := by decide +kernel
theorem dX12_isDigit_0 : decode cX12_isDigit 0 = .ok (.iload_n 0, 1) := by decide +kernel
theorem dX12_isDigit_1 : decode cX12_isDigit 1 = .ok (.bipush 48, 2) := by decide +kernel
theorem dX12_isDigit_3 : decode cX12_isDigit 3 = .ok (.if_icmp .lt 13, 3) := by decide +kernel
theorem dX12_isDigit_6 : decode cX12_isDigit 6 = .ok (.iload_n 0, 1) := by decide +kernel
theorem dX12_isDigit_7 : decode cX12_isDigit 7 = .ok (.bipush 57, 2) := by decide +kernel
theorem dX12_isDigit_9 : decode cX12_isDigit 9 = .ok (.if_icmp .gt 7, 3) := by decide +kernel
theorem dX12_isDigit_12 : decode cX12_isDigit 12 = .ok (.iconst 1, 1) := by decide +kernel
theorem dX12_isDigit_13 : decode cX12_isDigit 13 = .ok (.goto 4, 3) := by decide +kernel
theorem dX12_isDigit_16 : decode cX12_isDigit 16 = .ok (.iconst 0, 1) := by decide +kernel
theorem dX12_isDigit_17 : decode cX12_isDigit 17 = .ok (.ireturn, 1) := by decide +kernel
theorem dX12_isAtom_0 : decode cX12_isAtom 0 = .ok (.iload_n 0, 1) := by decide +kernel
theorem dX12_isAtom_1 : decode cX12_isAtom 1 = .ok (.invokestatic 340, 3) := by decide +kernel
theorem dX12_isAtom_4 : decode cX12_isAtom 4 = .ok (.ifCond .ne 40, 3) := by decide +kernel
theorem dX12_isAtom_7 : decode cX12_isAtom 7 = .ok (.iload_n 0, 1) := by decide +kernel
theorem dX12_isAtom_8 : decode cX12_isAtom 8 = .ok (.invokestatic 343, 3) := by decide +kernel
theorem dX12_isAtom_11 : decode cX12_isAtom 11 = .ok (.ifCond .ne 33, 3) := by decide +kernel
theorem dX12_isAtom_14 : decode cX12_isAtom 14 = .ok (.iload_n 0, 1) := by decide +kernel
theorem dX12_isAtom_15 : decode cX12_isAtom 15 = .ok (.bipush 35, 2) := by decide +kernel
theorem dX12_isAtom_17 : decode cX12_isAtom 17 = .ok (.if_icmp .eq 27, 3) := by decide +kernel
theorem dX12_isAtom_20 : decode cX12_isAtom 20 = .ok (.iload_n 0, 1) := by decide +kernel
theorem dX12_isAtom_21 : decode cX12_isAtom 21 = .ok (.bipush 64, 2) := by decide +kernel
theorem dX12_isAtom_23 : decode cX12_isAtom 23 = .ok (.if_icmp .eq 21, 3) := by decide +kernel
theorem dX12_isAtom_26 : decode cX12_isAtom 26 = .ok (.iload_n 0, 1) := by decide +kernel
theorem dX12_isAtom_27 : decode cX12_isAtom 27 = .ok (.bipush 95, 2) := by decide +kernel
theorem dX12_isAtom_29 : decode cX12_isAtom 29 = .ok (.if_icmp .eq 15, 3) := by decide +kernel
theorem dX12_isAtom_32 : decode cX12_isAtom 32 = .ok (.iload_n 0, 1) := by decide +kernel
theorem dX12_isAtom_33 : decode cX12_isAtom 33 = .ok (.bipush 46, 2) := by decide +kernel
theorem dX12_isAtom_35 : decode cX12_isAtom 35 = .ok (.if_icmp .eq 9, 3) := by decide +kernel
theorem dX12_isAtom_38 : decode cX12_isAtom 38 = .ok (.iload_n 0, 1) := by decide +kernel
theorem dX12_isAtom_39 : decode cX12_isAtom 39 = .ok (.bipush 94, 2) := by decide +kernel
theorem dX12_isAtom_41 : decode cX12_isAtom 41 = .ok (.if_icmp .ne 7, 3) := by decide +kernel
theorem dX12_isAtom_44 : decode cX12_isAtom 44 = .ok (.iconst 1, 1) := by decide +kernel
theorem dX12_isAtom_45 : decode cX12_isAtom 45 = .ok (.goto 4, 3) := by decide +kernel
theorem dX12_isAtom_48 : decode cX12_isAtom 48 = .ok (.iconst 0, 1) := by decide +kernel
theorem dX12_isAtom_49 : decode cX12_isAtom 49 = .ok (.ireturn, 1) := by decide +kernel
theorem dX12_closesRows_0 : decode cX12_closesRows 0 = .ok (.iconst 0, 1) := by decide +kernel
theorem dX12_closesRows_1 : decode cX12_closesRows 1 = .ok (.istore_n 2, 1) := by decide +kernel
theorem dX12_closesRows_2 : decode cX12_closesRows 2 = .ok (.iload_n 2, 1) := by decide +kernel
theorem dX12_closesRows_3 : decode cX12_closesRows 3 = .ok (.aload_n 0, 1) := by decide +kernel
theorem dX12_closesRows_4 : decode cX12_closesRows 4 = .ok (.getfield 98, 3) := by decide +kernel
theorem dX12_closesRows_7 : decode cX12_closesRows 7 = .ok (.iload_n 1, 1) := by decide +kernel
theorem dX12_closesRows_8 : decode cX12_closesRows 8 = .ok (.iaload, 1) := by decide +kernel
theorem dX12_closesRows_9 : decode cX12_closesRows 9 = .ok (.if_icmp .ge 14, 3) := by decide +kernel
theorem dX12_closesRows_12 : decode cX12_closesRows 12 = .ok (.aload_n 0, 1) := by decide +kernel
theorem dX12_closesRows_13 : decode cX12_closesRows 13 = .ok (.iconst 3, 1) := by decide +kernel
theorem dX12_closesRows_14 : decode cX12_closesRows 14 = .ok (.invokevirtual 346, 3) := by decide +kernel
theorem dX12_closesRows_17 : decode cX12_closesRows 17 = .ok (.iinc 2 1, 3) := by decide +kernel
theorem dX12_closesRows_20 : decode cX12_closesRows 20 = .ok (.goto (-18), 3) := by decide +kernel
theorem dX12_closesRows_23 : decode cX12_closesRows 23 = .ok (.return_, 1) := by decide +kernel
theorem dX12_comes_0 : decode cX12_comes 0 = .ok (.aload_n 0, 1) := by decide +kernel
theorem dX12_comes_1 : decode cX12_comes 1 = .ok (.getfield 95, 3) := by decide +kernel
theorem dX12_comes_4 : decode cX12_comes 4 = .ok (.iload_n 1, 1) := by decide +kernel
theorem dX12_comes_5 : decode cX12_comes 5 = .ok (.iaload, 1) := by decide +kernel
theorem dX12_comes_6 : decode cX12_comes 6 = .ok (.ifCond .le 8, 3) := by decide +kernel
theorem dX12_comes_9 : decode cX12_comes 9 = .ok (.aload_n 0, 1) := by decide +kernel
theorem dX12_comes_10 : decode cX12_comes 10 = .ok (.iconst 2, 1) := by decide +kernel
theorem dX12_comes_11 : decode cX12_comes 11 = .ok (.invokevirtual 346, 3) := by decide +kernel
theorem dX12_comes_14 : decode cX12_comes 14 = .ok (.aload_n 0, 1) := by decide +kernel
theorem dX12_comes_15 : decode cX12_comes 15 = .ok (.getfield 95, 3) := by decide +kernel
theorem dX12_comes_18 : decode cX12_comes 18 = .ok (.iload_n 1, 1) := by decide +kernel
theorem dX12_comes_19 : decode cX12_comes 19 = .ok (.iconst 1, 1) := by decide +kernel
theorem dX12_comes_20 : decode cX12_comes 20 = .ok (.iastore, 1) := by decide +kernel
theorem dX12_comes_21 : decode cX12_comes 21 = .ok (.return_, 1) := by decide +kernel
theorem dX12_repeats_0 : decode cX12_repeats 0 = .ok (.aload_n 0, 1) := by decide +kernel
theorem dX12_repeats_1 : decode cX12_repeats 1 = .ok (.invokevirtual 349, 3) := by decide +kernel
theorem dX12_repeats_4 : decode cX12_repeats 4 = .ok (.istore_n 1, 1) := by decide +kernel
theorem dX12_repeats_5 : decode cX12_repeats 5 = .ok (.iload_n 1, 1) := by decide +kernel
theorem dX12_repeats_6 : decode cX12_repeats 6 = .ok (.bipush 42, 2) := by decide +kernel
theorem dX12_repeats_8 : decode cX12_repeats 8 = .ok (.if_icmp .eq 16, 3) := by decide +kernel
theorem dX12_repeats_11 : decode cX12_repeats 11 = .ok (.iload_n 1, 1) := by decide +kernel
theorem dX12_repeats_12 : decode cX12_repeats 12 = .ok (.bipush 43, 2) := by decide +kernel
theorem dX12_repeats_14 : decode cX12_repeats 14 = .ok (.if_icmp .eq 10, 3) := by decide +kernel
theorem dX12_repeats_17 : decode cX12_repeats 17 = .ok (.iload_n 1, 1) := by decide +kernel
theorem dX12_repeats_18 : decode cX12_repeats 18 = .ok (.bipush 63, 2) := by decide +kernel
theorem dX12_repeats_20 : decode cX12_repeats 20 = .ok (.if_icmp .eq 4, 3) := by decide +kernel
theorem dX12_repeats_23 : decode cX12_repeats 23 = .ok (.return_, 1) := by decide +kernel
theorem dX12_repeats_24 : decode cX12_repeats 24 = .ok (.aload_n 0, 1) := by decide +kernel
theorem dX12_repeats_25 : decode cX12_repeats 25 = .ok (.getfield 92, 3) := by decide +kernel
theorem dX12_repeats_28 : decode cX12_repeats 28 = .ok (.aload_n 0, 1) := by decide +kernel
theorem dX12_repeats_29 : decode cX12_repeats 29 = .ok (.getfield 330, 3) := by decide +kernel
theorem dX12_repeats_32 : decode cX12_repeats 32 = .ok (.iconst 1, 1) := by decide +kernel
theorem dX12_repeats_33 : decode cX12_repeats 33 = .ok (.isub, 1) := by decide +kernel
theorem dX12_repeats_34 : decode cX12_repeats 34 = .ok (.aload_n 0, 1) := by decide +kernel
theorem dX12_repeats_35 : decode cX12_repeats 35 = .ok (.iload_n 1, 1) := by decide +kernel
theorem dX12_repeats_36 : decode cX12_repeats 36 = .ok (.bipush 42, 2) := by decide +kernel
theorem dX12_repeats_38 : decode cX12_repeats 38 = .ok (.if_icmp .ne 7, 3) := by decide +kernel
theorem dX12_repeats_41 : decode cX12_repeats 41 = .ok (.iconst 4, 1) := by decide +kernel
theorem dX12_repeats_42 : decode cX12_repeats 42 = .ok (.goto 15, 3) := by decide +kernel
theorem dX12_repeats_45 : decode cX12_repeats 45 = .ok (.iload_n 1, 1) := by decide +kernel
theorem dX12_repeats_46 : decode cX12_repeats 46 = .ok (.bipush 43, 2) := by decide +kernel
theorem dX12_repeats_48 : decode cX12_repeats 48 = .ok (.if_icmp .ne 7, 3) := by decide +kernel
theorem dX12_repeats_51 : decode cX12_repeats 51 = .ok (.iconst 5, 1) := by decide +kernel
theorem dX12_repeats_52 : decode cX12_repeats 52 = .ok (.goto 5, 3) := by decide +kernel
theorem dX12_repeats_55 : decode cX12_repeats 55 = .ok (.bipush 6, 2) := by decide +kernel
theorem dX12_repeats_57 : decode cX12_repeats 57 = .ok (.iconst 0, 1) := by decide +kernel
theorem dX12_repeats_58 : decode cX12_repeats 58 = .ok (.aload_n 0, 1) := by decide +kernel
theorem dX12_repeats_59 : decode cX12_repeats 59 = .ok (.getfield 92, 3) := by decide +kernel
theorem dX12_repeats_62 : decode cX12_repeats 62 = .ok (.aload_n 0, 1) := by decide +kernel
theorem dX12_repeats_63 : decode cX12_repeats 63 = .ok (.getfield 330, 3) := by decide +kernel
theorem dX12_repeats_66 : decode cX12_repeats 66 = .ok (.iconst 1, 1) := by decide +kernel
theorem dX12_repeats_67 : decode cX12_repeats 67 = .ok (.isub, 1) := by decide +kernel
theorem dX12_repeats_68 : decode cX12_repeats 68 = .ok (.iaload, 1) := by decide +kernel
theorem dX12_repeats_69 : decode cX12_repeats 69 = .ok (.iconst (-1), 1) := by decide +kernel
theorem dX12_repeats_70 : decode cX12_repeats 70 = .ok (.invokevirtual 333, 3) := by decide +kernel
theorem dX12_repeats_73 : decode cX12_repeats 73 = .ok (.iastore, 1) := by decide +kernel
theorem dX12_repeats_74 : decode cX12_repeats 74 = .ok (.aload_n 0, 1) := by decide +kernel
theorem dX12_repeats_75 : decode cX12_repeats 75 = .ok (.aload_n 0, 1) := by decide +kernel
theorem dX12_repeats_76 : decode cX12_repeats 76 = .ok (.getfield 318, 3) := by decide +kernel
theorem dX12_repeats_79 : decode cX12_repeats 79 = .ok (.iconst 1, 1) := by decide +kernel
theorem dX12_repeats_80 : decode cX12_repeats 80 = .ok (.iadd, 1) := by decide +kernel
theorem dX12_repeats_81 : decode cX12_repeats 81 = .ok (.putfield 318, 3) := by decide +kernel
theorem dX12_repeats_84 : decode cX12_repeats 84 = .ok (.return_, 1) := by decide +kernel
theorem dX12_readsPattern_0 : decode cX12_readsPattern 0 = .ok (.iconst 0, 1) := by decide +kernel
theorem dX12_readsPattern_1 : decode cX12_readsPattern 1 = .ok (.istore_n 1, 1) := by decide +kernel
theorem dX12_readsPattern_2 : decode cX12_readsPattern 2 = .ok (.aload_n 0, 1) := by decide +kernel
theorem dX12_readsPattern_3 : decode cX12_readsPattern 3 = .ok (.iconst 0, 1) := by decide +kernel
theorem dX12_readsPattern_4 : decode cX12_readsPattern 4 = .ok (.putfield 330, 3) := by decide +kernel
theorem dX12_readsPattern_7 : decode cX12_readsPattern 7 = .ok (.aload_n 0, 1) := by decide +kernel
theorem dX12_readsPattern_8 : decode cX12_readsPattern 8 = .ok (.getfield 95, 3) := by decide +kernel
theorem dX12_readsPattern_11 : decode cX12_readsPattern 11 = .ok (.iconst 0, 1) := by decide +kernel
theorem dX12_readsPattern_12 : decode cX12_readsPattern 12 = .ok (.iconst 0, 1) := by decide +kernel
theorem dX12_readsPattern_13 : decode cX12_readsPattern 13 = .ok (.iastore, 1) := by decide +kernel
theorem dX12_readsPattern_14 : decode cX12_readsPattern 14 = .ok (.aload_n 0, 1) := by decide +kernel
theorem dX12_readsPattern_15 : decode cX12_readsPattern 15 = .ok (.getfield 98, 3) := by decide +kernel
theorem dX12_readsPattern_18 : decode cX12_readsPattern 18 = .ok (.iconst 0, 1) := by decide +kernel
theorem dX12_readsPattern_19 : decode cX12_readsPattern 19 = .ok (.iconst 0, 1) := by decide +kernel
theorem dX12_readsPattern_20 : decode cX12_readsPattern 20 = .ok (.iastore, 1) := by decide +kernel
theorem dX12_readsPattern_21 : decode cX12_readsPattern 21 = .ok (.aload_n 0, 1) := by decide +kernel
theorem dX12_readsPattern_22 : decode cX12_readsPattern 22 = .ok (.invokevirtual 349, 3) := by decide +kernel
theorem dX12_readsPattern_25 : decode cX12_readsPattern 25 = .ok (.istore_n 2, 1) := by decide +kernel
theorem dX12_readsPattern_26 : decode cX12_readsPattern 26 = .ok (.iload_n 2, 1) := by decide +kernel
theorem dX12_readsPattern_27 : decode cX12_readsPattern 27 = .ok (.invokestatic 353, 3) := by decide +kernel
theorem dX12_readsPattern_30 : decode cX12_readsPattern 30 = .ok (.ifCond .eq 47, 3) := by decide +kernel
theorem dX12_readsPattern_33 : decode cX12_readsPattern 33 = .ok (.aload_n 0, 1) := by decide +kernel
theorem dX12_readsPattern_34 : decode cX12_readsPattern 34 = .ok (.aload_n 0, 1) := by decide +kernel
theorem dX12_readsPattern_35 : decode cX12_readsPattern 35 = .ok (.getfield 318, 3) := by decide +kernel
theorem dX12_readsPattern_38 : decode cX12_readsPattern 38 = .ok (.iconst 1, 1) := by decide +kernel
theorem dX12_readsPattern_39 : decode cX12_readsPattern 39 = .ok (.iadd, 1) := by decide +kernel
theorem dX12_readsPattern_40 : decode cX12_readsPattern 40 = .ok (.putfield 318, 3) := by decide +kernel
theorem dX12_readsPattern_43 : decode cX12_readsPattern 43 = .ok (.aload_n 0, 1) := by decide +kernel
theorem dX12_readsPattern_44 : decode cX12_readsPattern 44 = .ok (.aload_n 0, 1) := by decide +kernel
theorem dX12_readsPattern_45 : decode cX12_readsPattern 45 = .ok (.iload_n 2, 1) := by decide +kernel
theorem dX12_readsPattern_46 : decode cX12_readsPattern 46 = .ok (.bipush 94, 2) := by decide +kernel
theorem dX12_readsPattern_48 : decode cX12_readsPattern 48 = .ok (.if_icmp .ne 7, 3) := by decide +kernel
theorem dX12_readsPattern_51 : decode cX12_readsPattern 51 = .ok (.iconst 1, 1) := by decide +kernel
theorem dX12_readsPattern_52 : decode cX12_readsPattern 52 = .ok (.goto 4, 3) := by decide +kernel
theorem dX12_readsPattern_55 : decode cX12_readsPattern 55 = .ok (.iconst 0, 1) := by decide +kernel
theorem dX12_readsPattern_56 : decode cX12_readsPattern 56 = .ok (.iload_n 2, 1) := by decide +kernel
theorem dX12_readsPattern_57 : decode cX12_readsPattern 57 = .ok (.iconst (-1), 1) := by decide +kernel
theorem dX12_readsPattern_58 : decode cX12_readsPattern 58 = .ok (.iconst (-1), 1) := by decide +kernel
theorem dX12_readsPattern_59 : decode cX12_readsPattern 59 = .ok (.invokevirtual 333, 3) := by decide +kernel
theorem dX12_readsPattern_62 : decode cX12_readsPattern 62 = .ok (.invokevirtual 337, 3) := by decide +kernel
theorem dX12_readsPattern_65 : decode cX12_readsPattern 65 = .ok (.aload_n 0, 1) := by decide +kernel
theorem dX12_readsPattern_66 : decode cX12_readsPattern 66 = .ok (.invokevirtual 356, 3) := by decide +kernel
theorem dX12_readsPattern_69 : decode cX12_readsPattern 69 = .ok (.aload_n 0, 1) := by decide +kernel
theorem dX12_readsPattern_70 : decode cX12_readsPattern 70 = .ok (.iload_n 1, 1) := by decide +kernel
theorem dX12_readsPattern_71 : decode cX12_readsPattern 71 = .ok (.invokevirtual 359, 3) := by decide +kernel
theorem dX12_readsPattern_74 : decode cX12_readsPattern 74 = .ok (.goto 206, 3) := by decide +kernel
theorem dX12_readsPattern_77 : decode cX12_readsPattern 77 = .ok (.iload_n 2, 1) := by decide +kernel
theorem dX12_readsPattern_78 : decode cX12_readsPattern 78 = .ok (.bipush 40, 2) := by decide +kernel
theorem dX12_readsPattern_80 : decode cX12_readsPattern 80 = .ok (.if_icmp .ne 46, 3) := by decide +kernel
theorem dX12_readsPattern_83 : decode cX12_readsPattern 83 = .ok (.iload_n 1, 1) := by decide +kernel
theorem dX12_readsPattern_84 : decode cX12_readsPattern 84 = .ok (.bipush 6, 2) := by decide +kernel
theorem dX12_readsPattern_86 : decode cX12_readsPattern 86 = .ok (.if_icmp .ne 9, 3) := by decide +kernel
theorem dX12_readsPattern_89 : decode cX12_readsPattern 89 = .ok (.aload_n 0, 1) := by decide +kernel
theorem dX12_readsPattern_90 : decode cX12_readsPattern 90 = .ok (.iconst 3, 1) := by decide +kernel
theorem dX12_readsPattern_91 : decode cX12_readsPattern 91 = .ok (.invokevirtual 362, 3) := by decide +kernel
theorem dX12_readsPattern_94 : decode cX12_readsPattern 94 = .ok (.ireturn, 1) := by decide +kernel
theorem dX12_readsPattern_95 : decode cX12_readsPattern 95 = .ok (.iload_n 1, 1) := by decide +kernel
theorem dX12_readsPattern_96 : decode cX12_readsPattern 96 = .ok (.iconst 1, 1) := by decide +kernel
theorem dX12_readsPattern_97 : decode cX12_readsPattern 97 = .ok (.iadd, 1) := by decide +kernel
theorem dX12_readsPattern_98 : decode cX12_readsPattern 98 = .ok (.istore_n 1, 1) := by decide +kernel
theorem dX12_readsPattern_99 : decode cX12_readsPattern 99 = .ok (.aload_n 0, 1) := by decide +kernel
theorem dX12_readsPattern_100 : decode cX12_readsPattern 100 = .ok (.getfield 95, 3) := by decide +kernel
theorem dX12_readsPattern_103 : decode cX12_readsPattern 103 = .ok (.iload_n 1, 1) := by decide +kernel
theorem dX12_readsPattern_104 : decode cX12_readsPattern 104 = .ok (.iconst 0, 1) := by decide +kernel
theorem dX12_readsPattern_105 : decode cX12_readsPattern 105 = .ok (.iastore, 1) := by decide +kernel
theorem dX12_readsPattern_106 : decode cX12_readsPattern 106 = .ok (.aload_n 0, 1) := by decide +kernel
theorem dX12_readsPattern_107 : decode cX12_readsPattern 107 = .ok (.getfield 98, 3) := by decide +kernel
theorem dX12_readsPattern_110 : decode cX12_readsPattern 110 = .ok (.iload_n 1, 1) := by decide +kernel
theorem dX12_readsPattern_111 : decode cX12_readsPattern 111 = .ok (.iconst 0, 1) := by decide +kernel
theorem dX12_readsPattern_112 : decode cX12_readsPattern 112 = .ok (.iastore, 1) := by decide +kernel
theorem dX12_readsPattern_113 : decode cX12_readsPattern 113 = .ok (.aload_n 0, 1) := by decide +kernel
theorem dX12_readsPattern_114 : decode cX12_readsPattern 114 = .ok (.aload_n 0, 1) := by decide +kernel
theorem dX12_readsPattern_115 : decode cX12_readsPattern 115 = .ok (.getfield 318, 3) := by decide +kernel
theorem dX12_readsPattern_118 : decode cX12_readsPattern 118 = .ok (.iconst 1, 1) := by decide +kernel
theorem dX12_readsPattern_119 : decode cX12_readsPattern 119 = .ok (.iadd, 1) := by decide +kernel
theorem dX12_readsPattern_120 : decode cX12_readsPattern 120 = .ok (.putfield 318, 3) := by decide +kernel
theorem dX12_readsPattern_123 : decode cX12_readsPattern 123 = .ok (.goto 157, 3) := by decide +kernel
theorem dX12_readsPattern_126 : decode cX12_readsPattern 126 = .ok (.iload_n 2, 1) := by decide +kernel
theorem dX12_readsPattern_127 : decode cX12_readsPattern 127 = .ok (.bipush 124, 2) := by decide +kernel
theorem dX12_readsPattern_129 : decode cX12_readsPattern 129 = .ok (.if_icmp .ne 52, 3) := by decide +kernel
theorem dX12_readsPattern_132 : decode cX12_readsPattern 132 = .ok (.aload_n 0, 1) := by decide +kernel
theorem dX12_readsPattern_133 : decode cX12_readsPattern 133 = .ok (.getfield 95, 3) := by decide +kernel
theorem dX12_readsPattern_136 : decode cX12_readsPattern 136 = .ok (.iload_n 1, 1) := by decide +kernel
theorem dX12_readsPattern_137 : decode cX12_readsPattern 137 = .ok (.iaload, 1) := by decide +kernel
theorem dX12_readsPattern_138 : decode cX12_readsPattern 138 = .ok (.ifCond .ne 9, 3) := by decide +kernel
theorem dX12_readsPattern_141 : decode cX12_readsPattern 141 = .ok (.aload_n 0, 1) := by decide +kernel
theorem dX12_readsPattern_142 : decode cX12_readsPattern 142 = .ok (.iconst 1, 1) := by decide +kernel
theorem dX12_readsPattern_143 : decode cX12_readsPattern 143 = .ok (.invokevirtual 362, 3) := by decide +kernel
theorem dX12_readsPattern_146 : decode cX12_readsPattern 146 = .ok (.ireturn, 1) := by decide +kernel
theorem dX12_readsPattern_147 : decode cX12_readsPattern 147 = .ok (.aload_n 0, 1) := by decide +kernel
theorem dX12_readsPattern_148 : decode cX12_readsPattern 148 = .ok (.getfield 98, 3) := by decide +kernel
theorem dX12_readsPattern_151 : decode cX12_readsPattern 151 = .ok (.iload_n 1, 1) := by decide +kernel
theorem dX12_readsPattern_152 : decode cX12_readsPattern 152 = .ok (.aload_n 0, 1) := by decide +kernel
theorem dX12_readsPattern_153 : decode cX12_readsPattern 153 = .ok (.getfield 98, 3) := by decide +kernel
theorem dX12_readsPattern_156 : decode cX12_readsPattern 156 = .ok (.iload_n 1, 1) := by decide +kernel
theorem dX12_readsPattern_157 : decode cX12_readsPattern 157 = .ok (.iaload, 1) := by decide +kernel
theorem dX12_readsPattern_158 : decode cX12_readsPattern 158 = .ok (.iconst 1, 1) := by decide +kernel
theorem dX12_readsPattern_159 : decode cX12_readsPattern 159 = .ok (.iadd, 1) := by decide +kernel
theorem dX12_readsPattern_160 : decode cX12_readsPattern 160 = .ok (.iastore, 1) := by decide +kernel
theorem dX12_readsPattern_161 : decode cX12_readsPattern 161 = .ok (.aload_n 0, 1) := by decide +kernel
theorem dX12_readsPattern_162 : decode cX12_readsPattern 162 = .ok (.getfield 95, 3) := by decide +kernel
theorem dX12_readsPattern_165 : decode cX12_readsPattern 165 = .ok (.iload_n 1, 1) := by decide +kernel
theorem dX12_readsPattern_166 : decode cX12_readsPattern 166 = .ok (.iconst 0, 1) := by decide +kernel
theorem dX12_readsPattern_167 : decode cX12_readsPattern 167 = .ok (.iastore, 1) := by decide +kernel
theorem dX12_readsPattern_168 : decode cX12_readsPattern 168 = .ok (.aload_n 0, 1) := by decide +kernel
theorem dX12_readsPattern_169 : decode cX12_readsPattern 169 = .ok (.aload_n 0, 1) := by decide +kernel
theorem dX12_readsPattern_170 : decode cX12_readsPattern 170 = .ok (.getfield 318, 3) := by decide +kernel
theorem dX12_readsPattern_173 : decode cX12_readsPattern 173 = .ok (.iconst 1, 1) := by decide +kernel
theorem dX12_readsPattern_174 : decode cX12_readsPattern 174 = .ok (.iadd, 1) := by decide +kernel
theorem dX12_readsPattern_175 : decode cX12_readsPattern 175 = .ok (.putfield 318, 3) := by decide +kernel
theorem dX12_readsPattern_178 : decode cX12_readsPattern 178 = .ok (.goto 102, 3) := by decide +kernel
theorem dX12_readsPattern_181 : decode cX12_readsPattern 181 = .ok (.iload_n 2, 1) := by decide +kernel
theorem dX12_readsPattern_182 : decode cX12_readsPattern 182 = .ok (.bipush 41, 2) := by decide +kernel
theorem dX12_readsPattern_184 : decode cX12_readsPattern 184 = .ok (.if_icmp .ne 53, 3) := by decide +kernel
theorem dX12_readsPattern_187 : decode cX12_readsPattern 187 = .ok (.iload_n 1, 1) := by decide +kernel
theorem dX12_readsPattern_188 : decode cX12_readsPattern 188 = .ok (.ifCond .le 49, 3) := by decide +kernel
theorem dX12_readsPattern_191 : decode cX12_readsPattern 191 = .ok (.aload_n 0, 1) := by decide +kernel
theorem dX12_readsPattern_192 : decode cX12_readsPattern 192 = .ok (.getfield 95, 3) := by decide +kernel
theorem dX12_readsPattern_195 : decode cX12_readsPattern 195 = .ok (.iload_n 1, 1) := by decide +kernel
theorem dX12_readsPattern_196 : decode cX12_readsPattern 196 = .ok (.iaload, 1) := by decide +kernel
theorem dX12_readsPattern_197 : decode cX12_readsPattern 197 = .ok (.ifCond .ne 9, 3) := by decide +kernel
theorem dX12_readsPattern_200 : decode cX12_readsPattern 200 = .ok (.aload_n 0, 1) := by decide +kernel
theorem dX12_readsPattern_201 : decode cX12_readsPattern 201 = .ok (.iconst 1, 1) := by decide +kernel
theorem dX12_readsPattern_202 : decode cX12_readsPattern 202 = .ok (.invokevirtual 362, 3) := by decide +kernel
theorem dX12_readsPattern_205 : decode cX12_readsPattern 205 = .ok (.ireturn, 1) := by decide +kernel
theorem dX12_readsPattern_206 : decode cX12_readsPattern 206 = .ok (.aload_n 0, 1) := by decide +kernel
theorem dX12_readsPattern_207 : decode cX12_readsPattern 207 = .ok (.iload_n 1, 1) := by decide +kernel
theorem dX12_readsPattern_208 : decode cX12_readsPattern 208 = .ok (.invokevirtual 365, 3) := by decide +kernel
theorem dX12_readsPattern_211 : decode cX12_readsPattern 211 = .ok (.iload_n 1, 1) := by decide +kernel
theorem dX12_readsPattern_212 : decode cX12_readsPattern 212 = .ok (.iconst 1, 1) := by decide +kernel
theorem dX12_readsPattern_213 : decode cX12_readsPattern 213 = .ok (.isub, 1) := by decide +kernel
theorem dX12_readsPattern_214 : decode cX12_readsPattern 214 = .ok (.istore_n 1, 1) := by decide +kernel
theorem dX12_readsPattern_215 : decode cX12_readsPattern 215 = .ok (.aload_n 0, 1) := by decide +kernel
theorem dX12_readsPattern_216 : decode cX12_readsPattern 216 = .ok (.aload_n 0, 1) := by decide +kernel
theorem dX12_readsPattern_217 : decode cX12_readsPattern 217 = .ok (.getfield 318, 3) := by decide +kernel
theorem dX12_readsPattern_220 : decode cX12_readsPattern 220 = .ok (.iconst 1, 1) := by decide +kernel
theorem dX12_readsPattern_221 : decode cX12_readsPattern 221 = .ok (.iadd, 1) := by decide +kernel
theorem dX12_readsPattern_222 : decode cX12_readsPattern 222 = .ok (.putfield 318, 3) := by decide +kernel
theorem dX12_readsPattern_225 : decode cX12_readsPattern 225 = .ok (.aload_n 0, 1) := by decide +kernel
theorem dX12_readsPattern_226 : decode cX12_readsPattern 226 = .ok (.invokevirtual 356, 3) := by decide +kernel
theorem dX12_readsPattern_229 : decode cX12_readsPattern 229 = .ok (.aload_n 0, 1) := by decide +kernel
theorem dX12_readsPattern_230 : decode cX12_readsPattern 230 = .ok (.iload_n 1, 1) := by decide +kernel
theorem dX12_readsPattern_231 : decode cX12_readsPattern 231 = .ok (.invokevirtual 359, 3) := by decide +kernel
theorem dX12_readsPattern_234 : decode cX12_readsPattern 234 = .ok (.goto 46, 3) := by decide +kernel
theorem dX12_readsPattern_237 : decode cX12_readsPattern 237 = .ok (.iload_n 1, 1) := by decide +kernel
theorem dX12_readsPattern_238 : decode cX12_readsPattern 238 = .ok (.ifCond .gt 29, 3) := by decide +kernel
theorem dX12_readsPattern_241 : decode cX12_readsPattern 241 = .ok (.aload_n 0, 1) := by decide +kernel
theorem dX12_readsPattern_242 : decode cX12_readsPattern 242 = .ok (.getfield 95, 3) := by decide +kernel
theorem dX12_readsPattern_245 : decode cX12_readsPattern 245 = .ok (.iconst 0, 1) := by decide +kernel
theorem dX12_readsPattern_246 : decode cX12_readsPattern 246 = .ok (.iaload, 1) := by decide +kernel
theorem dX12_readsPattern_247 : decode cX12_readsPattern 247 = .ok (.ifCond .eq 20, 3) := by decide +kernel
theorem dX12_readsPattern_250 : decode cX12_readsPattern 250 = .ok (.aload_n 0, 1) := by decide +kernel
theorem dX12_readsPattern_251 : decode cX12_readsPattern 251 = .ok (.getfield 318, 3) := by decide +kernel
theorem dX12_readsPattern_254 : decode cX12_readsPattern 254 = .ok (.aload_n 0, 1) := by decide +kernel
theorem dX12_readsPattern_255 : decode cX12_readsPattern 255 = .ok (.getfield 321, 3) := by decide +kernel
theorem dX12_readsPattern_258 : decode cX12_readsPattern 258 = .ok (.if_icmp .ge 15, 3) := by decide +kernel
theorem dX12_readsPattern_261 : decode cX12_readsPattern 261 = .ok (.iload_n 2, 1) := by decide +kernel
theorem dX12_readsPattern_262 : decode cX12_readsPattern 262 = .ok (.bipush 59, 2) := by decide +kernel
theorem dX12_readsPattern_264 : decode cX12_readsPattern 264 = .ok (.if_icmp .eq 9, 3) := by decide +kernel
theorem dX12_readsPattern_267 : decode cX12_readsPattern 267 = .ok (.aload_n 0, 1) := by decide +kernel
theorem dX12_readsPattern_268 : decode cX12_readsPattern 268 = .ok (.iconst 1, 1) := by decide +kernel
theorem dX12_readsPattern_269 : decode cX12_readsPattern 269 = .ok (.invokevirtual 362, 3) := by decide +kernel
theorem dX12_readsPattern_272 : decode cX12_readsPattern 272 = .ok (.ireturn, 1) := by decide +kernel
theorem dX12_readsPattern_273 : decode cX12_readsPattern 273 = .ok (.aload_n 0, 1) := by decide +kernel
theorem dX12_readsPattern_274 : decode cX12_readsPattern 274 = .ok (.iconst 0, 1) := by decide +kernel
theorem dX12_readsPattern_275 : decode cX12_readsPattern 275 = .ok (.invokevirtual 365, 3) := by decide +kernel
theorem dX12_readsPattern_278 : decode cX12_readsPattern 278 = .ok (.iconst 1, 1) := by decide +kernel
theorem dX12_readsPattern_279 : decode cX12_readsPattern 279 = .ok (.ireturn, 1) := by decide +kernel
theorem dX12_readsPattern_280 : decode cX12_readsPattern 280 = .ok (.goto (-259), 3) := by decide +kernel
theorem dX12_readsRule_0 : decode cX12_readsRule 0 = .ok (.aload_n 0, 1) := by decide +kernel
theorem dX12_readsRule_1 : decode cX12_readsRule 1 = .ok (.invokevirtual 349, 3) := by decide +kernel
theorem dX12_readsRule_4 : decode cX12_readsRule 4 = .ok (.istore_n 1, 1) := by decide +kernel
theorem dX12_readsRule_5 : decode cX12_readsRule 5 = .ok (.iload_n 1, 1) := by decide +kernel
theorem dX12_readsRule_6 : decode cX12_readsRule 6 = .ok (.bipush 99, 2) := by decide +kernel
theorem dX12_readsRule_8 : decode cX12_readsRule 8 = .ok (.if_icmp .eq 27, 3) := by decide +kernel
theorem dX12_readsRule_11 : decode cX12_readsRule 11 = .ok (.iload_n 1, 1) := by decide +kernel
theorem dX12_readsRule_12 : decode cX12_readsRule 12 = .ok (.bipush 104, 2) := by decide +kernel
theorem dX12_readsRule_14 : decode cX12_readsRule 14 = .ok (.if_icmp .eq 21, 3) := by decide +kernel
theorem dX12_readsRule_17 : decode cX12_readsRule 17 = .ok (.iload_n 1, 1) := by decide +kernel
theorem dX12_readsRule_18 : decode cX12_readsRule 18 = .ok (.bipush 114, 2) := by decide +kernel
theorem dX12_readsRule_20 : decode cX12_readsRule 20 = .ok (.if_icmp .eq 15, 3) := by decide +kernel
theorem dX12_readsRule_23 : decode cX12_readsRule 23 = .ok (.iload_n 1, 1) := by decide +kernel
theorem dX12_readsRule_24 : decode cX12_readsRule 24 = .ok (.bipush 110, 2) := by decide +kernel
theorem dX12_readsRule_26 : decode cX12_readsRule 26 = .ok (.if_icmp .eq 9, 3) := by decide +kernel
theorem dX12_readsRule_29 : decode cX12_readsRule 29 = .ok (.aload_n 0, 1) := by decide +kernel
theorem dX12_readsRule_30 : decode cX12_readsRule 30 = .ok (.iconst 1, 1) := by decide +kernel
theorem dX12_readsRule_31 : decode cX12_readsRule 31 = .ok (.invokevirtual 362, 3) := by decide +kernel
theorem dX12_readsRule_34 : decode cX12_readsRule 34 = .ok (.ireturn, 1) := by decide +kernel
theorem dX12_readsRule_35 : decode cX12_readsRule 35 = .ok (.aload_n 0, 1) := by decide +kernel
theorem dX12_readsRule_36 : decode cX12_readsRule 36 = .ok (.getfield 368, 3) := by decide +kernel
theorem dX12_readsRule_39 : decode cX12_readsRule 39 = .ok (.bipush 12, 2) := by decide +kernel
theorem dX12_readsRule_41 : decode cX12_readsRule 41 = .ok (.if_icmp .ne 9, 3) := by decide +kernel
theorem dX12_readsRule_44 : decode cX12_readsRule 44 = .ok (.aload_n 0, 1) := by decide +kernel
theorem dX12_readsRule_45 : decode cX12_readsRule 45 = .ok (.iconst 2, 1) := by decide +kernel
theorem dX12_readsRule_46 : decode cX12_readsRule 46 = .ok (.invokevirtual 362, 3) := by decide +kernel
theorem dX12_readsRule_49 : decode cX12_readsRule 49 = .ok (.ireturn, 1) := by decide +kernel
theorem dX12_readsRule_50 : decode cX12_readsRule 50 = .ok (.aload_n 0, 1) := by decide +kernel
theorem dX12_readsRule_51 : decode cX12_readsRule 51 = .ok (.aload_n 0, 1) := by decide +kernel
theorem dX12_readsRule_52 : decode cX12_readsRule 52 = .ok (.getfield 318, 3) := by decide +kernel
theorem dX12_readsRule_55 : decode cX12_readsRule 55 = .ok (.iconst 1, 1) := by decide +kernel
theorem dX12_readsRule_56 : decode cX12_readsRule 56 = .ok (.iadd, 1) := by decide +kernel
theorem dX12_readsRule_57 : decode cX12_readsRule 57 = .ok (.putfield 318, 3) := by decide +kernel
theorem dX12_readsRule_60 : decode cX12_readsRule 60 = .ok (.iload_n 1, 1) := by decide +kernel
theorem dX12_readsRule_61 : decode cX12_readsRule 61 = .ok (.istore_n 2, 1) := by decide +kernel
theorem dX12_readsRule_62 : decode cX12_readsRule 62 = .ok (.iload_n 1, 1) := by decide +kernel
theorem dX12_readsRule_63 : decode cX12_readsRule 63 = .ok (.bipush 110, 2) := by decide +kernel
theorem dX12_readsRule_65 : decode cX12_readsRule 65 = .ok (.if_icmp .ne 45, 3) := by decide +kernel
theorem dX12_readsRule_68 : decode cX12_readsRule 68 = .ok (.aload_n 0, 1) := by decide +kernel
theorem dX12_readsRule_69 : decode cX12_readsRule 69 = .ok (.invokevirtual 349, 3) := by decide +kernel
theorem dX12_readsRule_72 : decode cX12_readsRule 72 = .ok (.bipush 48, 2) := by decide +kernel
theorem dX12_readsRule_74 : decode cX12_readsRule 74 = .ok (.if_icmp .lt 12, 3) := by decide +kernel
theorem dX12_readsRule_77 : decode cX12_readsRule 77 = .ok (.aload_n 0, 1) := by decide +kernel
theorem dX12_readsRule_78 : decode cX12_readsRule 78 = .ok (.invokevirtual 349, 3) := by decide +kernel
theorem dX12_readsRule_81 : decode cX12_readsRule 81 = .ok (.bipush 55, 2) := by decide +kernel
theorem dX12_readsRule_83 : decode cX12_readsRule 83 = .ok (.if_icmp .le 9, 3) := by decide +kernel
theorem dX12_readsRule_86 : decode cX12_readsRule 86 = .ok (.aload_n 0, 1) := by decide +kernel
theorem dX12_readsRule_87 : decode cX12_readsRule 87 = .ok (.iconst 1, 1) := by decide +kernel
theorem dX12_readsRule_88 : decode cX12_readsRule 88 = .ok (.invokevirtual 362, 3) := by decide +kernel
theorem dX12_readsRule_91 : decode cX12_readsRule 91 = .ok (.ireturn, 1) := by decide +kernel
theorem dX12_readsRule_92 : decode cX12_readsRule 92 = .ok (.aload_n 0, 1) := by decide +kernel
theorem dX12_readsRule_93 : decode cX12_readsRule 93 = .ok (.invokevirtual 349, 3) := by decide +kernel
theorem dX12_readsRule_96 : decode cX12_readsRule 96 = .ok (.bipush 48, 2) := by decide +kernel
theorem dX12_readsRule_98 : decode cX12_readsRule 98 = .ok (.isub, 1) := by decide +kernel
theorem dX12_readsRule_99 : decode cX12_readsRule 99 = .ok (.istore_n 2, 1) := by decide +kernel
theorem dX12_readsRule_100 : decode cX12_readsRule 100 = .ok (.aload_n 0, 1) := by decide +kernel
theorem dX12_readsRule_101 : decode cX12_readsRule 101 = .ok (.aload_n 0, 1) := by decide +kernel
theorem dX12_readsRule_102 : decode cX12_readsRule 102 = .ok (.getfield 318, 3) := by decide +kernel
theorem dX12_readsRule_105 : decode cX12_readsRule 105 = .ok (.iconst 1, 1) := by decide +kernel
theorem dX12_readsRule_106 : decode cX12_readsRule 106 = .ok (.iadd, 1) := by decide +kernel
theorem dX12_readsRule_107 : decode cX12_readsRule 107 = .ok (.putfield 318, 3) := by decide +kernel
theorem dX12_readsRule_110 : decode cX12_readsRule 110 = .ok (.aload_n 0, 1) := by decide +kernel
theorem dX12_readsRule_111 : decode cX12_readsRule 111 = .ok (.invokevirtual 349, 3) := by decide +kernel
theorem dX12_readsRule_114 : decode cX12_readsRule 114 = .ok (.bipush 58, 2) := by decide +kernel
theorem dX12_readsRule_116 : decode cX12_readsRule 116 = .ok (.if_icmp .eq 9, 3) := by decide +kernel
theorem dX12_readsRule_119 : decode cX12_readsRule 119 = .ok (.aload_n 0, 1) := by decide +kernel
theorem dX12_readsRule_120 : decode cX12_readsRule 120 = .ok (.iconst 1, 1) := by decide +kernel
theorem dX12_readsRule_121 : decode cX12_readsRule 121 = .ok (.invokevirtual 362, 3) := by decide +kernel
theorem dX12_readsRule_124 : decode cX12_readsRule 124 = .ok (.ireturn, 1) := by decide +kernel
theorem dX12_readsRule_125 : decode cX12_readsRule 125 = .ok (.aload_n 0, 1) := by decide +kernel
theorem dX12_readsRule_126 : decode cX12_readsRule 126 = .ok (.aload_n 0, 1) := by decide +kernel
theorem dX12_readsRule_127 : decode cX12_readsRule 127 = .ok (.getfield 318, 3) := by decide +kernel
theorem dX12_readsRule_130 : decode cX12_readsRule 130 = .ok (.iconst 1, 1) := by decide +kernel
theorem dX12_readsRule_131 : decode cX12_readsRule 131 = .ok (.iadd, 1) := by decide +kernel
theorem dX12_readsRule_132 : decode cX12_readsRule 132 = .ok (.putfield 318, 3) := by decide +kernel
theorem dX12_readsRule_135 : decode cX12_readsRule 135 = .ok (.aload_n 0, 1) := by decide +kernel
theorem dX12_readsRule_136 : decode cX12_readsRule 136 = .ok (.invokevirtual 371, 3) := by decide +kernel
theorem dX12_readsRule_139 : decode cX12_readsRule 139 = .ok (.ifCond .ne 5, 3) := by decide +kernel
theorem dX12_readsRule_142 : decode cX12_readsRule 142 = .ok (.iconst 0, 1) := by decide +kernel
theorem dX12_readsRule_143 : decode cX12_readsRule 143 = .ok (.ireturn, 1) := by decide +kernel
theorem dX12_readsRule_144 : decode cX12_readsRule 144 = .ok (.aload_n 0, 1) := by decide +kernel
theorem dX12_readsRule_145 : decode cX12_readsRule 145 = .ok (.getfield 86, 3) := by decide +kernel
theorem dX12_readsRule_148 : decode cX12_readsRule 148 = .ok (.aload_n 0, 1) := by decide +kernel
theorem dX12_readsRule_149 : decode cX12_readsRule 149 = .ok (.getfield 368, 3) := by decide +kernel
theorem dX12_readsRule_152 : decode cX12_readsRule 152 = .ok (.iload_n 2, 1) := by decide +kernel
theorem dX12_readsRule_153 : decode cX12_readsRule 153 = .ok (.iastore, 1) := by decide +kernel
theorem dX12_readsRule_154 : decode cX12_readsRule 154 = .ok (.aload_n 0, 1) := by decide +kernel
theorem dX12_readsRule_155 : decode cX12_readsRule 155 = .ok (.getfield 89, 3) := by decide +kernel
theorem dX12_readsRule_158 : decode cX12_readsRule 158 = .ok (.aload_n 0, 1) := by decide +kernel
theorem dX12_readsRule_159 : decode cX12_readsRule 159 = .ok (.getfield 368, 3) := by decide +kernel
theorem dX12_readsRule_162 : decode cX12_readsRule 162 = .ok (.aload_n 0, 1) := by decide +kernel
theorem dX12_readsRule_163 : decode cX12_readsRule 163 = .ok (.getfield 92, 3) := by decide +kernel
theorem dX12_readsRule_166 : decode cX12_readsRule 166 = .ok (.iconst 0, 1) := by decide +kernel
theorem dX12_readsRule_167 : decode cX12_readsRule 167 = .ok (.iaload, 1) := by decide +kernel
theorem dX12_readsRule_168 : decode cX12_readsRule 168 = .ok (.iastore, 1) := by decide +kernel
theorem dX12_readsRule_169 : decode cX12_readsRule 169 = .ok (.aload_n 0, 1) := by decide +kernel
theorem dX12_readsRule_170 : decode cX12_readsRule 170 = .ok (.aload_n 0, 1) := by decide +kernel
theorem dX12_readsRule_171 : decode cX12_readsRule 171 = .ok (.getfield 368, 3) := by decide +kernel
theorem dX12_readsRule_174 : decode cX12_readsRule 174 = .ok (.iconst 1, 1) := by decide +kernel
theorem dX12_readsRule_175 : decode cX12_readsRule 175 = .ok (.iadd, 1) := by decide +kernel
theorem dX12_readsRule_176 : decode cX12_readsRule 176 = .ok (.putfield 368, 3) := by decide +kernel
theorem dX12_readsRule_179 : decode cX12_readsRule 179 = .ok (.iconst 1, 1) := by decide +kernel
theorem dX12_readsRule_180 : decode cX12_readsRule 180 = .ok (.ireturn, 1) := by decide +kernel
theorem dX12_rules_0 : decode cX12_rules 0 = .ok (.iload_n 1, 1) := by decide +kernel
theorem dX12_rules_1 : decode cX12_rules 1 = .ok (.iconst 0, 1) := by decide +kernel
theorem dX12_rules_2 : decode cX12_rules 2 = .ok (.sipush 200, 3) := by decide +kernel
theorem dX12_rules_5 : decode cX12_rules 5 = .ok (.invokestatic 260, 3) := by decide +kernel
theorem dX12_rules_8 : decode cX12_rules 8 = .ok (.ifCond .eq 11, 3) := by decide +kernel
theorem dX12_rules_11 : decode cX12_rules 11 = .ok (.iload_n 1, 1) := by decide +kernel
theorem dX12_rules_12 : decode cX12_rules 12 = .ok (.aload_n 0, 1) := by decide +kernel
theorem dX12_rules_13 : decode cX12_rules 13 = .ok (.getfield 311, 3) := by decide +kernel
theorem dX12_rules_16 : decode cX12_rules 16 = .ok (.if_icmp .le 5, 3) := by decide +kernel
theorem dX12_rules_19 : decode cX12_rules 19 = .ok (.iconst (-1), 1) := by decide +kernel
theorem dX12_rules_20 : decode cX12_rules 20 = .ok (.ireturn, 1) := by decide +kernel
theorem dX12_rules_21 : decode cX12_rules 21 = .ok (.aload_n 0, 1) := by decide +kernel
theorem dX12_rules_22 : decode cX12_rules 22 = .ok (.iconst 0, 1) := by decide +kernel
theorem dX12_rules_23 : decode cX12_rules 23 = .ok (.putfield 318, 3) := by decide +kernel
theorem dX12_rules_26 : decode cX12_rules 26 = .ok (.aload_n 0, 1) := by decide +kernel
theorem dX12_rules_27 : decode cX12_rules 27 = .ok (.iload_n 1, 1) := by decide +kernel
theorem dX12_rules_28 : decode cX12_rules 28 = .ok (.putfield 321, 3) := by decide +kernel
theorem dX12_rules_31 : decode cX12_rules 31 = .ok (.aload_n 0, 1) := by decide +kernel
theorem dX12_rules_32 : decode cX12_rules 32 = .ok (.iconst 0, 1) := by decide +kernel
theorem dX12_rules_33 : decode cX12_rules 33 = .ok (.putfield 327, 3) := by decide +kernel
theorem dX12_rules_36 : decode cX12_rules 36 = .ok (.aload_n 0, 1) := by decide +kernel
theorem dX12_rules_37 : decode cX12_rules 37 = .ok (.iconst 0, 1) := by decide +kernel
theorem dX12_rules_38 : decode cX12_rules 38 = .ok (.putfield 368, 3) := by decide +kernel
theorem dX12_rules_41 : decode cX12_rules 41 = .ok (.iconst 1, 1) := by decide +kernel
theorem dX12_rules_42 : decode cX12_rules 42 = .ok (.istore_n 2, 1) := by decide +kernel
theorem dX12_rules_43 : decode cX12_rules 43 = .ok (.iload_n 1, 1) := by decide +kernel
theorem dX12_rules_44 : decode cX12_rules 44 = .ok (.ifCond .le 7, 3) := by decide +kernel
theorem dX12_rules_47 : decode cX12_rules 47 = .ok (.iconst 1, 1) := by decide +kernel
theorem dX12_rules_48 : decode cX12_rules 48 = .ok (.goto 4, 3) := by decide +kernel
theorem dX12_rules_51 : decode cX12_rules 51 = .ok (.iconst 0, 1) := by decide +kernel
theorem dX12_rules_52 : decode cX12_rules 52 = .ok (.istore_n 3, 1) := by decide +kernel
theorem dX12_rules_53 : decode cX12_rules 53 = .ok (.iload_n 2, 1) := by decide +kernel
theorem dX12_rules_54 : decode cX12_rules 54 = .ok (.ifCond .eq 50, 3) := by decide +kernel
theorem dX12_rules_57 : decode cX12_rules 57 = .ok (.iload_n 3, 1) := by decide +kernel
theorem dX12_rules_58 : decode cX12_rules 58 = .ok (.ifCond .eq 46, 3) := by decide +kernel
theorem dX12_rules_61 : decode cX12_rules 61 = .ok (.aload_n 0, 1) := by decide +kernel
theorem dX12_rules_62 : decode cX12_rules 62 = .ok (.invokevirtual 375, 3) := by decide +kernel
theorem dX12_rules_65 : decode cX12_rules 65 = .ok (.istore_n 2, 1) := by decide +kernel
theorem dX12_rules_66 : decode cX12_rules 66 = .ok (.iload_n 2, 1) := by decide +kernel
theorem dX12_rules_67 : decode cX12_rules 67 = .ok (.ifCond .eq 18, 3) := by decide +kernel
theorem dX12_rules_70 : decode cX12_rules 70 = .ok (.aload_n 0, 1) := by decide +kernel
theorem dX12_rules_71 : decode cX12_rules 71 = .ok (.getfield 318, 3) := by decide +kernel
theorem dX12_rules_74 : decode cX12_rules 74 = .ok (.aload_n 0, 1) := by decide +kernel
theorem dX12_rules_75 : decode cX12_rules 75 = .ok (.getfield 321, 3) := by decide +kernel
theorem dX12_rules_78 : decode cX12_rules 78 = .ok (.if_icmp .ge 7, 3) := by decide +kernel
theorem dX12_rules_81 : decode cX12_rules 81 = .ok (.iconst 1, 1) := by decide +kernel
theorem dX12_rules_82 : decode cX12_rules 82 = .ok (.goto 4, 3) := by decide +kernel
theorem dX12_rules_85 : decode cX12_rules 85 = .ok (.iconst 0, 1) := by decide +kernel
theorem dX12_rules_86 : decode cX12_rules 86 = .ok (.istore_n 3, 1) := by decide +kernel
theorem dX12_rules_87 : decode cX12_rules 87 = .ok (.iload_n 3, 1) := by decide +kernel
theorem dX12_rules_88 : decode cX12_rules 88 = .ok (.ifCond .eq (-35), 3) := by decide +kernel
theorem dX12_rules_91 : decode cX12_rules 91 = .ok (.aload_n 0, 1) := by decide +kernel
theorem dX12_rules_92 : decode cX12_rules 92 = .ok (.aload_n 0, 1) := by decide +kernel
theorem dX12_rules_93 : decode cX12_rules 93 = .ok (.getfield 318, 3) := by decide +kernel
theorem dX12_rules_96 : decode cX12_rules 96 = .ok (.iconst 1, 1) := by decide +kernel
theorem dX12_rules_97 : decode cX12_rules 97 = .ok (.iadd, 1) := by decide +kernel
theorem dX12_rules_98 : decode cX12_rules 98 = .ok (.putfield 318, 3) := by decide +kernel
theorem dX12_rules_101 : decode cX12_rules 101 = .ok (.goto (-48), 3) := by decide +kernel
theorem dX12_rules_104 : decode cX12_rules 104 = .ok (.aload_n 0, 1) := by decide +kernel
theorem dX12_rules_105 : decode cX12_rules 105 = .ok (.iconst 0, 1) := by decide +kernel
theorem dX12_rules_106 : decode cX12_rules 106 = .ok (.putfield 311, 3) := by decide +kernel
theorem dX12_rules_109 : decode cX12_rules 109 = .ok (.iload_n 2, 1) := by decide +kernel
theorem dX12_rules_110 : decode cX12_rules 110 = .ok (.ifCond .ne 8, 3) := by decide +kernel
theorem dX12_rules_113 : decode cX12_rules 113 = .ok (.aload_n 0, 1) := by decide +kernel
theorem dX12_rules_114 : decode cX12_rules 114 = .ok (.getfield 324, 3) := by decide +kernel
theorem dX12_rules_117 : decode cX12_rules 117 = .ok (.ireturn, 1) := by decide +kernel
theorem dX12_rules_118 : decode cX12_rules 118 = .ok (.aload_n 0, 1) := by decide +kernel
theorem dX12_rules_119 : decode cX12_rules 119 = .ok (.aload_n 0, 1) := by decide +kernel
theorem dX12_rules_120 : decode cX12_rules 120 = .ok (.getfield 327, 3) := by decide +kernel
theorem dX12_rules_123 : decode cX12_rules 123 = .ok (.putfield 378, 3) := by decide +kernel
theorem dX12_rules_126 : decode cX12_rules 126 = .ok (.aload_n 0, 1) := by decide +kernel
theorem dX12_rules_127 : decode cX12_rules 127 = .ok (.aload_n 0, 1) := by decide +kernel
theorem dX12_rules_128 : decode cX12_rules 128 = .ok (.getfield 368, 3) := by decide +kernel
theorem dX12_rules_131 : decode cX12_rules 131 = .ok (.putfield 381, 3) := by decide +kernel
theorem dX12_rules_134 : decode cX12_rules 134 = .ok (.iconst 0, 1) := by decide +kernel
theorem dX12_rules_135 : decode cX12_rules 135 = .ok (.istore 4, 2) := by decide +kernel
theorem dX12_rules_137 : decode cX12_rules 137 = .ok (.iload 4, 2) := by decide +kernel
theorem dX12_rules_139 : decode cX12_rules 139 = .ok (.aload_n 0, 1) := by decide +kernel
theorem dX12_rules_140 : decode cX12_rules 140 = .ok (.getfield 378, 3) := by decide +kernel
theorem dX12_rules_143 : decode cX12_rules 143 = .ok (.if_icmp .ge 65, 3) := by decide +kernel
theorem dX12_rules_146 : decode cX12_rules 146 = .ok (.aload_n 0, 1) := by decide +kernel
theorem dX12_rules_147 : decode cX12_rules 147 = .ok (.getfield 56, 3) := by decide +kernel
theorem dX12_rules_150 : decode cX12_rules 150 = .ok (.iload 4, 2) := by decide +kernel
theorem dX12_rules_152 : decode cX12_rules 152 = .ok (.aload_n 0, 1) := by decide +kernel
theorem dX12_rules_153 : decode cX12_rules 153 = .ok (.getfield 68, 3) := by decide +kernel
theorem dX12_rules_156 : decode cX12_rules 156 = .ok (.iload 4, 2) := by decide +kernel
theorem dX12_rules_158 : decode cX12_rules 158 = .ok (.iaload, 1) := by decide +kernel
theorem dX12_rules_159 : decode cX12_rules 159 = .ok (.iastore, 1) := by decide +kernel
theorem dX12_rules_160 : decode cX12_rules 160 = .ok (.aload_n 0, 1) := by decide +kernel
theorem dX12_rules_161 : decode cX12_rules 161 = .ok (.getfield 59, 3) := by decide +kernel
theorem dX12_rules_164 : decode cX12_rules 164 = .ok (.iload 4, 2) := by decide +kernel
theorem dX12_rules_166 : decode cX12_rules 166 = .ok (.aload_n 0, 1) := by decide +kernel
theorem dX12_rules_167 : decode cX12_rules 167 = .ok (.getfield 71, 3) := by decide +kernel
theorem dX12_rules_170 : decode cX12_rules 170 = .ok (.iload 4, 2) := by decide +kernel
theorem dX12_rules_172 : decode cX12_rules 172 = .ok (.iaload, 1) := by decide +kernel
theorem dX12_rules_173 : decode cX12_rules 173 = .ok (.iastore, 1) := by decide +kernel
theorem dX12_rules_174 : decode cX12_rules 174 = .ok (.aload_n 0, 1) := by decide +kernel
theorem dX12_rules_175 : decode cX12_rules 175 = .ok (.getfield 62, 3) := by decide +kernel
theorem dX12_rules_178 : decode cX12_rules 178 = .ok (.iload 4, 2) := by decide +kernel
theorem dX12_rules_180 : decode cX12_rules 180 = .ok (.aload_n 0, 1) := by decide +kernel
theorem dX12_rules_181 : decode cX12_rules 181 = .ok (.getfield 74, 3) := by decide +kernel
theorem dX12_rules_184 : decode cX12_rules 184 = .ok (.iload 4, 2) := by decide +kernel
theorem dX12_rules_186 : decode cX12_rules 186 = .ok (.iaload, 1) := by decide +kernel
theorem dX12_rules_187 : decode cX12_rules 187 = .ok (.iastore, 1) := by decide +kernel
theorem dX12_rules_188 : decode cX12_rules 188 = .ok (.aload_n 0, 1) := by decide +kernel
theorem dX12_rules_189 : decode cX12_rules 189 = .ok (.getfield 65, 3) := by decide +kernel
theorem dX12_rules_192 : decode cX12_rules 192 = .ok (.iload 4, 2) := by decide +kernel
theorem dX12_rules_194 : decode cX12_rules 194 = .ok (.aload_n 0, 1) := by decide +kernel
theorem dX12_rules_195 : decode cX12_rules 195 = .ok (.getfield 77, 3) := by decide +kernel
theorem dX12_rules_198 : decode cX12_rules 198 = .ok (.iload 4, 2) := by decide +kernel
theorem dX12_rules_200 : decode cX12_rules 200 = .ok (.iaload, 1) := by decide +kernel
theorem dX12_rules_201 : decode cX12_rules 201 = .ok (.iastore, 1) := by decide +kernel
theorem dX12_rules_202 : decode cX12_rules 202 = .ok (.iinc 4 1, 3) := by decide +kernel
theorem dX12_rules_205 : decode cX12_rules 205 = .ok (.goto (-68), 3) := by decide +kernel
theorem dX12_rules_208 : decode cX12_rules 208 = .ok (.iconst 0, 1) := by decide +kernel
theorem dX12_rules_209 : decode cX12_rules 209 = .ok (.istore 4, 2) := by decide +kernel
theorem dX12_rules_211 : decode cX12_rules 211 = .ok (.iload 4, 2) := by decide +kernel
theorem dX12_rules_213 : decode cX12_rules 213 = .ok (.aload_n 0, 1) := by decide +kernel
theorem dX12_rules_214 : decode cX12_rules 214 = .ok (.getfield 381, 3) := by decide +kernel
theorem dX12_rules_217 : decode cX12_rules 217 = .ok (.if_icmp .ge 37, 3) := by decide +kernel
theorem dX12_rules_220 : decode cX12_rules 220 = .ok (.aload_n 0, 1) := by decide +kernel
theorem dX12_rules_221 : decode cX12_rules 221 = .ok (.getfield 80, 3) := by decide +kernel
theorem dX12_rules_224 : decode cX12_rules 224 = .ok (.iload 4, 2) := by decide +kernel
theorem dX12_rules_226 : decode cX12_rules 226 = .ok (.aload_n 0, 1) := by decide +kernel
theorem dX12_rules_227 : decode cX12_rules 227 = .ok (.getfield 86, 3) := by decide +kernel
theorem dX12_rules_230 : decode cX12_rules 230 = .ok (.iload 4, 2) := by decide +kernel
theorem dX12_rules_232 : decode cX12_rules 232 = .ok (.iaload, 1) := by decide +kernel
theorem dX12_rules_233 : decode cX12_rules 233 = .ok (.iastore, 1) := by decide +kernel
theorem dX12_rules_234 : decode cX12_rules 234 = .ok (.aload_n 0, 1) := by decide +kernel
theorem dX12_rules_235 : decode cX12_rules 235 = .ok (.getfield 83, 3) := by decide +kernel
theorem dX12_rules_238 : decode cX12_rules 238 = .ok (.iload 4, 2) := by decide +kernel
theorem dX12_rules_240 : decode cX12_rules 240 = .ok (.aload_n 0, 1) := by decide +kernel
theorem dX12_rules_241 : decode cX12_rules 241 = .ok (.getfield 89, 3) := by decide +kernel
theorem dX12_rules_244 : decode cX12_rules 244 = .ok (.iload 4, 2) := by decide +kernel
theorem dX12_rules_246 : decode cX12_rules 246 = .ok (.iaload, 1) := by decide +kernel
theorem dX12_rules_247 : decode cX12_rules 247 = .ok (.iastore, 1) := by decide +kernel
theorem dX12_rules_248 : decode cX12_rules 248 = .ok (.iinc 4 1, 3) := by decide +kernel
theorem dX12_rules_251 : decode cX12_rules 251 = .ok (.goto (-40), 3) := by decide +kernel
theorem dX12_rules_254 : decode cX12_rules 254 = .ok (.iconst 0, 1) := by decide +kernel
theorem dX12_rules_255 : decode cX12_rules 255 = .ok (.ireturn, 1) := by decide +kernel
theorem dX12_place_0 : decode cX12_place 0 = .ok (.iconst 3, 1) := by decide +kernel
theorem dX12_place_1 : decode cX12_place 1 = .ok (.sipush 161, 3) := by decide +kernel
theorem dX12_place_4 : decode cX12_place 4 = .ok (.iload_n 0, 1) := by decide +kernel
theorem dX12_place_5 : decode cX12_place 5 = .ok (.imul, 1) := by decide +kernel
theorem dX12_place_6 : decode cX12_place 6 = .ok (.iload_n 1, 1) := by decide +kernel
theorem dX12_place_7 : decode cX12_place 7 = .ok (.iadd, 1) := by decide +kernel
theorem dX12_place_8 : decode cX12_place 8 = .ok (.imul, 1) := by decide +kernel
theorem dX12_place_9 : decode cX12_place 9 = .ok (.ireturn, 1) := by decide +kernel
theorem dX12_adds_0 : decode cX12_adds 0 = .ok (.iconst 0, 1) := by decide +kernel
theorem dX12_adds_1 : decode cX12_adds 1 = .ok (.istore_n 3, 1) := by decide +kernel
theorem dX12_adds_2 : decode cX12_adds 2 = .ok (.iload_n 3, 1) := by decide +kernel
theorem dX12_adds_3 : decode cX12_adds 3 = .ok (.iconst 3, 1) := by decide +kernel
theorem dX12_adds_4 : decode cX12_adds 4 = .ok (.if_icmp .ge 34, 3) := by decide +kernel
theorem dX12_adds_7 : decode cX12_adds 7 = .ok (.aload_n 0, 1) := by decide +kernel
theorem dX12_adds_8 : decode cX12_adds 8 = .ok (.getfield 102, 3) := by decide +kernel
theorem dX12_adds_11 : decode cX12_adds 11 = .ok (.iload_n 1, 1) := by decide +kernel
theorem dX12_adds_12 : decode cX12_adds 12 = .ok (.iload_n 3, 1) := by decide +kernel
theorem dX12_adds_13 : decode cX12_adds 13 = .ok (.iadd, 1) := by decide +kernel
theorem dX12_adds_14 : decode cX12_adds 14 = .ok (.aload_n 0, 1) := by decide +kernel
theorem dX12_adds_15 : decode cX12_adds 15 = .ok (.getfield 102, 3) := by decide +kernel
theorem dX12_adds_18 : decode cX12_adds 18 = .ok (.iload_n 1, 1) := by decide +kernel
theorem dX12_adds_19 : decode cX12_adds 19 = .ok (.iload_n 3, 1) := by decide +kernel
theorem dX12_adds_20 : decode cX12_adds 20 = .ok (.iadd, 1) := by decide +kernel
theorem dX12_adds_21 : decode cX12_adds 21 = .ok (.laload, 1) := by decide +kernel
theorem dX12_adds_22 : decode cX12_adds 22 = .ok (.aload_n 0, 1) := by decide +kernel
theorem dX12_adds_23 : decode cX12_adds 23 = .ok (.getfield 102, 3) := by decide +kernel
theorem dX12_adds_26 : decode cX12_adds 26 = .ok (.iload_n 2, 1) := by decide +kernel
theorem dX12_adds_27 : decode cX12_adds 27 = .ok (.iload_n 3, 1) := by decide +kernel
theorem dX12_adds_28 : decode cX12_adds 28 = .ok (.iadd, 1) := by decide +kernel
theorem dX12_adds_29 : decode cX12_adds 29 = .ok (.laload, 1) := by decide +kernel
theorem dX12_adds_30 : decode cX12_adds 30 = .ok (.lor, 1) := by decide +kernel
theorem dX12_adds_31 : decode cX12_adds 31 = .ok (.lastore, 1) := by decide +kernel
theorem dX12_adds_32 : decode cX12_adds 32 = .ok (.iinc 3 1, 3) := by decide +kernel
theorem dX12_adds_35 : decode cX12_adds 35 = .ok (.goto (-33), 3) := by decide +kernel
theorem dX12_adds_38 : decode cX12_adds 38 = .ok (.return_, 1) := by decide +kernel
theorem dX12_isEnd_0 : decode cX12_isEnd 0 = .ok (.aload_n 0, 1) := by decide +kernel
theorem dX12_isEnd_1 : decode cX12_isEnd 1 = .ok (.getfield 102, 3) := by decide +kernel
theorem dX12_isEnd_4 : decode cX12_isEnd 4 = .ok (.iload_n 1, 1) := by decide +kernel
theorem dX12_isEnd_5 : decode cX12_isEnd 5 = .ok (.iload_n 2, 1) := by decide +kernel
theorem dX12_isEnd_6 : decode cX12_isEnd 6 = .ok (.bipush 64, 2) := by decide +kernel
theorem dX12_isEnd_8 : decode cX12_isEnd 8 = .ok (.idiv, 1) := by decide +kernel
theorem dX12_isEnd_9 : decode cX12_isEnd 9 = .ok (.iadd, 1) := by decide +kernel
theorem dX12_isEnd_10 : decode cX12_isEnd 10 = .ok (.laload, 1) := by decide +kernel
theorem dX12_isEnd_11 : decode cX12_isEnd 11 = .ok (.iload_n 2, 1) := by decide +kernel
theorem dX12_isEnd_12 : decode cX12_isEnd 12 = .ok (.bipush 64, 2) := by decide +kernel
theorem dX12_isEnd_14 : decode cX12_isEnd 14 = .ok (.irem, 1) := by decide +kernel
theorem dX12_isEnd_15 : decode cX12_isEnd 15 = .ok (.lshr, 1) := by decide +kernel
theorem dX12_isEnd_16 : decode cX12_isEnd 16 = .ok (.lconst 1, 1) := by decide +kernel
theorem dX12_isEnd_17 : decode cX12_isEnd 17 = .ok (.land, 1) := by decide +kernel
theorem dX12_isEnd_18 : decode cX12_isEnd 18 = .ok (.lconst 1, 1) := by decide +kernel
theorem dX12_isEnd_19 : decode cX12_isEnd 19 = .ok (.lcmp, 1) := by decide +kernel
theorem dX12_isEnd_20 : decode cX12_isEnd 20 = .ok (.ifCond .ne 7, 3) := by decide +kernel
theorem dX12_isEnd_23 : decode cX12_isEnd 23 = .ok (.iconst 1, 1) := by decide +kernel
theorem dX12_isEnd_24 : decode cX12_isEnd 24 = .ok (.goto 4, 3) := by decide +kernel
theorem dX12_isEnd_27 : decode cX12_isEnd 27 = .ok (.iconst 0, 1) := by decide +kernel
theorem dX12_isEnd_28 : decode cX12_isEnd 28 = .ok (.ireturn, 1) := by decide +kernel
theorem dX12_puts_0 : decode cX12_puts 0 = .ok (.aload_n 0, 1) := by decide +kernel
theorem dX12_puts_1 : decode cX12_puts 1 = .ok (.getfield 102, 3) := by decide +kernel
theorem dX12_puts_4 : decode cX12_puts 4 = .ok (.iload_n 1, 1) := by decide +kernel
theorem dX12_puts_5 : decode cX12_puts 5 = .ok (.iload_n 2, 1) := by decide +kernel
theorem dX12_puts_6 : decode cX12_puts 6 = .ok (.bipush 64, 2) := by decide +kernel
theorem dX12_puts_8 : decode cX12_puts 8 = .ok (.idiv, 1) := by decide +kernel
theorem dX12_puts_9 : decode cX12_puts 9 = .ok (.iadd, 1) := by decide +kernel
theorem dX12_puts_10 : decode cX12_puts 10 = .ok (.aload_n 0, 1) := by decide +kernel
theorem dX12_puts_11 : decode cX12_puts 11 = .ok (.getfield 102, 3) := by decide +kernel
theorem dX12_puts_14 : decode cX12_puts 14 = .ok (.iload_n 1, 1) := by decide +kernel
theorem dX12_puts_15 : decode cX12_puts 15 = .ok (.iload_n 2, 1) := by decide +kernel
theorem dX12_puts_16 : decode cX12_puts 16 = .ok (.bipush 64, 2) := by decide +kernel
theorem dX12_puts_18 : decode cX12_puts 18 = .ok (.idiv, 1) := by decide +kernel
theorem dX12_puts_19 : decode cX12_puts 19 = .ok (.iadd, 1) := by decide +kernel
theorem dX12_puts_20 : decode cX12_puts 20 = .ok (.laload, 1) := by decide +kernel
theorem dX12_puts_21 : decode cX12_puts 21 = .ok (.lconst 1, 1) := by decide +kernel
theorem dX12_puts_22 : decode cX12_puts 22 = .ok (.iload_n 2, 1) := by decide +kernel
theorem dX12_puts_23 : decode cX12_puts 23 = .ok (.bipush 64, 2) := by decide +kernel
theorem dX12_puts_25 : decode cX12_puts 25 = .ok (.irem, 1) := by decide +kernel
theorem dX12_puts_26 : decode cX12_puts 26 = .ok (.lshl, 1) := by decide +kernel
theorem dX12_puts_27 : decode cX12_puts 27 = .ok (.lor, 1) := by decide +kernel
theorem dX12_puts_28 : decode cX12_puts 28 = .ok (.lastore, 1) := by decide +kernel
theorem dX12_puts_29 : decode cX12_puts 29 = .ok (.return_, 1) := by decide +kernel
theorem dX12_isWord_0 : decode cX12_isWord 0 = .ok (.iload_n 1, 1) := by decide +kernel
theorem dX12_isWord_1 : decode cX12_isWord 1 = .ok (.ifCond .lt 39, 3) := by decide +kernel
theorem dX12_isWord_4 : decode cX12_isWord 4 = .ok (.iload_n 1, 1) := by decide +kernel
theorem dX12_isWord_5 : decode cX12_isWord 5 = .ok (.aload_n 0, 1) := by decide +kernel
theorem dX12_isWord_6 : decode cX12_isWord 6 = .ok (.getfield 384, 3) := by decide +kernel
theorem dX12_isWord_9 : decode cX12_isWord 9 = .ok (.if_icmp .ge 31, 3) := by decide +kernel
theorem dX12_isWord_12 : decode cX12_isWord 12 = .ok (.aload_n 0, 1) := by decide +kernel
theorem dX12_isWord_13 : decode cX12_isWord 13 = .ok (.getfield 106, 3) := by decide +kernel
theorem dX12_isWord_16 : decode cX12_isWord 16 = .ok (.iload_n 1, 1) := by decide +kernel
theorem dX12_isWord_17 : decode cX12_isWord 17 = .ok (.baload, 1) := by decide +kernel
theorem dX12_isWord_18 : decode cX12_isWord 18 = .ok (.invokestatic 340, 3) := by decide +kernel
theorem dX12_isWord_21 : decode cX12_isWord 21 = .ok (.ifCond .ne 15, 3) := by decide +kernel
theorem dX12_isWord_24 : decode cX12_isWord 24 = .ok (.aload_n 0, 1) := by decide +kernel
theorem dX12_isWord_25 : decode cX12_isWord 25 = .ok (.getfield 106, 3) := by decide +kernel
theorem dX12_isWord_28 : decode cX12_isWord 28 = .ok (.iload_n 1, 1) := by decide +kernel
theorem dX12_isWord_29 : decode cX12_isWord 29 = .ok (.baload, 1) := by decide +kernel
theorem dX12_isWord_30 : decode cX12_isWord 30 = .ok (.invokestatic 343, 3) := by decide +kernel
theorem dX12_isWord_33 : decode cX12_isWord 33 = .ok (.ifCond .eq 7, 3) := by decide +kernel
theorem dX12_isWord_36 : decode cX12_isWord 36 = .ok (.iconst 1, 1) := by decide +kernel
theorem dX12_isWord_37 : decode cX12_isWord 37 = .ok (.goto 4, 3) := by decide +kernel
theorem dX12_isWord_40 : decode cX12_isWord 40 = .ok (.iconst 0, 1) := by decide +kernel
theorem dX12_isWord_41 : decode cX12_isWord 41 = .ok (.ireturn, 1) := by decide +kernel
theorem dX12_takes_0 : decode cX12_takes 0 = .ok (.iload_n 1, 1) := by decide +kernel
theorem dX12_takes_1 : decode cX12_takes 1 = .ok (.lookupswitch 73 #[(35, 43), (46, 71), (64, 48), (95, 53)], 43) := by decide +kernel
theorem dX12_takes_44 : decode cX12_takes 44 = .ok (.iload_n 2, 1) := by decide +kernel
theorem dX12_takes_45 : decode cX12_takes 45 = .ok (.invokestatic 343, 3) := by decide +kernel
theorem dX12_takes_48 : decode cX12_takes 48 = .ok (.ireturn, 1) := by decide +kernel
theorem dX12_takes_49 : decode cX12_takes 49 = .ok (.iload_n 2, 1) := by decide +kernel
theorem dX12_takes_50 : decode cX12_takes 50 = .ok (.invokestatic 340, 3) := by decide +kernel
theorem dX12_takes_53 : decode cX12_takes 53 = .ok (.ireturn, 1) := by decide +kernel
theorem dX12_takes_54 : decode cX12_takes 54 = .ok (.iload_n 2, 1) := by decide +kernel
theorem dX12_takes_55 : decode cX12_takes 55 = .ok (.bipush 32, 2) := by decide +kernel
theorem dX12_takes_57 : decode cX12_takes 57 = .ok (.if_icmp .eq 9, 3) := by decide +kernel
theorem dX12_takes_60 : decode cX12_takes 60 = .ok (.iload_n 2, 1) := by decide +kernel
theorem dX12_takes_61 : decode cX12_takes 61 = .ok (.bipush 10, 2) := by decide +kernel
theorem dX12_takes_63 : decode cX12_takes 63 = .ok (.if_icmp .ne 7, 3) := by decide +kernel
theorem dX12_takes_66 : decode cX12_takes 66 = .ok (.iconst 1, 1) := by decide +kernel
theorem dX12_takes_67 : decode cX12_takes 67 = .ok (.goto 4, 3) := by decide +kernel
theorem dX12_takes_70 : decode cX12_takes 70 = .ok (.iconst 0, 1) := by decide +kernel
theorem dX12_takes_71 : decode cX12_takes 71 = .ok (.ireturn, 1) := by decide +kernel
theorem dX12_takes_72 : decode cX12_takes 72 = .ok (.iconst 1, 1) := by decide +kernel
theorem dX12_takes_73 : decode cX12_takes 73 = .ok (.ireturn, 1) := by decide +kernel
theorem dX12_takes_74 : decode cX12_takes 74 = .ok (.iload_n 1, 1) := by decide +kernel
theorem dX12_takes_75 : decode cX12_takes 75 = .ok (.iload_n 2, 1) := by decide +kernel
theorem dX12_takes_76 : decode cX12_takes 76 = .ok (.if_icmp .ne 7, 3) := by decide +kernel
theorem dX12_takes_79 : decode cX12_takes 79 = .ok (.iconst 1, 1) := by decide +kernel
theorem dX12_takes_80 : decode cX12_takes 80 = .ok (.goto 4, 3) := by decide +kernel
theorem dX12_takes_83 : decode cX12_takes 83 = .ok (.iconst 0, 1) := by decide +kernel
theorem dX12_takes_84 : decode cX12_takes 84 = .ok (.ireturn, 1) := by decide +kernel
theorem dX12_spans_0 : decode cX12_spans 0 = .ok (.iload_n 1, 1) := by decide +kernel
theorem dX12_spans_1 : decode cX12_spans 1 = .ok (.iload_n 2, 1) := by decide +kernel
theorem dX12_spans_2 : decode cX12_spans 2 = .ok (.invokestatic 387, 3) := by decide +kernel
theorem dX12_spans_5 : decode cX12_spans 5 = .ok (.istore_n 3, 1) := by decide +kernel
theorem dX12_spans_6 : decode cX12_spans 6 = .ok (.iconst 0, 1) := by decide +kernel
theorem dX12_spans_7 : decode cX12_spans 7 = .ok (.istore 4, 2) := by decide +kernel
theorem dX12_spans_9 : decode cX12_spans 9 = .ok (.iload 4, 2) := by decide +kernel
theorem dX12_spans_11 : decode cX12_spans 11 = .ok (.iconst 3, 1) := by decide +kernel
theorem dX12_spans_12 : decode cX12_spans 12 = .ok (.if_icmp .ge 19, 3) := by decide +kernel
theorem dX12_spans_15 : decode cX12_spans 15 = .ok (.aload_n 0, 1) := by decide +kernel
theorem dX12_spans_16 : decode cX12_spans 16 = .ok (.getfield 102, 3) := by decide +kernel
theorem dX12_spans_19 : decode cX12_spans 19 = .ok (.iload_n 3, 1) := by decide +kernel
theorem dX12_spans_20 : decode cX12_spans 20 = .ok (.iload 4, 2) := by decide +kernel
theorem dX12_spans_22 : decode cX12_spans 22 = .ok (.iadd, 1) := by decide +kernel
theorem dX12_spans_23 : decode cX12_spans 23 = .ok (.lconst 0, 1) := by decide +kernel
theorem dX12_spans_24 : decode cX12_spans 24 = .ok (.lastore, 1) := by decide +kernel
theorem dX12_spans_25 : decode cX12_spans 25 = .ok (.iinc 4 1, 3) := by decide +kernel
theorem dX12_spans_28 : decode cX12_spans 28 = .ok (.goto (-19), 3) := by decide +kernel
theorem dX12_spans_31 : decode cX12_spans 31 = .ok (.aload_n 0, 1) := by decide +kernel
theorem dX12_spans_32 : decode cX12_spans 32 = .ok (.getfield 56, 3) := by decide +kernel
theorem dX12_spans_35 : decode cX12_spans 35 = .ok (.iload_n 1, 1) := by decide +kernel
theorem dX12_spans_36 : decode cX12_spans 36 = .ok (.iaload, 1) := by decide +kernel
theorem dX12_spans_37 : decode cX12_spans 37 = .ok (.tableswitch 218 0 6 #[43, 81, 105, 161, 218, 218, 194], 43) := by decide +kernel
theorem dX12_spans_80 : decode cX12_spans 80 = .ok (.iload_n 2, 1) := by decide +kernel
theorem dX12_spans_81 : decode cX12_spans 81 = .ok (.aload_n 0, 1) := by decide +kernel
theorem dX12_spans_82 : decode cX12_spans 82 = .ok (.getfield 384, 3) := by decide +kernel
theorem dX12_spans_85 : decode cX12_spans 85 = .ok (.if_icmp .ge 176, 3) := by decide +kernel
theorem dX12_spans_88 : decode cX12_spans 88 = .ok (.aload_n 0, 1) := by decide +kernel
theorem dX12_spans_89 : decode cX12_spans 89 = .ok (.aload_n 0, 1) := by decide +kernel
theorem dX12_spans_90 : decode cX12_spans 90 = .ok (.getfield 59, 3) := by decide +kernel
theorem dX12_spans_93 : decode cX12_spans 93 = .ok (.iload_n 1, 1) := by decide +kernel
theorem dX12_spans_94 : decode cX12_spans 94 = .ok (.iaload, 1) := by decide +kernel
theorem dX12_spans_95 : decode cX12_spans 95 = .ok (.aload_n 0, 1) := by decide +kernel
theorem dX12_spans_96 : decode cX12_spans 96 = .ok (.getfield 106, 3) := by decide +kernel
theorem dX12_spans_99 : decode cX12_spans 99 = .ok (.iload_n 2, 1) := by decide +kernel
theorem dX12_spans_100 : decode cX12_spans 100 = .ok (.baload, 1) := by decide +kernel
theorem dX12_spans_101 : decode cX12_spans 101 = .ok (.invokevirtual 390, 3) := by decide +kernel
theorem dX12_spans_104 : decode cX12_spans 104 = .ok (.ifCond .eq 157, 3) := by decide +kernel
theorem dX12_spans_107 : decode cX12_spans 107 = .ok (.aload_n 0, 1) := by decide +kernel
theorem dX12_spans_108 : decode cX12_spans 108 = .ok (.iload_n 3, 1) := by decide +kernel
theorem dX12_spans_109 : decode cX12_spans 109 = .ok (.iload_n 2, 1) := by decide +kernel
theorem dX12_spans_110 : decode cX12_spans 110 = .ok (.iconst 1, 1) := by decide +kernel
theorem dX12_spans_111 : decode cX12_spans 111 = .ok (.iadd, 1) := by decide +kernel
theorem dX12_spans_112 : decode cX12_spans 112 = .ok (.invokevirtual 394, 3) := by decide +kernel
theorem dX12_spans_115 : decode cX12_spans 115 = .ok (.goto 146, 3) := by decide +kernel
theorem dX12_spans_118 : decode cX12_spans 118 = .ok (.aload_n 0, 1) := by decide +kernel
theorem dX12_spans_119 : decode cX12_spans 119 = .ok (.iload_n 2, 1) := by decide +kernel
theorem dX12_spans_120 : decode cX12_spans 120 = .ok (.iconst 1, 1) := by decide +kernel
theorem dX12_spans_121 : decode cX12_spans 121 = .ok (.isub, 1) := by decide +kernel
theorem dX12_spans_122 : decode cX12_spans 122 = .ok (.invokevirtual 398, 3) := by decide +kernel
theorem dX12_spans_125 : decode cX12_spans 125 = .ok (.aload_n 0, 1) := by decide +kernel
theorem dX12_spans_126 : decode cX12_spans 126 = .ok (.iload_n 2, 1) := by decide +kernel
theorem dX12_spans_127 : decode cX12_spans 127 = .ok (.invokevirtual 398, 3) := by decide +kernel
theorem dX12_spans_130 : decode cX12_spans 130 = .ok (.if_icmp .eq 131, 3) := by decide +kernel
theorem dX12_spans_133 : decode cX12_spans 133 = .ok (.aload_n 0, 1) := by decide +kernel
theorem dX12_spans_134 : decode cX12_spans 134 = .ok (.iload_n 3, 1) := by decide +kernel
theorem dX12_spans_135 : decode cX12_spans 135 = .ok (.iload_n 2, 1) := by decide +kernel
theorem dX12_spans_136 : decode cX12_spans 136 = .ok (.invokevirtual 394, 3) := by decide +kernel
theorem dX12_spans_139 : decode cX12_spans 139 = .ok (.goto 122, 3) := by decide +kernel
theorem dX12_spans_142 : decode cX12_spans 142 = .ok (.iload_n 2, 1) := by decide +kernel
theorem dX12_spans_143 : decode cX12_spans 143 = .ok (.istore 4, 2) := by decide +kernel
theorem dX12_spans_145 : decode cX12_spans 145 = .ok (.iload 4, 2) := by decide +kernel
theorem dX12_spans_147 : decode cX12_spans 147 = .ok (.aload_n 0, 1) := by decide +kernel
theorem dX12_spans_148 : decode cX12_spans 148 = .ok (.getfield 384, 3) := by decide +kernel
theorem dX12_spans_151 : decode cX12_spans 151 = .ok (.if_icmp .gt 44, 3) := by decide +kernel
theorem dX12_spans_154 : decode cX12_spans 154 = .ok (.aload_n 0, 1) := by decide +kernel
theorem dX12_spans_155 : decode cX12_spans 155 = .ok (.aload_n 0, 1) := by decide +kernel
theorem dX12_spans_156 : decode cX12_spans 156 = .ok (.getfield 62, 3) := by decide +kernel
theorem dX12_spans_159 : decode cX12_spans 159 = .ok (.iload_n 1, 1) := by decide +kernel
theorem dX12_spans_160 : decode cX12_spans 160 = .ok (.iaload, 1) := by decide +kernel
theorem dX12_spans_161 : decode cX12_spans 161 = .ok (.iload_n 2, 1) := by decide +kernel
theorem dX12_spans_162 : decode cX12_spans 162 = .ok (.invokestatic 387, 3) := by decide +kernel
theorem dX12_spans_165 : decode cX12_spans 165 = .ok (.iload 4, 2) := by decide +kernel
theorem dX12_spans_167 : decode cX12_spans 167 = .ok (.invokevirtual 401, 3) := by decide +kernel
theorem dX12_spans_170 : decode cX12_spans 170 = .ok (.ifCond .eq 19, 3) := by decide +kernel
theorem dX12_spans_173 : decode cX12_spans 173 = .ok (.aload_n 0, 1) := by decide +kernel
theorem dX12_spans_174 : decode cX12_spans 174 = .ok (.iload_n 3, 1) := by decide +kernel
theorem dX12_spans_175 : decode cX12_spans 175 = .ok (.aload_n 0, 1) := by decide +kernel
theorem dX12_spans_176 : decode cX12_spans 176 = .ok (.getfield 65, 3) := by decide +kernel
theorem dX12_spans_179 : decode cX12_spans 179 = .ok (.iload_n 1, 1) := by decide +kernel
theorem dX12_spans_180 : decode cX12_spans 180 = .ok (.iaload, 1) := by decide +kernel
theorem dX12_spans_181 : decode cX12_spans 181 = .ok (.iload 4, 2) := by decide +kernel
theorem dX12_spans_183 : decode cX12_spans 183 = .ok (.invokestatic 387, 3) := by decide +kernel
theorem dX12_spans_186 : decode cX12_spans 186 = .ok (.invokevirtual 404, 3) := by decide +kernel
theorem dX12_spans_189 : decode cX12_spans 189 = .ok (.iinc 4 1, 3) := by decide +kernel
theorem dX12_spans_192 : decode cX12_spans 192 = .ok (.goto (-47), 3) := by decide +kernel
theorem dX12_spans_195 : decode cX12_spans 195 = .ok (.goto 66, 3) := by decide +kernel
theorem dX12_spans_198 : decode cX12_spans 198 = .ok (.aload_n 0, 1) := by decide +kernel
theorem dX12_spans_199 : decode cX12_spans 199 = .ok (.iload_n 3, 1) := by decide +kernel
theorem dX12_spans_200 : decode cX12_spans 200 = .ok (.aload_n 0, 1) := by decide +kernel
theorem dX12_spans_201 : decode cX12_spans 201 = .ok (.getfield 62, 3) := by decide +kernel
theorem dX12_spans_204 : decode cX12_spans 204 = .ok (.iload_n 1, 1) := by decide +kernel
theorem dX12_spans_205 : decode cX12_spans 205 = .ok (.iaload, 1) := by decide +kernel
theorem dX12_spans_206 : decode cX12_spans 206 = .ok (.iload_n 2, 1) := by decide +kernel
theorem dX12_spans_207 : decode cX12_spans 207 = .ok (.invokestatic 387, 3) := by decide +kernel
theorem dX12_spans_210 : decode cX12_spans 210 = .ok (.invokevirtual 404, 3) := by decide +kernel
theorem dX12_spans_213 : decode cX12_spans 213 = .ok (.aload_n 0, 1) := by decide +kernel
theorem dX12_spans_214 : decode cX12_spans 214 = .ok (.iload_n 3, 1) := by decide +kernel
theorem dX12_spans_215 : decode cX12_spans 215 = .ok (.aload_n 0, 1) := by decide +kernel
theorem dX12_spans_216 : decode cX12_spans 216 = .ok (.getfield 65, 3) := by decide +kernel
theorem dX12_spans_219 : decode cX12_spans 219 = .ok (.iload_n 1, 1) := by decide +kernel
theorem dX12_spans_220 : decode cX12_spans 220 = .ok (.iaload, 1) := by decide +kernel
theorem dX12_spans_221 : decode cX12_spans 221 = .ok (.iload_n 2, 1) := by decide +kernel
theorem dX12_spans_222 : decode cX12_spans 222 = .ok (.invokestatic 387, 3) := by decide +kernel
theorem dX12_spans_225 : decode cX12_spans 225 = .ok (.invokevirtual 404, 3) := by decide +kernel
theorem dX12_spans_228 : decode cX12_spans 228 = .ok (.goto 33, 3) := by decide +kernel
theorem dX12_spans_231 : decode cX12_spans 231 = .ok (.aload_n 0, 1) := by decide +kernel
theorem dX12_spans_232 : decode cX12_spans 232 = .ok (.iload_n 3, 1) := by decide +kernel
theorem dX12_spans_233 : decode cX12_spans 233 = .ok (.aload_n 0, 1) := by decide +kernel
theorem dX12_spans_234 : decode cX12_spans 234 = .ok (.getfield 62, 3) := by decide +kernel
theorem dX12_spans_237 : decode cX12_spans 237 = .ok (.iload_n 1, 1) := by decide +kernel
theorem dX12_spans_238 : decode cX12_spans 238 = .ok (.iaload, 1) := by decide +kernel
theorem dX12_spans_239 : decode cX12_spans 239 = .ok (.iload_n 2, 1) := by decide +kernel
theorem dX12_spans_240 : decode cX12_spans 240 = .ok (.invokestatic 387, 3) := by decide +kernel
theorem dX12_spans_243 : decode cX12_spans 243 = .ok (.invokevirtual 404, 3) := by decide +kernel
theorem dX12_spans_246 : decode cX12_spans 246 = .ok (.aload_n 0, 1) := by decide +kernel
theorem dX12_spans_247 : decode cX12_spans 247 = .ok (.iload_n 3, 1) := by decide +kernel
theorem dX12_spans_248 : decode cX12_spans 248 = .ok (.iload_n 2, 1) := by decide +kernel
theorem dX12_spans_249 : decode cX12_spans 249 = .ok (.invokevirtual 394, 3) := by decide +kernel
theorem dX12_spans_252 : decode cX12_spans 252 = .ok (.goto 9, 3) := by decide +kernel
theorem dX12_spans_255 : decode cX12_spans 255 = .ok (.aload_n 0, 1) := by decide +kernel
theorem dX12_spans_256 : decode cX12_spans 256 = .ok (.iload_n 1, 1) := by decide +kernel
theorem dX12_spans_257 : decode cX12_spans 257 = .ok (.iload_n 2, 1) := by decide +kernel
theorem dX12_spans_258 : decode cX12_spans 258 = .ok (.invokevirtual 407, 3) := by decide +kernel
theorem dX12_spans_261 : decode cX12_spans 261 = .ok (.return_, 1) := by decide +kernel
theorem dX12_goesOn_0 : decode cX12_goesOn 0 = .ok (.iload_n 1, 1) := by decide +kernel
theorem dX12_goesOn_1 : decode cX12_goesOn 1 = .ok (.iload_n 2, 1) := by decide +kernel
theorem dX12_goesOn_2 : decode cX12_goesOn 2 = .ok (.invokestatic 387, 3) := by decide +kernel
theorem dX12_goesOn_5 : decode cX12_goesOn 5 = .ok (.istore_n 3, 1) := by decide +kernel
theorem dX12_goesOn_6 : decode cX12_goesOn 6 = .ok (.aload_n 0, 1) := by decide +kernel
theorem dX12_goesOn_7 : decode cX12_goesOn 7 = .ok (.getfield 62, 3) := by decide +kernel
theorem dX12_goesOn_10 : decode cX12_goesOn 10 = .ok (.iload_n 1, 1) := by decide +kernel
theorem dX12_goesOn_11 : decode cX12_goesOn 11 = .ok (.iaload, 1) := by decide +kernel
theorem dX12_goesOn_12 : decode cX12_goesOn 12 = .ok (.iload_n 2, 1) := by decide +kernel
theorem dX12_goesOn_13 : decode cX12_goesOn 13 = .ok (.invokestatic 387, 3) := by decide +kernel
theorem dX12_goesOn_16 : decode cX12_goesOn 16 = .ok (.istore 4, 2) := by decide +kernel
theorem dX12_goesOn_18 : decode cX12_goesOn 18 = .ok (.aload_n 0, 1) := by decide +kernel
theorem dX12_goesOn_19 : decode cX12_goesOn 19 = .ok (.getfield 56, 3) := by decide +kernel
theorem dX12_goesOn_22 : decode cX12_goesOn 22 = .ok (.iload_n 1, 1) := by decide +kernel
theorem dX12_goesOn_23 : decode cX12_goesOn 23 = .ok (.iaload, 1) := by decide +kernel
theorem dX12_goesOn_24 : decode cX12_goesOn 24 = .ok (.iconst 4, 1) := by decide +kernel
theorem dX12_goesOn_25 : decode cX12_goesOn 25 = .ok (.if_icmp .eq 13, 3) := by decide +kernel
theorem dX12_goesOn_28 : decode cX12_goesOn 28 = .ok (.aload_n 0, 1) := by decide +kernel
theorem dX12_goesOn_29 : decode cX12_goesOn 29 = .ok (.iload 4, 2) := by decide +kernel
theorem dX12_goesOn_31 : decode cX12_goesOn 31 = .ok (.iload_n 2, 1) := by decide +kernel
theorem dX12_goesOn_32 : decode cX12_goesOn 32 = .ok (.invokevirtual 401, 3) := by decide +kernel
theorem dX12_goesOn_35 : decode cX12_goesOn 35 = .ok (.ifCond .eq 9, 3) := by decide +kernel
theorem dX12_goesOn_38 : decode cX12_goesOn 38 = .ok (.aload_n 0, 1) := by decide +kernel
theorem dX12_goesOn_39 : decode cX12_goesOn 39 = .ok (.iload_n 3, 1) := by decide +kernel
theorem dX12_goesOn_40 : decode cX12_goesOn 40 = .ok (.iload_n 2, 1) := by decide +kernel
theorem dX12_goesOn_41 : decode cX12_goesOn 41 = .ok (.invokevirtual 394, 3) := by decide +kernel
theorem dX12_goesOn_44 : decode cX12_goesOn 44 = .ok (.iload_n 2, 1) := by decide +kernel
theorem dX12_goesOn_45 : decode cX12_goesOn 45 = .ok (.iconst 1, 1) := by decide +kernel
theorem dX12_goesOn_46 : decode cX12_goesOn 46 = .ok (.iadd, 1) := by decide +kernel
theorem dX12_goesOn_47 : decode cX12_goesOn 47 = .ok (.istore 5, 2) := by decide +kernel
theorem dX12_goesOn_49 : decode cX12_goesOn 49 = .ok (.iload 5, 2) := by decide +kernel
theorem dX12_goesOn_51 : decode cX12_goesOn 51 = .ok (.aload_n 0, 1) := by decide +kernel
theorem dX12_goesOn_52 : decode cX12_goesOn 52 = .ok (.getfield 384, 3) := by decide +kernel
theorem dX12_goesOn_55 : decode cX12_goesOn 55 = .ok (.if_icmp .gt 41, 3) := by decide +kernel
theorem dX12_goesOn_58 : decode cX12_goesOn 58 = .ok (.aload_n 0, 1) := by decide +kernel
theorem dX12_goesOn_59 : decode cX12_goesOn 59 = .ok (.iload 4, 2) := by decide +kernel
theorem dX12_goesOn_61 : decode cX12_goesOn 61 = .ok (.iload 5, 2) := by decide +kernel
theorem dX12_goesOn_63 : decode cX12_goesOn 63 = .ok (.invokevirtual 401, 3) := by decide +kernel
theorem dX12_goesOn_66 : decode cX12_goesOn 66 = .ok (.ifCond .ne 6, 3) := by decide +kernel
theorem dX12_goesOn_69 : decode cX12_goesOn 69 = .ok (.goto 21, 3) := by decide +kernel
theorem dX12_goesOn_72 : decode cX12_goesOn 72 = .ok (.aload_n 0, 1) := by decide +kernel
theorem dX12_goesOn_73 : decode cX12_goesOn 73 = .ok (.iload_n 3, 1) := by decide +kernel
theorem dX12_goesOn_74 : decode cX12_goesOn 74 = .ok (.iload 5, 2) := by decide +kernel
theorem dX12_goesOn_76 : decode cX12_goesOn 76 = .ok (.invokevirtual 394, 3) := by decide +kernel
theorem dX12_goesOn_79 : decode cX12_goesOn 79 = .ok (.aload_n 0, 1) := by decide +kernel
theorem dX12_goesOn_80 : decode cX12_goesOn 80 = .ok (.iload_n 3, 1) := by decide +kernel
theorem dX12_goesOn_81 : decode cX12_goesOn 81 = .ok (.iload_n 1, 1) := by decide +kernel
theorem dX12_goesOn_82 : decode cX12_goesOn 82 = .ok (.iload 5, 2) := by decide +kernel
theorem dX12_goesOn_84 : decode cX12_goesOn 84 = .ok (.invokestatic 387, 3) := by decide +kernel
theorem dX12_goesOn_87 : decode cX12_goesOn 87 = .ok (.invokevirtual 404, 3) := by decide +kernel
theorem dX12_goesOn_90 : decode cX12_goesOn 90 = .ok (.iinc 5 1, 3) := by decide +kernel
theorem dX12_goesOn_93 : decode cX12_goesOn 93 = .ok (.goto (-44), 3) := by decide +kernel
theorem dX12_goesOn_96 : decode cX12_goesOn 96 = .ok (.return_, 1) := by decide +kernel
theorem dX12_longest_0 : decode cX12_longest 0 = .ok (.aload_n 0, 1) := by decide +kernel
theorem dX12_longest_1 : decode cX12_longest 1 = .ok (.getfield 384, 3) := by decide +kernel
theorem dX12_longest_4 : decode cX12_longest 4 = .ok (.istore_n 3, 1) := by decide +kernel
theorem dX12_longest_5 : decode cX12_longest 5 = .ok (.iload_n 3, 1) := by decide +kernel
theorem dX12_longest_6 : decode cX12_longest 6 = .ok (.iload_n 2, 1) := by decide +kernel
theorem dX12_longest_7 : decode cX12_longest 7 = .ok (.if_icmp .le 31, 3) := by decide +kernel
theorem dX12_longest_10 : decode cX12_longest 10 = .ok (.aload_n 0, 1) := by decide +kernel
theorem dX12_longest_11 : decode cX12_longest 11 = .ok (.aload_n 0, 1) := by decide +kernel
theorem dX12_longest_12 : decode cX12_longest 12 = .ok (.getfield 83, 3) := by decide +kernel
theorem dX12_longest_15 : decode cX12_longest 15 = .ok (.iload_n 1, 1) := by decide +kernel
theorem dX12_longest_16 : decode cX12_longest 16 = .ok (.iaload, 1) := by decide +kernel
theorem dX12_longest_17 : decode cX12_longest 17 = .ok (.iload_n 2, 1) := by decide +kernel
theorem dX12_longest_18 : decode cX12_longest 18 = .ok (.invokestatic 387, 3) := by decide +kernel
theorem dX12_longest_21 : decode cX12_longest 21 = .ok (.iload_n 3, 1) := by decide +kernel
theorem dX12_longest_22 : decode cX12_longest 22 = .ok (.invokevirtual 401, 3) := by decide +kernel
theorem dX12_longest_25 : decode cX12_longest 25 = .ok (.ifCond .eq 7, 3) := by decide +kernel
theorem dX12_longest_28 : decode cX12_longest 28 = .ok (.iload_n 3, 1) := by decide +kernel
theorem dX12_longest_29 : decode cX12_longest 29 = .ok (.iload_n 2, 1) := by decide +kernel
theorem dX12_longest_30 : decode cX12_longest 30 = .ok (.isub, 1) := by decide +kernel
theorem dX12_longest_31 : decode cX12_longest 31 = .ok (.ireturn, 1) := by decide +kernel
theorem dX12_longest_32 : decode cX12_longest 32 = .ok (.iinc 3 (-1), 3) := by decide +kernel
theorem dX12_longest_35 : decode cX12_longest 35 = .ok (.goto (-30), 3) := by decide +kernel
theorem dX12_longest_38 : decode cX12_longest 38 = .ok (.iconst 0, 1) := by decide +kernel
theorem dX12_longest_39 : decode cX12_longest 39 = .ok (.ireturn, 1) := by decide +kernel
theorem dX12_looks_0 : decode cX12_looks 0 = .ok (.iconst 0, 1) := by decide +kernel
theorem dX12_looks_1 : decode cX12_looks 1 = .ok (.istore_n 1, 1) := by decide +kernel
theorem dX12_looks_2 : decode cX12_looks 2 = .ok (.iload_n 1, 1) := by decide +kernel
theorem dX12_looks_3 : decode cX12_looks 3 = .ok (.aload_n 0, 1) := by decide +kernel
theorem dX12_looks_4 : decode cX12_looks 4 = .ok (.getfield 378, 3) := by decide +kernel
theorem dX12_looks_7 : decode cX12_looks 7 = .ok (.if_icmp .ge 30, 3) := by decide +kernel
theorem dX12_looks_10 : decode cX12_looks 10 = .ok (.aload_n 0, 1) := by decide +kernel
theorem dX12_looks_11 : decode cX12_looks 11 = .ok (.getfield 384, 3) := by decide +kernel
theorem dX12_looks_14 : decode cX12_looks 14 = .ok (.istore_n 2, 1) := by decide +kernel
theorem dX12_looks_15 : decode cX12_looks 15 = .ok (.iload_n 2, 1) := by decide +kernel
theorem dX12_looks_16 : decode cX12_looks 16 = .ok (.ifCond .lt 15, 3) := by decide +kernel
theorem dX12_looks_19 : decode cX12_looks 19 = .ok (.aload_n 0, 1) := by decide +kernel
theorem dX12_looks_20 : decode cX12_looks 20 = .ok (.iload_n 1, 1) := by decide +kernel
theorem dX12_looks_21 : decode cX12_looks 21 = .ok (.iload_n 2, 1) := by decide +kernel
theorem dX12_looks_22 : decode cX12_looks 22 = .ok (.invokevirtual 410, 3) := by decide +kernel
theorem dX12_looks_25 : decode cX12_looks 25 = .ok (.iinc 2 (-1), 3) := by decide +kernel
theorem dX12_looks_28 : decode cX12_looks 28 = .ok (.goto (-13), 3) := by decide +kernel
theorem dX12_looks_31 : decode cX12_looks 31 = .ok (.iinc 1 1, 3) := by decide +kernel
theorem dX12_looks_34 : decode cX12_looks 34 = .ok (.goto (-32), 3) := by decide +kernel
theorem dX12_looks_37 : decode cX12_looks 37 = .ok (.aload_n 0, 1) := by decide +kernel
theorem dX12_looks_38 : decode cX12_looks 38 = .ok (.iconst 0, 1) := by decide +kernel
theorem dX12_looks_39 : decode cX12_looks 39 = .ok (.putfield 413, 3) := by decide +kernel
theorem dX12_looks_42 : decode cX12_looks 42 = .ok (.iconst 0, 1) := by decide +kernel
theorem dX12_looks_43 : decode cX12_looks 43 = .ok (.istore_n 1, 1) := by decide +kernel
theorem dX12_looks_44 : decode cX12_looks 44 = .ok (.iconst 0, 1) := by decide +kernel
theorem dX12_looks_45 : decode cX12_looks 45 = .ok (.istore_n 2, 1) := by decide +kernel
theorem dX12_looks_46 : decode cX12_looks 46 = .ok (.iload_n 2, 1) := by decide +kernel
theorem dX12_looks_47 : decode cX12_looks 47 = .ok (.aload_n 0, 1) := by decide +kernel
theorem dX12_looks_48 : decode cX12_looks 48 = .ok (.getfield 384, 3) := by decide +kernel
theorem dX12_looks_51 : decode cX12_looks 51 = .ok (.if_icmp .ge 156, 3) := by decide +kernel
theorem dX12_looks_54 : decode cX12_looks 54 = .ok (.iconst 0, 1) := by decide +kernel
theorem dX12_looks_55 : decode cX12_looks 55 = .ok (.istore_n 3, 1) := by decide +kernel
theorem dX12_looks_56 : decode cX12_looks 56 = .ok (.iconst 0, 1) := by decide +kernel
theorem dX12_looks_57 : decode cX12_looks 57 = .ok (.istore 4, 2) := by decide +kernel
theorem dX12_looks_59 : decode cX12_looks 59 = .ok (.iload_n 3, 1) := by decide +kernel
theorem dX12_looks_60 : decode cX12_looks 60 = .ok (.aload_n 0, 1) := by decide +kernel
theorem dX12_looks_61 : decode cX12_looks 61 = .ok (.getfield 381, 3) := by decide +kernel
theorem dX12_looks_64 : decode cX12_looks 64 = .ok (.if_icmp .ge 28, 3) := by decide +kernel
theorem dX12_looks_67 : decode cX12_looks 67 = .ok (.iload 4, 2) := by decide +kernel
theorem dX12_looks_69 : decode cX12_looks 69 = .ok (.ifCond .ne 23, 3) := by decide +kernel
theorem dX12_looks_72 : decode cX12_looks 72 = .ok (.aload_n 0, 1) := by decide +kernel
theorem dX12_looks_73 : decode cX12_looks 73 = .ok (.iload_n 3, 1) := by decide +kernel
theorem dX12_looks_74 : decode cX12_looks 74 = .ok (.iload_n 2, 1) := by decide +kernel
theorem dX12_looks_75 : decode cX12_looks 75 = .ok (.invokevirtual 416, 3) := by decide +kernel
theorem dX12_looks_78 : decode cX12_looks 78 = .ok (.istore 4, 2) := by decide +kernel
theorem dX12_looks_80 : decode cX12_looks 80 = .ok (.iload 4, 2) := by decide +kernel
theorem dX12_looks_82 : decode cX12_looks 82 = .ok (.ifCond .ne (-23), 3) := by decide +kernel
theorem dX12_looks_85 : decode cX12_looks 85 = .ok (.iload_n 3, 1) := by decide +kernel
theorem dX12_looks_86 : decode cX12_looks 86 = .ok (.iconst 1, 1) := by decide +kernel
theorem dX12_looks_87 : decode cX12_looks 87 = .ok (.iadd, 1) := by decide +kernel
theorem dX12_looks_88 : decode cX12_looks 88 = .ok (.istore_n 3, 1) := by decide +kernel
theorem dX12_looks_89 : decode cX12_looks 89 = .ok (.goto (-30), 3) := by decide +kernel
theorem dX12_looks_92 : decode cX12_looks 92 = .ok (.iload 4, 2) := by decide +kernel
theorem dX12_looks_94 : decode cX12_looks 94 = .ok (.ifCond .le 54, 3) := by decide +kernel
theorem dX12_looks_97 : decode cX12_looks 97 = .ok (.aload_n 0, 1) := by decide +kernel
theorem dX12_looks_98 : decode cX12_looks 98 = .ok (.getfield 109, 3) := by decide +kernel
theorem dX12_looks_101 : decode cX12_looks 101 = .ok (.aload_n 0, 1) := by decide +kernel
theorem dX12_looks_102 : decode cX12_looks 102 = .ok (.getfield 413, 3) := by decide +kernel
theorem dX12_looks_105 : decode cX12_looks 105 = .ok (.iload_n 3, 1) := by decide +kernel
theorem dX12_looks_106 : decode cX12_looks 106 = .ok (.iastore, 1) := by decide +kernel
theorem dX12_looks_107 : decode cX12_looks 107 = .ok (.aload_n 0, 1) := by decide +kernel
theorem dX12_looks_108 : decode cX12_looks 108 = .ok (.getfield 112, 3) := by decide +kernel
theorem dX12_looks_111 : decode cX12_looks 111 = .ok (.aload_n 0, 1) := by decide +kernel
theorem dX12_looks_112 : decode cX12_looks 112 = .ok (.getfield 413, 3) := by decide +kernel
theorem dX12_looks_115 : decode cX12_looks 115 = .ok (.iload_n 2, 1) := by decide +kernel
theorem dX12_looks_116 : decode cX12_looks 116 = .ok (.iastore, 1) := by decide +kernel
theorem dX12_looks_117 : decode cX12_looks 117 = .ok (.aload_n 0, 1) := by decide +kernel
theorem dX12_looks_118 : decode cX12_looks 118 = .ok (.getfield 115, 3) := by decide +kernel
theorem dX12_looks_121 : decode cX12_looks 121 = .ok (.aload_n 0, 1) := by decide +kernel
theorem dX12_looks_122 : decode cX12_looks 122 = .ok (.getfield 413, 3) := by decide +kernel
theorem dX12_looks_125 : decode cX12_looks 125 = .ok (.iload 4, 2) := by decide +kernel
theorem dX12_looks_127 : decode cX12_looks 127 = .ok (.iastore, 1) := by decide +kernel
theorem dX12_looks_128 : decode cX12_looks 128 = .ok (.aload_n 0, 1) := by decide +kernel
theorem dX12_looks_129 : decode cX12_looks 129 = .ok (.getfield 118, 3) := by decide +kernel
theorem dX12_looks_132 : decode cX12_looks 132 = .ok (.aload_n 0, 1) := by decide +kernel
theorem dX12_looks_133 : decode cX12_looks 133 = .ok (.getfield 413, 3) := by decide +kernel
theorem dX12_looks_136 : decode cX12_looks 136 = .ok (.iload_n 1, 1) := by decide +kernel
theorem dX12_looks_137 : decode cX12_looks 137 = .ok (.iastore, 1) := by decide +kernel
theorem dX12_looks_138 : decode cX12_looks 138 = .ok (.aload_n 0, 1) := by decide +kernel
theorem dX12_looks_139 : decode cX12_looks 139 = .ok (.aload_n 0, 1) := by decide +kernel
theorem dX12_looks_140 : decode cX12_looks 140 = .ok (.getfield 413, 3) := by decide +kernel
theorem dX12_looks_143 : decode cX12_looks 143 = .ok (.iconst 1, 1) := by decide +kernel
theorem dX12_looks_144 : decode cX12_looks 144 = .ok (.iadd, 1) := by decide +kernel
theorem dX12_looks_145 : decode cX12_looks 145 = .ok (.putfield 413, 3) := by decide +kernel
theorem dX12_looks_148 : decode cX12_looks 148 = .ok (.iload 4, 2) := by decide +kernel
theorem dX12_looks_150 : decode cX12_looks 150 = .ok (.ifCond .le 10, 3) := by decide +kernel
theorem dX12_looks_153 : decode cX12_looks 153 = .ok (.iload_n 2, 1) := by decide +kernel
theorem dX12_looks_154 : decode cX12_looks 154 = .ok (.iload 4, 2) := by decide +kernel
theorem dX12_looks_156 : decode cX12_looks 156 = .ok (.iadd, 1) := by decide +kernel
theorem dX12_looks_157 : decode cX12_looks 157 = .ok (.goto 6, 3) := by decide +kernel
theorem dX12_looks_160 : decode cX12_looks 160 = .ok (.iload_n 2, 1) := by decide +kernel
theorem dX12_looks_161 : decode cX12_looks 161 = .ok (.iconst 1, 1) := by decide +kernel
theorem dX12_looks_162 : decode cX12_looks 162 = .ok (.iadd, 1) := by decide +kernel
theorem dX12_looks_163 : decode cX12_looks 163 = .ok (.istore 5, 2) := by decide +kernel
theorem dX12_looks_165 : decode cX12_looks 165 = .ok (.iload_n 2, 1) := by decide +kernel
theorem dX12_looks_166 : decode cX12_looks 166 = .ok (.istore 6, 2) := by decide +kernel
theorem dX12_looks_168 : decode cX12_looks 168 = .ok (.iload 6, 2) := by decide +kernel
theorem dX12_looks_170 : decode cX12_looks 170 = .ok (.iload 5, 2) := by decide +kernel
theorem dX12_looks_172 : decode cX12_looks 172 = .ok (.if_icmp .ge 29, 3) := by decide +kernel
theorem dX12_looks_175 : decode cX12_looks 175 = .ok (.iload_n 1, 1) := by decide +kernel
theorem dX12_looks_176 : decode cX12_looks 176 = .ok (.aload_n 0, 1) := by decide +kernel
theorem dX12_looks_177 : decode cX12_looks 177 = .ok (.getfield 106, 3) := by decide +kernel
theorem dX12_looks_180 : decode cX12_looks 180 = .ok (.iload 6, 2) := by decide +kernel
theorem dX12_looks_182 : decode cX12_looks 182 = .ok (.baload, 1) := by decide +kernel
theorem dX12_looks_183 : decode cX12_looks 183 = .ok (.bipush 10, 2) := by decide +kernel
theorem dX12_looks_185 : decode cX12_looks 185 = .ok (.if_icmp .ne 7, 3) := by decide +kernel
theorem dX12_looks_188 : decode cX12_looks 188 = .ok (.iconst 1, 1) := by decide +kernel
theorem dX12_looks_189 : decode cX12_looks 189 = .ok (.goto 4, 3) := by decide +kernel
theorem dX12_looks_192 : decode cX12_looks 192 = .ok (.iconst 0, 1) := by decide +kernel
theorem dX12_looks_193 : decode cX12_looks 193 = .ok (.iadd, 1) := by decide +kernel
theorem dX12_looks_194 : decode cX12_looks 194 = .ok (.istore_n 1, 1) := by decide +kernel
theorem dX12_looks_195 : decode cX12_looks 195 = .ok (.iinc 6 1, 3) := by decide +kernel
theorem dX12_looks_198 : decode cX12_looks 198 = .ok (.goto (-30), 3) := by decide +kernel
theorem dX12_looks_201 : decode cX12_looks 201 = .ok (.iload 5, 2) := by decide +kernel
theorem dX12_looks_203 : decode cX12_looks 203 = .ok (.istore_n 2, 1) := by decide +kernel
theorem dX12_looks_204 : decode cX12_looks 204 = .ok (.goto (-158), 3) := by decide +kernel
theorem dX12_looks_207 : decode cX12_looks 207 = .ok (.return_, 1) := by decide +kernel
theorem dX12_isSign_0 : decode cX12_isSign 0 = .ok (.iload_n 0, 1) := by decide +kernel
theorem dX12_isSign_1 : decode cX12_isSign 1 = .ok (.invokestatic 340, 3) := by decide +kernel
theorem dX12_isSign_4 : decode cX12_isSign 4 = .ok (.ifCond .ne 22, 3) := by decide +kernel
theorem dX12_isSign_7 : decode cX12_isSign 7 = .ok (.iload_n 0, 1) := by decide +kernel
theorem dX12_isSign_8 : decode cX12_isSign 8 = .ok (.invokestatic 343, 3) := by decide +kernel
theorem dX12_isSign_11 : decode cX12_isSign 11 = .ok (.ifCond .ne 15, 3) := by decide +kernel
theorem dX12_isSign_14 : decode cX12_isSign 14 = .ok (.iload_n 0, 1) := by decide +kernel
theorem dX12_isSign_15 : decode cX12_isSign 15 = .ok (.bipush 32, 2) := by decide +kernel
theorem dX12_isSign_17 : decode cX12_isSign 17 = .ok (.if_icmp .eq 9, 3) := by decide +kernel
theorem dX12_isSign_20 : decode cX12_isSign 20 = .ok (.iload_n 0, 1) := by decide +kernel
theorem dX12_isSign_21 : decode cX12_isSign 21 = .ok (.bipush 10, 2) := by decide +kernel
theorem dX12_isSign_23 : decode cX12_isSign 23 = .ok (.if_icmp .ne 7, 3) := by decide +kernel
theorem dX12_isSign_26 : decode cX12_isSign 26 = .ok (.iconst 1, 1) := by decide +kernel
theorem dX12_isSign_27 : decode cX12_isSign 27 = .ok (.goto 4, 3) := by decide +kernel
theorem dX12_isSign_30 : decode cX12_isSign 30 = .ok (.iconst 0, 1) := by decide +kernel
theorem dX12_isSign_31 : decode cX12_isSign 31 = .ok (.ireturn, 1) := by decide +kernel
theorem dX12_isText_0 : decode cX12_isText 0 = .ok (.iload_n 1, 1) := by decide +kernel
theorem dX12_isText_1 : decode cX12_isText 1 = .ok (.iconst 1, 1) := by decide +kernel
theorem dX12_isText_2 : decode cX12_isText 2 = .ok (.sipush 160, 3) := by decide +kernel
theorem dX12_isText_5 : decode cX12_isText 5 = .ok (.invokestatic 260, 3) := by decide +kernel
theorem dX12_isText_8 : decode cX12_isText 8 = .ok (.ifCond .eq 11, 3) := by decide +kernel
theorem dX12_isText_11 : decode cX12_isText 11 = .ok (.iload_n 1, 1) := by decide +kernel
theorem dX12_isText_12 : decode cX12_isText 12 = .ok (.aload_n 0, 1) := by decide +kernel
theorem dX12_isText_13 : decode cX12_isText 13 = .ok (.getfield 311, 3) := by decide +kernel
theorem dX12_isText_16 : decode cX12_isText 16 = .ok (.if_icmp .le 5, 3) := by decide +kernel
theorem dX12_isText_19 : decode cX12_isText 19 = .ok (.iconst 0, 1) := by decide +kernel
theorem dX12_isText_20 : decode cX12_isText 20 = .ok (.ireturn, 1) := by decide +kernel
theorem dX12_isText_21 : decode cX12_isText 21 = .ok (.iconst 0, 1) := by decide +kernel
theorem dX12_isText_22 : decode cX12_isText 22 = .ok (.istore_n 2, 1) := by decide +kernel
theorem dX12_isText_23 : decode cX12_isText 23 = .ok (.iload_n 2, 1) := by decide +kernel
theorem dX12_isText_24 : decode cX12_isText 24 = .ok (.iload_n 1, 1) := by decide +kernel
theorem dX12_isText_25 : decode cX12_isText 25 = .ok (.if_icmp .ge 23, 3) := by decide +kernel
theorem dX12_isText_28 : decode cX12_isText 28 = .ok (.aload_n 0, 1) := by decide +kernel
theorem dX12_isText_29 : decode cX12_isText 29 = .ok (.getfield 52, 3) := by decide +kernel
theorem dX12_isText_32 : decode cX12_isText 32 = .ok (.iload_n 2, 1) := by decide +kernel
theorem dX12_isText_33 : decode cX12_isText 33 = .ok (.baload, 1) := by decide +kernel
theorem dX12_isText_34 : decode cX12_isText 34 = .ok (.invokestatic 419, 3) := by decide +kernel
theorem dX12_isText_37 : decode cX12_isText 37 = .ok (.ifCond .ne 5, 3) := by decide +kernel
theorem dX12_isText_40 : decode cX12_isText 40 = .ok (.iconst 0, 1) := by decide +kernel
theorem dX12_isText_41 : decode cX12_isText 41 = .ok (.ireturn, 1) := by decide +kernel
theorem dX12_isText_42 : decode cX12_isText 42 = .ok (.iinc 2 1, 3) := by decide +kernel
theorem dX12_isText_45 : decode cX12_isText 45 = .ok (.goto (-22), 3) := by decide +kernel
theorem dX12_isText_48 : decode cX12_isText 48 = .ok (.iconst 1, 1) := by decide +kernel
theorem dX12_isText_49 : decode cX12_isText 49 = .ok (.ireturn, 1) := by decide +kernel
theorem dX12_look_0 : decode cX12_look 0 = .ok (.aload_n 0, 1) := by decide +kernel
theorem dX12_look_1 : decode cX12_look 1 = .ok (.iload_n 1, 1) := by decide +kernel
theorem dX12_look_2 : decode cX12_look 2 = .ok (.invokevirtual 422, 3) := by decide +kernel
theorem dX12_look_5 : decode cX12_look 5 = .ok (.ifCond .ne 5, 3) := by decide +kernel
theorem dX12_look_8 : decode cX12_look 8 = .ok (.iconst (-1), 1) := by decide +kernel
theorem dX12_look_9 : decode cX12_look 9 = .ok (.ireturn, 1) := by decide +kernel
theorem dX12_look_10 : decode cX12_look 10 = .ok (.aload_n 0, 1) := by decide +kernel
theorem dX12_look_11 : decode cX12_look 11 = .ok (.iload_n 1, 1) := by decide +kernel
theorem dX12_look_12 : decode cX12_look 12 = .ok (.putfield 384, 3) := by decide +kernel
theorem dX12_look_15 : decode cX12_look 15 = .ok (.iconst 0, 1) := by decide +kernel
theorem dX12_look_16 : decode cX12_look 16 = .ok (.istore_n 2, 1) := by decide +kernel
theorem dX12_look_17 : decode cX12_look 17 = .ok (.iload_n 2, 1) := by decide +kernel
theorem dX12_look_18 : decode cX12_look 18 = .ok (.iload_n 1, 1) := by decide +kernel
theorem dX12_look_19 : decode cX12_look 19 = .ok (.if_icmp .ge 21, 3) := by decide +kernel
theorem dX12_look_22 : decode cX12_look 22 = .ok (.aload_n 0, 1) := by decide +kernel
theorem dX12_look_23 : decode cX12_look 23 = .ok (.getfield 106, 3) := by decide +kernel
theorem dX12_look_26 : decode cX12_look 26 = .ok (.iload_n 2, 1) := by decide +kernel
theorem dX12_look_27 : decode cX12_look 27 = .ok (.aload_n 0, 1) := by decide +kernel
theorem dX12_look_28 : decode cX12_look 28 = .ok (.getfield 52, 3) := by decide +kernel
theorem dX12_look_31 : decode cX12_look 31 = .ok (.iload_n 2, 1) := by decide +kernel
theorem dX12_look_32 : decode cX12_look 32 = .ok (.baload, 1) := by decide +kernel
theorem dX12_look_33 : decode cX12_look 33 = .ok (.bastore, 1) := by decide +kernel
theorem dX12_look_34 : decode cX12_look 34 = .ok (.iinc 2 1, 3) := by decide +kernel
theorem dX12_look_37 : decode cX12_look 37 = .ok (.goto (-20), 3) := by decide +kernel
theorem dX12_look_40 : decode cX12_look 40 = .ok (.aload_n 0, 1) := by decide +kernel
theorem dX12_look_41 : decode cX12_look 41 = .ok (.invokevirtual 425, 3) := by decide +kernel
theorem dX12_look_44 : decode cX12_look 44 = .ok (.aload_n 0, 1) := by decide +kernel
theorem dX12_look_45 : decode cX12_look 45 = .ok (.aload_n 0, 1) := by decide +kernel
theorem dX12_look_46 : decode cX12_look 46 = .ok (.getfield 413, 3) := by decide +kernel
theorem dX12_look_49 : decode cX12_look 49 = .ok (.putfield 428, 3) := by decide +kernel
theorem dX12_look_52 : decode cX12_look 52 = .ok (.iconst 0, 1) := by decide +kernel
theorem dX12_look_53 : decode cX12_look 53 = .ok (.istore_n 2, 1) := by decide +kernel
theorem dX12_look_54 : decode cX12_look 54 = .ok (.iload_n 2, 1) := by decide +kernel
theorem dX12_look_55 : decode cX12_look 55 = .ok (.aload_n 0, 1) := by decide +kernel
theorem dX12_look_56 : decode cX12_look 56 = .ok (.getfield 413, 3) := by decide +kernel
theorem dX12_look_59 : decode cX12_look 59 = .ok (.if_icmp .ge 57, 3) := by decide +kernel
theorem dX12_look_62 : decode cX12_look 62 = .ok (.aload_n 0, 1) := by decide +kernel
theorem dX12_look_63 : decode cX12_look 63 = .ok (.getfield 121, 3) := by decide +kernel
theorem dX12_look_66 : decode cX12_look 66 = .ok (.iload_n 2, 1) := by decide +kernel
theorem dX12_look_67 : decode cX12_look 67 = .ok (.aload_n 0, 1) := by decide +kernel
theorem dX12_look_68 : decode cX12_look 68 = .ok (.getfield 109, 3) := by decide +kernel
theorem dX12_look_71 : decode cX12_look 71 = .ok (.iload_n 2, 1) := by decide +kernel
theorem dX12_look_72 : decode cX12_look 72 = .ok (.iaload, 1) := by decide +kernel
theorem dX12_look_73 : decode cX12_look 73 = .ok (.iastore, 1) := by decide +kernel
theorem dX12_look_74 : decode cX12_look 74 = .ok (.aload_n 0, 1) := by decide +kernel
theorem dX12_look_75 : decode cX12_look 75 = .ok (.getfield 124, 3) := by decide +kernel
theorem dX12_look_78 : decode cX12_look 78 = .ok (.iload_n 2, 1) := by decide +kernel
theorem dX12_look_79 : decode cX12_look 79 = .ok (.aload_n 0, 1) := by decide +kernel
theorem dX12_look_80 : decode cX12_look 80 = .ok (.getfield 112, 3) := by decide +kernel
theorem dX12_look_83 : decode cX12_look 83 = .ok (.iload_n 2, 1) := by decide +kernel
theorem dX12_look_84 : decode cX12_look 84 = .ok (.iaload, 1) := by decide +kernel
theorem dX12_look_85 : decode cX12_look 85 = .ok (.iastore, 1) := by decide +kernel
theorem dX12_look_86 : decode cX12_look 86 = .ok (.aload_n 0, 1) := by decide +kernel
theorem dX12_look_87 : decode cX12_look 87 = .ok (.getfield 127, 3) := by decide +kernel
theorem dX12_look_90 : decode cX12_look 90 = .ok (.iload_n 2, 1) := by decide +kernel
theorem dX12_look_91 : decode cX12_look 91 = .ok (.aload_n 0, 1) := by decide +kernel
theorem dX12_look_92 : decode cX12_look 92 = .ok (.getfield 115, 3) := by decide +kernel
theorem dX12_look_95 : decode cX12_look 95 = .ok (.iload_n 2, 1) := by decide +kernel
theorem dX12_look_96 : decode cX12_look 96 = .ok (.iaload, 1) := by decide +kernel
theorem dX12_look_97 : decode cX12_look 97 = .ok (.iastore, 1) := by decide +kernel
theorem dX12_look_98 : decode cX12_look 98 = .ok (.aload_n 0, 1) := by decide +kernel
theorem dX12_look_99 : decode cX12_look 99 = .ok (.getfield 130, 3) := by decide +kernel
theorem dX12_look_102 : decode cX12_look 102 = .ok (.iload_n 2, 1) := by decide +kernel
theorem dX12_look_103 : decode cX12_look 103 = .ok (.aload_n 0, 1) := by decide +kernel
theorem dX12_look_104 : decode cX12_look 104 = .ok (.getfield 118, 3) := by decide +kernel
theorem dX12_look_107 : decode cX12_look 107 = .ok (.iload_n 2, 1) := by decide +kernel
theorem dX12_look_108 : decode cX12_look 108 = .ok (.iaload, 1) := by decide +kernel
theorem dX12_look_109 : decode cX12_look 109 = .ok (.iastore, 1) := by decide +kernel
theorem dX12_look_110 : decode cX12_look 110 = .ok (.iinc 2 1, 3) := by decide +kernel
theorem dX12_look_113 : decode cX12_look 113 = .ok (.goto (-59), 3) := by decide +kernel
theorem dX12_look_116 : decode cX12_look 116 = .ok (.aload_n 0, 1) := by decide +kernel
theorem dX12_look_117 : decode cX12_look 117 = .ok (.getfield 413, 3) := by decide +kernel
theorem dX12_look_120 : decode cX12_look 120 = .ok (.ireturn, 1) := by decide +kernel
theorem dX12_found_0 : decode cX12_found 0 = .ok (.iload_n 1, 1) := by decide +kernel
theorem dX12_found_1 : decode cX12_found 1 = .ok (.ifCond .lt 11, 3) := by decide +kernel
theorem dX12_found_4 : decode cX12_found 4 = .ok (.iload_n 1, 1) := by decide +kernel
theorem dX12_found_5 : decode cX12_found 5 = .ok (.aload_n 0, 1) := by decide +kernel
theorem dX12_found_6 : decode cX12_found 6 = .ok (.getfield 428, 3) := by decide +kernel
theorem dX12_found_9 : decode cX12_found 9 = .ok (.if_icmp .lt 5, 3) := by decide +kernel
theorem dX12_found_12 : decode cX12_found 12 = .ok (.iconst (-1), 1) := by decide +kernel
theorem dX12_found_13 : decode cX12_found 13 = .ok (.ireturn, 1) := by decide +kernel
theorem dX12_found_14 : decode cX12_found 14 = .ok (.iload_n 2, 1) := by decide +kernel
theorem dX12_found_15 : decode cX12_found 15 = .ok (.tableswitch 57 0 3 #[29, 36, 43, 50], 29) := by decide +kernel
theorem dX12_found_44 : decode cX12_found 44 = .ok (.aload_n 0, 1) := by decide +kernel
theorem dX12_found_45 : decode cX12_found 45 = .ok (.getfield 121, 3) := by decide +kernel
theorem dX12_found_48 : decode cX12_found 48 = .ok (.iload_n 1, 1) := by decide +kernel
theorem dX12_found_49 : decode cX12_found 49 = .ok (.iaload, 1) := by decide +kernel
theorem dX12_found_50 : decode cX12_found 50 = .ok (.ireturn, 1) := by decide +kernel
theorem dX12_found_51 : decode cX12_found 51 = .ok (.aload_n 0, 1) := by decide +kernel
theorem dX12_found_52 : decode cX12_found 52 = .ok (.getfield 124, 3) := by decide +kernel
theorem dX12_found_55 : decode cX12_found 55 = .ok (.iload_n 1, 1) := by decide +kernel
theorem dX12_found_56 : decode cX12_found 56 = .ok (.iaload, 1) := by decide +kernel
theorem dX12_found_57 : decode cX12_found 57 = .ok (.ireturn, 1) := by decide +kernel
theorem dX12_found_58 : decode cX12_found 58 = .ok (.aload_n 0, 1) := by decide +kernel
theorem dX12_found_59 : decode cX12_found 59 = .ok (.getfield 127, 3) := by decide +kernel
theorem dX12_found_62 : decode cX12_found 62 = .ok (.iload_n 1, 1) := by decide +kernel
theorem dX12_found_63 : decode cX12_found 63 = .ok (.iaload, 1) := by decide +kernel
theorem dX12_found_64 : decode cX12_found 64 = .ok (.ireturn, 1) := by decide +kernel
theorem dX12_found_65 : decode cX12_found 65 = .ok (.aload_n 0, 1) := by decide +kernel
theorem dX12_found_66 : decode cX12_found 66 = .ok (.getfield 130, 3) := by decide +kernel
theorem dX12_found_69 : decode cX12_found 69 = .ok (.iload_n 1, 1) := by decide +kernel
theorem dX12_found_70 : decode cX12_found 70 = .ok (.iaload, 1) := by decide +kernel
theorem dX12_found_71 : decode cX12_found 71 = .ok (.ireturn, 1) := by decide +kernel
theorem dX12_found_72 : decode cX12_found 72 = .ok (.iconst (-1), 1) := by decide +kernel
theorem dX12_found_73 : decode cX12_found 73 = .ok (.ireturn, 1) := by decide +kernel
theorem dX12_isLetterThere_0 : decode cX12_isLetterThere 0 = .ok (.iload_n 1, 1) := by decide +kernel
theorem dX12_isLetterThere_1 : decode cX12_isLetterThere 1 = .ok (.ifCond .lt 15, 3) := by decide +kernel
theorem dX12_isLetterThere_4 : decode cX12_isLetterThere 4 = .ok (.iload_n 1, 1) := by decide +kernel
theorem dX12_isLetterThere_5 : decode cX12_isLetterThere 5 = .ok (.aload_n 0, 1) := by decide +kernel
theorem dX12_isLetterThere_6 : decode cX12_isLetterThere 6 = .ok (.getfield 431, 3) := by decide +kernel
theorem dX12_isLetterThere_9 : decode cX12_isLetterThere 9 = .ok (.if_icmp .ge 7, 3) := by decide +kernel
theorem dX12_isLetterThere_12 : decode cX12_isLetterThere 12 = .ok (.iconst 1, 1) := by decide +kernel
theorem dX12_isLetterThere_13 : decode cX12_isLetterThere 13 = .ok (.goto 4, 3) := by decide +kernel
theorem dX12_isLetterThere_16 : decode cX12_isLetterThere 16 = .ok (.iconst 0, 1) := by decide +kernel
theorem dX12_isLetterThere_17 : decode cX12_isLetterThere 17 = .ok (.ireturn, 1) := by decide +kernel
theorem dX12_isMark_0 : decode cX12_isMark 0 = .ok (.iload_n 0, 1) := by decide +kernel
theorem dX12_isMark_1 : decode cX12_isMark 1 = .ok (.ifCond .lt 13, 3) := by decide +kernel
theorem dX12_isMark_4 : decode cX12_isMark 4 = .ok (.iload_n 0, 1) := by decide +kernel
theorem dX12_isMark_5 : decode cX12_isMark 5 = .ok (.bipush 99, 2) := by decide +kernel
theorem dX12_isMark_7 : decode cX12_isMark 7 = .ok (.if_icmp .gt 7, 3) := by decide +kernel
theorem dX12_isMark_10 : decode cX12_isMark 10 = .ok (.iconst 1, 1) := by decide +kernel
theorem dX12_isMark_11 : decode cX12_isMark 11 = .ok (.goto 4, 3) := by decide +kernel
theorem dX12_isMark_14 : decode cX12_isMark 14 = .ok (.iconst 0, 1) := by decide +kernel
theorem dX12_isMark_15 : decode cX12_isMark 15 = .ok (.ireturn, 1) := by decide +kernel
theorem dX12_letter_0 : decode cX12_letter 0 = .ok (.aload_n 0, 1) := by decide +kernel
theorem dX12_letter_1 : decode cX12_letter 1 = .ok (.iload_n 1, 1) := by decide +kernel
theorem dX12_letter_2 : decode cX12_letter 2 = .ok (.invokevirtual 304, 3) := by decide +kernel
theorem dX12_letter_5 : decode cX12_letter 5 = .ok (.ifCond .eq 70, 3) := by decide +kernel
theorem dX12_letter_8 : decode cX12_letter 8 = .ok (.aload_n 0, 1) := by decide +kernel
theorem dX12_letter_9 : decode cX12_letter 9 = .ok (.iload_n 1, 1) := by decide +kernel
theorem dX12_letter_10 : decode cX12_letter 10 = .ok (.invokevirtual 277, 3) := by decide +kernel
theorem dX12_letter_13 : decode cX12_letter 13 = .ok (.ifCond .eq 62, 3) := by decide +kernel
theorem dX12_letter_16 : decode cX12_letter 16 = .ok (.iload_n 2, 1) := by decide +kernel
theorem dX12_letter_17 : decode cX12_letter 17 = .ok (.iconst 0, 1) := by decide +kernel
theorem dX12_letter_18 : decode cX12_letter 18 = .ok (.iconst 1, 1) := by decide +kernel
theorem dX12_letter_19 : decode cX12_letter 19 = .ok (.invokestatic 260, 3) := by decide +kernel
theorem dX12_letter_22 : decode cX12_letter 22 = .ok (.ifCond .eq 53, 3) := by decide +kernel
theorem dX12_letter_25 : decode cX12_letter 25 = .ok (.iload_n 3, 1) := by decide +kernel
theorem dX12_letter_26 : decode cX12_letter 26 = .ok (.invokestatic 434, 3) := by decide +kernel
theorem dX12_letter_29 : decode cX12_letter 29 = .ok (.ifCond .eq 46, 3) := by decide +kernel
theorem dX12_letter_32 : decode cX12_letter 32 = .ok (.iload 4, 2) := by decide +kernel
theorem dX12_letter_34 : decode cX12_letter 34 = .ok (.invokestatic 434, 3) := by decide +kernel
theorem dX12_letter_37 : decode cX12_letter 37 = .ok (.ifCond .eq 38, 3) := by decide +kernel
theorem dX12_letter_40 : decode cX12_letter 40 = .ok (.iload 5, 2) := by decide +kernel
theorem dX12_letter_42 : decode cX12_letter 42 = .ok (.invokestatic 434, 3) := by decide +kernel
theorem dX12_letter_45 : decode cX12_letter 45 = .ok (.ifCond .eq 30, 3) := by decide +kernel
theorem dX12_letter_48 : decode cX12_letter 48 = .ok (.iload 6, 2) := by decide +kernel
theorem dX12_letter_50 : decode cX12_letter 50 = .ok (.invokestatic 434, 3) := by decide +kernel
theorem dX12_letter_53 : decode cX12_letter 53 = .ok (.ifCond .eq 22, 3) := by decide +kernel
theorem dX12_letter_56 : decode cX12_letter 56 = .ok (.aload_n 0, 1) := by decide +kernel
theorem dX12_letter_57 : decode cX12_letter 57 = .ok (.iload 7, 2) := by decide +kernel
theorem dX12_letter_59 : decode cX12_letter 59 = .ok (.invokevirtual 422, 3) := by decide +kernel
theorem dX12_letter_62 : decode cX12_letter 62 = .ok (.ifCond .eq 13, 3) := by decide +kernel
theorem dX12_letter_65 : decode cX12_letter 65 = .ok (.aload_n 0, 1) := by decide +kernel
theorem dX12_letter_66 : decode cX12_letter 66 = .ok (.getfield 431, 3) := by decide +kernel
theorem dX12_letter_69 : decode cX12_letter 69 = .ok (.sipush 200, 3) := by decide +kernel
theorem dX12_letter_72 : decode cX12_letter 72 = .ok (.if_icmp .ne 5, 3) := by decide +kernel
theorem dX12_letter_75 : decode cX12_letter 75 = .ok (.iconst (-1), 1) := by decide +kernel
theorem dX12_letter_76 : decode cX12_letter 76 = .ok (.ireturn, 1) := by decide +kernel
theorem dX12_letter_77 : decode cX12_letter 77 = .ok (.aload_n 0, 1) := by decide +kernel
theorem dX12_letter_78 : decode cX12_letter 78 = .ok (.getfield 431, 3) := by decide +kernel
theorem dX12_letter_81 : decode cX12_letter 81 = .ok (.istore 8, 2) := by decide +kernel
theorem dX12_letter_83 : decode cX12_letter 83 = .ok (.aload_n 0, 1) := by decide +kernel
theorem dX12_letter_84 : decode cX12_letter 84 = .ok (.getfield 133, 3) := by decide +kernel
theorem dX12_letter_87 : decode cX12_letter 87 = .ok (.iload 8, 2) := by decide +kernel
theorem dX12_letter_89 : decode cX12_letter 89 = .ok (.iload_n 1, 1) := by decide +kernel
theorem dX12_letter_90 : decode cX12_letter 90 = .ok (.iastore, 1) := by decide +kernel
theorem dX12_letter_91 : decode cX12_letter 91 = .ok (.aload_n 0, 1) := by decide +kernel
theorem dX12_letter_92 : decode cX12_letter 92 = .ok (.getfield 136, 3) := by decide +kernel
theorem dX12_letter_95 : decode cX12_letter 95 = .ok (.iload 8, 2) := by decide +kernel
theorem dX12_letter_97 : decode cX12_letter 97 = .ok (.iload_n 2, 1) := by decide +kernel
theorem dX12_letter_98 : decode cX12_letter 98 = .ok (.iastore, 1) := by decide +kernel
theorem dX12_letter_99 : decode cX12_letter 99 = .ok (.aload_n 0, 1) := by decide +kernel
theorem dX12_letter_100 : decode cX12_letter 100 = .ok (.getfield 139, 3) := by decide +kernel
theorem dX12_letter_103 : decode cX12_letter 103 = .ok (.iload 8, 2) := by decide +kernel
theorem dX12_letter_105 : decode cX12_letter 105 = .ok (.aload_n 0, 1) := by decide +kernel
theorem dX12_letter_106 : decode cX12_letter 106 = .ok (.getfield 281, 3) := by decide +kernel
theorem dX12_letter_109 : decode cX12_letter 109 = .ok (.iastore, 1) := by decide +kernel
theorem dX12_letter_110 : decode cX12_letter 110 = .ok (.aload_n 0, 1) := by decide +kernel
theorem dX12_letter_111 : decode cX12_letter 111 = .ok (.getfield 142, 3) := by decide +kernel
theorem dX12_letter_114 : decode cX12_letter 114 = .ok (.iload 8, 2) := by decide +kernel
theorem dX12_letter_116 : decode cX12_letter 116 = .ok (.iconst 0, 1) := by decide +kernel
theorem dX12_letter_117 : decode cX12_letter 117 = .ok (.iastore, 1) := by decide +kernel
theorem dX12_letter_118 : decode cX12_letter 118 = .ok (.aload_n 0, 1) := by decide +kernel
theorem dX12_letter_119 : decode cX12_letter 119 = .ok (.getfield 145, 3) := by decide +kernel
theorem dX12_letter_122 : decode cX12_letter 122 = .ok (.iload 8, 2) := by decide +kernel
theorem dX12_letter_124 : decode cX12_letter 124 = .ok (.aload_n 0, 1) := by decide +kernel
theorem dX12_letter_125 : decode cX12_letter 125 = .ok (.getfield 281, 3) := by decide +kernel
theorem dX12_letter_128 : decode cX12_letter 128 = .ok (.iastore, 1) := by decide +kernel
theorem dX12_letter_129 : decode cX12_letter 129 = .ok (.aload_n 0, 1) := by decide +kernel
theorem dX12_letter_130 : decode cX12_letter 130 = .ok (.getfield 148, 3) := by decide +kernel
theorem dX12_letter_133 : decode cX12_letter 133 = .ok (.iload 8, 2) := by decide +kernel
theorem dX12_letter_135 : decode cX12_letter 135 = .ok (.iconst (-1), 1) := by decide +kernel
theorem dX12_letter_136 : decode cX12_letter 136 = .ok (.iastore, 1) := by decide +kernel
theorem dX12_letter_137 : decode cX12_letter 137 = .ok (.aload_n 0, 1) := by decide +kernel
theorem dX12_letter_138 : decode cX12_letter 138 = .ok (.getfield 151, 3) := by decide +kernel
theorem dX12_letter_141 : decode cX12_letter 141 = .ok (.iload 8, 2) := by decide +kernel
theorem dX12_letter_143 : decode cX12_letter 143 = .ok (.iconst (-1), 1) := by decide +kernel
theorem dX12_letter_144 : decode cX12_letter 144 = .ok (.iastore, 1) := by decide +kernel
theorem dX12_letter_145 : decode cX12_letter 145 = .ok (.aload_n 0, 1) := by decide +kernel
theorem dX12_letter_146 : decode cX12_letter 146 = .ok (.getfield 154, 3) := by decide +kernel
theorem dX12_letter_149 : decode cX12_letter 149 = .ok (.iload 8, 2) := by decide +kernel
theorem dX12_letter_151 : decode cX12_letter 151 = .ok (.iload 7, 2) := by decide +kernel
theorem dX12_letter_153 : decode cX12_letter 153 = .ok (.iastore, 1) := by decide +kernel
theorem dX12_letter_154 : decode cX12_letter 154 = .ok (.aload_n 0, 1) := by decide +kernel
theorem dX12_letter_155 : decode cX12_letter 155 = .ok (.getfield 160, 3) := by decide +kernel
theorem dX12_letter_158 : decode cX12_letter 158 = .ok (.iconst 4, 1) := by decide +kernel
theorem dX12_letter_159 : decode cX12_letter 159 = .ok (.iload 8, 2) := by decide +kernel
theorem dX12_letter_161 : decode cX12_letter 161 = .ok (.imul, 1) := by decide +kernel
theorem dX12_letter_162 : decode cX12_letter 162 = .ok (.iload_n 3, 1) := by decide +kernel
theorem dX12_letter_163 : decode cX12_letter 163 = .ok (.iastore, 1) := by decide +kernel
theorem dX12_letter_164 : decode cX12_letter 164 = .ok (.aload_n 0, 1) := by decide +kernel
theorem dX12_letter_165 : decode cX12_letter 165 = .ok (.getfield 160, 3) := by decide +kernel
theorem dX12_letter_168 : decode cX12_letter 168 = .ok (.iconst 4, 1) := by decide +kernel
theorem dX12_letter_169 : decode cX12_letter 169 = .ok (.iload 8, 2) := by decide +kernel
theorem dX12_letter_171 : decode cX12_letter 171 = .ok (.imul, 1) := by decide +kernel
theorem dX12_letter_172 : decode cX12_letter 172 = .ok (.iconst 1, 1) := by decide +kernel
theorem dX12_letter_173 : decode cX12_letter 173 = .ok (.iadd, 1) := by decide +kernel
theorem dX12_letter_174 : decode cX12_letter 174 = .ok (.iload 4, 2) := by decide +kernel
theorem dX12_letter_176 : decode cX12_letter 176 = .ok (.iastore, 1) := by decide +kernel
theorem dX12_letter_177 : decode cX12_letter 177 = .ok (.aload_n 0, 1) := by decide +kernel
theorem dX12_letter_178 : decode cX12_letter 178 = .ok (.getfield 160, 3) := by decide +kernel
theorem dX12_letter_181 : decode cX12_letter 181 = .ok (.iconst 4, 1) := by decide +kernel
theorem dX12_letter_182 : decode cX12_letter 182 = .ok (.iload 8, 2) := by decide +kernel
theorem dX12_letter_184 : decode cX12_letter 184 = .ok (.imul, 1) := by decide +kernel
theorem dX12_letter_185 : decode cX12_letter 185 = .ok (.iconst 2, 1) := by decide +kernel
theorem dX12_letter_186 : decode cX12_letter 186 = .ok (.iadd, 1) := by decide +kernel
theorem dX12_letter_187 : decode cX12_letter 187 = .ok (.iload 5, 2) := by decide +kernel
theorem dX12_letter_189 : decode cX12_letter 189 = .ok (.iastore, 1) := by decide +kernel
theorem dX12_letter_190 : decode cX12_letter 190 = .ok (.aload_n 0, 1) := by decide +kernel
theorem dX12_letter_191 : decode cX12_letter 191 = .ok (.getfield 160, 3) := by decide +kernel
theorem dX12_letter_194 : decode cX12_letter 194 = .ok (.iconst 4, 1) := by decide +kernel
theorem dX12_letter_195 : decode cX12_letter 195 = .ok (.iload 8, 2) := by decide +kernel
theorem dX12_letter_197 : decode cX12_letter 197 = .ok (.imul, 1) := by decide +kernel
theorem dX12_letter_198 : decode cX12_letter 198 = .ok (.iconst 3, 1) := by decide +kernel
theorem dX12_letter_199 : decode cX12_letter 199 = .ok (.iadd, 1) := by decide +kernel
theorem dX12_letter_200 : decode cX12_letter 200 = .ok (.iload 6, 2) := by decide +kernel
theorem dX12_letter_202 : decode cX12_letter 202 = .ok (.iastore, 1) := by decide +kernel
theorem dX12_letter_203 : decode cX12_letter 203 = .ok (.iconst 0, 1) := by decide +kernel
theorem dX12_letter_204 : decode cX12_letter 204 = .ok (.istore 9, 2) := by decide +kernel
theorem dX12_letter_206 : decode cX12_letter 206 = .ok (.iload 9, 2) := by decide +kernel
theorem dX12_letter_208 : decode cX12_letter 208 = .ok (.iload 7, 2) := by decide +kernel
theorem dX12_letter_210 : decode cX12_letter 210 = .ok (.if_icmp .ge 30, 3) := by decide +kernel
theorem dX12_letter_213 : decode cX12_letter 213 = .ok (.aload_n 0, 1) := by decide +kernel
theorem dX12_letter_214 : decode cX12_letter 214 = .ok (.getfield 166, 3) := by decide +kernel
theorem dX12_letter_217 : decode cX12_letter 217 = .ok (.sipush 160, 3) := by decide +kernel
theorem dX12_letter_220 : decode cX12_letter 220 = .ok (.iload 8, 2) := by decide +kernel
theorem dX12_letter_222 : decode cX12_letter 222 = .ok (.imul, 1) := by decide +kernel
theorem dX12_letter_223 : decode cX12_letter 223 = .ok (.iload 9, 2) := by decide +kernel
theorem dX12_letter_225 : decode cX12_letter 225 = .ok (.iadd, 1) := by decide +kernel
theorem dX12_letter_226 : decode cX12_letter 226 = .ok (.aload_n 0, 1) := by decide +kernel
theorem dX12_letter_227 : decode cX12_letter 227 = .ok (.getfield 52, 3) := by decide +kernel
theorem dX12_letter_230 : decode cX12_letter 230 = .ok (.iload 9, 2) := by decide +kernel
theorem dX12_letter_232 : decode cX12_letter 232 = .ok (.baload, 1) := by decide +kernel
theorem dX12_letter_233 : decode cX12_letter 233 = .ok (.bastore, 1) := by decide +kernel
theorem dX12_letter_234 : decode cX12_letter 234 = .ok (.iinc 9 1, 3) := by decide +kernel
theorem dX12_letter_237 : decode cX12_letter 237 = .ok (.goto (-31), 3) := by decide +kernel
theorem dX12_letter_240 : decode cX12_letter 240 = .ok (.aload_n 0, 1) := by decide +kernel
theorem dX12_letter_241 : decode cX12_letter 241 = .ok (.iconst 0, 1) := by decide +kernel
theorem dX12_letter_242 : decode cX12_letter 242 = .ok (.putfield 311, 3) := by decide +kernel
theorem dX12_letter_245 : decode cX12_letter 245 = .ok (.aload_n 0, 1) := by decide +kernel
theorem dX12_letter_246 : decode cX12_letter 246 = .ok (.aload_n 0, 1) := by decide +kernel
theorem dX12_letter_247 : decode cX12_letter 247 = .ok (.getfield 431, 3) := by decide +kernel
theorem dX12_letter_250 : decode cX12_letter 250 = .ok (.iconst 1, 1) := by decide +kernel
theorem dX12_letter_251 : decode cX12_letter 251 = .ok (.iadd, 1) := by decide +kernel
theorem dX12_letter_252 : decode cX12_letter 252 = .ok (.putfield 431, 3) := by decide +kernel
theorem dX12_letter_255 : decode cX12_letter 255 = .ok (.iload 8, 2) := by decide +kernel
theorem dX12_letter_257 : decode cX12_letter 257 = .ok (.ireturn, 1) := by decide +kernel
theorem dX12_moves_0 : decode cX12_moves 0 = .ok (.aload_n 0, 1) := by decide +kernel
theorem dX12_moves_1 : decode cX12_moves 1 = .ok (.getfield 142, 3) := by decide +kernel
theorem dX12_moves_4 : decode cX12_moves 4 = .ok (.iload_n 1, 1) := by decide +kernel
theorem dX12_moves_5 : decode cX12_moves 5 = .ok (.iload_n 2, 1) := by decide +kernel
theorem dX12_moves_6 : decode cX12_moves 6 = .ok (.iastore, 1) := by decide +kernel
theorem dX12_moves_7 : decode cX12_moves 7 = .ok (.aload_n 0, 1) := by decide +kernel
theorem dX12_moves_8 : decode cX12_moves 8 = .ok (.getfield 145, 3) := by decide +kernel
theorem dX12_moves_11 : decode cX12_moves 11 = .ok (.iload_n 1, 1) := by decide +kernel
theorem dX12_moves_12 : decode cX12_moves 12 = .ok (.aload_n 0, 1) := by decide +kernel
theorem dX12_moves_13 : decode cX12_moves 13 = .ok (.getfield 281, 3) := by decide +kernel
theorem dX12_moves_16 : decode cX12_moves 16 = .ok (.iastore, 1) := by decide +kernel
theorem dX12_moves_17 : decode cX12_moves 17 = .ok (.return_, 1) := by decide +kernel
theorem dX12_writerOf_0 : decode cX12_writerOf 0 = .ok (.aload_n 0, 1) := by decide +kernel
theorem dX12_writerOf_1 : decode cX12_writerOf 1 = .ok (.getfield 136, 3) := by decide +kernel
theorem dX12_writerOf_4 : decode cX12_writerOf 4 = .ok (.iload_n 1, 1) := by decide +kernel
theorem dX12_writerOf_5 : decode cX12_writerOf 5 = .ok (.iaload, 1) := by decide +kernel
theorem dX12_writerOf_6 : decode cX12_writerOf 6 = .ok (.ifCond .ne 17, 3) := by decide +kernel
theorem dX12_writerOf_9 : decode cX12_writerOf 9 = .ok (.aload_n 0, 1) := by decide +kernel
theorem dX12_writerOf_10 : decode cX12_writerOf 10 = .ok (.getfield 31, 3) := by decide +kernel
theorem dX12_writerOf_13 : decode cX12_writerOf 13 = .ok (.aload_n 0, 1) := by decide +kernel
theorem dX12_writerOf_14 : decode cX12_writerOf 14 = .ok (.getfield 133, 3) := by decide +kernel
theorem dX12_writerOf_17 : decode cX12_writerOf 17 = .ok (.iload_n 1, 1) := by decide +kernel
theorem dX12_writerOf_18 : decode cX12_writerOf 18 = .ok (.iaload, 1) := by decide +kernel
theorem dX12_writerOf_19 : decode cX12_writerOf 19 = .ok (.iaload, 1) := by decide +kernel
theorem dX12_writerOf_20 : decode cX12_writerOf 20 = .ok (.goto 17, 3) := by decide +kernel
theorem dX12_writerOf_23 : decode cX12_writerOf 23 = .ok (.bipush 16, 2) := by decide +kernel
theorem dX12_writerOf_25 : decode cX12_writerOf 25 = .ok (.aload_n 0, 1) := by decide +kernel
theorem dX12_writerOf_26 : decode cX12_writerOf 26 = .ok (.getfield 34, 3) := by decide +kernel
theorem dX12_writerOf_29 : decode cX12_writerOf 29 = .ok (.aload_n 0, 1) := by decide +kernel
theorem dX12_writerOf_30 : decode cX12_writerOf 30 = .ok (.getfield 133, 3) := by decide +kernel
theorem dX12_writerOf_33 : decode cX12_writerOf 33 = .ok (.iload_n 1, 1) := by decide +kernel
theorem dX12_writerOf_34 : decode cX12_writerOf 34 = .ok (.iaload, 1) := by decide +kernel
theorem dX12_writerOf_35 : decode cX12_writerOf 35 = .ok (.iaload, 1) := by decide +kernel
theorem dX12_writerOf_36 : decode cX12_writerOf 36 = .ok (.iadd, 1) := by decide +kernel
theorem dX12_writerOf_37 : decode cX12_writerOf 37 = .ok (.ireturn, 1) := by decide +kernel
theorem dX12_isUnlike_0 : decode cX12_isUnlike 0 = .ok (.aload_n 0, 1) := by decide +kernel
theorem dX12_isUnlike_1 : decode cX12_isUnlike 1 = .ok (.iload_n 1, 1) := by decide +kernel
theorem dX12_isUnlike_2 : decode cX12_isUnlike 2 = .ok (.invokevirtual 437, 3) := by decide +kernel
theorem dX12_isUnlike_5 : decode cX12_isUnlike 5 = .ok (.istore_n 2, 1) := by decide +kernel
theorem dX12_isUnlike_6 : decode cX12_isUnlike 6 = .ok (.aload_n 0, 1) := by decide +kernel
theorem dX12_isUnlike_7 : decode cX12_isUnlike 7 = .ok (.getfield 179, 3) := by decide +kernel
theorem dX12_isUnlike_10 : decode cX12_isUnlike 10 = .ok (.iload_n 2, 1) := by decide +kernel
theorem dX12_isUnlike_11 : decode cX12_isUnlike 11 = .ok (.iaload, 1) := by decide +kernel
theorem dX12_isUnlike_12 : decode cX12_isUnlike 12 = .ok (.istore_n 3, 1) := by decide +kernel
theorem dX12_isUnlike_13 : decode cX12_isUnlike 13 = .ok (.iload_n 3, 1) := by decide +kernel
theorem dX12_isUnlike_14 : decode cX12_isUnlike 14 = .ok (.iconst 3, 1) := by decide +kernel
theorem dX12_isUnlike_15 : decode cX12_isUnlike 15 = .ok (.if_icmp .ge 5, 3) := by decide +kernel
theorem dX12_isUnlike_18 : decode cX12_isUnlike 18 = .ok (.iconst 0, 1) := by decide +kernel
theorem dX12_isUnlike_19 : decode cX12_isUnlike 19 = .ok (.ireturn, 1) := by decide +kernel
theorem dX12_isUnlike_20 : decode cX12_isUnlike 20 = .ok (.iconst 0, 1) := by decide +kernel
theorem dX12_isUnlike_21 : decode cX12_isUnlike 21 = .ok (.istore 4, 2) := by decide +kernel
theorem dX12_isUnlike_23 : decode cX12_isUnlike 23 = .ok (.iconst 0, 1) := by decide +kernel
theorem dX12_isUnlike_24 : decode cX12_isUnlike 24 = .ok (.istore 5, 2) := by decide +kernel
theorem dX12_isUnlike_26 : decode cX12_isUnlike 26 = .ok (.iload 5, 2) := by decide +kernel
theorem dX12_isUnlike_28 : decode cX12_isUnlike 28 = .ok (.iconst 4, 1) := by decide +kernel
theorem dX12_isUnlike_29 : decode cX12_isUnlike 29 = .ok (.if_icmp .ge 54, 3) := by decide +kernel
theorem dX12_isUnlike_32 : decode cX12_isUnlike 32 = .ok (.iload_n 3, 1) := by decide +kernel
theorem dX12_isUnlike_33 : decode cX12_isUnlike 33 = .ok (.aload_n 0, 1) := by decide +kernel
theorem dX12_isUnlike_34 : decode cX12_isUnlike 34 = .ok (.getfield 160, 3) := by decide +kernel
theorem dX12_isUnlike_37 : decode cX12_isUnlike 37 = .ok (.iconst 4, 1) := by decide +kernel
theorem dX12_isUnlike_38 : decode cX12_isUnlike 38 = .ok (.iload_n 1, 1) := by decide +kernel
theorem dX12_isUnlike_39 : decode cX12_isUnlike 39 = .ok (.imul, 1) := by decide +kernel
theorem dX12_isUnlike_40 : decode cX12_isUnlike 40 = .ok (.iload 5, 2) := by decide +kernel
theorem dX12_isUnlike_42 : decode cX12_isUnlike 42 = .ok (.iadd, 1) := by decide +kernel
theorem dX12_isUnlike_43 : decode cX12_isUnlike 43 = .ok (.iaload, 1) := by decide +kernel
theorem dX12_isUnlike_44 : decode cX12_isUnlike 44 = .ok (.imul, 1) := by decide +kernel
theorem dX12_isUnlike_45 : decode cX12_isUnlike 45 = .ok (.aload_n 0, 1) := by decide +kernel
theorem dX12_isUnlike_46 : decode cX12_isUnlike 46 = .ok (.getfield 182, 3) := by decide +kernel
theorem dX12_isUnlike_49 : decode cX12_isUnlike 49 = .ok (.iconst 4, 1) := by decide +kernel
theorem dX12_isUnlike_50 : decode cX12_isUnlike 50 = .ok (.iload_n 2, 1) := by decide +kernel
theorem dX12_isUnlike_51 : decode cX12_isUnlike 51 = .ok (.imul, 1) := by decide +kernel
theorem dX12_isUnlike_52 : decode cX12_isUnlike 52 = .ok (.iload 5, 2) := by decide +kernel
theorem dX12_isUnlike_54 : decode cX12_isUnlike 54 = .ok (.iadd, 1) := by decide +kernel
theorem dX12_isUnlike_55 : decode cX12_isUnlike 55 = .ok (.iaload, 1) := by decide +kernel
theorem dX12_isUnlike_56 : decode cX12_isUnlike 56 = .ok (.isub, 1) := by decide +kernel
theorem dX12_isUnlike_57 : decode cX12_isUnlike 57 = .ok (.istore 6, 2) := by decide +kernel
theorem dX12_isUnlike_59 : decode cX12_isUnlike 59 = .ok (.iload 4, 2) := by decide +kernel
theorem dX12_isUnlike_61 : decode cX12_isUnlike 61 = .ok (.iload 6, 2) := by decide +kernel
theorem dX12_isUnlike_63 : decode cX12_isUnlike 63 = .ok (.ifCond .ge 9, 3) := by decide +kernel
theorem dX12_isUnlike_66 : decode cX12_isUnlike 66 = .ok (.iload 6, 2) := by decide +kernel
theorem dX12_isUnlike_68 : decode cX12_isUnlike 68 = .ok (.ineg, 1) := by decide +kernel
theorem dX12_isUnlike_69 : decode cX12_isUnlike 69 = .ok (.goto 5, 3) := by decide +kernel
theorem dX12_isUnlike_72 : decode cX12_isUnlike 72 = .ok (.iload 6, 2) := by decide +kernel
theorem dX12_isUnlike_74 : decode cX12_isUnlike 74 = .ok (.iadd, 1) := by decide +kernel
theorem dX12_isUnlike_75 : decode cX12_isUnlike 75 = .ok (.istore 4, 2) := by decide +kernel
theorem dX12_isUnlike_77 : decode cX12_isUnlike 77 = .ok (.iinc 5 1, 3) := by decide +kernel
theorem dX12_isUnlike_80 : decode cX12_isUnlike 80 = .ok (.goto (-54), 3) := by decide +kernel
theorem dX12_isUnlike_83 : decode cX12_isUnlike 83 = .ok (.iload 4, 2) := by decide +kernel
theorem dX12_isUnlike_85 : decode cX12_isUnlike 85 = .ok (.iload_n 3, 1) := by decide +kernel
theorem dX12_isUnlike_86 : decode cX12_isUnlike 86 = .ok (.aload_n 0, 1) := by decide +kernel
theorem dX12_isUnlike_87 : decode cX12_isUnlike 87 = .ok (.getfield 49, 3) := by decide +kernel
theorem dX12_isUnlike_90 : decode cX12_isUnlike 90 = .ok (.iconst 4, 1) := by decide +kernel
theorem dX12_isUnlike_91 : decode cX12_isUnlike 91 = .ok (.iaload, 1) := by decide +kernel
theorem dX12_isUnlike_92 : decode cX12_isUnlike 92 = .ok (.imul, 1) := by decide +kernel
theorem dX12_isUnlike_93 : decode cX12_isUnlike 93 = .ok (.if_icmp .le 7, 3) := by decide +kernel
theorem dX12_isUnlike_96 : decode cX12_isUnlike 96 = .ok (.iconst 1, 1) := by decide +kernel
theorem dX12_isUnlike_97 : decode cX12_isUnlike 97 = .ok (.goto 4, 3) := by decide +kernel
theorem dX12_isUnlike_100 : decode cX12_isUnlike 100 = .ok (.iconst 0, 1) := by decide +kernel
theorem dX12_isUnlike_101 : decode cX12_isUnlike 101 = .ok (.ireturn, 1) := by decide +kernel
theorem dX12_unlike_0 : decode cX12_unlike 0 = .ok (.aload_n 0, 1) := by decide +kernel
theorem dX12_unlike_1 : decode cX12_unlike 1 = .ok (.iload_n 1, 1) := by decide +kernel
theorem dX12_unlike_2 : decode cX12_unlike 2 = .ok (.invokevirtual 440, 3) := by decide +kernel
theorem dX12_unlike_5 : decode cX12_unlike 5 = .ok (.ifCond .ne 5, 3) := by decide +kernel
theorem dX12_unlike_8 : decode cX12_unlike 8 = .ok (.iconst (-1), 1) := by decide +kernel
theorem dX12_unlike_9 : decode cX12_unlike 9 = .ok (.ireturn, 1) := by decide +kernel
theorem dX12_unlike_10 : decode cX12_unlike 10 = .ok (.aload_n 0, 1) := by decide +kernel
theorem dX12_unlike_11 : decode cX12_unlike 11 = .ok (.iload_n 1, 1) := by decide +kernel
theorem dX12_unlike_12 : decode cX12_unlike 12 = .ok (.invokevirtual 443, 3) := by decide +kernel
theorem dX12_unlike_15 : decode cX12_unlike 15 = .ok (.ifCond .eq 7, 3) := by decide +kernel
theorem dX12_unlike_18 : decode cX12_unlike 18 = .ok (.iconst 1, 1) := by decide +kernel
theorem dX12_unlike_19 : decode cX12_unlike 19 = .ok (.goto 4, 3) := by decide +kernel
theorem dX12_unlike_22 : decode cX12_unlike 22 = .ok (.iconst 0, 1) := by decide +kernel
theorem dX12_unlike_23 : decode cX12_unlike 23 = .ok (.ireturn, 1) := by decide +kernel
theorem dX12_looksAt_0 : decode cX12_looksAt 0 = .ok (.aload_n 0, 1) := by decide +kernel
theorem dX12_looksAt_1 : decode cX12_looksAt 1 = .ok (.aload_n 0, 1) := by decide +kernel
theorem dX12_looksAt_2 : decode cX12_looksAt 2 = .ok (.getfield 154, 3) := by decide +kernel
theorem dX12_looksAt_5 : decode cX12_looksAt 5 = .ok (.iload_n 1, 1) := by decide +kernel
theorem dX12_looksAt_6 : decode cX12_looksAt 6 = .ok (.iaload, 1) := by decide +kernel
theorem dX12_looksAt_7 : decode cX12_looksAt 7 = .ok (.putfield 384, 3) := by decide +kernel
theorem dX12_looksAt_10 : decode cX12_looksAt 10 = .ok (.iconst 0, 1) := by decide +kernel
theorem dX12_looksAt_11 : decode cX12_looksAt 11 = .ok (.istore_n 2, 1) := by decide +kernel
theorem dX12_looksAt_12 : decode cX12_looksAt 12 = .ok (.iload_n 2, 1) := by decide +kernel
theorem dX12_looksAt_13 : decode cX12_looksAt 13 = .ok (.aload_n 0, 1) := by decide +kernel
theorem dX12_looksAt_14 : decode cX12_looksAt 14 = .ok (.getfield 384, 3) := by decide +kernel
theorem dX12_looksAt_17 : decode cX12_looksAt 17 = .ok (.if_icmp .ge 27, 3) := by decide +kernel
theorem dX12_looksAt_20 : decode cX12_looksAt 20 = .ok (.aload_n 0, 1) := by decide +kernel
theorem dX12_looksAt_21 : decode cX12_looksAt 21 = .ok (.getfield 106, 3) := by decide +kernel
theorem dX12_looksAt_24 : decode cX12_looksAt 24 = .ok (.iload_n 2, 1) := by decide +kernel
theorem dX12_looksAt_25 : decode cX12_looksAt 25 = .ok (.aload_n 0, 1) := by decide +kernel
theorem dX12_looksAt_26 : decode cX12_looksAt 26 = .ok (.getfield 166, 3) := by decide +kernel
theorem dX12_looksAt_29 : decode cX12_looksAt 29 = .ok (.sipush 160, 3) := by decide +kernel
theorem dX12_looksAt_32 : decode cX12_looksAt 32 = .ok (.iload_n 1, 1) := by decide +kernel
theorem dX12_looksAt_33 : decode cX12_looksAt 33 = .ok (.imul, 1) := by decide +kernel
theorem dX12_looksAt_34 : decode cX12_looksAt 34 = .ok (.iload_n 2, 1) := by decide +kernel
theorem dX12_looksAt_35 : decode cX12_looksAt 35 = .ok (.iadd, 1) := by decide +kernel
theorem dX12_looksAt_36 : decode cX12_looksAt 36 = .ok (.baload, 1) := by decide +kernel
theorem dX12_looksAt_37 : decode cX12_looksAt 37 = .ok (.bastore, 1) := by decide +kernel
theorem dX12_looksAt_38 : decode cX12_looksAt 38 = .ok (.iinc 2 1, 3) := by decide +kernel
theorem dX12_looksAt_41 : decode cX12_looksAt 41 = .ok (.goto (-29), 3) := by decide +kernel
theorem dX12_looksAt_44 : decode cX12_looksAt 44 = .ok (.aload_n 0, 1) := by decide +kernel
theorem dX12_looksAt_45 : decode cX12_looksAt 45 = .ok (.invokevirtual 425, 3) := by decide +kernel
theorem dX12_looksAt_48 : decode cX12_looksAt 48 = .ok (.return_, 1) := by decide +kernel
theorem dX12_hasFind_0 : decode cX12_hasFind 0 = .ok (.iconst 0, 1) := by decide +kernel
theorem dX12_hasFind_1 : decode cX12_hasFind 1 = .ok (.istore_n 2, 1) := by decide +kernel
theorem dX12_hasFind_2 : decode cX12_hasFind 2 = .ok (.iload_n 2, 1) := by decide +kernel
theorem dX12_hasFind_3 : decode cX12_hasFind 3 = .ok (.aload_n 0, 1) := by decide +kernel
theorem dX12_hasFind_4 : decode cX12_hasFind 4 = .ok (.getfield 413, 3) := by decide +kernel
theorem dX12_hasFind_7 : decode cX12_hasFind 7 = .ok (.if_icmp .ge 26, 3) := by decide +kernel
theorem dX12_hasFind_10 : decode cX12_hasFind 10 = .ok (.aload_n 0, 1) := by decide +kernel
theorem dX12_hasFind_11 : decode cX12_hasFind 11 = .ok (.getfield 80, 3) := by decide +kernel
theorem dX12_hasFind_14 : decode cX12_hasFind 14 = .ok (.aload_n 0, 1) := by decide +kernel
theorem dX12_hasFind_15 : decode cX12_hasFind 15 = .ok (.getfield 109, 3) := by decide +kernel
theorem dX12_hasFind_18 : decode cX12_hasFind 18 = .ok (.iload_n 2, 1) := by decide +kernel
theorem dX12_hasFind_19 : decode cX12_hasFind 19 = .ok (.iaload, 1) := by decide +kernel
theorem dX12_hasFind_20 : decode cX12_hasFind 20 = .ok (.iaload, 1) := by decide +kernel
theorem dX12_hasFind_21 : decode cX12_hasFind 21 = .ok (.iload_n 1, 1) := by decide +kernel
theorem dX12_hasFind_22 : decode cX12_hasFind 22 = .ok (.if_icmp .ne 5, 3) := by decide +kernel
theorem dX12_hasFind_25 : decode cX12_hasFind 25 = .ok (.iconst 1, 1) := by decide +kernel
theorem dX12_hasFind_26 : decode cX12_hasFind 26 = .ok (.ireturn, 1) := by decide +kernel
theorem dX12_hasFind_27 : decode cX12_hasFind 27 = .ok (.iinc 2 1, 3) := by decide +kernel
theorem dX12_hasFind_30 : decode cX12_hasFind 30 = .ok (.goto (-28), 3) := by decide +kernel
theorem dX12_hasFind_33 : decode cX12_hasFind 33 = .ok (.iconst 0, 1) := by decide +kernel
theorem dX12_hasFind_34 : decode cX12_hasFind 34 = .ok (.ireturn, 1) := by decide +kernel
theorem dX12_hintsFound_0 : decode cX12_hintsFound 0 = .ok (.iconst 0, 1) := by decide +kernel
theorem dX12_hintsFound_1 : decode cX12_hintsFound 1 = .ok (.istore_n 1, 1) := by decide +kernel
theorem dX12_hintsFound_2 : decode cX12_hintsFound 2 = .ok (.iconst 0, 1) := by decide +kernel
theorem dX12_hintsFound_3 : decode cX12_hintsFound 3 = .ok (.istore_n 2, 1) := by decide +kernel
theorem dX12_hintsFound_4 : decode cX12_hintsFound 4 = .ok (.iload_n 2, 1) := by decide +kernel
theorem dX12_hintsFound_5 : decode cX12_hintsFound 5 = .ok (.aload_n 0, 1) := by decide +kernel
theorem dX12_hintsFound_6 : decode cX12_hintsFound 6 = .ok (.getfield 413, 3) := by decide +kernel
theorem dX12_hintsFound_9 : decode cX12_hintsFound 9 = .ok (.if_icmp .ge 41, 3) := by decide +kernel
theorem dX12_hintsFound_12 : decode cX12_hintsFound 12 = .ok (.aload_n 0, 1) := by decide +kernel
theorem dX12_hintsFound_13 : decode cX12_hintsFound 13 = .ok (.getfield 80, 3) := by decide +kernel
theorem dX12_hintsFound_16 : decode cX12_hintsFound 16 = .ok (.aload_n 0, 1) := by decide +kernel
theorem dX12_hintsFound_17 : decode cX12_hintsFound 17 = .ok (.getfield 109, 3) := by decide +kernel
theorem dX12_hintsFound_20 : decode cX12_hintsFound 20 = .ok (.iload_n 2, 1) := by decide +kernel
theorem dX12_hintsFound_21 : decode cX12_hintsFound 21 = .ok (.iaload, 1) := by decide +kernel
theorem dX12_hintsFound_22 : decode cX12_hintsFound 22 = .ok (.iaload, 1) := by decide +kernel
theorem dX12_hintsFound_23 : decode cX12_hintsFound 23 = .ok (.bipush 8, 2) := by decide +kernel
theorem dX12_hintsFound_25 : decode cX12_hintsFound 25 = .ok (.if_icmp .ge 19, 3) := by decide +kernel
theorem dX12_hintsFound_28 : decode cX12_hintsFound 28 = .ok (.iload_n 1, 1) := by decide +kernel
theorem dX12_hintsFound_29 : decode cX12_hintsFound 29 = .ok (.iconst 1, 1) := by decide +kernel
theorem dX12_hintsFound_30 : decode cX12_hintsFound 30 = .ok (.aload_n 0, 1) := by decide +kernel
theorem dX12_hintsFound_31 : decode cX12_hintsFound 31 = .ok (.getfield 80, 3) := by decide +kernel
theorem dX12_hintsFound_34 : decode cX12_hintsFound 34 = .ok (.aload_n 0, 1) := by decide +kernel
theorem dX12_hintsFound_35 : decode cX12_hintsFound 35 = .ok (.getfield 109, 3) := by decide +kernel
theorem dX12_hintsFound_38 : decode cX12_hintsFound 38 = .ok (.iload_n 2, 1) := by decide +kernel
theorem dX12_hintsFound_39 : decode cX12_hintsFound 39 = .ok (.iaload, 1) := by decide +kernel
theorem dX12_hintsFound_40 : decode cX12_hintsFound 40 = .ok (.iaload, 1) := by decide +kernel
theorem dX12_hintsFound_41 : decode cX12_hintsFound 41 = .ok (.ishl, 1) := by decide +kernel
theorem dX12_hintsFound_42 : decode cX12_hintsFound 42 = .ok (.ior, 1) := by decide +kernel
theorem dX12_hintsFound_43 : decode cX12_hintsFound 43 = .ok (.istore_n 1, 1) := by decide +kernel
theorem dX12_hintsFound_44 : decode cX12_hintsFound 44 = .ok (.iinc 2 1, 3) := by decide +kernel
theorem dX12_hintsFound_47 : decode cX12_hintsFound 47 = .ok (.goto (-43), 3) := by decide +kernel
theorem dX12_hintsFound_50 : decode cX12_hintsFound 50 = .ok (.iload_n 1, 1) := by decide +kernel
theorem dX12_hintsFound_51 : decode cX12_hintsFound 51 = .ok (.ireturn, 1) := by decide +kernel
theorem dX12_bits_0 : decode cX12_bits 0 = .ok (.iconst 0, 1) := by decide +kernel
theorem dX12_bits_1 : decode cX12_bits 1 = .ok (.istore_n 1, 1) := by decide +kernel
theorem dX12_bits_2 : decode cX12_bits 2 = .ok (.iconst 0, 1) := by decide +kernel
theorem dX12_bits_3 : decode cX12_bits 3 = .ok (.istore_n 2, 1) := by decide +kernel
theorem dX12_bits_4 : decode cX12_bits 4 = .ok (.iload_n 2, 1) := by decide +kernel
theorem dX12_bits_5 : decode cX12_bits 5 = .ok (.bipush 20, 2) := by decide +kernel
theorem dX12_bits_7 : decode cX12_bits 7 = .ok (.if_icmp .ge 17, 3) := by decide +kernel
theorem dX12_bits_10 : decode cX12_bits 10 = .ok (.iload_n 1, 1) := by decide +kernel
theorem dX12_bits_11 : decode cX12_bits 11 = .ok (.iload_n 0, 1) := by decide +kernel
theorem dX12_bits_12 : decode cX12_bits 12 = .ok (.iload_n 2, 1) := by decide +kernel
theorem dX12_bits_13 : decode cX12_bits 13 = .ok (.ishr, 1) := by decide +kernel
theorem dX12_bits_14 : decode cX12_bits 14 = .ok (.iconst 1, 1) := by decide +kernel
theorem dX12_bits_15 : decode cX12_bits 15 = .ok (.iand, 1) := by decide +kernel
theorem dX12_bits_16 : decode cX12_bits 16 = .ok (.iadd, 1) := by decide +kernel
theorem dX12_bits_17 : decode cX12_bits 17 = .ok (.istore_n 1, 1) := by decide +kernel
theorem dX12_bits_18 : decode cX12_bits 18 = .ok (.iinc 2 1, 3) := by decide +kernel
theorem dX12_bits_21 : decode cX12_bits 21 = .ok (.goto (-17), 3) := by decide +kernel
theorem dX12_bits_24 : decode cX12_bits 24 = .ok (.iload_n 1, 1) := by decide +kernel
theorem dX12_bits_25 : decode cX12_bits 25 = .ok (.ireturn, 1) := by decide +kernel
theorem dX12_cutsOut_0 : decode cX12_cutsOut 0 = .ok (.iconst 0, 1) := by decide +kernel
theorem dX12_cutsOut_1 : decode cX12_cutsOut 1 = .ok (.istore_n 2, 1) := by decide +kernel
theorem dX12_cutsOut_2 : decode cX12_cutsOut 2 = .ok (.iconst 0, 1) := by decide +kernel
theorem dX12_cutsOut_3 : decode cX12_cutsOut 3 = .ok (.istore_n 3, 1) := by decide +kernel
theorem dX12_cutsOut_4 : decode cX12_cutsOut 4 = .ok (.iconst 0, 1) := by decide +kernel
theorem dX12_cutsOut_5 : decode cX12_cutsOut 5 = .ok (.istore 4, 2) := by decide +kernel
theorem dX12_cutsOut_7 : decode cX12_cutsOut 7 = .ok (.iload 4, 2) := by decide +kernel
theorem dX12_cutsOut_9 : decode cX12_cutsOut 9 = .ok (.aload_n 0, 1) := by decide +kernel
theorem dX12_cutsOut_10 : decode cX12_cutsOut 10 = .ok (.getfield 384, 3) := by decide +kernel
theorem dX12_cutsOut_13 : decode cX12_cutsOut 13 = .ok (.if_icmp .ge 153, 3) := by decide +kernel
theorem dX12_cutsOut_16 : decode cX12_cutsOut 16 = .ok (.iload_n 3, 1) := by decide +kernel
theorem dX12_cutsOut_17 : decode cX12_cutsOut 17 = .ok (.aload_n 0, 1) := by decide +kernel
theorem dX12_cutsOut_18 : decode cX12_cutsOut 18 = .ok (.getfield 413, 3) := by decide +kernel
theorem dX12_cutsOut_21 : decode cX12_cutsOut 21 = .ok (.if_icmp .ge 21, 3) := by decide +kernel
theorem dX12_cutsOut_24 : decode cX12_cutsOut 24 = .ok (.aload_n 0, 1) := by decide +kernel
theorem dX12_cutsOut_25 : decode cX12_cutsOut 25 = .ok (.getfield 112, 3) := by decide +kernel
theorem dX12_cutsOut_28 : decode cX12_cutsOut 28 = .ok (.iload_n 3, 1) := by decide +kernel
theorem dX12_cutsOut_29 : decode cX12_cutsOut 29 = .ok (.iaload, 1) := by decide +kernel
theorem dX12_cutsOut_30 : decode cX12_cutsOut 30 = .ok (.iload 4, 2) := by decide +kernel
theorem dX12_cutsOut_32 : decode cX12_cutsOut 32 = .ok (.if_icmp .ge 10, 3) := by decide +kernel
theorem dX12_cutsOut_35 : decode cX12_cutsOut 35 = .ok (.iload_n 3, 1) := by decide +kernel
theorem dX12_cutsOut_36 : decode cX12_cutsOut 36 = .ok (.iconst 1, 1) := by decide +kernel
theorem dX12_cutsOut_37 : decode cX12_cutsOut 37 = .ok (.iadd, 1) := by decide +kernel
theorem dX12_cutsOut_38 : decode cX12_cutsOut 38 = .ok (.istore_n 3, 1) := by decide +kernel
theorem dX12_cutsOut_39 : decode cX12_cutsOut 39 = .ok (.goto (-23), 3) := by decide +kernel
theorem dX12_cutsOut_42 : decode cX12_cutsOut 42 = .ok (.iload_n 3, 1) := by decide +kernel
theorem dX12_cutsOut_43 : decode cX12_cutsOut 43 = .ok (.aload_n 0, 1) := by decide +kernel
theorem dX12_cutsOut_44 : decode cX12_cutsOut 44 = .ok (.getfield 413, 3) := by decide +kernel
theorem dX12_cutsOut_47 : decode cX12_cutsOut 47 = .ok (.if_icmp .ge 34, 3) := by decide +kernel
theorem dX12_cutsOut_50 : decode cX12_cutsOut 50 = .ok (.aload_n 0, 1) := by decide +kernel
theorem dX12_cutsOut_51 : decode cX12_cutsOut 51 = .ok (.getfield 112, 3) := by decide +kernel
theorem dX12_cutsOut_54 : decode cX12_cutsOut 54 = .ok (.iload_n 3, 1) := by decide +kernel
theorem dX12_cutsOut_55 : decode cX12_cutsOut 55 = .ok (.iaload, 1) := by decide +kernel
theorem dX12_cutsOut_56 : decode cX12_cutsOut 56 = .ok (.iload 4, 2) := by decide +kernel
theorem dX12_cutsOut_58 : decode cX12_cutsOut 58 = .ok (.if_icmp .ne 23, 3) := by decide +kernel
theorem dX12_cutsOut_61 : decode cX12_cutsOut 61 = .ok (.aload_n 0, 1) := by decide +kernel
theorem dX12_cutsOut_62 : decode cX12_cutsOut 62 = .ok (.getfield 80, 3) := by decide +kernel
theorem dX12_cutsOut_65 : decode cX12_cutsOut 65 = .ok (.aload_n 0, 1) := by decide +kernel
