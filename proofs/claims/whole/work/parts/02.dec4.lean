theorem dX7_comesBack_37 : decode cX7_comesBack 37 = .ok (.iastore, 1) := by decide +kernel
theorem dX7_comesBack_38 : decode cX7_comesBack 38 = .ok (.return_, 1) := by decide +kernel
theorem dX7_comesBack_39 : decode cX7_comesBack 39 = .ok (.aload_n 0, 1) := by decide +kernel
theorem dX7_comesBack_40 : decode cX7_comesBack 40 = .ok (.getfield 32, 3) := by decide +kernel
theorem dX7_comesBack_43 : decode cX7_comesBack 43 = .ok (.iload_n 1, 1) := by decide +kernel
theorem dX7_comesBack_44 : decode cX7_comesBack 44 = .ok (.iconst 1, 1) := by decide +kernel
theorem dX7_comesBack_45 : decode cX7_comesBack 45 = .ok (.iastore, 1) := by decide +kernel
theorem dX7_comesBack_46 : decode cX7_comesBack 46 = .ok (.aload_n 0, 1) := by decide +kernel
theorem dX7_comesBack_47 : decode cX7_comesBack 47 = .ok (.getfield 41, 3) := by decide +kernel
theorem dX7_comesBack_50 : decode cX7_comesBack 50 = .ok (.iload_n 1, 1) := by decide +kernel
theorem dX7_comesBack_51 : decode cX7_comesBack 51 = .ok (.iload_n 2, 1) := by decide +kernel
theorem dX7_comesBack_52 : decode cX7_comesBack 52 = .ok (.iastore, 1) := by decide +kernel
theorem dX7_comesBack_53 : decode cX7_comesBack 53 = .ok (.aload_n 0, 1) := by decide +kernel
theorem dX7_comesBack_54 : decode cX7_comesBack 54 = .ok (.dup, 1) := by decide +kernel
theorem dX7_comesBack_55 : decode cX7_comesBack 55 = .ok (.getfield 139, 3) := by decide +kernel
theorem dX7_comesBack_58 : decode cX7_comesBack 58 = .ok (.aload_n 0, 1) := by decide +kernel
theorem dX7_comesBack_59 : decode cX7_comesBack 59 = .ok (.getfield 47, 3) := by decide +kernel
theorem dX7_comesBack_62 : decode cX7_comesBack 62 = .ok (.iload_n 1, 1) := by decide +kernel
theorem dX7_comesBack_63 : decode cX7_comesBack 63 = .ok (.baload, 1) := by decide +kernel
theorem dX7_comesBack_64 : decode cX7_comesBack 64 = .ok (.ifCond .eq 9, 3) := by decide +kernel
theorem dX7_comesBack_67 : decode cX7_comesBack 67 = .ok (.iconst 1, 1) := by decide +kernel
theorem dX7_comesBack_68 : decode cX7_comesBack 68 = .ok (.iload_n 1, 1) := by decide +kernel
theorem dX7_comesBack_69 : decode cX7_comesBack 69 = .ok (.ishl, 1) := by decide +kernel
theorem dX7_comesBack_70 : decode cX7_comesBack 70 = .ok (.goto 4, 3) := by decide +kernel
theorem dX7_comesBack_73 : decode cX7_comesBack 73 = .ok (.iconst 0, 1) := by decide +kernel
theorem dX7_comesBack_74 : decode cX7_comesBack 74 = .ok (.ior, 1) := by decide +kernel
theorem dX7_comesBack_75 : decode cX7_comesBack 75 = .ok (.putfield 139, 3) := by decide +kernel
theorem dX7_comesBack_78 : decode cX7_comesBack 78 = .ok (.return_, 1) := by decide +kernel
theorem dX7_frees_0 : decode cX7_frees 0 = .ok (.iconst 0, 1) := by decide +kernel
theorem dX7_frees_1 : decode cX7_frees 1 = .ok (.istore 5, 2) := by decide +kernel
theorem dX7_frees_3 : decode cX7_frees 3 = .ok (.iload 5, 2) := by decide +kernel
theorem dX7_frees_5 : decode cX7_frees 5 = .ok (.aload_n 0, 1) := by decide +kernel
theorem dX7_frees_6 : decode cX7_frees 6 = .ok (.getfield 13, 3) := by decide +kernel
theorem dX7_frees_9 : decode cX7_frees 9 = .ok (.iconst 0, 1) := by decide +kernel
theorem dX7_frees_10 : decode cX7_frees 10 = .ok (.iaload, 1) := by decide +kernel
theorem dX7_frees_11 : decode cX7_frees 11 = .ok (.if_icmp .ge 85, 3) := by decide +kernel
theorem dX7_frees_14 : decode cX7_frees 14 = .ok (.aload_n 0, 1) := by decide +kernel
theorem dX7_frees_15 : decode cX7_frees 15 = .ok (.getfield 57, 3) := by decide +kernel
theorem dX7_frees_18 : decode cX7_frees 18 = .ok (.iload 5, 2) := by decide +kernel
theorem dX7_frees_20 : decode cX7_frees 20 = .ok (.iaload, 1) := by decide +kernel
theorem dX7_frees_21 : decode cX7_frees 21 = .ok (.istore 6, 2) := by decide +kernel
theorem dX7_frees_23 : decode cX7_frees 23 = .ok (.iload_n 1, 1) := by decide +kernel
theorem dX7_frees_24 : decode cX7_frees 24 = .ok (.iconst 2, 1) := by decide +kernel
theorem dX7_frees_25 : decode cX7_frees 25 = .ok (.if_icmp .ne 14, 3) := by decide +kernel
theorem dX7_frees_28 : decode cX7_frees 28 = .ok (.iload_n 2, 1) := by decide +kernel
theorem dX7_frees_29 : decode cX7_frees 29 = .ok (.iload 4, 2) := by decide +kernel
theorem dX7_frees_31 : decode cX7_frees 31 = .ok (.irem, 1) := by decide +kernel
theorem dX7_frees_32 : decode cX7_frees 32 = .ok (.ifCond .ne 7, 3) := by decide +kernel
theorem dX7_frees_35 : decode cX7_frees 35 = .ok (.iload_n 3, 1) := by decide +kernel
theorem dX7_frees_36 : decode cX7_frees 36 = .ok (.goto 20, 3) := by decide +kernel
theorem dX7_frees_39 : decode cX7_frees 39 = .ok (.iload_n 1, 1) := by decide +kernel
theorem dX7_frees_40 : decode cX7_frees 40 = .ok (.iconst 3, 1) := by decide +kernel
theorem dX7_frees_41 : decode cX7_frees 41 = .ok (.if_icmp .ne 12, 3) := by decide +kernel
theorem dX7_frees_44 : decode cX7_frees 44 = .ok (.aload_n 0, 1) := by decide +kernel
theorem dX7_frees_45 : decode cX7_frees 45 = .ok (.getfield 26, 3) := by decide +kernel
theorem dX7_frees_48 : decode cX7_frees 48 = .ok (.iconst 2, 1) := by decide +kernel
theorem dX7_frees_49 : decode cX7_frees 49 = .ok (.iaload, 1) := by decide +kernel
theorem dX7_frees_50 : decode cX7_frees 50 = .ok (.goto 6, 3) := by decide +kernel
theorem dX7_frees_53 : decode cX7_frees 53 = .ok (.sipush 1000, 3) := by decide +kernel
theorem dX7_frees_56 : decode cX7_frees 56 = .ok (.istore 7, 2) := by decide +kernel
theorem dX7_frees_58 : decode cX7_frees 58 = .ok (.aload_n 0, 1) := by decide +kernel
theorem dX7_frees_59 : decode cX7_frees 59 = .ok (.getfield 57, 3) := by decide +kernel
theorem dX7_frees_62 : decode cX7_frees 62 = .ok (.iload 5, 2) := by decide +kernel
theorem dX7_frees_64 : decode cX7_frees 64 = .ok (.iload 6, 2) := by decide +kernel
theorem dX7_frees_66 : decode cX7_frees 66 = .ok (.ifCond .lt 21, 3) := by decide +kernel
theorem dX7_frees_69 : decode cX7_frees 69 = .ok (.iload_n 2, 1) := by decide +kernel
theorem dX7_frees_70 : decode cX7_frees 70 = .ok (.aload_n 0, 1) := by decide +kernel
theorem dX7_frees_71 : decode cX7_frees 71 = .ok (.getfield 44, 3) := by decide +kernel
theorem dX7_frees_74 : decode cX7_frees 74 = .ok (.iload 6, 2) := by decide +kernel
theorem dX7_frees_76 : decode cX7_frees 76 = .ok (.iaload, 1) := by decide +kernel
theorem dX7_frees_77 : decode cX7_frees 77 = .ok (.isub, 1) := by decide +kernel
theorem dX7_frees_78 : decode cX7_frees 78 = .ok (.iload 7, 2) := by decide +kernel
theorem dX7_frees_80 : decode cX7_frees 80 = .ok (.if_icmp .lt 7, 3) := by decide +kernel
theorem dX7_frees_83 : decode cX7_frees 83 = .ok (.iconst (-1), 1) := by decide +kernel
theorem dX7_frees_84 : decode cX7_frees 84 = .ok (.goto 5, 3) := by decide +kernel
theorem dX7_frees_87 : decode cX7_frees 87 = .ok (.iload 6, 2) := by decide +kernel
theorem dX7_frees_89 : decode cX7_frees 89 = .ok (.iastore, 1) := by decide +kernel
theorem dX7_frees_90 : decode cX7_frees 90 = .ok (.iinc 5 1, 3) := by decide +kernel
theorem dX7_frees_93 : decode cX7_frees 93 = .ok (.goto (-90), 3) := by decide +kernel
theorem dX7_frees_96 : decode cX7_frees 96 = .ok (.return_, 1) := by decide +kernel
theorem dX7_bits_0 : decode cX7_bits 0 = .ok (.iload_n 0, 1) := by decide +kernel
theorem dX7_bits_1 : decode cX7_bits 1 = .ok (.iconst 1, 1) := by decide +kernel
theorem dX7_bits_2 : decode cX7_bits 2 = .ok (.iand, 1) := by decide +kernel
theorem dX7_bits_3 : decode cX7_bits 3 = .ok (.iload_n 0, 1) := by decide +kernel
theorem dX7_bits_4 : decode cX7_bits 4 = .ok (.iconst 1, 1) := by decide +kernel
theorem dX7_bits_5 : decode cX7_bits 5 = .ok (.ishr, 1) := by decide +kernel
theorem dX7_bits_6 : decode cX7_bits 6 = .ok (.iconst 1, 1) := by decide +kernel
theorem dX7_bits_7 : decode cX7_bits 7 = .ok (.iand, 1) := by decide +kernel
theorem dX7_bits_8 : decode cX7_bits 8 = .ok (.iadd, 1) := by decide +kernel
theorem dX7_bits_9 : decode cX7_bits 9 = .ok (.ireturn, 1) := by decide +kernel
theorem dX7_takesSeat_0 : decode cX7_takesSeat 0 = .ok (.iconst (-1), 1) := by decide +kernel
theorem dX7_takesSeat_1 : decode cX7_takesSeat 1 = .ok (.istore 4, 2) := by decide +kernel
theorem dX7_takesSeat_3 : decode cX7_takesSeat 3 = .ok (.iconst 0, 1) := by decide +kernel
theorem dX7_takesSeat_4 : decode cX7_takesSeat 4 = .ok (.istore 5, 2) := by decide +kernel
theorem dX7_takesSeat_6 : decode cX7_takesSeat 6 = .ok (.iload 5, 2) := by decide +kernel
theorem dX7_takesSeat_8 : decode cX7_takesSeat 8 = .ok (.aload_n 0, 1) := by decide +kernel
theorem dX7_takesSeat_9 : decode cX7_takesSeat 9 = .ok (.getfield 13, 3) := by decide +kernel
theorem dX7_takesSeat_12 : decode cX7_takesSeat 12 = .ok (.iconst 0, 1) := by decide +kernel
theorem dX7_takesSeat_13 : decode cX7_takesSeat 13 = .ok (.iaload, 1) := by decide +kernel
theorem dX7_takesSeat_14 : decode cX7_takesSeat 14 = .ok (.if_icmp .ge 80, 3) := by decide +kernel
theorem dX7_takesSeat_17 : decode cX7_takesSeat 17 = .ok (.aload_n 0, 1) := by decide +kernel
theorem dX7_takesSeat_18 : decode cX7_takesSeat 18 = .ok (.getfield 54, 3) := by decide +kernel
theorem dX7_takesSeat_21 : decode cX7_takesSeat 21 = .ok (.iload 5, 2) := by decide +kernel
theorem dX7_takesSeat_23 : decode cX7_takesSeat 23 = .ok (.iaload, 1) := by decide +kernel
theorem dX7_takesSeat_24 : decode cX7_takesSeat 24 = .ok (.ifCond .ge 64, 3) := by decide +kernel
theorem dX7_takesSeat_27 : decode cX7_takesSeat 27 = .ok (.aload_n 0, 1) := by decide +kernel
theorem dX7_takesSeat_28 : decode cX7_takesSeat 28 = .ok (.getfield 57, 3) := by decide +kernel
theorem dX7_takesSeat_31 : decode cX7_takesSeat 31 = .ok (.iload 5, 2) := by decide +kernel
theorem dX7_takesSeat_33 : decode cX7_takesSeat 33 = .ok (.iaload, 1) := by decide +kernel
theorem dX7_takesSeat_34 : decode cX7_takesSeat 34 = .ok (.ifCond .ge 54, 3) := by decide +kernel
theorem dX7_takesSeat_37 : decode cX7_takesSeat 37 = .ok (.iload 4, 2) := by decide +kernel
theorem dX7_takesSeat_39 : decode cX7_takesSeat 39 = .ok (.ifCond .lt 40, 3) := by decide +kernel
theorem dX7_takesSeat_42 : decode cX7_takesSeat 42 = .ok (.aload_n 0, 1) := by decide +kernel
theorem dX7_takesSeat_43 : decode cX7_takesSeat 43 = .ok (.getfield 20, 3) := by decide +kernel
theorem dX7_takesSeat_46 : decode cX7_takesSeat 46 = .ok (.iload 5, 2) := by decide +kernel
theorem dX7_takesSeat_48 : decode cX7_takesSeat 48 = .ok (.iaload, 1) := by decide +kernel
theorem dX7_takesSeat_49 : decode cX7_takesSeat 49 = .ok (.aload_n 0, 1) := by decide +kernel
theorem dX7_takesSeat_50 : decode cX7_takesSeat 50 = .ok (.iload_n 2, 1) := by decide +kernel
theorem dX7_takesSeat_51 : decode cX7_takesSeat 51 = .ok (.iconst 4, 1) := by decide +kernel
theorem dX7_takesSeat_52 : decode cX7_takesSeat 52 = .ok (.invokevirtual 135, 3) := by decide +kernel
theorem dX7_takesSeat_55 : decode cX7_takesSeat 55 = .ok (.iand, 1) := by decide +kernel
theorem dX7_takesSeat_56 : decode cX7_takesSeat 56 = .ok (.invokestatic 142, 3) := by decide +kernel
theorem dX7_takesSeat_59 : decode cX7_takesSeat 59 = .ok (.aload_n 0, 1) := by decide +kernel
theorem dX7_takesSeat_60 : decode cX7_takesSeat 60 = .ok (.getfield 20, 3) := by decide +kernel
theorem dX7_takesSeat_63 : decode cX7_takesSeat 63 = .ok (.iload 4, 2) := by decide +kernel
theorem dX7_takesSeat_65 : decode cX7_takesSeat 65 = .ok (.iaload, 1) := by decide +kernel
theorem dX7_takesSeat_66 : decode cX7_takesSeat 66 = .ok (.aload_n 0, 1) := by decide +kernel
theorem dX7_takesSeat_67 : decode cX7_takesSeat 67 = .ok (.iload_n 2, 1) := by decide +kernel
theorem dX7_takesSeat_68 : decode cX7_takesSeat 68 = .ok (.iconst 4, 1) := by decide +kernel
theorem dX7_takesSeat_69 : decode cX7_takesSeat 69 = .ok (.invokevirtual 135, 3) := by decide +kernel
theorem dX7_takesSeat_72 : decode cX7_takesSeat 72 = .ok (.iand, 1) := by decide +kernel
theorem dX7_takesSeat_73 : decode cX7_takesSeat 73 = .ok (.invokestatic 142, 3) := by decide +kernel
theorem dX7_takesSeat_76 : decode cX7_takesSeat 76 = .ok (.if_icmp .le 8, 3) := by decide +kernel
theorem dX7_takesSeat_79 : decode cX7_takesSeat 79 = .ok (.iload 5, 2) := by decide +kernel
theorem dX7_takesSeat_81 : decode cX7_takesSeat 81 = .ok (.goto 5, 3) := by decide +kernel
theorem dX7_takesSeat_84 : decode cX7_takesSeat 84 = .ok (.iload 4, 2) := by decide +kernel
theorem dX7_takesSeat_86 : decode cX7_takesSeat 86 = .ok (.istore 4, 2) := by decide +kernel
theorem dX7_takesSeat_88 : decode cX7_takesSeat 88 = .ok (.iinc 5 1, 3) := by decide +kernel
theorem dX7_takesSeat_91 : decode cX7_takesSeat 91 = .ok (.goto (-85), 3) := by decide +kernel
theorem dX7_takesSeat_94 : decode cX7_takesSeat 94 = .ok (.iconst 0, 1) := by decide +kernel
theorem dX7_takesSeat_95 : decode cX7_takesSeat 95 = .ok (.istore 5, 2) := by decide +kernel
theorem dX7_takesSeat_97 : decode cX7_takesSeat 97 = .ok (.iload 5, 2) := by decide +kernel
theorem dX7_takesSeat_99 : decode cX7_takesSeat 99 = .ok (.aload_n 0, 1) := by decide +kernel
theorem dX7_takesSeat_100 : decode cX7_takesSeat 100 = .ok (.getfield 13, 3) := by decide +kernel
theorem dX7_takesSeat_103 : decode cX7_takesSeat 103 = .ok (.iconst 0, 1) := by decide +kernel
theorem dX7_takesSeat_104 : decode cX7_takesSeat 104 = .ok (.iaload, 1) := by decide +kernel
theorem dX7_takesSeat_105 : decode cX7_takesSeat 105 = .ok (.if_icmp .ge 72, 3) := by decide +kernel
theorem dX7_takesSeat_108 : decode cX7_takesSeat 108 = .ok (.iload 4, 2) := by decide +kernel
theorem dX7_takesSeat_110 : decode cX7_takesSeat 110 = .ok (.ifCond .ge 67, 3) := by decide +kernel
theorem dX7_takesSeat_113 : decode cX7_takesSeat 113 = .ok (.iload_n 1, 1) := by decide +kernel
theorem dX7_takesSeat_114 : decode cX7_takesSeat 114 = .ok (.iconst 4, 1) := by decide +kernel
theorem dX7_takesSeat_115 : decode cX7_takesSeat 115 = .ok (.if_icmp .ne 62, 3) := by decide +kernel
theorem dX7_takesSeat_118 : decode cX7_takesSeat 118 = .ok (.aload_n 0, 1) := by decide +kernel
theorem dX7_takesSeat_119 : decode cX7_takesSeat 119 = .ok (.getfield 57, 3) := by decide +kernel
theorem dX7_takesSeat_122 : decode cX7_takesSeat 122 = .ok (.iload 5, 2) := by decide +kernel
theorem dX7_takesSeat_124 : decode cX7_takesSeat 124 = .ok (.iaload, 1) := by decide +kernel
theorem dX7_takesSeat_125 : decode cX7_takesSeat 125 = .ok (.istore 6, 2) := by decide +kernel
theorem dX7_takesSeat_127 : decode cX7_takesSeat 127 = .ok (.iload 6, 2) := by decide +kernel
theorem dX7_takesSeat_129 : decode cX7_takesSeat 129 = .ok (.ifCond .lt 38, 3) := by decide +kernel
theorem dX7_takesSeat_132 : decode cX7_takesSeat 132 = .ok (.aload_n 0, 1) := by decide +kernel
theorem dX7_takesSeat_133 : decode cX7_takesSeat 133 = .ok (.iload 6, 2) := by decide +kernel
theorem dX7_takesSeat_135 : decode cX7_takesSeat 135 = .ok (.iconst 5, 1) := by decide +kernel
theorem dX7_takesSeat_136 : decode cX7_takesSeat 136 = .ok (.invokevirtual 135, 3) := by decide +kernel
theorem dX7_takesSeat_139 : decode cX7_takesSeat 139 = .ok (.aload_n 0, 1) := by decide +kernel
theorem dX7_takesSeat_140 : decode cX7_takesSeat 140 = .ok (.iload_n 2, 1) := by decide +kernel
theorem dX7_takesSeat_141 : decode cX7_takesSeat 141 = .ok (.bipush 6, 2) := by decide +kernel
theorem dX7_takesSeat_143 : decode cX7_takesSeat 143 = .ok (.invokevirtual 135, 3) := by decide +kernel
theorem dX7_takesSeat_146 : decode cX7_takesSeat 146 = .ok (.iload_n 3, 1) := by decide +kernel
theorem dX7_takesSeat_147 : decode cX7_takesSeat 147 = .ok (.aload_n 0, 1) := by decide +kernel
theorem dX7_takesSeat_148 : decode cX7_takesSeat 148 = .ok (.getfield 44, 3) := by decide +kernel
theorem dX7_takesSeat_151 : decode cX7_takesSeat 151 = .ok (.iload 6, 2) := by decide +kernel
theorem dX7_takesSeat_153 : decode cX7_takesSeat 153 = .ok (.iaload, 1) := by decide +kernel
theorem dX7_takesSeat_154 : decode cX7_takesSeat 154 = .ok (.isub, 1) := by decide +kernel
theorem dX7_takesSeat_155 : decode cX7_takesSeat 155 = .ok (.bipush 10, 2) := by decide +kernel
theorem dX7_takesSeat_157 : decode cX7_takesSeat 157 = .ok (.idiv, 1) := by decide +kernel
theorem dX7_takesSeat_158 : decode cX7_takesSeat 158 = .ok (.iadd, 1) := by decide +kernel
theorem dX7_takesSeat_159 : decode cX7_takesSeat 159 = .ok (.if_icmp .gt 8, 3) := by decide +kernel
theorem dX7_takesSeat_162 : decode cX7_takesSeat 162 = .ok (.iload 5, 2) := by decide +kernel
theorem dX7_takesSeat_164 : decode cX7_takesSeat 164 = .ok (.goto 5, 3) := by decide +kernel
theorem dX7_takesSeat_167 : decode cX7_takesSeat 167 = .ok (.iload 4, 2) := by decide +kernel
theorem dX7_takesSeat_169 : decode cX7_takesSeat 169 = .ok (.istore 4, 2) := by decide +kernel
theorem dX7_takesSeat_171 : decode cX7_takesSeat 171 = .ok (.iinc 5 1, 3) := by decide +kernel
theorem dX7_takesSeat_174 : decode cX7_takesSeat 174 = .ok (.goto (-77), 3) := by decide +kernel
theorem dX7_takesSeat_177 : decode cX7_takesSeat 177 = .ok (.iload 4, 2) := by decide +kernel
theorem dX7_takesSeat_179 : decode cX7_takesSeat 179 = .ok (.ireturn, 1) := by decide +kernel
theorem dX7_seeks_0 : decode cX7_seeks 0 = .ok (.aload_n 0, 1) := by decide +kernel
theorem dX7_seeks_1 : decode cX7_seeks 1 = .ok (.iload_n 1, 1) := by decide +kernel
theorem dX7_seeks_2 : decode cX7_seeks 2 = .ok (.iload_n 2, 1) := by decide +kernel
theorem dX7_seeks_3 : decode cX7_seeks 3 = .ok (.iload_n 3, 1) := by decide +kernel
theorem dX7_seeks_4 : decode cX7_seeks 4 = .ok (.invokevirtual 145, 3) := by decide +kernel
theorem dX7_seeks_7 : decode cX7_seeks 7 = .ok (.istore 4, 2) := by decide +kernel
theorem dX7_seeks_9 : decode cX7_seeks 9 = .ok (.iload 4, 2) := by decide +kernel
theorem dX7_seeks_11 : decode cX7_seeks 11 = .ok (.ifCond .lt 37, 3) := by decide +kernel
theorem dX7_seeks_14 : decode cX7_seeks 14 = .ok (.aload_n 0, 1) := by decide +kernel
theorem dX7_seeks_15 : decode cX7_seeks 15 = .ok (.getfield 57, 3) := by decide +kernel
theorem dX7_seeks_18 : decode cX7_seeks 18 = .ok (.iload 4, 2) := by decide +kernel
theorem dX7_seeks_20 : decode cX7_seeks 20 = .ok (.iconst (-1), 1) := by decide +kernel
theorem dX7_seeks_21 : decode cX7_seeks 21 = .ok (.iastore, 1) := by decide +kernel
theorem dX7_seeks_22 : decode cX7_seeks 22 = .ok (.aload_n 0, 1) := by decide +kernel
theorem dX7_seeks_23 : decode cX7_seeks 23 = .ok (.getfield 54, 3) := by decide +kernel
theorem dX7_seeks_26 : decode cX7_seeks 26 = .ok (.iload 4, 2) := by decide +kernel
theorem dX7_seeks_28 : decode cX7_seeks 28 = .ok (.iload_n 2, 1) := by decide +kernel
theorem dX7_seeks_29 : decode cX7_seeks 29 = .ok (.iastore, 1) := by decide +kernel
theorem dX7_seeks_30 : decode cX7_seeks 30 = .ok (.aload_n 0, 1) := by decide +kernel
theorem dX7_seeks_31 : decode cX7_seeks 31 = .ok (.getfield 35, 3) := by decide +kernel
theorem dX7_seeks_34 : decode cX7_seeks 34 = .ok (.iload_n 2, 1) := by decide +kernel
theorem dX7_seeks_35 : decode cX7_seeks 35 = .ok (.iload 4, 2) := by decide +kernel
theorem dX7_seeks_37 : decode cX7_seeks 37 = .ok (.iastore, 1) := by decide +kernel
theorem dX7_seeks_38 : decode cX7_seeks 38 = .ok (.aload_n 0, 1) := by decide +kernel
theorem dX7_seeks_39 : decode cX7_seeks 39 = .ok (.getfield 32, 3) := by decide +kernel
theorem dX7_seeks_42 : decode cX7_seeks 42 = .ok (.iload_n 2, 1) := by decide +kernel
theorem dX7_seeks_43 : decode cX7_seeks 43 = .ok (.iconst 2, 1) := by decide +kernel
theorem dX7_seeks_44 : decode cX7_seeks 44 = .ok (.iastore, 1) := by decide +kernel
theorem dX7_seeks_45 : decode cX7_seeks 45 = .ok (.goto 39, 3) := by decide +kernel
theorem dX7_seeks_48 : decode cX7_seeks 48 = .ok (.iload_n 3, 1) := by decide +kernel
theorem dX7_seeks_49 : decode cX7_seeks 49 = .ok (.aload_n 0, 1) := by decide +kernel
theorem dX7_seeks_50 : decode cX7_seeks 50 = .ok (.getfield 41, 3) := by decide +kernel
theorem dX7_seeks_53 : decode cX7_seeks 53 = .ok (.iload_n 2, 1) := by decide +kernel
theorem dX7_seeks_54 : decode cX7_seeks 54 = .ok (.iaload, 1) := by decide +kernel
theorem dX7_seeks_55 : decode cX7_seeks 55 = .ok (.isub, 1) := by decide +kernel
theorem dX7_seeks_56 : decode cX7_seeks 56 = .ok (.aload_n 0, 1) := by decide +kernel
theorem dX7_seeks_57 : decode cX7_seeks 57 = .ok (.getfield 26, 3) := by decide +kernel
theorem dX7_seeks_60 : decode cX7_seeks 60 = .ok (.iconst 3, 1) := by decide +kernel
theorem dX7_seeks_61 : decode cX7_seeks 61 = .ok (.iaload, 1) := by decide +kernel
theorem dX7_seeks_62 : decode cX7_seeks 62 = .ok (.if_icmp .lt 22, 3) := by decide +kernel
theorem dX7_seeks_65 : decode cX7_seeks 65 = .ok (.aload_n 0, 1) := by decide +kernel
theorem dX7_seeks_66 : decode cX7_seeks 66 = .ok (.getfield 32, 3) := by decide +kernel
theorem dX7_seeks_69 : decode cX7_seeks 69 = .ok (.iload_n 2, 1) := by decide +kernel
theorem dX7_seeks_70 : decode cX7_seeks 70 = .ok (.iconst 4, 1) := by decide +kernel
theorem dX7_seeks_71 : decode cX7_seeks 71 = .ok (.iastore, 1) := by decide +kernel
theorem dX7_seeks_72 : decode cX7_seeks 72 = .ok (.aload_n 0, 1) := by decide +kernel
theorem dX7_seeks_73 : decode cX7_seeks 73 = .ok (.dup, 1) := by decide +kernel
theorem dX7_seeks_74 : decode cX7_seeks 74 = .ok (.getfield 149, 3) := by decide +kernel
theorem dX7_seeks_77 : decode cX7_seeks 77 = .ok (.iconst 1, 1) := by decide +kernel
theorem dX7_seeks_78 : decode cX7_seeks 78 = .ok (.iload_n 2, 1) := by decide +kernel
theorem dX7_seeks_79 : decode cX7_seeks 79 = .ok (.ishl, 1) := by decide +kernel
theorem dX7_seeks_80 : decode cX7_seeks 80 = .ok (.ior, 1) := by decide +kernel
theorem dX7_seeks_81 : decode cX7_seeks 81 = .ok (.putfield 149, 3) := by decide +kernel
theorem dX7_seeks_84 : decode cX7_seeks 84 = .ok (.return_, 1) := by decide +kernel
theorem dX7_sitsOn_0 : decode cX7_sitsOn 0 = .ok (.aload_n 0, 1) := by decide +kernel
theorem dX7_sitsOn_1 : decode cX7_sitsOn 1 = .ok (.getfield 35, 3) := by decide +kernel
theorem dX7_sitsOn_4 : decode cX7_sitsOn 4 = .ok (.iload_n 3, 1) := by decide +kernel
theorem dX7_sitsOn_5 : decode cX7_sitsOn 5 = .ok (.iaload, 1) := by decide +kernel
theorem dX7_sitsOn_6 : decode cX7_sitsOn 6 = .ok (.istore 5, 2) := by decide +kernel
theorem dX7_sitsOn_8 : decode cX7_sitsOn 8 = .ok (.aload_n 0, 1) := by decide +kernel
theorem dX7_sitsOn_9 : decode cX7_sitsOn 9 = .ok (.getfield 38, 3) := by decide +kernel
theorem dX7_sitsOn_12 : decode cX7_sitsOn 12 = .ok (.iload_n 3, 1) := by decide +kernel
theorem dX7_sitsOn_13 : decode cX7_sitsOn 13 = .ok (.dup2, 1) := by decide +kernel
theorem dX7_sitsOn_14 : decode cX7_sitsOn 14 = .ok (.iaload, 1) := by decide +kernel
theorem dX7_sitsOn_15 : decode cX7_sitsOn 15 = .ok (.iconst 1, 1) := by decide +kernel
theorem dX7_sitsOn_16 : decode cX7_sitsOn 16 = .ok (.iadd, 1) := by decide +kernel
theorem dX7_sitsOn_17 : decode cX7_sitsOn 17 = .ok (.iastore, 1) := by decide +kernel
theorem dX7_sitsOn_18 : decode cX7_sitsOn 18 = .ok (.aload_n 0, 1) := by decide +kernel
theorem dX7_sitsOn_19 : decode cX7_sitsOn 19 = .ok (.getfield 38, 3) := by decide +kernel
theorem dX7_sitsOn_22 : decode cX7_sitsOn 22 = .ok (.iload_n 3, 1) := by decide +kernel
theorem dX7_sitsOn_23 : decode cX7_sitsOn 23 = .ok (.iaload, 1) := by decide +kernel
theorem dX7_sitsOn_24 : decode cX7_sitsOn 24 = .ok (.aload_n 0, 1) := by decide +kernel
theorem dX7_sitsOn_25 : decode cX7_sitsOn 25 = .ok (.iload_n 3, 1) := by decide +kernel
theorem dX7_sitsOn_26 : decode cX7_sitsOn 26 = .ok (.iconst 1, 1) := by decide +kernel
theorem dX7_sitsOn_27 : decode cX7_sitsOn 27 = .ok (.invokevirtual 135, 3) := by decide +kernel
theorem dX7_sitsOn_30 : decode cX7_sitsOn 30 = .ok (.if_icmp .ne 21, 3) := by decide +kernel
theorem dX7_sitsOn_33 : decode cX7_sitsOn 33 = .ok (.aload_n 0, 1) := by decide +kernel
theorem dX7_sitsOn_34 : decode cX7_sitsOn 34 = .ok (.getfield 32, 3) := by decide +kernel
theorem dX7_sitsOn_37 : decode cX7_sitsOn 37 = .ok (.iload_n 3, 1) := by decide +kernel
theorem dX7_sitsOn_38 : decode cX7_sitsOn 38 = .ok (.iconst 4, 1) := by decide +kernel
theorem dX7_sitsOn_39 : decode cX7_sitsOn 39 = .ok (.iastore, 1) := by decide +kernel
theorem dX7_sitsOn_40 : decode cX7_sitsOn 40 = .ok (.aload_n 0, 1) := by decide +kernel
theorem dX7_sitsOn_41 : decode cX7_sitsOn 41 = .ok (.getfield 54, 3) := by decide +kernel
theorem dX7_sitsOn_44 : decode cX7_sitsOn 44 = .ok (.iload 5, 2) := by decide +kernel
theorem dX7_sitsOn_46 : decode cX7_sitsOn 46 = .ok (.iconst (-1), 1) := by decide +kernel
theorem dX7_sitsOn_47 : decode cX7_sitsOn 47 = .ok (.iastore, 1) := by decide +kernel
theorem dX7_sitsOn_48 : decode cX7_sitsOn 48 = .ok (.goto 87, 3) := by decide +kernel
theorem dX7_sitsOn_51 : decode cX7_sitsOn 51 = .ok (.aload_n 0, 1) := by decide +kernel
theorem dX7_sitsOn_52 : decode cX7_sitsOn 52 = .ok (.getfield 38, 3) := by decide +kernel
theorem dX7_sitsOn_55 : decode cX7_sitsOn 55 = .ok (.iload_n 3, 1) := by decide +kernel
theorem dX7_sitsOn_56 : decode cX7_sitsOn 56 = .ok (.iaload, 1) := by decide +kernel
theorem dX7_sitsOn_57 : decode cX7_sitsOn 57 = .ok (.aload_n 0, 1) := by decide +kernel
theorem dX7_sitsOn_58 : decode cX7_sitsOn 58 = .ok (.iload_n 3, 1) := by decide +kernel
theorem dX7_sitsOn_59 : decode cX7_sitsOn 59 = .ok (.iconst 2, 1) := by decide +kernel
theorem dX7_sitsOn_60 : decode cX7_sitsOn 60 = .ok (.invokevirtual 135, 3) := by decide +kernel
theorem dX7_sitsOn_63 : decode cX7_sitsOn 63 = .ok (.if_icmp .ne 72, 3) := by decide +kernel
theorem dX7_sitsOn_66 : decode cX7_sitsOn 66 = .ok (.aload_n 0, 1) := by decide +kernel
theorem dX7_sitsOn_67 : decode cX7_sitsOn 67 = .ok (.getfield 32, 3) := by decide +kernel
theorem dX7_sitsOn_70 : decode cX7_sitsOn 70 = .ok (.iload_n 3, 1) := by decide +kernel
theorem dX7_sitsOn_71 : decode cX7_sitsOn 71 = .ok (.iconst 3, 1) := by decide +kernel
theorem dX7_sitsOn_72 : decode cX7_sitsOn 72 = .ok (.iastore, 1) := by decide +kernel
theorem dX7_sitsOn_73 : decode cX7_sitsOn 73 = .ok (.aload_n 0, 1) := by decide +kernel
theorem dX7_sitsOn_74 : decode cX7_sitsOn 74 = .ok (.getfield 44, 3) := by decide +kernel
theorem dX7_sitsOn_77 : decode cX7_sitsOn 77 = .ok (.iload_n 3, 1) := by decide +kernel
theorem dX7_sitsOn_78 : decode cX7_sitsOn 78 = .ok (.iload 4, 2) := by decide +kernel
theorem dX7_sitsOn_80 : decode cX7_sitsOn 80 = .ok (.iastore, 1) := by decide +kernel
theorem dX7_sitsOn_81 : decode cX7_sitsOn 81 = .ok (.aload_n 0, 1) := by decide +kernel
theorem dX7_sitsOn_82 : decode cX7_sitsOn 82 = .ok (.getfield 54, 3) := by decide +kernel
theorem dX7_sitsOn_85 : decode cX7_sitsOn 85 = .ok (.iload 5, 2) := by decide +kernel
theorem dX7_sitsOn_87 : decode cX7_sitsOn 87 = .ok (.iconst (-1), 1) := by decide +kernel
theorem dX7_sitsOn_88 : decode cX7_sitsOn 88 = .ok (.iastore, 1) := by decide +kernel
theorem dX7_sitsOn_89 : decode cX7_sitsOn 89 = .ok (.aload_n 0, 1) := by decide +kernel
theorem dX7_sitsOn_90 : decode cX7_sitsOn 90 = .ok (.getfield 47, 3) := by decide +kernel
theorem dX7_sitsOn_93 : decode cX7_sitsOn 93 = .ok (.iload_n 3, 1) := by decide +kernel
theorem dX7_sitsOn_94 : decode cX7_sitsOn 94 = .ok (.iload_n 1, 1) := by decide +kernel
theorem dX7_sitsOn_95 : decode cX7_sitsOn 95 = .ok (.iconst 1, 1) := by decide +kernel
theorem dX7_sitsOn_96 : decode cX7_sitsOn 96 = .ok (.if_icmp .eq 16, 3) := by decide +kernel
theorem dX7_sitsOn_99 : decode cX7_sitsOn 99 = .ok (.iload_n 2, 1) := by decide +kernel
theorem dX7_sitsOn_100 : decode cX7_sitsOn 100 = .ok (.iload_n 3, 1) := by decide +kernel
theorem dX7_sitsOn_101 : decode cX7_sitsOn 101 = .ok (.ishr, 1) := by decide +kernel
theorem dX7_sitsOn_102 : decode cX7_sitsOn 102 = .ok (.iconst 1, 1) := by decide +kernel
theorem dX7_sitsOn_103 : decode cX7_sitsOn 103 = .ok (.iand, 1) := by decide +kernel
theorem dX7_sitsOn_104 : decode cX7_sitsOn 104 = .ok (.iconst 1, 1) := by decide +kernel
theorem dX7_sitsOn_105 : decode cX7_sitsOn 105 = .ok (.if_icmp .ne 7, 3) := by decide +kernel
theorem dX7_sitsOn_108 : decode cX7_sitsOn 108 = .ok (.iconst 1, 1) := by decide +kernel
theorem dX7_sitsOn_109 : decode cX7_sitsOn 109 = .ok (.goto 4, 3) := by decide +kernel
theorem dX7_sitsOn_112 : decode cX7_sitsOn 112 = .ok (.iconst 0, 1) := by decide +kernel
theorem dX7_sitsOn_113 : decode cX7_sitsOn 113 = .ok (.bastore, 1) := by decide +kernel
theorem dX7_sitsOn_114 : decode cX7_sitsOn 114 = .ok (.aload_n 0, 1) := by decide +kernel
theorem dX7_sitsOn_115 : decode cX7_sitsOn 115 = .ok (.getfield 57, 3) := by decide +kernel
theorem dX7_sitsOn_118 : decode cX7_sitsOn 118 = .ok (.iload 5, 2) := by decide +kernel
theorem dX7_sitsOn_120 : decode cX7_sitsOn 120 = .ok (.aload_n 0, 1) := by decide +kernel
theorem dX7_sitsOn_121 : decode cX7_sitsOn 121 = .ok (.getfield 47, 3) := by decide +kernel
theorem dX7_sitsOn_124 : decode cX7_sitsOn 124 = .ok (.iload_n 3, 1) := by decide +kernel
theorem dX7_sitsOn_125 : decode cX7_sitsOn 125 = .ok (.baload, 1) := by decide +kernel
theorem dX7_sitsOn_126 : decode cX7_sitsOn 126 = .ok (.ifCond .eq 7, 3) := by decide +kernel
theorem dX7_sitsOn_129 : decode cX7_sitsOn 129 = .ok (.iload_n 3, 1) := by decide +kernel
theorem dX7_sitsOn_130 : decode cX7_sitsOn 130 = .ok (.goto 4, 3) := by decide +kernel
theorem dX7_sitsOn_133 : decode cX7_sitsOn 133 = .ok (.iconst (-1), 1) := by decide +kernel
theorem dX7_sitsOn_134 : decode cX7_sitsOn 134 = .ok (.iastore, 1) := by decide +kernel
theorem dX7_sitsOn_135 : decode cX7_sitsOn 135 = .ok (.return_, 1) := by decide +kernel
theorem dX7_minute_0 : decode cX7_minute 0 = .ok (.iconst 0, 1) := by decide +kernel
theorem dX7_minute_1 : decode cX7_minute 1 = .ok (.istore 6, 2) := by decide +kernel
theorem dX7_minute_3 : decode cX7_minute 3 = .ok (.iload 6, 2) := by decide +kernel
theorem dX7_minute_5 : decode cX7_minute 5 = .ok (.aload_n 0, 1) := by decide +kernel
theorem dX7_minute_6 : decode cX7_minute 6 = .ok (.getfield 17, 3) := by decide +kernel
theorem dX7_minute_9 : decode cX7_minute 9 = .ok (.iconst 0, 1) := by decide +kernel
theorem dX7_minute_10 : decode cX7_minute 10 = .ok (.iaload, 1) := by decide +kernel
theorem dX7_minute_11 : decode cX7_minute 11 = .ok (.if_icmp .ge 46, 3) := by decide +kernel
theorem dX7_minute_14 : decode cX7_minute 14 = .ok (.aload_n 0, 1) := by decide +kernel
theorem dX7_minute_15 : decode cX7_minute 15 = .ok (.getfield 32, 3) := by decide +kernel
theorem dX7_minute_18 : decode cX7_minute 18 = .ok (.iload 6, 2) := by decide +kernel
theorem dX7_minute_20 : decode cX7_minute 20 = .ok (.iaload, 1) := by decide +kernel
theorem dX7_minute_21 : decode cX7_minute 21 = .ok (.iconst 3, 1) := by decide +kernel
theorem dX7_minute_22 : decode cX7_minute 22 = .ok (.if_icmp .ne 29, 3) := by decide +kernel
theorem dX7_minute_25 : decode cX7_minute 25 = .ok (.iload_n 3, 1) := by decide +kernel
theorem dX7_minute_26 : decode cX7_minute 26 = .ok (.aload_n 0, 1) := by decide +kernel
theorem dX7_minute_27 : decode cX7_minute 27 = .ok (.getfield 44, 3) := by decide +kernel
theorem dX7_minute_30 : decode cX7_minute 30 = .ok (.iload 6, 2) := by decide +kernel
theorem dX7_minute_32 : decode cX7_minute 32 = .ok (.iaload, 1) := by decide +kernel
theorem dX7_minute_33 : decode cX7_minute 33 = .ok (.isub, 1) := by decide +kernel
theorem dX7_minute_34 : decode cX7_minute 34 = .ok (.aload_n 0, 1) := by decide +kernel
theorem dX7_minute_35 : decode cX7_minute 35 = .ok (.iload 6, 2) := by decide +kernel
theorem dX7_minute_37 : decode cX7_minute 37 = .ok (.iconst 3, 1) := by decide +kernel
theorem dX7_minute_38 : decode cX7_minute 38 = .ok (.invokevirtual 135, 3) := by decide +kernel
theorem dX7_minute_41 : decode cX7_minute 41 = .ok (.if_icmp .ne 10, 3) := by decide +kernel
theorem dX7_minute_44 : decode cX7_minute 44 = .ok (.aload_n 0, 1) := by decide +kernel
theorem dX7_minute_45 : decode cX7_minute 45 = .ok (.iload 6, 2) := by decide +kernel
theorem dX7_minute_47 : decode cX7_minute 47 = .ok (.iload_n 3, 1) := by decide +kernel
theorem dX7_minute_48 : decode cX7_minute 48 = .ok (.invokevirtual 152, 3) := by decide +kernel
theorem dX7_minute_51 : decode cX7_minute 51 = .ok (.iinc 6 1, 3) := by decide +kernel
theorem dX7_minute_54 : decode cX7_minute 54 = .ok (.goto (-51), 3) := by decide +kernel
theorem dX7_minute_57 : decode cX7_minute 57 = .ok (.aload_n 0, 1) := by decide +kernel
theorem dX7_minute_58 : decode cX7_minute 58 = .ok (.iload_n 1, 1) := by decide +kernel
theorem dX7_minute_59 : decode cX7_minute 59 = .ok (.iload_n 3, 1) := by decide +kernel
theorem dX7_minute_60 : decode cX7_minute 60 = .ok (.iload 4, 2) := by decide +kernel
theorem dX7_minute_62 : decode cX7_minute 62 = .ok (.iload 5, 2) := by decide +kernel
theorem dX7_minute_64 : decode cX7_minute 64 = .ok (.invokevirtual 156, 3) := by decide +kernel
theorem dX7_minute_67 : decode cX7_minute 67 = .ok (.iconst 0, 1) := by decide +kernel
theorem dX7_minute_68 : decode cX7_minute 68 = .ok (.istore 6, 2) := by decide +kernel
theorem dX7_minute_70 : decode cX7_minute 70 = .ok (.iload 6, 2) := by decide +kernel
theorem dX7_minute_72 : decode cX7_minute 72 = .ok (.aload_n 0, 1) := by decide +kernel
theorem dX7_minute_73 : decode cX7_minute 73 = .ok (.getfield 17, 3) := by decide +kernel
theorem dX7_minute_76 : decode cX7_minute 76 = .ok (.iconst 0, 1) := by decide +kernel
theorem dX7_minute_77 : decode cX7_minute 77 = .ok (.iaload, 1) := by decide +kernel
theorem dX7_minute_78 : decode cX7_minute 78 = .ok (.if_icmp .ge 54, 3) := by decide +kernel
theorem dX7_minute_81 : decode cX7_minute 81 = .ok (.aload_n 0, 1) := by decide +kernel
theorem dX7_minute_82 : decode cX7_minute 82 = .ok (.getfield 32, 3) := by decide +kernel
theorem dX7_minute_85 : decode cX7_minute 85 = .ok (.iload 6, 2) := by decide +kernel
theorem dX7_minute_87 : decode cX7_minute 87 = .ok (.iaload, 1) := by decide +kernel
theorem dX7_minute_88 : decode cX7_minute 88 = .ok (.ifCond .ne 38, 3) := by decide +kernel
theorem dX7_minute_91 : decode cX7_minute 91 = .ok (.aload_n 0, 1) := by decide +kernel
theorem dX7_minute_92 : decode cX7_minute 92 = .ok (.iload 6, 2) := by decide +kernel
theorem dX7_minute_94 : decode cX7_minute 94 = .ok (.iconst 0, 1) := by decide +kernel
theorem dX7_minute_95 : decode cX7_minute 95 = .ok (.invokevirtual 135, 3) := by decide +kernel
theorem dX7_minute_98 : decode cX7_minute 98 = .ok (.aload_n 0, 1) := by decide +kernel
theorem dX7_minute_99 : decode cX7_minute 99 = .ok (.getfield 51, 3) := by decide +kernel
theorem dX7_minute_102 : decode cX7_minute 102 = .ok (.iload 6, 2) := by decide +kernel
theorem dX7_minute_104 : decode cX7_minute 104 = .ok (.iaload, 1) := by decide +kernel
theorem dX7_minute_105 : decode cX7_minute 105 = .ok (.iadd, 1) := by decide +kernel
theorem dX7_minute_106 : decode cX7_minute 106 = .ok (.iload_n 3, 1) := by decide +kernel
theorem dX7_minute_107 : decode cX7_minute 107 = .ok (.if_icmp .ne 19, 3) := by decide +kernel
theorem dX7_minute_110 : decode cX7_minute 110 = .ok (.aload_n 0, 1) := by decide +kernel
theorem dX7_minute_111 : decode cX7_minute 111 = .ok (.getfield 32, 3) := by decide +kernel
theorem dX7_minute_114 : decode cX7_minute 114 = .ok (.iload 6, 2) := by decide +kernel
theorem dX7_minute_116 : decode cX7_minute 116 = .ok (.iconst 1, 1) := by decide +kernel
theorem dX7_minute_117 : decode cX7_minute 117 = .ok (.iastore, 1) := by decide +kernel
theorem dX7_minute_118 : decode cX7_minute 118 = .ok (.aload_n 0, 1) := by decide +kernel
theorem dX7_minute_119 : decode cX7_minute 119 = .ok (.getfield 41, 3) := by decide +kernel
theorem dX7_minute_122 : decode cX7_minute 122 = .ok (.iload 6, 2) := by decide +kernel
theorem dX7_minute_124 : decode cX7_minute 124 = .ok (.iload_n 3, 1) := by decide +kernel
theorem dX7_minute_125 : decode cX7_minute 125 = .ok (.iastore, 1) := by decide +kernel
theorem dX7_minute_126 : decode cX7_minute 126 = .ok (.iinc 6 1, 3) := by decide +kernel
theorem dX7_minute_129 : decode cX7_minute 129 = .ok (.goto (-59), 3) := by decide +kernel
theorem dX7_minute_132 : decode cX7_minute 132 = .ok (.iconst 0, 1) := by decide +kernel
theorem dX7_minute_133 : decode cX7_minute 133 = .ok (.istore 6, 2) := by decide +kernel
theorem dX7_minute_135 : decode cX7_minute 135 = .ok (.iload 6, 2) := by decide +kernel
theorem dX7_minute_137 : decode cX7_minute 137 = .ok (.aload_n 0, 1) := by decide +kernel
theorem dX7_minute_138 : decode cX7_minute 138 = .ok (.getfield 17, 3) := by decide +kernel
theorem dX7_minute_141 : decode cX7_minute 141 = .ok (.iconst 0, 1) := by decide +kernel
theorem dX7_minute_142 : decode cX7_minute 142 = .ok (.iaload, 1) := by decide +kernel
theorem dX7_minute_143 : decode cX7_minute 143 = .ok (.if_icmp .ge 28, 3) := by decide +kernel
theorem dX7_minute_146 : decode cX7_minute 146 = .ok (.aload_n 0, 1) := by decide +kernel
theorem dX7_minute_147 : decode cX7_minute 147 = .ok (.getfield 32, 3) := by decide +kernel
theorem dX7_minute_150 : decode cX7_minute 150 = .ok (.iload 6, 2) := by decide +kernel
theorem dX7_minute_152 : decode cX7_minute 152 = .ok (.iaload, 1) := by decide +kernel
theorem dX7_minute_153 : decode cX7_minute 153 = .ok (.iconst 1, 1) := by decide +kernel
theorem dX7_minute_154 : decode cX7_minute 154 = .ok (.if_icmp .ne 11, 3) := by decide +kernel
theorem dX7_minute_157 : decode cX7_minute 157 = .ok (.aload_n 0, 1) := by decide +kernel
theorem dX7_minute_158 : decode cX7_minute 158 = .ok (.iload_n 1, 1) := by decide +kernel
theorem dX7_minute_159 : decode cX7_minute 159 = .ok (.iload 6, 2) := by decide +kernel
theorem dX7_minute_161 : decode cX7_minute 161 = .ok (.iload_n 3, 1) := by decide +kernel
theorem dX7_minute_162 : decode cX7_minute 162 = .ok (.invokevirtual 160, 3) := by decide +kernel
theorem dX7_minute_165 : decode cX7_minute 165 = .ok (.iinc 6 1, 3) := by decide +kernel
theorem dX7_minute_168 : decode cX7_minute 168 = .ok (.goto (-33), 3) := by decide +kernel
theorem dX7_minute_171 : decode cX7_minute 171 = .ok (.iconst 0, 1) := by decide +kernel
theorem dX7_minute_172 : decode cX7_minute 172 = .ok (.istore 6, 2) := by decide +kernel
theorem dX7_minute_174 : decode cX7_minute 174 = .ok (.iload 6, 2) := by decide +kernel
theorem dX7_minute_176 : decode cX7_minute 176 = .ok (.aload_n 0, 1) := by decide +kernel
theorem dX7_minute_177 : decode cX7_minute 177 = .ok (.getfield 17, 3) := by decide +kernel
theorem dX7_minute_180 : decode cX7_minute 180 = .ok (.iconst 0, 1) := by decide +kernel
theorem dX7_minute_181 : decode cX7_minute 181 = .ok (.iaload, 1) := by decide +kernel
theorem dX7_minute_182 : decode cX7_minute 182 = .ok (.if_icmp .ge 29, 3) := by decide +kernel
theorem dX7_minute_185 : decode cX7_minute 185 = .ok (.aload_n 0, 1) := by decide +kernel
theorem dX7_minute_186 : decode cX7_minute 186 = .ok (.getfield 32, 3) := by decide +kernel
theorem dX7_minute_189 : decode cX7_minute 189 = .ok (.iload 6, 2) := by decide +kernel
theorem dX7_minute_191 : decode cX7_minute 191 = .ok (.iaload, 1) := by decide +kernel
theorem dX7_minute_192 : decode cX7_minute 192 = .ok (.iconst 2, 1) := by decide +kernel
theorem dX7_minute_193 : decode cX7_minute 193 = .ok (.if_icmp .ne 12, 3) := by decide +kernel
theorem dX7_minute_196 : decode cX7_minute 196 = .ok (.aload_n 0, 1) := by decide +kernel
theorem dX7_minute_197 : decode cX7_minute 197 = .ok (.iload_n 1, 1) := by decide +kernel
theorem dX7_minute_198 : decode cX7_minute 198 = .ok (.iload_n 2, 1) := by decide +kernel
theorem dX7_minute_199 : decode cX7_minute 199 = .ok (.iload 6, 2) := by decide +kernel
theorem dX7_minute_201 : decode cX7_minute 201 = .ok (.iload_n 3, 1) := by decide +kernel
theorem dX7_minute_202 : decode cX7_minute 202 = .ok (.invokevirtual 164, 3) := by decide +kernel
theorem dX7_minute_205 : decode cX7_minute 205 = .ok (.iinc 6 1, 3) := by decide +kernel
theorem dX7_minute_208 : decode cX7_minute 208 = .ok (.goto (-34), 3) := by decide +kernel
theorem dX7_minute_211 : decode cX7_minute 211 = .ok (.iconst 0, 1) := by decide +kernel
theorem dX7_minute_212 : decode cX7_minute 212 = .ok (.istore 6, 2) := by decide +kernel
theorem dX7_minute_214 : decode cX7_minute 214 = .ok (.iconst 0, 1) := by decide +kernel
theorem dX7_minute_215 : decode cX7_minute 215 = .ok (.istore 7, 2) := by decide +kernel
theorem dX7_minute_217 : decode cX7_minute 217 = .ok (.iload 7, 2) := by decide +kernel
theorem dX7_minute_219 : decode cX7_minute 219 = .ok (.aload_n 0, 1) := by decide +kernel
theorem dX7_minute_220 : decode cX7_minute 220 = .ok (.getfield 13, 3) := by decide +kernel
theorem dX7_minute_223 : decode cX7_minute 223 = .ok (.iconst 0, 1) := by decide +kernel
theorem dX7_minute_224 : decode cX7_minute 224 = .ok (.iaload, 1) := by decide +kernel
theorem dX7_minute_225 : decode cX7_minute 225 = .ok (.if_icmp .ge 53, 3) := by decide +kernel
theorem dX7_minute_228 : decode cX7_minute 228 = .ok (.iload 6, 2) := by decide +kernel
theorem dX7_minute_230 : decode cX7_minute 230 = .ok (.aload_n 0, 1) := by decide +kernel
theorem dX7_minute_231 : decode cX7_minute 231 = .ok (.getfield 54, 3) := by decide +kernel
theorem dX7_minute_234 : decode cX7_minute 234 = .ok (.iload 7, 2) := by decide +kernel
theorem dX7_minute_236 : decode cX7_minute 236 = .ok (.iaload, 1) := by decide +kernel
theorem dX7_minute_237 : decode cX7_minute 237 = .ok (.ifCond .lt 7, 3) := by decide +kernel
theorem dX7_minute_240 : decode cX7_minute 240 = .ok (.iconst 1, 1) := by decide +kernel
theorem dX7_minute_241 : decode cX7_minute 241 = .ok (.goto 4, 3) := by decide +kernel
theorem dX7_minute_244 : decode cX7_minute 244 = .ok (.iconst 0, 1) := by decide +kernel
theorem dX7_minute_245 : decode cX7_minute 245 = .ok (.iadd, 1) := by decide +kernel
theorem dX7_minute_246 : decode cX7_minute 246 = .ok (.istore 6, 2) := by decide +kernel
theorem dX7_minute_248 : decode cX7_minute 248 = .ok (.aload_n 0, 1) := by decide +kernel
theorem dX7_minute_249 : decode cX7_minute 249 = .ok (.dup, 1) := by decide +kernel
theorem dX7_minute_250 : decode cX7_minute 250 = .ok (.getfield 167, 3) := by decide +kernel
theorem dX7_minute_253 : decode cX7_minute 253 = .ok (.aload_n 0, 1) := by decide +kernel
theorem dX7_minute_254 : decode cX7_minute 254 = .ok (.getfield 57, 3) := by decide +kernel
theorem dX7_minute_257 : decode cX7_minute 257 = .ok (.iload 7, 2) := by decide +kernel
theorem dX7_minute_259 : decode cX7_minute 259 = .ok (.iaload, 1) := by decide +kernel
theorem dX7_minute_260 : decode cX7_minute 260 = .ok (.ifCond .lt 7, 3) := by decide +kernel
theorem dX7_minute_263 : decode cX7_minute 263 = .ok (.iconst 1, 1) := by decide +kernel
theorem dX7_minute_264 : decode cX7_minute 264 = .ok (.goto 4, 3) := by decide +kernel
theorem dX7_minute_267 : decode cX7_minute 267 = .ok (.iconst 0, 1) := by decide +kernel
theorem dX7_minute_268 : decode cX7_minute 268 = .ok (.iadd, 1) := by decide +kernel
theorem dX7_minute_269 : decode cX7_minute 269 = .ok (.putfield 167, 3) := by decide +kernel
theorem dX7_minute_272 : decode cX7_minute 272 = .ok (.iinc 7 1, 3) := by decide +kernel
theorem dX7_minute_275 : decode cX7_minute 275 = .ok (.goto (-58), 3) := by decide +kernel
theorem dX7_minute_278 : decode cX7_minute 278 = .ok (.aload_n 0, 1) := by decide +kernel
theorem dX7_minute_279 : decode cX7_minute 279 = .ok (.getfield 60, 3) := by decide +kernel
theorem dX7_minute_282 : decode cX7_minute 282 = .ok (.iload_n 3, 1) := by decide +kernel
theorem dX7_minute_283 : decode cX7_minute 283 = .ok (.iload 6, 2) := by decide +kernel
theorem dX7_minute_285 : decode cX7_minute 285 = .ok (.iastore, 1) := by decide +kernel
theorem dX7_minute_286 : decode cX7_minute 286 = .ok (.aload_n 0, 1) := by decide +kernel
theorem dX7_minute_287 : decode cX7_minute 287 = .ok (.dup, 1) := by decide +kernel
theorem dX7_minute_288 : decode cX7_minute 288 = .ok (.getfield 170, 3) := by decide +kernel
theorem dX7_minute_291 : decode cX7_minute 291 = .ok (.iload 6, 2) := by decide +kernel
theorem dX7_minute_293 : decode cX7_minute 293 = .ok (.iadd, 1) := by decide +kernel
theorem dX7_minute_294 : decode cX7_minute 294 = .ok (.putfield 170, 3) := by decide +kernel
theorem dX7_minute_297 : decode cX7_minute 297 = .ok (.return_, 1) := by decide +kernel
theorem dX7_goes_0 : decode cX7_goes 0 = .ok (.iconst 0, 1) := by decide +kernel
theorem dX7_goes_1 : decode cX7_goes 1 = .ok (.istore 6, 2) := by decide +kernel
theorem dX7_goes_3 : decode cX7_goes 3 = .ok (.iload 6, 2) := by decide +kernel
theorem dX7_goes_5 : decode cX7_goes 5 = .ok (.bipush 8, 2) := by decide +kernel
theorem dX7_goes_7 : decode cX7_goes 7 = .ok (.if_icmp .ge 17, 3) := by decide +kernel
theorem dX7_goes_10 : decode cX7_goes 10 = .ok (.aload_n 0, 1) := by decide +kernel
theorem dX7_goes_11 : decode cX7_goes 11 = .ok (.getfield 51, 3) := by decide +kernel
theorem dX7_goes_14 : decode cX7_goes 14 = .ok (.iload 6, 2) := by decide +kernel
theorem dX7_goes_16 : decode cX7_goes 16 = .ok (.iconst 0, 1) := by decide +kernel
theorem dX7_goes_17 : decode cX7_goes 17 = .ok (.iastore, 1) := by decide +kernel
theorem dX7_goes_18 : decode cX7_goes 18 = .ok (.iinc 6 1, 3) := by decide +kernel
theorem dX7_goes_21 : decode cX7_goes 21 = .ok (.goto (-18), 3) := by decide +kernel
theorem dX7_goes_24 : decode cX7_goes 24 = .ok (.aload_n 0, 1) := by decide +kernel
theorem dX7_goes_25 : decode cX7_goes 25 = .ok (.iload_n 1, 1) := by decide +kernel
theorem dX7_goes_26 : decode cX7_goes 26 = .ok (.iload_n 2, 1) := by decide +kernel
theorem dX7_goes_27 : decode cX7_goes 27 = .ok (.iload_n 3, 1) := by decide +kernel
theorem dX7_goes_28 : decode cX7_goes 28 = .ok (.iload 4, 2) := by decide +kernel
theorem dX7_goes_30 : decode cX7_goes 30 = .ok (.iload 5, 2) := by decide +kernel
theorem dX7_goes_32 : decode cX7_goes 32 = .ok (.invokevirtual 173, 3) := by decide +kernel
theorem dX7_goes_35 : decode cX7_goes 35 = .ok (.return_, 1) := by decide +kernel
theorem dX7_run_0 : decode cX7_run 0 = .ok (.iconst 0, 1) := by decide +kernel
theorem dX7_run_1 : decode cX7_run 1 = .ok (.istore 6, 2) := by decide +kernel
theorem dX7_run_3 : decode cX7_run 3 = .ok (.iload 6, 2) := by decide +kernel
theorem dX7_run_5 : decode cX7_run 5 = .ok (.bipush 8, 2) := by decide +kernel
theorem dX7_run_7 : decode cX7_run 7 = .ok (.if_icmp .ge 33, 3) := by decide +kernel
theorem dX7_run_10 : decode cX7_run 10 = .ok (.aload_n 0, 1) := by decide +kernel
theorem dX7_run_11 : decode cX7_run 11 = .ok (.getfield 32, 3) := by decide +kernel
theorem dX7_run_14 : decode cX7_run 14 = .ok (.iload 6, 2) := by decide +kernel
theorem dX7_run_16 : decode cX7_run 16 = .ok (.iconst 0, 1) := by decide +kernel
theorem dX7_run_17 : decode cX7_run 17 = .ok (.iastore, 1) := by decide +kernel
theorem dX7_run_18 : decode cX7_run 18 = .ok (.aload_n 0, 1) := by decide +kernel
theorem dX7_run_19 : decode cX7_run 19 = .ok (.getfield 38, 3) := by decide +kernel
theorem dX7_run_22 : decode cX7_run 22 = .ok (.iload 6, 2) := by decide +kernel
theorem dX7_run_24 : decode cX7_run 24 = .ok (.iconst 0, 1) := by decide +kernel
theorem dX7_run_25 : decode cX7_run 25 = .ok (.iastore, 1) := by decide +kernel
theorem dX7_run_26 : decode cX7_run 26 = .ok (.aload_n 0, 1) := by decide +kernel
theorem dX7_run_27 : decode cX7_run 27 = .ok (.getfield 47, 3) := by decide +kernel
theorem dX7_run_30 : decode cX7_run 30 = .ok (.iload 6, 2) := by decide +kernel
theorem dX7_run_32 : decode cX7_run 32 = .ok (.iconst 0, 1) := by decide +kernel
theorem dX7_run_33 : decode cX7_run 33 = .ok (.bastore, 1) := by decide +kernel
theorem dX7_run_34 : decode cX7_run 34 = .ok (.iinc 6 1, 3) := by decide +kernel
theorem dX7_run_37 : decode cX7_run 37 = .ok (.goto (-34), 3) := by decide +kernel
theorem dX7_run_40 : decode cX7_run 40 = .ok (.iconst 0, 1) := by decide +kernel
theorem dX7_run_41 : decode cX7_run 41 = .ok (.istore 6, 2) := by decide +kernel
theorem dX7_run_43 : decode cX7_run 43 = .ok (.iload 6, 2) := by decide +kernel
theorem dX7_run_45 : decode cX7_run 45 = .ok (.bipush 10, 2) := by decide +kernel
theorem dX7_run_47 : decode cX7_run 47 = .ok (.if_icmp .ge 25, 3) := by decide +kernel
theorem dX7_run_50 : decode cX7_run 50 = .ok (.aload_n 0, 1) := by decide +kernel
theorem dX7_run_51 : decode cX7_run 51 = .ok (.getfield 54, 3) := by decide +kernel
theorem dX7_run_54 : decode cX7_run 54 = .ok (.iload 6, 2) := by decide +kernel
theorem dX7_run_56 : decode cX7_run 56 = .ok (.iconst (-1), 1) := by decide +kernel
theorem dX7_run_57 : decode cX7_run 57 = .ok (.iastore, 1) := by decide +kernel
theorem dX7_run_58 : decode cX7_run 58 = .ok (.aload_n 0, 1) := by decide +kernel
theorem dX7_run_59 : decode cX7_run 59 = .ok (.getfield 57, 3) := by decide +kernel
theorem dX7_run_62 : decode cX7_run 62 = .ok (.iload 6, 2) := by decide +kernel
theorem dX7_run_64 : decode cX7_run 64 = .ok (.iconst (-1), 1) := by decide +kernel
theorem dX7_run_65 : decode cX7_run 65 = .ok (.iastore, 1) := by decide +kernel
theorem dX7_run_66 : decode cX7_run 66 = .ok (.iinc 6 1, 3) := by decide +kernel
theorem dX7_run_69 : decode cX7_run 69 = .ok (.goto (-26), 3) := by decide +kernel
theorem dX7_run_72 : decode cX7_run 72 = .ok (.aload_n 0, 1) := by decide +kernel
theorem dX7_run_73 : decode cX7_run 73 = .ok (.iconst 0, 1) := by decide +kernel
theorem dX7_run_74 : decode cX7_run 74 = .ok (.putfield 170, 3) := by decide +kernel
theorem dX7_run_77 : decode cX7_run 77 = .ok (.aload_n 0, 1) := by decide +kernel
theorem dX7_run_78 : decode cX7_run 78 = .ok (.iconst 0, 1) := by decide +kernel
theorem dX7_run_79 : decode cX7_run 79 = .ok (.putfield 167, 3) := by decide +kernel
theorem dX7_run_82 : decode cX7_run 82 = .ok (.aload_n 0, 1) := by decide +kernel
theorem dX7_run_83 : decode cX7_run 83 = .ok (.iconst 0, 1) := by decide +kernel
theorem dX7_run_84 : decode cX7_run 84 = .ok (.putfield 149, 3) := by decide +kernel
theorem dX7_run_87 : decode cX7_run 87 = .ok (.aload_n 0, 1) := by decide +kernel
theorem dX7_run_88 : decode cX7_run 88 = .ok (.iconst 0, 1) := by decide +kernel
theorem dX7_run_89 : decode cX7_run 89 = .ok (.putfield 139, 3) := by decide +kernel
theorem dX7_run_92 : decode cX7_run 92 = .ok (.iconst 0, 1) := by decide +kernel
theorem dX7_run_93 : decode cX7_run 93 = .ok (.istore 6, 2) := by decide +kernel
theorem dX7_run_95 : decode cX7_run 95 = .ok (.iload 6, 2) := by decide +kernel
theorem dX7_run_97 : decode cX7_run 97 = .ok (.iload_n 3, 1) := by decide +kernel
theorem dX7_run_98 : decode cX7_run 98 = .ok (.if_icmp .gt 21, 3) := by decide +kernel
theorem dX7_run_101 : decode cX7_run 101 = .ok (.aload_n 0, 1) := by decide +kernel
theorem dX7_run_102 : decode cX7_run 102 = .ok (.iload_n 1, 1) := by decide +kernel
theorem dX7_run_103 : decode cX7_run 103 = .ok (.iload_n 2, 1) := by decide +kernel
theorem dX7_run_104 : decode cX7_run 104 = .ok (.iload 6, 2) := by decide +kernel
theorem dX7_run_106 : decode cX7_run 106 = .ok (.iload 4, 2) := by decide +kernel
theorem dX7_run_108 : decode cX7_run 108 = .ok (.iload 5, 2) := by decide +kernel
theorem dX7_run_110 : decode cX7_run 110 = .ok (.invokevirtual 177, 3) := by decide +kernel
theorem dX7_run_113 : decode cX7_run 113 = .ok (.iinc 6 1, 3) := by decide +kernel
theorem dX7_run_116 : decode cX7_run 116 = .ok (.goto (-21), 3) := by decide +kernel
theorem dX7_run_119 : decode cX7_run 119 = .ok (.return_, 1) := by decide +kernel
theorem dX7_whole_0 : decode cX7_whole 0 = .ok (.aload_n 0, 1) := by decide +kernel
theorem dX7_whole_1 : decode cX7_whole 1 = .ok (.iload_n 1, 1) := by decide +kernel
theorem dX7_whole_2 : decode cX7_whole 2 = .ok (.aload_n 0, 1) := by decide +kernel
theorem dX7_whole_3 : decode cX7_whole 3 = .ok (.getfield 113, 3) := by decide +kernel
theorem dX7_whole_6 : decode cX7_whole 6 = .ok (.sipush 399, 3) := by decide +kernel
theorem dX7_whole_9 : decode cX7_whole 9 = .ok (.aload_n 0, 1) := by decide +kernel
theorem dX7_whole_10 : decode cX7_whole 10 = .ok (.getfield 26, 3) := by decide +kernel
theorem dX7_whole_13 : decode cX7_whole 13 = .ok (.iconst 0, 1) := by decide +kernel
theorem dX7_whole_14 : decode cX7_whole 14 = .ok (.iaload, 1) := by decide +kernel
theorem dX7_whole_15 : decode cX7_whole 15 = .ok (.aload_n 0, 1) := by decide +kernel
theorem dX7_whole_16 : decode cX7_whole 16 = .ok (.getfield 26, 3) := by decide +kernel
theorem dX7_whole_19 : decode cX7_whole 19 = .ok (.iconst 1, 1) := by decide +kernel
theorem dX7_whole_20 : decode cX7_whole 20 = .ok (.iaload, 1) := by decide +kernel
theorem dX7_whole_21 : decode cX7_whole 21 = .ok (.invokevirtual 180, 3) := by decide +kernel
theorem dX7_whole_24 : decode cX7_whole 24 = .ok (.return_, 1) := by decide +kernel
theorem dX7_seat_0 : decode cX7_seat 0 = .ok (.iload_n 1, 1) := by decide +kernel
theorem dX7_seat_1 : decode cX7_seat 1 = .ok (.invokestatic 183, 3) := by decide +kernel
theorem dX7_seat_4 : decode cX7_seat 4 = .ok (.ifCond .eq 39, 3) := by decide +kernel
theorem dX7_seat_7 : decode cX7_seat 7 = .ok (.iload_n 2, 1) := by decide +kernel
theorem dX7_seat_8 : decode cX7_seat 8 = .ok (.invokestatic 186, 3) := by decide +kernel
theorem dX7_seat_11 : decode cX7_seat 11 = .ok (.ifCond .eq 32, 3) := by decide +kernel
theorem dX7_seat_14 : decode cX7_seat 14 = .ok (.iload_n 3, 1) := by decide +kernel
theorem dX7_seat_15 : decode cX7_seat 15 = .ok (.i2l, 1) := by decide +kernel
theorem dX7_seat_16 : decode cX7_seat 16 = .ok (.lconst 0, 1) := by decide +kernel
theorem dX7_seat_17 : decode cX7_seat 17 = .ok (.aload_n 0, 1) := by decide +kernel
theorem dX7_seat_18 : decode cX7_seat 18 = .ok (.getfield 13, 3) := by decide +kernel
theorem dX7_seat_21 : decode cX7_seat 21 = .ok (.iconst 0, 1) := by decide +kernel
theorem dX7_seat_22 : decode cX7_seat 22 = .ok (.iaload, 1) := by decide +kernel
theorem dX7_seat_23 : decode cX7_seat 23 = .ok (.iconst 1, 1) := by decide +kernel
theorem dX7_seat_24 : decode cX7_seat 24 = .ok (.isub, 1) := by decide +kernel
theorem dX7_seat_25 : decode cX7_seat 25 = .ok (.i2l, 1) := by decide +kernel
theorem dX7_seat_26 : decode cX7_seat 26 = .ok (.invokestatic 80, 3) := by decide +kernel
theorem dX7_seat_29 : decode cX7_seat 29 = .ok (.ifCond .eq 14, 3) := by decide +kernel
theorem dX7_seat_32 : decode cX7_seat 32 = .ok (.iload 4, 2) := by decide +kernel
theorem dX7_seat_34 : decode cX7_seat 34 = .ok (.i2l, 1) := by decide +kernel
theorem dX7_seat_35 : decode cX7_seat 35 = .ok (.lconst 0, 1) := by decide +kernel
theorem dX7_seat_36 : decode cX7_seat 36 = .ok (.lconst 1, 1) := by decide +kernel
theorem dX7_seat_37 : decode cX7_seat 37 = .ok (.invokestatic 80, 3) := by decide +kernel
theorem dX7_seat_40 : decode cX7_seat 40 = .ok (.ifCond .ne 5, 3) := by decide +kernel
theorem dX7_seat_43 : decode cX7_seat 43 = .ok (.iconst (-1), 1) := by decide +kernel
theorem dX7_seat_44 : decode cX7_seat 44 = .ok (.ireturn, 1) := by decide +kernel
theorem dX7_seat_45 : decode cX7_seat 45 = .ok (.aload_n 0, 1) := by decide +kernel
theorem dX7_seat_46 : decode cX7_seat 46 = .ok (.iload_n 1, 1) := by decide +kernel
theorem dX7_seat_47 : decode cX7_seat 47 = .ok (.aload_n 0, 1) := by decide +kernel
theorem dX7_seat_48 : decode cX7_seat 48 = .ok (.getfield 113, 3) := by decide +kernel
theorem dX7_seat_51 : decode cX7_seat 51 = .ok (.iload_n 2, 1) := by decide +kernel
theorem dX7_seat_52 : decode cX7_seat 52 = .ok (.aload_n 0, 1) := by decide +kernel
theorem dX7_seat_53 : decode cX7_seat 53 = .ok (.getfield 26, 3) := by decide +kernel
theorem dX7_seat_56 : decode cX7_seat 56 = .ok (.iconst 0, 1) := by decide +kernel
theorem dX7_seat_57 : decode cX7_seat 57 = .ok (.iaload, 1) := by decide +kernel
theorem dX7_seat_58 : decode cX7_seat 58 = .ok (.aload_n 0, 1) := by decide +kernel
theorem dX7_seat_59 : decode cX7_seat 59 = .ok (.getfield 26, 3) := by decide +kernel
theorem dX7_seat_62 : decode cX7_seat 62 = .ok (.iconst 1, 1) := by decide +kernel
theorem dX7_seat_63 : decode cX7_seat 63 = .ok (.iaload, 1) := by decide +kernel
theorem dX7_seat_64 : decode cX7_seat 64 = .ok (.invokevirtual 180, 3) := by decide +kernel
theorem dX7_seat_67 : decode cX7_seat 67 = .ok (.iload 4, 2) := by decide +kernel
theorem dX7_seat_69 : decode cX7_seat 69 = .ok (.ifCond .ne 12, 3) := by decide +kernel
theorem dX7_seat_72 : decode cX7_seat 72 = .ok (.aload_n 0, 1) := by decide +kernel
theorem dX7_seat_73 : decode cX7_seat 73 = .ok (.getfield 54, 3) := by decide +kernel
theorem dX7_seat_76 : decode cX7_seat 76 = .ok (.iload_n 3, 1) := by decide +kernel
theorem dX7_seat_77 : decode cX7_seat 77 = .ok (.iaload, 1) := by decide +kernel
theorem dX7_seat_78 : decode cX7_seat 78 = .ok (.goto 9, 3) := by decide +kernel
theorem dX7_seat_81 : decode cX7_seat 81 = .ok (.aload_n 0, 1) := by decide +kernel
theorem dX7_seat_82 : decode cX7_seat 82 = .ok (.getfield 57, 3) := by decide +kernel
theorem dX7_seat_85 : decode cX7_seat 85 = .ok (.iload_n 3, 1) := by decide +kernel
theorem dX7_seat_86 : decode cX7_seat 86 = .ok (.iaload, 1) := by decide +kernel
theorem dX7_seat_87 : decode cX7_seat 87 = .ok (.istore 5, 2) := by decide +kernel
theorem dX7_seat_89 : decode cX7_seat 89 = .ok (.iload 5, 2) := by decide +kernel
theorem dX7_seat_91 : decode cX7_seat 91 = .ok (.ifCond .ge 8, 3) := by decide +kernel
theorem dX7_seat_94 : decode cX7_seat 94 = .ok (.bipush (-4), 2) := by decide +kernel
theorem dX7_seat_96 : decode cX7_seat 96 = .ok (.goto 5, 3) := by decide +kernel
theorem dX7_seat_99 : decode cX7_seat 99 = .ok (.iload 5, 2) := by decide +kernel
theorem dX7_seat_101 : decode cX7_seat 101 = .ok (.ireturn, 1) := by decide +kernel
theorem dX7_does_0 : decode cX7_does 0 = .ok (.iload_n 1, 1) := by decide +kernel
theorem dX7_does_1 : decode cX7_does 1 = .ok (.invokestatic 183, 3) := by decide +kernel
theorem dX7_does_4 : decode cX7_does 4 = .ok (.ifCond .eq 18, 3) := by decide +kernel
theorem dX7_does_7 : decode cX7_does 7 = .ok (.iload_n 2, 1) := by decide +kernel
theorem dX7_does_8 : decode cX7_does 8 = .ok (.invokestatic 186, 3) := by decide +kernel
theorem dX7_does_11 : decode cX7_does 11 = .ok (.ifCond .eq 11, 3) := by decide +kernel
theorem dX7_does_14 : decode cX7_does 14 = .ok (.aload_n 0, 1) := by decide +kernel
theorem dX7_does_15 : decode cX7_does 15 = .ok (.iload_n 3, 1) := by decide +kernel
theorem dX7_does_16 : decode cX7_does 16 = .ok (.invokevirtual 130, 3) := by decide +kernel
theorem dX7_does_19 : decode cX7_does 19 = .ok (.ifCond .ne 5, 3) := by decide +kernel
theorem dX7_does_22 : decode cX7_does 22 = .ok (.iconst (-1), 1) := by decide +kernel
theorem dX7_does_23 : decode cX7_does 23 = .ok (.ireturn, 1) := by decide +kernel
theorem dX7_does_24 : decode cX7_does 24 = .ok (.aload_n 0, 1) := by decide +kernel
theorem dX7_does_25 : decode cX7_does 25 = .ok (.iload_n 1, 1) := by decide +kernel
theorem dX7_does_26 : decode cX7_does 26 = .ok (.aload_n 0, 1) := by decide +kernel
theorem dX7_does_27 : decode cX7_does 27 = .ok (.getfield 113, 3) := by decide +kernel
theorem dX7_does_30 : decode cX7_does 30 = .ok (.iload_n 2, 1) := by decide +kernel
theorem dX7_does_31 : decode cX7_does 31 = .ok (.aload_n 0, 1) := by decide +kernel
theorem dX7_does_32 : decode cX7_does 32 = .ok (.getfield 26, 3) := by decide +kernel
theorem dX7_does_35 : decode cX7_does 35 = .ok (.iconst 0, 1) := by decide +kernel
theorem dX7_does_36 : decode cX7_does 36 = .ok (.iaload, 1) := by decide +kernel
theorem dX7_does_37 : decode cX7_does 37 = .ok (.aload_n 0, 1) := by decide +kernel
theorem dX7_does_38 : decode cX7_does 38 = .ok (.getfield 26, 3) := by decide +kernel
theorem dX7_does_41 : decode cX7_does 41 = .ok (.iconst 1, 1) := by decide +kernel
theorem dX7_does_42 : decode cX7_does 42 = .ok (.iaload, 1) := by decide +kernel
theorem dX7_does_43 : decode cX7_does 43 = .ok (.invokevirtual 180, 3) := by decide +kernel
theorem dX7_does_46 : decode cX7_does 46 = .ok (.aload_n 0, 1) := by decide +kernel
theorem dX7_does_47 : decode cX7_does 47 = .ok (.getfield 32, 3) := by decide +kernel
theorem dX7_does_50 : decode cX7_does 50 = .ok (.iload_n 3, 1) := by decide +kernel
theorem dX7_does_51 : decode cX7_does 51 = .ok (.iaload, 1) := by decide +kernel
theorem dX7_does_52 : decode cX7_does 52 = .ok (.ireturn, 1) := by decide +kernel
theorem dX7_many_0 : decode cX7_many 0 = .ok (.iconst 0, 1) := by decide +kernel
theorem dX7_many_1 : decode cX7_many 1 = .ok (.istore_n 1, 1) := by decide +kernel
theorem dX7_many_2 : decode cX7_many 2 = .ok (.iconst 0, 1) := by decide +kernel
theorem dX7_many_3 : decode cX7_many 3 = .ok (.istore_n 2, 1) := by decide +kernel
theorem dX7_many_4 : decode cX7_many 4 = .ok (.iload_n 2, 1) := by decide +kernel
theorem dX7_many_5 : decode cX7_many 5 = .ok (.bipush 8, 2) := by decide +kernel
theorem dX7_many_7 : decode cX7_many 7 = .ok (.if_icmp .ge 17, 3) := by decide +kernel
theorem dX7_many_10 : decode cX7_many 10 = .ok (.iload_n 1, 1) := by decide +kernel
theorem dX7_many_11 : decode cX7_many 11 = .ok (.iload_n 0, 1) := by decide +kernel
theorem dX7_many_12 : decode cX7_many 12 = .ok (.iload_n 2, 1) := by decide +kernel
theorem dX7_many_13 : decode cX7_many 13 = .ok (.ishr, 1) := by decide +kernel
theorem dX7_many_14 : decode cX7_many 14 = .ok (.iconst 1, 1) := by decide +kernel
theorem dX7_many_15 : decode cX7_many 15 = .ok (.iand, 1) := by decide +kernel
theorem dX7_many_16 : decode cX7_many 16 = .ok (.iadd, 1) := by decide +kernel
theorem dX7_many_17 : decode cX7_many 17 = .ok (.istore_n 1, 1) := by decide +kernel
theorem dX7_many_18 : decode cX7_many 18 = .ok (.iinc 2 1, 3) := by decide +kernel
theorem dX7_many_21 : decode cX7_many 21 = .ok (.goto (-17), 3) := by decide +kernel
theorem dX7_many_24 : decode cX7_many 24 = .ok (.iload_n 1, 1) := by decide +kernel
theorem dX7_many_25 : decode cX7_many 25 = .ok (.ireturn, 1) := by decide +kernel
theorem dX7_day_0 : decode cX7_day 0 = .ok (.iload_n 1, 1) := by decide +kernel
theorem dX7_day_1 : decode cX7_day 1 = .ok (.invokestatic 183, 3) := by decide +kernel
theorem dX7_day_4 : decode cX7_day 4 = .ok (.ifCond .eq 15, 3) := by decide +kernel
theorem dX7_day_7 : decode cX7_day 7 = .ok (.iload_n 2, 1) := by decide +kernel
theorem dX7_day_8 : decode cX7_day 8 = .ok (.i2l, 1) := by decide +kernel
theorem dX7_day_9 : decode cX7_day 9 = .ok (.lconst 0, 1) := by decide +kernel
theorem dX7_day_10 : decode cX7_day 10 = .ok (.ldc2_w 189, 3) := by decide +kernel
theorem dX7_day_13 : decode cX7_day 13 = .ok (.invokestatic 80, 3) := by decide +kernel
theorem dX7_day_16 : decode cX7_day 16 = .ok (.ifCond .ne 5, 3) := by decide +kernel
theorem dX7_day_19 : decode cX7_day 19 = .ok (.iconst (-1), 1) := by decide +kernel
theorem dX7_day_20 : decode cX7_day 20 = .ok (.ireturn, 1) := by decide +kernel
theorem dX7_day_21 : decode cX7_day 21 = .ok (.aload_n 0, 1) := by decide +kernel
theorem dX7_day_22 : decode cX7_day 22 = .ok (.iload_n 1, 1) := by decide +kernel
theorem dX7_day_23 : decode cX7_day 23 = .ok (.invokevirtual 191, 3) := by decide +kernel
theorem dX7_day_26 : decode cX7_day 26 = .ok (.iload_n 2, 1) := by decide +kernel
theorem dX7_day_27 : decode cX7_day 27 = .ok (.ifCond .ne 10, 3) := by decide +kernel
theorem dX7_day_30 : decode cX7_day 30 = .ok (.aload_n 0, 1) := by decide +kernel
theorem dX7_day_31 : decode cX7_day 31 = .ok (.getfield 170, 3) := by decide +kernel
theorem dX7_day_34 : decode cX7_day 34 = .ok (.goto 61, 3) := by decide +kernel
theorem dX7_day_37 : decode cX7_day 37 = .ok (.iload_n 2, 1) := by decide +kernel
theorem dX7_day_38 : decode cX7_day 38 = .ok (.iconst 1, 1) := by decide +kernel
theorem dX7_day_39 : decode cX7_day 39 = .ok (.if_icmp .ne 10, 3) := by decide +kernel
theorem dX7_day_42 : decode cX7_day 42 = .ok (.aload_n 0, 1) := by decide +kernel
theorem dX7_day_43 : decode cX7_day 43 = .ok (.getfield 167, 3) := by decide +kernel
theorem dX7_day_46 : decode cX7_day 46 = .ok (.goto 49, 3) := by decide +kernel
theorem dX7_day_49 : decode cX7_day 49 = .ok (.iload_n 2, 1) := by decide +kernel
theorem dX7_day_50 : decode cX7_day 50 = .ok (.iconst 2, 1) := by decide +kernel
theorem dX7_day_51 : decode cX7_day 51 = .ok (.if_icmp .ne 13, 3) := by decide +kernel
theorem dX7_day_54 : decode cX7_day 54 = .ok (.aload_n 0, 1) := by decide +kernel
theorem dX7_day_55 : decode cX7_day 55 = .ok (.getfield 149, 3) := by decide +kernel
theorem dX7_day_58 : decode cX7_day 58 = .ok (.invokestatic 195, 3) := by decide +kernel
theorem dX7_day_61 : decode cX7_day 61 = .ok (.goto 34, 3) := by decide +kernel
theorem dX7_day_64 : decode cX7_day 64 = .ok (.iload_n 2, 1) := by decide +kernel
theorem dX7_day_65 : decode cX7_day 65 = .ok (.iconst 3, 1) := by decide +kernel
theorem dX7_day_66 : decode cX7_day 66 = .ok (.if_icmp .ne 10, 3) := by decide +kernel
theorem dX7_day_69 : decode cX7_day 69 = .ok (.aload_n 0, 1) := by decide +kernel
theorem dX7_day_70 : decode cX7_day 70 = .ok (.getfield 149, 3) := by decide +kernel
theorem dX7_day_73 : decode cX7_day 73 = .ok (.goto 22, 3) := by decide +kernel
theorem dX7_day_76 : decode cX7_day 76 = .ok (.iload_n 2, 1) := by decide +kernel
theorem dX7_day_77 : decode cX7_day 77 = .ok (.iconst 4, 1) := by decide +kernel
theorem dX7_day_78 : decode cX7_day 78 = .ok (.if_icmp .ne 13, 3) := by decide +kernel
theorem dX7_day_81 : decode cX7_day 81 = .ok (.aload_n 0, 1) := by decide +kernel
theorem dX7_day_82 : decode cX7_day 82 = .ok (.getfield 139, 3) := by decide +kernel
theorem dX7_day_85 : decode cX7_day 85 = .ok (.invokestatic 195, 3) := by decide +kernel
theorem dX7_day_88 : decode cX7_day 88 = .ok (.goto 7, 3) := by decide +kernel
theorem dX7_day_91 : decode cX7_day 91 = .ok (.aload_n 0, 1) := by decide +kernel
theorem dX7_day_92 : decode cX7_day 92 = .ok (.getfield 139, 3) := by decide +kernel
theorem dX7_day_95 : decode cX7_day 95 = .ok (.ireturn, 1) := by decide +kernel
theorem dX7_sat_0 : decode cX7_sat 0 = .ok (.iload_n 1, 1) := by decide +kernel
theorem dX7_sat_1 : decode cX7_sat 1 = .ok (.invokestatic 183, 3) := by decide +kernel
theorem dX7_sat_4 : decode cX7_sat 4 = .ok (.ifCond .eq 11, 3) := by decide +kernel
theorem dX7_sat_7 : decode cX7_sat 7 = .ok (.aload_n 0, 1) := by decide +kernel
theorem dX7_sat_8 : decode cX7_sat 8 = .ok (.iload_n 2, 1) := by decide +kernel
theorem dX7_sat_9 : decode cX7_sat 9 = .ok (.invokevirtual 130, 3) := by decide +kernel
theorem dX7_sat_12 : decode cX7_sat 12 = .ok (.ifCond .ne 5, 3) := by decide +kernel
theorem dX7_sat_15 : decode cX7_sat 15 = .ok (.iconst (-1), 1) := by decide +kernel
theorem dX7_sat_16 : decode cX7_sat 16 = .ok (.ireturn, 1) := by decide +kernel
theorem dX7_sat_17 : decode cX7_sat 17 = .ok (.aload_n 0, 1) := by decide +kernel
theorem dX7_sat_18 : decode cX7_sat 18 = .ok (.iload_n 1, 1) := by decide +kernel
theorem dX7_sat_19 : decode cX7_sat 19 = .ok (.invokevirtual 191, 3) := by decide +kernel
theorem dX7_sat_22 : decode cX7_sat 22 = .ok (.aload_n 0, 1) := by decide +kernel
theorem dX7_sat_23 : decode cX7_sat 23 = .ok (.getfield 38, 3) := by decide +kernel
theorem dX7_sat_26 : decode cX7_sat 26 = .ok (.iload_n 2, 1) := by decide +kernel
theorem dX7_sat_27 : decode cX7_sat 27 = .ok (.iaload, 1) := by decide +kernel
theorem dX7_sat_28 : decode cX7_sat 28 = .ok (.ireturn, 1) := by decide +kernel
theorem dX7_bettered_0 : decode cX7_bettered 0 = .ok (.iconst 0, 1) := by decide +kernel
theorem dX7_bettered_1 : decode cX7_bettered 1 = .ok (.istore_n 1, 1) := by decide +kernel
theorem dX7_bettered_2 : decode cX7_bettered 2 = .ok (.iload_n 1, 1) := by decide +kernel
theorem dX7_bettered_3 : decode cX7_bettered 3 = .ok (.iconst 5, 1) := by decide +kernel
theorem dX7_bettered_4 : decode cX7_bettered 4 = .ok (.if_icmp .ge 62, 3) := by decide +kernel
theorem dX7_bettered_7 : decode cX7_bettered 7 = .ok (.aload_n 0, 1) := by decide +kernel
theorem dX7_bettered_8 : decode cX7_bettered 8 = .ok (.iload_n 1, 1) := by decide +kernel
theorem dX7_bettered_9 : decode cX7_bettered 9 = .ok (.invokevirtual 191, 3) := by decide +kernel
theorem dX7_bettered_12 : decode cX7_bettered 12 = .ok (.aload_n 0, 1) := by decide +kernel
theorem dX7_bettered_13 : decode cX7_bettered 13 = .ok (.getfield 66, 3) := by decide +kernel
theorem dX7_bettered_16 : decode cX7_bettered 16 = .ok (.iconst 3, 1) := by decide +kernel
theorem dX7_bettered_17 : decode cX7_bettered 17 = .ok (.iload_n 1, 1) := by decide +kernel
theorem dX7_bettered_18 : decode cX7_bettered 18 = .ok (.imul, 1) := by decide +kernel
theorem dX7_bettered_19 : decode cX7_bettered 19 = .ok (.aload_n 0, 1) := by decide +kernel
theorem dX7_bettered_20 : decode cX7_bettered 20 = .ok (.getfield 170, 3) := by decide +kernel
theorem dX7_bettered_23 : decode cX7_bettered 23 = .ok (.iastore, 1) := by decide +kernel
theorem dX7_bettered_24 : decode cX7_bettered 24 = .ok (.aload_n 0, 1) := by decide +kernel
theorem dX7_bettered_25 : decode cX7_bettered 25 = .ok (.getfield 66, 3) := by decide +kernel
theorem dX7_bettered_28 : decode cX7_bettered 28 = .ok (.iconst 3, 1) := by decide +kernel
theorem dX7_bettered_29 : decode cX7_bettered 29 = .ok (.iload_n 1, 1) := by decide +kernel
theorem dX7_bettered_30 : decode cX7_bettered 30 = .ok (.imul, 1) := by decide +kernel
theorem dX7_bettered_31 : decode cX7_bettered 31 = .ok (.iconst 1, 1) := by decide +kernel
theorem dX7_bettered_32 : decode cX7_bettered 32 = .ok (.iadd, 1) := by decide +kernel
theorem dX7_bettered_33 : decode cX7_bettered 33 = .ok (.aload_n 0, 1) := by decide +kernel
theorem dX7_bettered_34 : decode cX7_bettered 34 = .ok (.getfield 149, 3) := by decide +kernel
theorem dX7_bettered_37 : decode cX7_bettered 37 = .ok (.invokestatic 195, 3) := by decide +kernel
theorem dX7_bettered_40 : decode cX7_bettered 40 = .ok (.ineg, 1) := by decide +kernel
theorem dX7_bettered_41 : decode cX7_bettered 41 = .ok (.iastore, 1) := by decide +kernel
theorem dX7_bettered_42 : decode cX7_bettered 42 = .ok (.aload_n 0, 1) := by decide +kernel
theorem dX7_bettered_43 : decode cX7_bettered 43 = .ok (.getfield 66, 3) := by decide +kernel
theorem dX7_bettered_46 : decode cX7_bettered 46 = .ok (.iconst 3, 1) := by decide +kernel
theorem dX7_bettered_47 : decode cX7_bettered 47 = .ok (.iload_n 1, 1) := by decide +kernel
theorem dX7_bettered_48 : decode cX7_bettered 48 = .ok (.imul, 1) := by decide +kernel
theorem dX7_bettered_49 : decode cX7_bettered 49 = .ok (.iconst 2, 1) := by decide +kernel
theorem dX7_bettered_50 : decode cX7_bettered 50 = .ok (.iadd, 1) := by decide +kernel
theorem dX7_bettered_51 : decode cX7_bettered 51 = .ok (.aload_n 0, 1) := by decide +kernel
theorem dX7_bettered_52 : decode cX7_bettered 52 = .ok (.getfield 139, 3) := by decide +kernel
theorem dX7_bettered_55 : decode cX7_bettered 55 = .ok (.invokestatic 195, 3) := by decide +kernel
theorem dX7_bettered_58 : decode cX7_bettered 58 = .ok (.ineg, 1) := by decide +kernel
theorem dX7_bettered_59 : decode cX7_bettered 59 = .ok (.iastore, 1) := by decide +kernel
theorem dX7_bettered_60 : decode cX7_bettered 60 = .ok (.iinc 1 1, 3) := by decide +kernel
theorem dX7_bettered_63 : decode cX7_bettered 63 = .ok (.goto (-61), 3) := by decide +kernel
theorem dX7_bettered_66 : decode cX7_bettered 66 = .ok (.iconst 0, 1) := by decide +kernel
theorem dX7_bettered_67 : decode cX7_bettered 67 = .ok (.istore_n 1, 1) := by decide +kernel
theorem dX7_bettered_68 : decode cX7_bettered 68 = .ok (.iconst 0, 1) := by decide +kernel
theorem dX7_bettered_69 : decode cX7_bettered 69 = .ok (.istore_n 2, 1) := by decide +kernel
theorem dX7_bettered_70 : decode cX7_bettered 70 = .ok (.iload_n 2, 1) := by decide +kernel
theorem dX7_bettered_71 : decode cX7_bettered 71 = .ok (.iconst 5, 1) := by decide +kernel
theorem dX7_bettered_72 : decode cX7_bettered 72 = .ok (.if_icmp .ge 137, 3) := by decide +kernel
theorem dX7_bettered_75 : decode cX7_bettered 75 = .ok (.iconst 0, 1) := by decide +kernel
theorem dX7_bettered_76 : decode cX7_bettered 76 = .ok (.istore_n 3, 1) := by decide +kernel
theorem dX7_bettered_77 : decode cX7_bettered 77 = .ok (.iload_n 3, 1) := by decide +kernel
theorem dX7_bettered_78 : decode cX7_bettered 78 = .ok (.iconst 5, 1) := by decide +kernel
theorem dX7_bettered_79 : decode cX7_bettered 79 = .ok (.if_icmp .ge 124, 3) := by decide +kernel
theorem dX7_bettered_82 : decode cX7_bettered 82 = .ok (.iconst 1, 1) := by decide +kernel
theorem dX7_bettered_83 : decode cX7_bettered 83 = .ok (.istore 4, 2) := by decide +kernel
theorem dX7_bettered_85 : decode cX7_bettered 85 = .ok (.iconst 0, 1) := by decide +kernel
theorem dX7_bettered_86 : decode cX7_bettered 86 = .ok (.istore 5, 2) := by decide +kernel
theorem dX7_bettered_88 : decode cX7_bettered 88 = .ok (.iconst 0, 1) := by decide +kernel
theorem dX7_bettered_89 : decode cX7_bettered 89 = .ok (.istore 6, 2) := by decide +kernel
theorem dX7_bettered_91 : decode cX7_bettered 91 = .ok (.iload 6, 2) := by decide +kernel
theorem dX7_bettered_93 : decode cX7_bettered 93 = .ok (.iconst 3, 1) := by decide +kernel
theorem dX7_bettered_94 : decode cX7_bettered 94 = .ok (.if_icmp .ge 83, 3) := by decide +kernel
theorem dX7_bettered_97 : decode cX7_bettered 97 = .ok (.iload 4, 2) := by decide +kernel
theorem dX7_bettered_99 : decode cX7_bettered 99 = .ok (.ifCond .eq 32, 3) := by decide +kernel
theorem dX7_bettered_102 : decode cX7_bettered 102 = .ok (.aload_n 0, 1) := by decide +kernel
theorem dX7_bettered_103 : decode cX7_bettered 103 = .ok (.getfield 66, 3) := by decide +kernel
theorem dX7_bettered_106 : decode cX7_bettered 106 = .ok (.iconst 3, 1) := by decide +kernel
theorem dX7_bettered_107 : decode cX7_bettered 107 = .ok (.iload_n 3, 1) := by decide +kernel
theorem dX7_bettered_108 : decode cX7_bettered 108 = .ok (.imul, 1) := by decide +kernel
theorem dX7_bettered_109 : decode cX7_bettered 109 = .ok (.iload 6, 2) := by decide +kernel
theorem dX7_bettered_111 : decode cX7_bettered 111 = .ok (.iadd, 1) := by decide +kernel
theorem dX7_bettered_112 : decode cX7_bettered 112 = .ok (.iaload, 1) := by decide +kernel
theorem dX7_bettered_113 : decode cX7_bettered 113 = .ok (.aload_n 0, 1) := by decide +kernel
theorem dX7_bettered_114 : decode cX7_bettered 114 = .ok (.getfield 66, 3) := by decide +kernel
theorem dX7_bettered_117 : decode cX7_bettered 117 = .ok (.iconst 3, 1) := by decide +kernel
theorem dX7_bettered_118 : decode cX7_bettered 118 = .ok (.iload_n 2, 1) := by decide +kernel
theorem dX7_bettered_119 : decode cX7_bettered 119 = .ok (.imul, 1) := by decide +kernel
theorem dX7_bettered_120 : decode cX7_bettered 120 = .ok (.iload 6, 2) := by decide +kernel
theorem dX7_bettered_122 : decode cX7_bettered 122 = .ok (.iadd, 1) := by decide +kernel
theorem dX7_bettered_123 : decode cX7_bettered 123 = .ok (.iaload, 1) := by decide +kernel
theorem dX7_bettered_124 : decode cX7_bettered 124 = .ok (.if_icmp .lt 7, 3) := by decide +kernel
theorem dX7_bettered_127 : decode cX7_bettered 127 = .ok (.iconst 1, 1) := by decide +kernel
theorem dX7_bettered_128 : decode cX7_bettered 128 = .ok (.goto 4, 3) := by decide +kernel
theorem dX7_bettered_131 : decode cX7_bettered 131 = .ok (.iconst 0, 1) := by decide +kernel
theorem dX7_bettered_132 : decode cX7_bettered 132 = .ok (.istore 4, 2) := by decide +kernel
theorem dX7_bettered_134 : decode cX7_bettered 134 = .ok (.iload 5, 2) := by decide +kernel
theorem dX7_bettered_136 : decode cX7_bettered 136 = .ok (.ifCond .ne 28, 3) := by decide +kernel
theorem dX7_bettered_139 : decode cX7_bettered 139 = .ok (.aload_n 0, 1) := by decide +kernel
theorem dX7_bettered_140 : decode cX7_bettered 140 = .ok (.getfield 66, 3) := by decide +kernel
theorem dX7_bettered_143 : decode cX7_bettered 143 = .ok (.iconst 3, 1) := by decide +kernel
theorem dX7_bettered_144 : decode cX7_bettered 144 = .ok (.iload_n 3, 1) := by decide +kernel
theorem dX7_bettered_145 : decode cX7_bettered 145 = .ok (.imul, 1) := by decide +kernel
theorem dX7_bettered_146 : decode cX7_bettered 146 = .ok (.iload 6, 2) := by decide +kernel
theorem dX7_bettered_148 : decode cX7_bettered 148 = .ok (.iadd, 1) := by decide +kernel
theorem dX7_bettered_149 : decode cX7_bettered 149 = .ok (.iaload, 1) := by decide +kernel
theorem dX7_bettered_150 : decode cX7_bettered 150 = .ok (.aload_n 0, 1) := by decide +kernel
theorem dX7_bettered_151 : decode cX7_bettered 151 = .ok (.getfield 66, 3) := by decide +kernel
theorem dX7_bettered_154 : decode cX7_bettered 154 = .ok (.iconst 3, 1) := by decide +kernel
theorem dX7_bettered_155 : decode cX7_bettered 155 = .ok (.iload_n 2, 1) := by decide +kernel
theorem dX7_bettered_156 : decode cX7_bettered 156 = .ok (.imul, 1) := by decide +kernel
theorem dX7_bettered_157 : decode cX7_bettered 157 = .ok (.iload 6, 2) := by decide +kernel
theorem dX7_bettered_159 : decode cX7_bettered 159 = .ok (.iadd, 1) := by decide +kernel
theorem dX7_bettered_160 : decode cX7_bettered 160 = .ok (.iaload, 1) := by decide +kernel
theorem dX7_bettered_161 : decode cX7_bettered 161 = .ok (.if_icmp .le 7, 3) := by decide +kernel
theorem dX7_bettered_164 : decode cX7_bettered 164 = .ok (.iconst 1, 1) := by decide +kernel
theorem dX7_bettered_165 : decode cX7_bettered 165 = .ok (.goto 4, 3) := by decide +kernel
theorem dX7_bettered_168 : decode cX7_bettered 168 = .ok (.iconst 0, 1) := by decide +kernel
theorem dX7_bettered_169 : decode cX7_bettered 169 = .ok (.istore 5, 2) := by decide +kernel
theorem dX7_bettered_171 : decode cX7_bettered 171 = .ok (.iinc 6 1, 3) := by decide +kernel
theorem dX7_bettered_174 : decode cX7_bettered 174 = .ok (.goto (-83), 3) := by decide +kernel
theorem dX7_bettered_177 : decode cX7_bettered 177 = .ok (.iload_n 1, 1) := by decide +kernel
theorem dX7_bettered_178 : decode cX7_bettered 178 = .ok (.iload 4, 2) := by decide +kernel
theorem dX7_bettered_180 : decode cX7_bettered 180 = .ok (.ifCond .eq 14, 3) := by decide +kernel
theorem dX7_bettered_183 : decode cX7_bettered 183 = .ok (.iload 5, 2) := by decide +kernel
theorem dX7_bettered_185 : decode cX7_bettered 185 = .ok (.ifCond .eq 9, 3) := by decide +kernel
theorem dX7_bettered_188 : decode cX7_bettered 188 = .ok (.iconst 1, 1) := by decide +kernel
theorem dX7_bettered_189 : decode cX7_bettered 189 = .ok (.iload_n 2, 1) := by decide +kernel
theorem dX7_bettered_190 : decode cX7_bettered 190 = .ok (.ishl, 1) := by decide +kernel
theorem dX7_bettered_191 : decode cX7_bettered 191 = .ok (.goto 4, 3) := by decide +kernel
theorem dX7_bettered_194 : decode cX7_bettered 194 = .ok (.iconst 0, 1) := by decide +kernel
theorem dX7_bettered_195 : decode cX7_bettered 195 = .ok (.ior, 1) := by decide +kernel
theorem dX7_bettered_196 : decode cX7_bettered 196 = .ok (.istore_n 1, 1) := by decide +kernel
theorem dX7_bettered_197 : decode cX7_bettered 197 = .ok (.iinc 3 1, 3) := by decide +kernel
theorem dX7_bettered_200 : decode cX7_bettered 200 = .ok (.goto (-123), 3) := by decide +kernel
theorem dX7_bettered_203 : decode cX7_bettered 203 = .ok (.iinc 2 1, 3) := by decide +kernel
theorem dX7_bettered_206 : decode cX7_bettered 206 = .ok (.goto (-136), 3) := by decide +kernel
theorem dX7_bettered_209 : decode cX7_bettered 209 = .ok (.iload_n 1, 1) := by decide +kernel
theorem dX7_bettered_210 : decode cX7_bettered 210 = .ok (.ireturn, 1) := by decide +kernel
theorem dX7_rest_0 : decode cX7_rest 0 = .ok (.iload_n 1, 1) := by decide +kernel
theorem dX7_rest_1 : decode cX7_rest 1 = .ok (.invokestatic 183, 3) := by decide +kernel
theorem dX7_rest_4 : decode cX7_rest 4 = .ok (.ifCond .eq 23, 3) := by decide +kernel
theorem dX7_rest_7 : decode cX7_rest 7 = .ok (.iload_n 2, 1) := by decide +kernel
theorem dX7_rest_8 : decode cX7_rest 8 = .ok (.i2l, 1) := by decide +kernel
theorem dX7_rest_9 : decode cX7_rest 9 = .ok (.lconst 0, 1) := by decide +kernel
theorem dX7_rest_10 : decode cX7_rest 10 = .ok (.iconst 1, 1) := by decide +kernel
