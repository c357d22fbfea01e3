theorem dX7_rest_11 : decode cX7_rest 11 = .ok (.aload_n 0, 1) := by decide +kernel
theorem dX7_rest_12 : decode cX7_rest 12 = .ok (.getfield 17, 3) := by decide +kernel
theorem dX7_rest_15 : decode cX7_rest 15 = .ok (.iconst 0, 1) := by decide +kernel
theorem dX7_rest_16 : decode cX7_rest 16 = .ok (.iaload, 1) := by decide +kernel
theorem dX7_rest_17 : decode cX7_rest 17 = .ok (.ishl, 1) := by decide +kernel
theorem dX7_rest_18 : decode cX7_rest 18 = .ok (.iconst 1, 1) := by decide +kernel
theorem dX7_rest_19 : decode cX7_rest 19 = .ok (.isub, 1) := by decide +kernel
theorem dX7_rest_20 : decode cX7_rest 20 = .ok (.i2l, 1) := by decide +kernel
theorem dX7_rest_21 : decode cX7_rest 21 = .ok (.invokestatic 80, 3) := by decide +kernel
theorem dX7_rest_24 : decode cX7_rest 24 = .ok (.ifCond .ne 5, 3) := by decide +kernel
theorem dX7_rest_27 : decode cX7_rest 27 = .ok (.iconst (-1), 1) := by decide +kernel
theorem dX7_rest_28 : decode cX7_rest 28 = .ok (.ireturn, 1) := by decide +kernel
theorem dX7_rest_29 : decode cX7_rest 29 = .ok (.aload_n 0, 1) := by decide +kernel
theorem dX7_rest_30 : decode cX7_rest 30 = .ok (.iload_n 1, 1) := by decide +kernel
theorem dX7_rest_31 : decode cX7_rest 31 = .ok (.iload_n 2, 1) := by decide +kernel
theorem dX7_rest_32 : decode cX7_rest 32 = .ok (.sipush 399, 3) := by decide +kernel
theorem dX7_rest_35 : decode cX7_rest 35 = .ok (.aload_n 0, 1) := by decide +kernel
theorem dX7_rest_36 : decode cX7_rest 36 = .ok (.getfield 26, 3) := by decide +kernel
theorem dX7_rest_39 : decode cX7_rest 39 = .ok (.iconst 0, 1) := by decide +kernel
theorem dX7_rest_40 : decode cX7_rest 40 = .ok (.iaload, 1) := by decide +kernel
theorem dX7_rest_41 : decode cX7_rest 41 = .ok (.aload_n 0, 1) := by decide +kernel
theorem dX7_rest_42 : decode cX7_rest 42 = .ok (.getfield 26, 3) := by decide +kernel
theorem dX7_rest_45 : decode cX7_rest 45 = .ok (.iconst 1, 1) := by decide +kernel
theorem dX7_rest_46 : decode cX7_rest 46 = .ok (.iaload, 1) := by decide +kernel
theorem dX7_rest_47 : decode cX7_rest 47 = .ok (.invokevirtual 180, 3) := by decide +kernel
theorem dX7_rest_50 : decode cX7_rest 50 = .ok (.iconst 0, 1) := by decide +kernel
theorem dX7_rest_51 : decode cX7_rest 51 = .ok (.istore_n 3, 1) := by decide +kernel
theorem dX7_rest_52 : decode cX7_rest 52 = .ok (.iload_n 3, 1) := by decide +kernel
theorem dX7_rest_53 : decode cX7_rest 53 = .ok (.bipush 8, 2) := by decide +kernel
theorem dX7_rest_55 : decode cX7_rest 55 = .ok (.if_icmp .ge 21, 3) := by decide +kernel
theorem dX7_rest_58 : decode cX7_rest 58 = .ok (.aload_n 0, 1) := by decide +kernel
theorem dX7_rest_59 : decode cX7_rest 59 = .ok (.getfield 63, 3) := by decide +kernel
theorem dX7_rest_62 : decode cX7_rest 62 = .ok (.iload_n 3, 1) := by decide +kernel
theorem dX7_rest_63 : decode cX7_rest 63 = .ok (.aload_n 0, 1) := by decide +kernel
theorem dX7_rest_64 : decode cX7_rest 64 = .ok (.getfield 38, 3) := by decide +kernel
theorem dX7_rest_67 : decode cX7_rest 67 = .ok (.iload_n 3, 1) := by decide +kernel
theorem dX7_rest_68 : decode cX7_rest 68 = .ok (.iaload, 1) := by decide +kernel
theorem dX7_rest_69 : decode cX7_rest 69 = .ok (.iastore, 1) := by decide +kernel
theorem dX7_rest_70 : decode cX7_rest 70 = .ok (.iinc 3 1, 3) := by decide +kernel
theorem dX7_rest_73 : decode cX7_rest 73 = .ok (.goto (-21), 3) := by decide +kernel
theorem dX7_rest_76 : decode cX7_rest 76 = .ok (.iconst 0, 1) := by decide +kernel
theorem dX7_rest_77 : decode cX7_rest 77 = .ok (.istore_n 3, 1) := by decide +kernel
theorem dX7_rest_78 : decode cX7_rest 78 = .ok (.iload_n 3, 1) := by decide +kernel
theorem dX7_rest_79 : decode cX7_rest 79 = .ok (.aload_n 0, 1) := by decide +kernel
theorem dX7_rest_80 : decode cX7_rest 80 = .ok (.getfield 17, 3) := by decide +kernel
theorem dX7_rest_83 : decode cX7_rest 83 = .ok (.iconst 0, 1) := by decide +kernel
theorem dX7_rest_84 : decode cX7_rest 84 = .ok (.iaload, 1) := by decide +kernel
theorem dX7_rest_85 : decode cX7_rest 85 = .ok (.if_icmp .ge 51, 3) := by decide +kernel
theorem dX7_rest_88 : decode cX7_rest 88 = .ok (.aload_n 0, 1) := by decide +kernel
theorem dX7_rest_89 : decode cX7_rest 89 = .ok (.iload_n 1, 1) := by decide +kernel
theorem dX7_rest_90 : decode cX7_rest 90 = .ok (.iload_n 2, 1) := by decide +kernel
theorem dX7_rest_91 : decode cX7_rest 91 = .ok (.iconst 1, 1) := by decide +kernel
theorem dX7_rest_92 : decode cX7_rest 92 = .ok (.iload_n 3, 1) := by decide +kernel
theorem dX7_rest_93 : decode cX7_rest 93 = .ok (.ishl, 1) := by decide +kernel
theorem dX7_rest_94 : decode cX7_rest 94 = .ok (.ixor, 1) := by decide +kernel
theorem dX7_rest_95 : decode cX7_rest 95 = .ok (.sipush 399, 3) := by decide +kernel
theorem dX7_rest_98 : decode cX7_rest 98 = .ok (.aload_n 0, 1) := by decide +kernel
theorem dX7_rest_99 : decode cX7_rest 99 = .ok (.getfield 26, 3) := by decide +kernel
theorem dX7_rest_102 : decode cX7_rest 102 = .ok (.iconst 0, 1) := by decide +kernel
theorem dX7_rest_103 : decode cX7_rest 103 = .ok (.iaload, 1) := by decide +kernel
theorem dX7_rest_104 : decode cX7_rest 104 = .ok (.aload_n 0, 1) := by decide +kernel
theorem dX7_rest_105 : decode cX7_rest 105 = .ok (.getfield 26, 3) := by decide +kernel
theorem dX7_rest_108 : decode cX7_rest 108 = .ok (.iconst 1, 1) := by decide +kernel
theorem dX7_rest_109 : decode cX7_rest 109 = .ok (.iaload, 1) := by decide +kernel
theorem dX7_rest_110 : decode cX7_rest 110 = .ok (.invokevirtual 180, 3) := by decide +kernel
theorem dX7_rest_113 : decode cX7_rest 113 = .ok (.aload_n 0, 1) := by decide +kernel
theorem dX7_rest_114 : decode cX7_rest 114 = .ok (.getfield 38, 3) := by decide +kernel
theorem dX7_rest_117 : decode cX7_rest 117 = .ok (.iload_n 3, 1) := by decide +kernel
theorem dX7_rest_118 : decode cX7_rest 118 = .ok (.iaload, 1) := by decide +kernel
theorem dX7_rest_119 : decode cX7_rest 119 = .ok (.aload_n 0, 1) := by decide +kernel
theorem dX7_rest_120 : decode cX7_rest 120 = .ok (.getfield 63, 3) := by decide +kernel
theorem dX7_rest_123 : decode cX7_rest 123 = .ok (.iload_n 3, 1) := by decide +kernel
theorem dX7_rest_124 : decode cX7_rest 124 = .ok (.iaload, 1) := by decide +kernel
theorem dX7_rest_125 : decode cX7_rest 125 = .ok (.if_icmp .le 5, 3) := by decide +kernel
theorem dX7_rest_128 : decode cX7_rest 128 = .ok (.iconst 0, 1) := by decide +kernel
theorem dX7_rest_129 : decode cX7_rest 129 = .ok (.ireturn, 1) := by decide +kernel
theorem dX7_rest_130 : decode cX7_rest 130 = .ok (.iinc 3 1, 3) := by decide +kernel
theorem dX7_rest_133 : decode cX7_rest 133 = .ok (.goto (-55), 3) := by decide +kernel
theorem dX7_rest_136 : decode cX7_rest 136 = .ok (.iconst 1, 1) := by decide +kernel
theorem dX7_rest_137 : decode cX7_rest 137 = .ok (.ireturn, 1) := by decide +kernel
theorem dX7_rests_0 : decode cX7_rests 0 = .ok (.iload_n 1, 1) := by decide +kernel
theorem dX7_rests_1 : decode cX7_rests 1 = .ok (.invokestatic 183, 3) := by decide +kernel
theorem dX7_rests_4 : decode cX7_rests 4 = .ok (.ifCond .eq 15, 3) := by decide +kernel
theorem dX7_rests_7 : decode cX7_rests 7 = .ok (.iload_n 2, 1) := by decide +kernel
theorem dX7_rests_8 : decode cX7_rests 8 = .ok (.i2l, 1) := by decide +kernel
theorem dX7_rests_9 : decode cX7_rests 9 = .ok (.lconst 0, 1) := by decide +kernel
theorem dX7_rests_10 : decode cX7_rests 10 = .ok (.ldc2_w 198, 3) := by decide +kernel
theorem dX7_rests_13 : decode cX7_rests 13 = .ok (.invokestatic 80, 3) := by decide +kernel
theorem dX7_rests_16 : decode cX7_rests 16 = .ok (.ifCond .ne 5, 3) := by decide +kernel
theorem dX7_rests_19 : decode cX7_rests 19 = .ok (.iconst (-1), 1) := by decide +kernel
theorem dX7_rests_20 : decode cX7_rests 20 = .ok (.ireturn, 1) := by decide +kernel
theorem dX7_rests_21 : decode cX7_rests 21 = .ok (.iconst 1, 1) := by decide +kernel
theorem dX7_rests_22 : decode cX7_rests 22 = .ok (.aload_n 0, 1) := by decide +kernel
theorem dX7_rests_23 : decode cX7_rests 23 = .ok (.getfield 17, 3) := by decide +kernel
theorem dX7_rests_26 : decode cX7_rests 26 = .ok (.iconst 0, 1) := by decide +kernel
theorem dX7_rests_27 : decode cX7_rests 27 = .ok (.iaload, 1) := by decide +kernel
theorem dX7_rests_28 : decode cX7_rests 28 = .ok (.ishl, 1) := by decide +kernel
theorem dX7_rests_29 : decode cX7_rests 29 = .ok (.istore_n 3, 1) := by decide +kernel
theorem dX7_rests_30 : decode cX7_rests 30 = .ok (.iconst 0, 1) := by decide +kernel
theorem dX7_rests_31 : decode cX7_rests 31 = .ok (.istore 4, 2) := by decide +kernel
theorem dX7_rests_33 : decode cX7_rests 33 = .ok (.iload 4, 2) := by decide +kernel
theorem dX7_rests_35 : decode cX7_rests 35 = .ok (.iload_n 3, 1) := by decide +kernel
theorem dX7_rests_36 : decode cX7_rests 36 = .ok (.if_icmp .ge 67, 3) := by decide +kernel
theorem dX7_rests_39 : decode cX7_rests 39 = .ok (.aload_n 0, 1) := by decide +kernel
theorem dX7_rests_40 : decode cX7_rests 40 = .ok (.iload_n 1, 1) := by decide +kernel
theorem dX7_rests_41 : decode cX7_rests 41 = .ok (.iload 4, 2) := by decide +kernel
theorem dX7_rests_43 : decode cX7_rests 43 = .ok (.sipush 399, 3) := by decide +kernel
theorem dX7_rests_46 : decode cX7_rests 46 = .ok (.aload_n 0, 1) := by decide +kernel
theorem dX7_rests_47 : decode cX7_rests 47 = .ok (.getfield 26, 3) := by decide +kernel
theorem dX7_rests_50 : decode cX7_rests 50 = .ok (.iconst 0, 1) := by decide +kernel
theorem dX7_rests_51 : decode cX7_rests 51 = .ok (.iaload, 1) := by decide +kernel
theorem dX7_rests_52 : decode cX7_rests 52 = .ok (.aload_n 0, 1) := by decide +kernel
theorem dX7_rests_53 : decode cX7_rests 53 = .ok (.getfield 26, 3) := by decide +kernel
theorem dX7_rests_56 : decode cX7_rests 56 = .ok (.iconst 1, 1) := by decide +kernel
theorem dX7_rests_57 : decode cX7_rests 57 = .ok (.iaload, 1) := by decide +kernel
theorem dX7_rests_58 : decode cX7_rests 58 = .ok (.invokevirtual 180, 3) := by decide +kernel
theorem dX7_rests_61 : decode cX7_rests 61 = .ok (.iconst 0, 1) := by decide +kernel
theorem dX7_rests_62 : decode cX7_rests 62 = .ok (.istore 5, 2) := by decide +kernel
theorem dX7_rests_64 : decode cX7_rests 64 = .ok (.iload 5, 2) := by decide +kernel
theorem dX7_rests_66 : decode cX7_rests 66 = .ok (.bipush 8, 2) := by decide +kernel
theorem dX7_rests_68 : decode cX7_rests 68 = .ok (.if_icmp .ge 29, 3) := by decide +kernel
theorem dX7_rests_71 : decode cX7_rests 71 = .ok (.aload_n 0, 1) := by decide +kernel
theorem dX7_rests_72 : decode cX7_rests 72 = .ok (.getfield 63, 3) := by decide +kernel
theorem dX7_rests_75 : decode cX7_rests 75 = .ok (.bipush 8, 2) := by decide +kernel
theorem dX7_rests_77 : decode cX7_rests 77 = .ok (.iload 4, 2) := by decide +kernel
theorem dX7_rests_79 : decode cX7_rests 79 = .ok (.imul, 1) := by decide +kernel
theorem dX7_rests_80 : decode cX7_rests 80 = .ok (.iload 5, 2) := by decide +kernel
theorem dX7_rests_82 : decode cX7_rests 82 = .ok (.iadd, 1) := by decide +kernel
theorem dX7_rests_83 : decode cX7_rests 83 = .ok (.aload_n 0, 1) := by decide +kernel
theorem dX7_rests_84 : decode cX7_rests 84 = .ok (.getfield 38, 3) := by decide +kernel
theorem dX7_rests_87 : decode cX7_rests 87 = .ok (.iload 5, 2) := by decide +kernel
theorem dX7_rests_89 : decode cX7_rests 89 = .ok (.iaload, 1) := by decide +kernel
theorem dX7_rests_90 : decode cX7_rests 90 = .ok (.iastore, 1) := by decide +kernel
theorem dX7_rests_91 : decode cX7_rests 91 = .ok (.iinc 5 1, 3) := by decide +kernel
theorem dX7_rests_94 : decode cX7_rests 94 = .ok (.goto (-30), 3) := by decide +kernel
theorem dX7_rests_97 : decode cX7_rests 97 = .ok (.iinc 4 1, 3) := by decide +kernel
theorem dX7_rests_100 : decode cX7_rests 100 = .ok (.goto (-67), 3) := by decide +kernel
theorem dX7_rests_103 : decode cX7_rests 103 = .ok (.iconst 0, 1) := by decide +kernel
theorem dX7_rests_104 : decode cX7_rests 104 = .ok (.istore 4, 2) := by decide +kernel
theorem dX7_rests_106 : decode cX7_rests 106 = .ok (.bipush (-4), 2) := by decide +kernel
theorem dX7_rests_108 : decode cX7_rests 108 = .ok (.istore 5, 2) := by decide +kernel
theorem dX7_rests_110 : decode cX7_rests 110 = .ok (.bipush (-4), 2) := by decide +kernel
theorem dX7_rests_112 : decode cX7_rests 112 = .ok (.istore 6, 2) := by decide +kernel
theorem dX7_rests_114 : decode cX7_rests 114 = .ok (.iconst 0, 1) := by decide +kernel
theorem dX7_rests_115 : decode cX7_rests 115 = .ok (.istore 7, 2) := by decide +kernel
theorem dX7_rests_117 : decode cX7_rests 117 = .ok (.iload 7, 2) := by decide +kernel
theorem dX7_rests_119 : decode cX7_rests 119 = .ok (.iload_n 3, 1) := by decide +kernel
theorem dX7_rests_120 : decode cX7_rests 120 = .ok (.if_icmp .ge 126, 3) := by decide +kernel
theorem dX7_rests_123 : decode cX7_rests 123 = .ok (.iconst 1, 1) := by decide +kernel
theorem dX7_rests_124 : decode cX7_rests 124 = .ok (.istore 8, 2) := by decide +kernel
theorem dX7_rests_126 : decode cX7_rests 126 = .ok (.iconst 0, 1) := by decide +kernel
theorem dX7_rests_127 : decode cX7_rests 127 = .ok (.istore 9, 2) := by decide +kernel
theorem dX7_rests_129 : decode cX7_rests 129 = .ok (.iload 9, 2) := by decide +kernel
theorem dX7_rests_131 : decode cX7_rests 131 = .ok (.aload_n 0, 1) := by decide +kernel
theorem dX7_rests_132 : decode cX7_rests 132 = .ok (.getfield 17, 3) := by decide +kernel
theorem dX7_rests_135 : decode cX7_rests 135 = .ok (.iconst 0, 1) := by decide +kernel
theorem dX7_rests_136 : decode cX7_rests 136 = .ok (.iaload, 1) := by decide +kernel
theorem dX7_rests_137 : decode cX7_rests 137 = .ok (.if_icmp .ge 55, 3) := by decide +kernel
theorem dX7_rests_140 : decode cX7_rests 140 = .ok (.iload 8, 2) := by decide +kernel
theorem dX7_rests_142 : decode cX7_rests 142 = .ok (.ifCond .eq 41, 3) := by decide +kernel
theorem dX7_rests_145 : decode cX7_rests 145 = .ok (.aload_n 0, 1) := by decide +kernel
theorem dX7_rests_146 : decode cX7_rests 146 = .ok (.getfield 63, 3) := by decide +kernel
theorem dX7_rests_149 : decode cX7_rests 149 = .ok (.bipush 8, 2) := by decide +kernel
theorem dX7_rests_151 : decode cX7_rests 151 = .ok (.iload 7, 2) := by decide +kernel
theorem dX7_rests_153 : decode cX7_rests 153 = .ok (.iconst 1, 1) := by decide +kernel
theorem dX7_rests_154 : decode cX7_rests 154 = .ok (.iload 9, 2) := by decide +kernel
theorem dX7_rests_156 : decode cX7_rests 156 = .ok (.ishl, 1) := by decide +kernel
theorem dX7_rests_157 : decode cX7_rests 157 = .ok (.ixor, 1) := by decide +kernel
theorem dX7_rests_158 : decode cX7_rests 158 = .ok (.imul, 1) := by decide +kernel
theorem dX7_rests_159 : decode cX7_rests 159 = .ok (.iload 9, 2) := by decide +kernel
theorem dX7_rests_161 : decode cX7_rests 161 = .ok (.iadd, 1) := by decide +kernel
theorem dX7_rests_162 : decode cX7_rests 162 = .ok (.iaload, 1) := by decide +kernel
theorem dX7_rests_163 : decode cX7_rests 163 = .ok (.aload_n 0, 1) := by decide +kernel
theorem dX7_rests_164 : decode cX7_rests 164 = .ok (.getfield 63, 3) := by decide +kernel
theorem dX7_rests_167 : decode cX7_rests 167 = .ok (.bipush 8, 2) := by decide +kernel
theorem dX7_rests_169 : decode cX7_rests 169 = .ok (.iload 7, 2) := by decide +kernel
theorem dX7_rests_171 : decode cX7_rests 171 = .ok (.imul, 1) := by decide +kernel
theorem dX7_rests_172 : decode cX7_rests 172 = .ok (.iload 9, 2) := by decide +kernel
theorem dX7_rests_174 : decode cX7_rests 174 = .ok (.iadd, 1) := by decide +kernel
theorem dX7_rests_175 : decode cX7_rests 175 = .ok (.iaload, 1) := by decide +kernel
theorem dX7_rests_176 : decode cX7_rests 176 = .ok (.if_icmp .gt 7, 3) := by decide +kernel
theorem dX7_rests_179 : decode cX7_rests 179 = .ok (.iconst 1, 1) := by decide +kernel
theorem dX7_rests_180 : decode cX7_rests 180 = .ok (.goto 4, 3) := by decide +kernel
theorem dX7_rests_183 : decode cX7_rests 183 = .ok (.iconst 0, 1) := by decide +kernel
theorem dX7_rests_184 : decode cX7_rests 184 = .ok (.istore 8, 2) := by decide +kernel
theorem dX7_rests_186 : decode cX7_rests 186 = .ok (.iinc 9 1, 3) := by decide +kernel
theorem dX7_rests_189 : decode cX7_rests 189 = .ok (.goto (-60), 3) := by decide +kernel
theorem dX7_rests_192 : decode cX7_rests 192 = .ok (.iload 4, 2) := by decide +kernel
theorem dX7_rests_194 : decode cX7_rests 194 = .ok (.iload 8, 2) := by decide +kernel
theorem dX7_rests_196 : decode cX7_rests 196 = .ok (.ifCond .eq 7, 3) := by decide +kernel
theorem dX7_rests_199 : decode cX7_rests 199 = .ok (.iconst 1, 1) := by decide +kernel
theorem dX7_rests_200 : decode cX7_rests 200 = .ok (.goto 4, 3) := by decide +kernel
theorem dX7_rests_203 : decode cX7_rests 203 = .ok (.iconst 0, 1) := by decide +kernel
theorem dX7_rests_204 : decode cX7_rests 204 = .ok (.iadd, 1) := by decide +kernel
theorem dX7_rests_205 : decode cX7_rests 205 = .ok (.istore 4, 2) := by decide +kernel
theorem dX7_rests_207 : decode cX7_rests 207 = .ok (.iload 8, 2) := by decide +kernel
theorem dX7_rests_209 : decode cX7_rests 209 = .ok (.ifCond .eq 13, 3) := by decide +kernel
theorem dX7_rests_212 : decode cX7_rests 212 = .ok (.iload 5, 2) := by decide +kernel
theorem dX7_rests_214 : decode cX7_rests 214 = .ok (.ifCond .ge 8, 3) := by decide +kernel
theorem dX7_rests_217 : decode cX7_rests 217 = .ok (.iload 7, 2) := by decide +kernel
theorem dX7_rests_219 : decode cX7_rests 219 = .ok (.goto 5, 3) := by decide +kernel
theorem dX7_rests_222 : decode cX7_rests 222 = .ok (.iload 5, 2) := by decide +kernel
theorem dX7_rests_224 : decode cX7_rests 224 = .ok (.istore 5, 2) := by decide +kernel
theorem dX7_rests_226 : decode cX7_rests 226 = .ok (.iload 8, 2) := by decide +kernel
theorem dX7_rests_228 : decode cX7_rests 228 = .ok (.ifCond .eq 8, 3) := by decide +kernel
theorem dX7_rests_231 : decode cX7_rests 231 = .ok (.iload 7, 2) := by decide +kernel
theorem dX7_rests_233 : decode cX7_rests 233 = .ok (.goto 5, 3) := by decide +kernel
theorem dX7_rests_236 : decode cX7_rests 236 = .ok (.iload 6, 2) := by decide +kernel
theorem dX7_rests_238 : decode cX7_rests 238 = .ok (.istore 6, 2) := by decide +kernel
theorem dX7_rests_240 : decode cX7_rests 240 = .ok (.iinc 7 1, 3) := by decide +kernel
theorem dX7_rests_243 : decode cX7_rests 243 = .ok (.goto (-126), 3) := by decide +kernel
theorem dX7_rests_246 : decode cX7_rests 246 = .ok (.iload_n 2, 1) := by decide +kernel
theorem dX7_rests_247 : decode cX7_rests 247 = .ok (.ifCond .ne 8, 3) := by decide +kernel
theorem dX7_rests_250 : decode cX7_rests 250 = .ok (.iload 4, 2) := by decide +kernel
theorem dX7_rests_252 : decode cX7_rests 252 = .ok (.goto 15, 3) := by decide +kernel
theorem dX7_rests_255 : decode cX7_rests 255 = .ok (.iload_n 2, 1) := by decide +kernel
theorem dX7_rests_256 : decode cX7_rests 256 = .ok (.iconst 1, 1) := by decide +kernel
theorem dX7_rests_257 : decode cX7_rests 257 = .ok (.if_icmp .ne 8, 3) := by decide +kernel
theorem dX7_rests_260 : decode cX7_rests 260 = .ok (.iload 5, 2) := by decide +kernel
theorem dX7_rests_262 : decode cX7_rests 262 = .ok (.goto 5, 3) := by decide +kernel
theorem dX7_rests_265 : decode cX7_rests 265 = .ok (.iload 6, 2) := by decide +kernel
theorem dX7_rests_267 : decode cX7_rests 267 = .ok (.ireturn, 1) := by decide +kernel
theorem dX7_counted_0 : decode cX7_counted 0 = .ok (.iconst 0, 1) := by decide +kernel
theorem dX7_counted_1 : decode cX7_counted 1 = .ok (.istore_n 2, 1) := by decide +kernel
theorem dX7_counted_2 : decode cX7_counted 2 = .ok (.iconst 0, 1) := by decide +kernel
theorem dX7_counted_3 : decode cX7_counted 3 = .ok (.istore_n 3, 1) := by decide +kernel
theorem dX7_counted_4 : decode cX7_counted 4 = .ok (.iload_n 3, 1) := by decide +kernel
theorem dX7_counted_5 : decode cX7_counted 5 = .ok (.sipush 400, 3) := by decide +kernel
theorem dX7_counted_8 : decode cX7_counted 8 = .ok (.if_icmp .ge 19, 3) := by decide +kernel
theorem dX7_counted_11 : decode cX7_counted 11 = .ok (.iload_n 2, 1) := by decide +kernel
theorem dX7_counted_12 : decode cX7_counted 12 = .ok (.aload_n 0, 1) := by decide +kernel
theorem dX7_counted_13 : decode cX7_counted 13 = .ok (.getfield 60, 3) := by decide +kernel
theorem dX7_counted_16 : decode cX7_counted 16 = .ok (.iload_n 3, 1) := by decide +kernel
theorem dX7_counted_17 : decode cX7_counted 17 = .ok (.iaload, 1) := by decide +kernel
theorem dX7_counted_18 : decode cX7_counted 18 = .ok (.iadd, 1) := by decide +kernel
theorem dX7_counted_19 : decode cX7_counted 19 = .ok (.istore_n 2, 1) := by decide +kernel
theorem dX7_counted_20 : decode cX7_counted 20 = .ok (.iload_n 3, 1) := by decide +kernel
theorem dX7_counted_21 : decode cX7_counted 21 = .ok (.iload_n 1, 1) := by decide +kernel
theorem dX7_counted_22 : decode cX7_counted 22 = .ok (.iadd, 1) := by decide +kernel
theorem dX7_counted_23 : decode cX7_counted 23 = .ok (.istore_n 3, 1) := by decide +kernel
theorem dX7_counted_24 : decode cX7_counted 24 = .ok (.goto (-20), 3) := by decide +kernel
theorem dX7_counted_27 : decode cX7_counted 27 = .ok (.iload_n 1, 1) := by decide +kernel
theorem dX7_counted_28 : decode cX7_counted 28 = .ok (.iload_n 2, 1) := by decide +kernel
theorem dX7_counted_29 : decode cX7_counted 29 = .ok (.imul, 1) := by decide +kernel
theorem dX7_counted_30 : decode cX7_counted 30 = .ok (.ireturn, 1) := by decide +kernel
theorem dX7_rounds_0 : decode cX7_rounds 0 = .ok (.iload_n 1, 1) := by decide +kernel
theorem dX7_rounds_1 : decode cX7_rounds 1 = .ok (.invokestatic 183, 3) := by decide +kernel
theorem dX7_rounds_4 : decode cX7_rounds 4 = .ok (.ifCond .eq 15, 3) := by decide +kernel
theorem dX7_rounds_7 : decode cX7_rounds 7 = .ok (.iload_n 2, 1) := by decide +kernel
theorem dX7_rounds_8 : decode cX7_rounds 8 = .ok (.i2l, 1) := by decide +kernel
theorem dX7_rounds_9 : decode cX7_rounds 9 = .ok (.lconst 1, 1) := by decide +kernel
theorem dX7_rounds_10 : decode cX7_rounds 10 = .ok (.ldc2_w 200, 3) := by decide +kernel
theorem dX7_rounds_13 : decode cX7_rounds 13 = .ok (.invokestatic 80, 3) := by decide +kernel
theorem dX7_rounds_16 : decode cX7_rounds 16 = .ok (.ifCond .ne 5, 3) := by decide +kernel
theorem dX7_rounds_19 : decode cX7_rounds 19 = .ok (.iconst (-1), 1) := by decide +kernel
theorem dX7_rounds_20 : decode cX7_rounds 20 = .ok (.ireturn, 1) := by decide +kernel
theorem dX7_rounds_21 : decode cX7_rounds 21 = .ok (.aload_n 0, 1) := by decide +kernel
theorem dX7_rounds_22 : decode cX7_rounds 22 = .ok (.iload_n 1, 1) := by decide +kernel
theorem dX7_rounds_23 : decode cX7_rounds 23 = .ok (.invokevirtual 191, 3) := by decide +kernel
theorem dX7_rounds_26 : decode cX7_rounds 26 = .ok (.aload_n 0, 1) := by decide +kernel
theorem dX7_rounds_27 : decode cX7_rounds 27 = .ok (.iload_n 2, 1) := by decide +kernel
theorem dX7_rounds_28 : decode cX7_rounds 28 = .ok (.invokevirtual 202, 3) := by decide +kernel
theorem dX7_rounds_31 : decode cX7_rounds 31 = .ok (.ireturn, 1) := by decide +kernel
theorem dX7_often_0 : decode cX7_often 0 = .ok (.iload_n 1, 1) := by decide +kernel
theorem dX7_often_1 : decode cX7_often 1 = .ok (.invokestatic 183, 3) := by decide +kernel
theorem dX7_often_4 : decode cX7_often 4 = .ok (.ifCond .eq 15, 3) := by decide +kernel
theorem dX7_often_7 : decode cX7_often 7 = .ok (.iload_n 2, 1) := by decide +kernel
theorem dX7_often_8 : decode cX7_often 8 = .ok (.i2l, 1) := by decide +kernel
theorem dX7_often_9 : decode cX7_often 9 = .ok (.lconst 0, 1) := by decide +kernel
theorem dX7_often_10 : decode cX7_often 10 = .ok (.ldc2_w 205, 3) := by decide +kernel
theorem dX7_often_13 : decode cX7_often 13 = .ok (.invokestatic 80, 3) := by decide +kernel
theorem dX7_often_16 : decode cX7_often 16 = .ok (.ifCond .ne 5, 3) := by decide +kernel
theorem dX7_often_19 : decode cX7_often 19 = .ok (.iconst (-1), 1) := by decide +kernel
theorem dX7_often_20 : decode cX7_often 20 = .ok (.ireturn, 1) := by decide +kernel
theorem dX7_often_21 : decode cX7_often 21 = .ok (.aload_n 0, 1) := by decide +kernel
theorem dX7_often_22 : decode cX7_often 22 = .ok (.iload_n 1, 1) := by decide +kernel
theorem dX7_often_23 : decode cX7_often 23 = .ok (.invokevirtual 191, 3) := by decide +kernel
theorem dX7_often_26 : decode cX7_often 26 = .ok (.bipush (-4), 2) := by decide +kernel
theorem dX7_often_28 : decode cX7_often 28 = .ok (.istore_n 3, 1) := by decide +kernel
theorem dX7_often_29 : decode cX7_often 29 = .ok (.iconst 1, 1) := by decide +kernel
theorem dX7_often_30 : decode cX7_often 30 = .ok (.istore 4, 2) := by decide +kernel
theorem dX7_often_32 : decode cX7_often 32 = .ok (.iload 4, 2) := by decide +kernel
theorem dX7_often_34 : decode cX7_often 34 = .ok (.bipush 100, 2) := by decide +kernel
theorem dX7_often_36 : decode cX7_often 36 = .ok (.if_icmp .ge 39, 3) := by decide +kernel
theorem dX7_often_39 : decode cX7_often 39 = .ok (.aload_n 0, 1) := by decide +kernel
theorem dX7_often_40 : decode cX7_often 40 = .ok (.iload 4, 2) := by decide +kernel
theorem dX7_often_42 : decode cX7_often 42 = .ok (.invokevirtual 202, 3) := by decide +kernel
theorem dX7_often_45 : decode cX7_often 45 = .ok (.aload_n 0, 1) := by decide +kernel
theorem dX7_often_46 : decode cX7_often 46 = .ok (.getfield 170, 3) := by decide +kernel
theorem dX7_often_49 : decode cX7_often 49 = .ok (.isub, 1) := by decide +kernel
theorem dX7_often_50 : decode cX7_often 50 = .ok (.i2l, 1) := by decide +kernel
theorem dX7_often_51 : decode cX7_often 51 = .ok (.iload_n 2, 1) := by decide +kernel
theorem dX7_often_52 : decode cX7_often 52 = .ok (.ineg, 1) := by decide +kernel
theorem dX7_often_53 : decode cX7_often 53 = .ok (.i2l, 1) := by decide +kernel
theorem dX7_often_54 : decode cX7_often 54 = .ok (.iload_n 2, 1) := by decide +kernel
theorem dX7_often_55 : decode cX7_often 55 = .ok (.i2l, 1) := by decide +kernel
theorem dX7_often_56 : decode cX7_often 56 = .ok (.invokestatic 80, 3) := by decide +kernel
theorem dX7_often_59 : decode cX7_often 59 = .ok (.ifCond .eq 8, 3) := by decide +kernel
theorem dX7_often_62 : decode cX7_often 62 = .ok (.iload 4, 2) := by decide +kernel
theorem dX7_often_64 : decode cX7_often 64 = .ok (.goto 4, 3) := by decide +kernel
theorem dX7_often_67 : decode cX7_often 67 = .ok (.iload_n 3, 1) := by decide +kernel
theorem dX7_often_68 : decode cX7_often 68 = .ok (.istore_n 3, 1) := by decide +kernel
theorem dX7_often_69 : decode cX7_often 69 = .ok (.iinc 4 1, 3) := by decide +kernel
theorem dX7_often_72 : decode cX7_often 72 = .ok (.goto (-40), 3) := by decide +kernel
theorem dX7_often_75 : decode cX7_often 75 = .ok (.iload_n 3, 1) := by decide +kernel
theorem dX7_often_76 : decode cX7_often 76 = .ok (.ireturn, 1) := by decide +kernel
theorem dX7_porter_0 : decode cX7_porter 0 = .ok (.iload_n 1, 1) := by decide +kernel
theorem dX7_porter_1 : decode cX7_porter 1 = .ok (.i2l, 1) := by decide +kernel
theorem dX7_porter_2 : decode cX7_porter 2 = .ok (.lconst 0, 1) := by decide +kernel
theorem dX7_porter_3 : decode cX7_porter 3 = .ok (.ldc2_w 78, 3) := by decide +kernel
theorem dX7_porter_6 : decode cX7_porter 6 = .ok (.invokestatic 80, 3) := by decide +kernel
theorem dX7_porter_9 : decode cX7_porter 9 = .ok (.ifCond .ne 5, 3) := by decide +kernel
theorem dX7_porter_12 : decode cX7_porter 12 = .ok (.iconst (-1), 1) := by decide +kernel
theorem dX7_porter_13 : decode cX7_porter 13 = .ok (.ireturn, 1) := by decide +kernel
theorem dX7_porter_14 : decode cX7_porter 14 = .ok (.bipush 99, 2) := by decide +kernel
theorem dX7_porter_16 : decode cX7_porter 16 = .ok (.istore_n 2, 1) := by decide +kernel
theorem dX7_porter_17 : decode cX7_porter 17 = .ok (.iload_n 2, 1) := by decide +kernel
theorem dX7_porter_18 : decode cX7_porter 18 = .ok (.ifCond .le 41, 3) := by decide +kernel
theorem dX7_porter_21 : decode cX7_porter 21 = .ok (.aload_n 0, 1) := by decide +kernel
theorem dX7_porter_22 : decode cX7_porter 22 = .ok (.iconst 2, 1) := by decide +kernel
theorem dX7_porter_23 : decode cX7_porter 23 = .ok (.aload_n 0, 1) := by decide +kernel
theorem dX7_porter_24 : decode cX7_porter 24 = .ok (.getfield 113, 3) := by decide +kernel
theorem dX7_porter_27 : decode cX7_porter 27 = .ok (.sipush 399, 3) := by decide +kernel
theorem dX7_porter_30 : decode cX7_porter 30 = .ok (.aload_n 0, 1) := by decide +kernel
theorem dX7_porter_31 : decode cX7_porter 31 = .ok (.getfield 26, 3) := by decide +kernel
theorem dX7_porter_34 : decode cX7_porter 34 = .ok (.iconst 0, 1) := by decide +kernel
theorem dX7_porter_35 : decode cX7_porter 35 = .ok (.iaload, 1) := by decide +kernel
theorem dX7_porter_36 : decode cX7_porter 36 = .ok (.iload_n 2, 1) := by decide +kernel
theorem dX7_porter_37 : decode cX7_porter 37 = .ok (.invokevirtual 180, 3) := by decide +kernel
theorem dX7_porter_40 : decode cX7_porter 40 = .ok (.aload_n 0, 1) := by decide +kernel
theorem dX7_porter_41 : decode cX7_porter 41 = .ok (.getfield 149, 3) := by decide +kernel
theorem dX7_porter_44 : decode cX7_porter 44 = .ok (.invokestatic 195, 3) := by decide +kernel
theorem dX7_porter_47 : decode cX7_porter 47 = .ok (.iload_n 1, 1) := by decide +kernel
theorem dX7_porter_48 : decode cX7_porter 48 = .ok (.if_icmp .gt 5, 3) := by decide +kernel
theorem dX7_porter_51 : decode cX7_porter 51 = .ok (.iload_n 2, 1) := by decide +kernel
theorem dX7_porter_52 : decode cX7_porter 52 = .ok (.ireturn, 1) := by decide +kernel
theorem dX7_porter_53 : decode cX7_porter 53 = .ok (.iinc 2 (-1), 3) := by decide +kernel
theorem dX7_porter_56 : decode cX7_porter 56 = .ok (.goto (-39), 3) := by decide +kernel
theorem dX7_porter_59 : decode cX7_porter 59 = .ok (.bipush (-4), 2) := by decide +kernel
theorem dX7_porter_61 : decode cX7_porter 61 = .ok (.ireturn, 1) := by decide +kernel
theorem dX7_card_0 : decode cX7_card 0 = .ok (.iload_n 1, 1) := by decide +kernel
theorem dX7_card_1 : decode cX7_card 1 = .ok (.i2l, 1) := by decide +kernel
theorem dX7_card_2 : decode cX7_card 2 = .ok (.lconst 0, 1) := by decide +kernel
theorem dX7_card_3 : decode cX7_card 3 = .ok (.ldc2_w 78, 3) := by decide +kernel
theorem dX7_card_6 : decode cX7_card 6 = .ok (.invokestatic 80, 3) := by decide +kernel
theorem dX7_card_9 : decode cX7_card 9 = .ok (.ifCond .ne 5, 3) := by decide +kernel
theorem dX7_card_12 : decode cX7_card 12 = .ok (.iconst (-1), 1) := by decide +kernel
theorem dX7_card_13 : decode cX7_card 13 = .ok (.ireturn, 1) := by decide +kernel
theorem dX7_card_14 : decode cX7_card 14 = .ok (.bipush 99, 2) := by decide +kernel
theorem dX7_card_16 : decode cX7_card 16 = .ok (.istore_n 2, 1) := by decide +kernel
theorem dX7_card_17 : decode cX7_card 17 = .ok (.iload_n 2, 1) := by decide +kernel
theorem dX7_card_18 : decode cX7_card 18 = .ok (.ifCond .le 41, 3) := by decide +kernel
theorem dX7_card_21 : decode cX7_card 21 = .ok (.aload_n 0, 1) := by decide +kernel
theorem dX7_card_22 : decode cX7_card 22 = .ok (.iconst 2, 1) := by decide +kernel
theorem dX7_card_23 : decode cX7_card 23 = .ok (.aload_n 0, 1) := by decide +kernel
theorem dX7_card_24 : decode cX7_card 24 = .ok (.getfield 113, 3) := by decide +kernel
theorem dX7_card_27 : decode cX7_card 27 = .ok (.sipush 399, 3) := by decide +kernel
theorem dX7_card_30 : decode cX7_card 30 = .ok (.iload_n 2, 1) := by decide +kernel
theorem dX7_card_31 : decode cX7_card 31 = .ok (.aload_n 0, 1) := by decide +kernel
theorem dX7_card_32 : decode cX7_card 32 = .ok (.getfield 26, 3) := by decide +kernel
theorem dX7_card_35 : decode cX7_card 35 = .ok (.iconst 1, 1) := by decide +kernel
theorem dX7_card_36 : decode cX7_card 36 = .ok (.iaload, 1) := by decide +kernel
theorem dX7_card_37 : decode cX7_card 37 = .ok (.invokevirtual 180, 3) := by decide +kernel
theorem dX7_card_40 : decode cX7_card 40 = .ok (.aload_n 0, 1) := by decide +kernel
theorem dX7_card_41 : decode cX7_card 41 = .ok (.getfield 149, 3) := by decide +kernel
theorem dX7_card_44 : decode cX7_card 44 = .ok (.invokestatic 195, 3) := by decide +kernel
theorem dX7_card_47 : decode cX7_card 47 = .ok (.iload_n 1, 1) := by decide +kernel
theorem dX7_card_48 : decode cX7_card 48 = .ok (.if_icmp .gt 5, 3) := by decide +kernel
theorem dX7_card_51 : decode cX7_card 51 = .ok (.iload_n 2, 1) := by decide +kernel
theorem dX7_card_52 : decode cX7_card 52 = .ok (.ireturn, 1) := by decide +kernel
theorem dX7_card_53 : decode cX7_card 53 = .ok (.iinc 2 (-1), 3) := by decide +kernel
theorem dX7_card_56 : decode cX7_card 56 = .ok (.goto (-39), 3) := by decide +kernel
theorem dX7_card_59 : decode cX7_card 59 = .ok (.bipush (-4), 2) := by decide +kernel
theorem dX7_card_61 : decode cX7_card 61 = .ok (.ireturn, 1) := by decide +kernel
theorem dX7_power_0 : decode cX7_power 0 = .ok (.lconst 1, 1) := by decide +kernel
theorem dX7_power_1 : decode cX7_power 1 = .ok (.lstore_n 2, 1) := by decide +kernel
theorem dX7_power_2 : decode cX7_power 2 = .ok (.iconst 0, 1) := by decide +kernel
theorem dX7_power_3 : decode cX7_power 3 = .ok (.istore 4, 2) := by decide +kernel
theorem dX7_power_5 : decode cX7_power 5 = .ok (.iload 4, 2) := by decide +kernel
theorem dX7_power_7 : decode cX7_power 7 = .ok (.iload_n 1, 1) := by decide +kernel
theorem dX7_power_8 : decode cX7_power 8 = .ok (.if_icmp .ge 14, 3) := by decide +kernel
theorem dX7_power_11 : decode cX7_power 11 = .ok (.lload_n 2, 1) := by decide +kernel
theorem dX7_power_12 : decode cX7_power 12 = .ok (.iload_n 0, 1) := by decide +kernel
theorem dX7_power_13 : decode cX7_power 13 = .ok (.i2l, 1) := by decide +kernel
theorem dX7_power_14 : decode cX7_power 14 = .ok (.lmul, 1) := by decide +kernel
theorem dX7_power_15 : decode cX7_power 15 = .ok (.lstore_n 2, 1) := by decide +kernel
theorem dX7_power_16 : decode cX7_power 16 = .ok (.iinc 4 1, 3) := by decide +kernel
theorem dX7_power_19 : decode cX7_power 19 = .ok (.goto (-14), 3) := by decide +kernel
theorem dX7_power_22 : decode cX7_power 22 = .ok (.lload_n 2, 1) := by decide +kernel
theorem dX7_power_23 : decode cX7_power 23 = .ok (.lreturn, 1) := by decide +kernel
theorem dX7_come_0 : decode cX7_come 0 = .ok (.lconst 0, 1) := by decide +kernel
theorem dX7_come_1 : decode cX7_come 1 = .ok (.lstore_n 3, 1) := by decide +kernel
theorem dX7_come_2 : decode cX7_come 2 = .ok (.lconst 1, 1) := by decide +kernel
theorem dX7_come_3 : decode cX7_come 3 = .ok (.lstore 5, 2) := by decide +kernel
theorem dX7_come_5 : decode cX7_come 5 = .ok (.iconst 0, 1) := by decide +kernel
theorem dX7_come_6 : decode cX7_come 6 = .ok (.istore 7, 2) := by decide +kernel
theorem dX7_come_8 : decode cX7_come 8 = .ok (.iload 7, 2) := by decide +kernel
theorem dX7_come_10 : decode cX7_come 10 = .ok (.iload_n 0, 1) := by decide +kernel
theorem dX7_come_11 : decode cX7_come 11 = .ok (.if_icmp .gt 59, 3) := by decide +kernel
theorem dX7_come_14 : decode cX7_come 14 = .ok (.lload_n 3, 1) := by decide +kernel
theorem dX7_come_15 : decode cX7_come 15 = .ok (.iload 7, 2) := by decide +kernel
theorem dX7_come_17 : decode cX7_come 17 = .ok (.iload_n 1, 1) := by decide +kernel
theorem dX7_come_18 : decode cX7_come 18 = .ok (.if_icmp .gt 27, 3) := by decide +kernel
theorem dX7_come_21 : decode cX7_come 21 = .ok (.lload 5, 2) := by decide +kernel
theorem dX7_come_23 : decode cX7_come 23 = .ok (.iload_n 2, 1) := by decide +kernel
theorem dX7_come_24 : decode cX7_come 24 = .ok (.iload 7, 2) := by decide +kernel
theorem dX7_come_26 : decode cX7_come 26 = .ok (.invokestatic 207, 3) := by decide +kernel
theorem dX7_come_29 : decode cX7_come 29 = .ok (.lmul, 1) := by decide +kernel
theorem dX7_come_30 : decode cX7_come 30 = .ok (.bipush 10, 2) := by decide +kernel
theorem dX7_come_32 : decode cX7_come 32 = .ok (.iload_n 2, 1) := by decide +kernel
theorem dX7_come_33 : decode cX7_come 33 = .ok (.isub, 1) := by decide +kernel
theorem dX7_come_34 : decode cX7_come 34 = .ok (.iload_n 0, 1) := by decide +kernel
theorem dX7_come_35 : decode cX7_come 35 = .ok (.iload 7, 2) := by decide +kernel
theorem dX7_come_37 : decode cX7_come 37 = .ok (.isub, 1) := by decide +kernel
theorem dX7_come_38 : decode cX7_come 38 = .ok (.invokestatic 207, 3) := by decide +kernel
theorem dX7_come_41 : decode cX7_come 41 = .ok (.lmul, 1) := by decide +kernel
theorem dX7_come_42 : decode cX7_come 42 = .ok (.goto 4, 3) := by decide +kernel
theorem dX7_come_45 : decode cX7_come 45 = .ok (.lconst 0, 1) := by decide +kernel
theorem dX7_come_46 : decode cX7_come 46 = .ok (.ladd, 1) := by decide +kernel
theorem dX7_come_47 : decode cX7_come 47 = .ok (.lstore_n 3, 1) := by decide +kernel
theorem dX7_come_48 : decode cX7_come 48 = .ok (.lload 5, 2) := by decide +kernel
theorem dX7_come_50 : decode cX7_come 50 = .ok (.iload_n 0, 1) := by decide +kernel
theorem dX7_come_51 : decode cX7_come 51 = .ok (.iload 7, 2) := by decide +kernel
theorem dX7_come_53 : decode cX7_come 53 = .ok (.isub, 1) := by decide +kernel
theorem dX7_come_54 : decode cX7_come 54 = .ok (.i2l, 1) := by decide +kernel
theorem dX7_come_55 : decode cX7_come 55 = .ok (.lmul, 1) := by decide +kernel
theorem dX7_come_56 : decode cX7_come 56 = .ok (.iload 7, 2) := by decide +kernel
theorem dX7_come_58 : decode cX7_come 58 = .ok (.iconst 1, 1) := by decide +kernel
theorem dX7_come_59 : decode cX7_come 59 = .ok (.iadd, 1) := by decide +kernel
theorem dX7_come_60 : decode cX7_come 60 = .ok (.i2l, 1) := by decide +kernel
theorem dX7_come_61 : decode cX7_come 61 = .ok (.ldiv, 1) := by decide +kernel
theorem dX7_come_62 : decode cX7_come 62 = .ok (.lstore 5, 2) := by decide +kernel
theorem dX7_come_64 : decode cX7_come 64 = .ok (.iinc 7 1, 3) := by decide +kernel
theorem dX7_come_67 : decode cX7_come 67 = .ok (.goto (-59), 3) := by decide +kernel
theorem dX7_come_70 : decode cX7_come 70 = .ok (.lload_n 3, 1) := by decide +kernel
theorem dX7_come_71 : decode cX7_come 71 = .ok (.lreturn, 1) := by decide +kernel
theorem dX7_lowest_0 : decode cX7_lowest 0 = .ok (.lload_n 1, 1) := by decide +kernel
theorem dX7_lowest_1 : decode cX7_lowest 1 = .ok (.lstore 5, 2) := by decide +kernel
theorem dX7_lowest_3 : decode cX7_lowest 3 = .ok (.lload_n 3, 1) := by decide +kernel
theorem dX7_lowest_4 : decode cX7_lowest 4 = .ok (.lstore 7, 2) := by decide +kernel
theorem dX7_lowest_6 : decode cX7_lowest 6 = .ok (.lload 7, 2) := by decide +kernel
theorem dX7_lowest_8 : decode cX7_lowest 8 = .ok (.lconst 0, 1) := by decide +kernel
theorem dX7_lowest_9 : decode cX7_lowest 9 = .ok (.lcmp, 1) := by decide +kernel
theorem dX7_lowest_10 : decode cX7_lowest 10 = .ok (.ifCond .eq 21, 3) := by decide +kernel
theorem dX7_lowest_13 : decode cX7_lowest 13 = .ok (.lload 5, 2) := by decide +kernel
theorem dX7_lowest_15 : decode cX7_lowest 15 = .ok (.lload 7, 2) := by decide +kernel
theorem dX7_lowest_17 : decode cX7_lowest 17 = .ok (.lrem, 1) := by decide +kernel
theorem dX7_lowest_18 : decode cX7_lowest 18 = .ok (.lstore 9, 2) := by decide +kernel
theorem dX7_lowest_20 : decode cX7_lowest 20 = .ok (.lload 7, 2) := by decide +kernel
theorem dX7_lowest_22 : decode cX7_lowest 22 = .ok (.lstore 5, 2) := by decide +kernel
theorem dX7_lowest_24 : decode cX7_lowest 24 = .ok (.lload 9, 2) := by decide +kernel
theorem dX7_lowest_26 : decode cX7_lowest 26 = .ok (.lstore 7, 2) := by decide +kernel
theorem dX7_lowest_28 : decode cX7_lowest 28 = .ok (.goto (-22), 3) := by decide +kernel
theorem dX7_lowest_31 : decode cX7_lowest 31 = .ok (.aload_n 0, 1) := by decide +kernel
theorem dX7_lowest_32 : decode cX7_lowest 32 = .ok (.lload_n 1, 1) := by decide +kernel
theorem dX7_lowest_33 : decode cX7_lowest 33 = .ok (.lload 5, 2) := by decide +kernel
theorem dX7_lowest_35 : decode cX7_lowest 35 = .ok (.ldiv, 1) := by decide +kernel
theorem dX7_lowest_36 : decode cX7_lowest 36 = .ok (.putfield 211, 3) := by decide +kernel
theorem dX7_lowest_39 : decode cX7_lowest 39 = .ok (.aload_n 0, 1) := by decide +kernel
theorem dX7_lowest_40 : decode cX7_lowest 40 = .ok (.lload_n 3, 1) := by decide +kernel
theorem dX7_lowest_41 : decode cX7_lowest 41 = .ok (.lload 5, 2) := by decide +kernel
theorem dX7_lowest_43 : decode cX7_lowest 43 = .ok (.ldiv, 1) := by decide +kernel
theorem dX7_lowest_44 : decode cX7_lowest 44 = .ok (.putfield 215, 3) := by decide +kernel
theorem dX7_lowest_47 : decode cX7_lowest 47 = .ok (.return_, 1) := by decide +kernel
theorem dX7_booked_0 : decode cX7_booked 0 = .ok (.iload_n 1, 1) := by decide +kernel
theorem dX7_booked_1 : decode cX7_booked 1 = .ok (.i2l, 1) := by decide +kernel
theorem dX7_booked_2 : decode cX7_booked 2 = .ok (.lconst 1, 1) := by decide +kernel
theorem dX7_booked_3 : decode cX7_booked 3 = .ok (.ldc2_w 218, 3) := by decide +kernel
theorem dX7_booked_6 : decode cX7_booked 6 = .ok (.invokestatic 80, 3) := by decide +kernel
theorem dX7_booked_9 : decode cX7_booked 9 = .ok (.ifCond .eq 38, 3) := by decide +kernel
theorem dX7_booked_12 : decode cX7_booked 12 = .ok (.iload_n 2, 1) := by decide +kernel
theorem dX7_booked_13 : decode cX7_booked 13 = .ok (.i2l, 1) := by decide +kernel
theorem dX7_booked_14 : decode cX7_booked 14 = .ok (.lconst 1, 1) := by decide +kernel
theorem dX7_booked_15 : decode cX7_booked 15 = .ok (.ldc2_w 218, 3) := by decide +kernel
theorem dX7_booked_18 : decode cX7_booked 18 = .ok (.invokestatic 80, 3) := by decide +kernel
theorem dX7_booked_21 : decode cX7_booked 21 = .ok (.ifCond .eq 26, 3) := by decide +kernel
theorem dX7_booked_24 : decode cX7_booked 24 = .ok (.iload_n 3, 1) := by decide +kernel
theorem dX7_booked_25 : decode cX7_booked 25 = .ok (.i2l, 1) := by decide +kernel
theorem dX7_booked_26 : decode cX7_booked 26 = .ok (.lconst 0, 1) := by decide +kernel
theorem dX7_booked_27 : decode cX7_booked 27 = .ok (.ldc2_w 220, 3) := by decide +kernel
theorem dX7_booked_30 : decode cX7_booked 30 = .ok (.invokestatic 80, 3) := by decide +kernel
theorem dX7_booked_33 : decode cX7_booked 33 = .ok (.ifCond .eq 14, 3) := by decide +kernel
theorem dX7_booked_36 : decode cX7_booked 36 = .ok (.iload 4, 2) := by decide +kernel
theorem dX7_booked_38 : decode cX7_booked 38 = .ok (.i2l, 1) := by decide +kernel
theorem dX7_booked_39 : decode cX7_booked 39 = .ok (.lconst 0, 1) := by decide +kernel
theorem dX7_booked_40 : decode cX7_booked 40 = .ok (.lconst 1, 1) := by decide +kernel
theorem dX7_booked_41 : decode cX7_booked 41 = .ok (.invokestatic 80, 3) := by decide +kernel
theorem dX7_booked_44 : decode cX7_booked 44 = .ok (.ifCond .ne 7, 3) := by decide +kernel
theorem dX7_booked_47 : decode cX7_booked 47 = .ok (.ldc2_w 222, 3) := by decide +kernel
theorem dX7_booked_50 : decode cX7_booked 50 = .ok (.lreturn, 1) := by decide +kernel
theorem dX7_booked_51 : decode cX7_booked 51 = .ok (.aload_n 0, 1) := by decide +kernel
theorem dX7_booked_52 : decode cX7_booked 52 = .ok (.iload_n 1, 1) := by decide +kernel
theorem dX7_booked_53 : decode cX7_booked 53 = .ok (.iload_n 2, 1) := by decide +kernel
theorem dX7_booked_54 : decode cX7_booked 54 = .ok (.iload_n 3, 1) := by decide +kernel
theorem dX7_booked_55 : decode cX7_booked 55 = .ok (.invokestatic 224, 3) := by decide +kernel
theorem dX7_booked_58 : decode cX7_booked 58 = .ok (.bipush 10, 2) := by decide +kernel
theorem dX7_booked_60 : decode cX7_booked 60 = .ok (.iload_n 1, 1) := by decide +kernel
theorem dX7_booked_61 : decode cX7_booked 61 = .ok (.invokestatic 207, 3) := by decide +kernel
theorem dX7_booked_64 : decode cX7_booked 64 = .ok (.invokevirtual 228, 3) := by decide +kernel
theorem dX7_booked_67 : decode cX7_booked 67 = .ok (.iload 4, 2) := by decide +kernel
theorem dX7_booked_69 : decode cX7_booked 69 = .ok (.ifCond .ne 10, 3) := by decide +kernel
theorem dX7_booked_72 : decode cX7_booked 72 = .ok (.aload_n 0, 1) := by decide +kernel
theorem dX7_booked_73 : decode cX7_booked 73 = .ok (.getfield 211, 3) := by decide +kernel
theorem dX7_booked_76 : decode cX7_booked 76 = .ok (.goto 7, 3) := by decide +kernel
theorem dX7_booked_79 : decode cX7_booked 79 = .ok (.aload_n 0, 1) := by decide +kernel
theorem dX7_booked_80 : decode cX7_booked 80 = .ok (.getfield 215, 3) := by decide +kernel
theorem dX7_booked_83 : decode cX7_booked 83 = .ok (.lreturn, 1) := by decide +kernel
theorem dX7_over_0 : decode cX7_over 0 = .ok (.iload_n 1, 1) := by decide +kernel
theorem dX7_over_1 : decode cX7_over 1 = .ok (.i2l, 1) := by decide +kernel
theorem dX7_over_2 : decode cX7_over 2 = .ok (.lconst 1, 1) := by decide +kernel
theorem dX7_over_3 : decode cX7_over 3 = .ok (.ldc2_w 218, 3) := by decide +kernel
theorem dX7_over_6 : decode cX7_over 6 = .ok (.invokestatic 80, 3) := by decide +kernel
theorem dX7_over_9 : decode cX7_over 9 = .ok (.ifCond .eq 27, 3) := by decide +kernel
theorem dX7_over_12 : decode cX7_over 12 = .ok (.iload_n 2, 1) := by decide +kernel
theorem dX7_over_13 : decode cX7_over 13 = .ok (.i2l, 1) := by decide +kernel
theorem dX7_over_14 : decode cX7_over 14 = .ok (.lconst 0, 1) := by decide +kernel
theorem dX7_over_15 : decode cX7_over 15 = .ok (.ldc2_w 220, 3) := by decide +kernel
theorem dX7_over_18 : decode cX7_over 18 = .ok (.invokestatic 80, 3) := by decide +kernel
theorem dX7_over_21 : decode cX7_over 21 = .ok (.ifCond .eq 15, 3) := by decide +kernel
theorem dX7_over_24 : decode cX7_over 24 = .ok (.iload_n 3, 1) := by decide +kernel
theorem dX7_over_25 : decode cX7_over 25 = .ok (.i2l, 1) := by decide +kernel
theorem dX7_over_26 : decode cX7_over 26 = .ok (.lconst 0, 1) := by decide +kernel
theorem dX7_over_27 : decode cX7_over 27 = .ok (.ldc2_w 232, 3) := by decide +kernel
theorem dX7_over_30 : decode cX7_over 30 = .ok (.invokestatic 80, 3) := by decide +kernel
theorem dX7_over_33 : decode cX7_over 33 = .ok (.ifCond .ne 5, 3) := by decide +kernel
theorem dX7_over_36 : decode cX7_over 36 = .ok (.iconst (-1), 1) := by decide +kernel
theorem dX7_over_37 : decode cX7_over 37 = .ok (.ireturn, 1) := by decide +kernel
theorem dX7_over_38 : decode cX7_over 38 = .ok (.iload_n 1, 1) := by decide +kernel
theorem dX7_over_39 : decode cX7_over 39 = .ok (.istore 4, 2) := by decide +kernel
theorem dX7_over_41 : decode cX7_over 41 = .ok (.iload_n 1, 1) := by decide +kernel
theorem dX7_over_42 : decode cX7_over 42 = .ok (.istore 5, 2) := by decide +kernel
theorem dX7_over_44 : decode cX7_over 44 = .ok (.iload 5, 2) := by decide +kernel
theorem dX7_over_46 : decode cX7_over 46 = .ok (.bipush 15, 2) := by decide +kernel
theorem dX7_over_48 : decode cX7_over 48 = .ok (.if_icmp .ge 43, 3) := by decide +kernel
theorem dX7_over_51 : decode cX7_over 51 = .ok (.ldc2_w 232, 3) := by decide +kernel
theorem dX7_over_54 : decode cX7_over 54 = .ok (.iload 5, 2) := by decide +kernel
theorem dX7_over_56 : decode cX7_over 56 = .ok (.iload_n 1, 1) := by decide +kernel
theorem dX7_over_57 : decode cX7_over 57 = .ok (.iload_n 2, 1) := by decide +kernel
theorem dX7_over_58 : decode cX7_over 58 = .ok (.invokestatic 224, 3) := by decide +kernel
theorem dX7_over_61 : decode cX7_over 61 = .ok (.lmul, 1) := by decide +kernel
theorem dX7_over_62 : decode cX7_over 62 = .ok (.iload_n 3, 1) := by decide +kernel
theorem dX7_over_63 : decode cX7_over 63 = .ok (.i2l, 1) := by decide +kernel
theorem dX7_over_64 : decode cX7_over 64 = .ok (.bipush 10, 2) := by decide +kernel
theorem dX7_over_66 : decode cX7_over 66 = .ok (.iload 5, 2) := by decide +kernel
theorem dX7_over_68 : decode cX7_over 68 = .ok (.invokestatic 207, 3) := by decide +kernel
theorem dX7_over_71 : decode cX7_over 71 = .ok (.lmul, 1) := by decide +kernel
theorem dX7_over_72 : decode cX7_over 72 = .ok (.lcmp, 1) := by decide +kernel
theorem dX7_over_73 : decode cX7_over 73 = .ok (.ifCond .lt 8, 3) := by decide +kernel
theorem dX7_over_76 : decode cX7_over 76 = .ok (.iload 5, 2) := by decide +kernel
theorem dX7_over_78 : decode cX7_over 78 = .ok (.goto 5, 3) := by decide +kernel
theorem dX7_over_81 : decode cX7_over 81 = .ok (.iload 4, 2) := by decide +kernel
theorem dX7_over_83 : decode cX7_over 83 = .ok (.istore 4, 2) := by decide +kernel
theorem dX7_over_85 : decode cX7_over 85 = .ok (.iinc 5 1, 3) := by decide +kernel
theorem dX7_over_88 : decode cX7_over 88 = .ok (.goto (-44), 3) := by decide +kernel
theorem dX7_over_91 : decode cX7_over 91 = .ok (.iload 4, 2) := by decide +kernel
theorem dX7_over_93 : decode cX7_over 93 = .ok (.ireturn, 1) := by decide +kernel
theorem dX7_dare_0 : decode cX7_dare 0 = .ok (.iload_n 1, 1) := by decide +kernel
theorem dX7_dare_1 : decode cX7_dare 1 = .ok (.i2l, 1) := by decide +kernel
theorem dX7_dare_2 : decode cX7_dare 2 = .ok (.lconst 0, 1) := by decide +kernel
theorem dX7_dare_3 : decode cX7_dare 3 = .ok (.ldc2_w 234, 3) := by decide +kernel
theorem dX7_dare_6 : decode cX7_dare 6 = .ok (.invokestatic 80, 3) := by decide +kernel
theorem dX7_dare_9 : decode cX7_dare 9 = .ok (.ifCond .eq 25, 3) := by decide +kernel
theorem dX7_dare_12 : decode cX7_dare 12 = .ok (.iload_n 2, 1) := by decide +kernel
theorem dX7_dare_13 : decode cX7_dare 13 = .ok (.i2l, 1) := by decide +kernel
theorem dX7_dare_14 : decode cX7_dare 14 = .ok (.lconst 1, 1) := by decide +kernel
theorem dX7_dare_15 : decode cX7_dare 15 = .ok (.ldc2_w 200, 3) := by decide +kernel
theorem dX7_dare_18 : decode cX7_dare 18 = .ok (.invokestatic 80, 3) := by decide +kernel
theorem dX7_dare_21 : decode cX7_dare 21 = .ok (.ifCond .eq 13, 3) := by decide +kernel
theorem dX7_dare_24 : decode cX7_dare 24 = .ok (.iload_n 3, 1) := by decide +kernel
theorem dX7_dare_25 : decode cX7_dare 25 = .ok (.i2l, 1) := by decide +kernel
theorem dX7_dare_26 : decode cX7_dare 26 = .ok (.lconst 0, 1) := by decide +kernel
theorem dX7_dare_27 : decode cX7_dare 27 = .ok (.lconst 1, 1) := by decide +kernel
theorem dX7_dare_28 : decode cX7_dare 28 = .ok (.invokestatic 80, 3) := by decide +kernel
theorem dX7_dare_31 : decode cX7_dare 31 = .ok (.ifCond .ne 5, 3) := by decide +kernel
theorem dX7_dare_34 : decode cX7_dare 34 = .ok (.iconst (-1), 1) := by decide +kernel
theorem dX7_dare_35 : decode cX7_dare 35 = .ok (.ireturn, 1) := by decide +kernel
theorem dX7_dare_36 : decode cX7_dare 36 = .ok (.iconst 0, 1) := by decide +kernel
theorem dX7_dare_37 : decode cX7_dare 37 = .ok (.istore 4, 2) := by decide +kernel
theorem dX7_dare_39 : decode cX7_dare 39 = .ok (.iconst 0, 1) := by decide +kernel
theorem dX7_dare_40 : decode cX7_dare 40 = .ok (.istore 5, 2) := by decide +kernel
theorem dX7_dare_42 : decode cX7_dare 42 = .ok (.iconst 0, 1) := by decide +kernel
theorem dX7_dare_43 : decode cX7_dare 43 = .ok (.istore 6, 2) := by decide +kernel
theorem dX7_dare_45 : decode cX7_dare 45 = .ok (.iload 6, 2) := by decide +kernel
theorem dX7_dare_47 : decode cX7_dare 47 = .ok (.aload_n 0, 1) := by decide +kernel
theorem dX7_dare_48 : decode cX7_dare 48 = .ok (.getfield 17, 3) := by decide +kernel
theorem dX7_dare_51 : decode cX7_dare 51 = .ok (.iconst 0, 1) := by decide +kernel
theorem dX7_dare_52 : decode cX7_dare 52 = .ok (.iaload, 1) := by decide +kernel
theorem dX7_dare_53 : decode cX7_dare 53 = .ok (.if_icmp .ge 87, 3) := by decide +kernel
theorem dX7_dare_56 : decode cX7_dare 56 = .ok (.aload_n 0, 1) := by decide +kernel
theorem dX7_dare_57 : decode cX7_dare 57 = .ok (.iload 6, 2) := by decide +kernel
theorem dX7_dare_59 : decode cX7_dare 59 = .ok (.iconst 2, 1) := by decide +kernel
theorem dX7_dare_60 : decode cX7_dare 60 = .ok (.invokevirtual 135, 3) := by decide +kernel
theorem dX7_dare_63 : decode cX7_dare 63 = .ok (.aload_n 0, 1) := by decide +kernel
theorem dX7_dare_64 : decode cX7_dare 64 = .ok (.iload 6, 2) := by decide +kernel
theorem dX7_dare_66 : decode cX7_dare 66 = .ok (.iconst 1, 1) := by decide +kernel
theorem dX7_dare_67 : decode cX7_dare 67 = .ok (.invokevirtual 135, 3) := by decide +kernel
theorem dX7_dare_70 : decode cX7_dare 70 = .ok (.if_icmp .ge 18, 3) := by decide +kernel
theorem dX7_dare_73 : decode cX7_dare 73 = .ok (.aload_n 0, 1) := by decide +kernel
theorem dX7_dare_74 : decode cX7_dare 74 = .ok (.iload 6, 2) := by decide +kernel
theorem dX7_dare_76 : decode cX7_dare 76 = .ok (.iconst 3, 1) := by decide +kernel
theorem dX7_dare_77 : decode cX7_dare 77 = .ok (.invokevirtual 135, 3) := by decide +kernel
theorem dX7_dare_80 : decode cX7_dare 80 = .ok (.iload_n 1, 1) := by decide +kernel
theorem dX7_dare_81 : decode cX7_dare 81 = .ok (.if_icmp .le 7, 3) := by decide +kernel
theorem dX7_dare_84 : decode cX7_dare 84 = .ok (.iconst 1, 1) := by decide +kernel
theorem dX7_dare_85 : decode cX7_dare 85 = .ok (.goto 4, 3) := by decide +kernel
theorem dX7_dare_88 : decode cX7_dare 88 = .ok (.iconst 0, 1) := by decide +kernel
theorem dX7_dare_89 : decode cX7_dare 89 = .ok (.istore 7, 2) := by decide +kernel
theorem dX7_dare_91 : decode cX7_dare 91 = .ok (.iload 4, 2) := by decide +kernel
theorem dX7_dare_93 : decode cX7_dare 93 = .ok (.iload 7, 2) := by decide +kernel
theorem dX7_dare_95 : decode cX7_dare 95 = .ok (.ifCond .eq 7, 3) := by decide +kernel
theorem dX7_dare_98 : decode cX7_dare 98 = .ok (.iconst 1, 1) := by decide +kernel
theorem dX7_dare_99 : decode cX7_dare 99 = .ok (.goto 4, 3) := by decide +kernel
theorem dX7_dare_102 : decode cX7_dare 102 = .ok (.iconst 0, 1) := by decide +kernel
theorem dX7_dare_103 : decode cX7_dare 103 = .ok (.iadd, 1) := by decide +kernel
theorem dX7_dare_104 : decode cX7_dare 104 = .ok (.istore 4, 2) := by decide +kernel
theorem dX7_dare_106 : decode cX7_dare 106 = .ok (.iload 5, 2) := by decide +kernel
theorem dX7_dare_108 : decode cX7_dare 108 = .ok (.iload 7, 2) := by decide +kernel
theorem dX7_dare_110 : decode cX7_dare 110 = .ok (.ifCond .eq 20, 3) := by decide +kernel
theorem dX7_dare_113 : decode cX7_dare 113 = .ok (.aload_n 0, 1) := by decide +kernel
theorem dX7_dare_114 : decode cX7_dare 114 = .ok (.iload 6, 2) := by decide +kernel
theorem dX7_dare_116 : decode cX7_dare 116 = .ok (.iconst 3, 1) := by decide +kernel
theorem dX7_dare_117 : decode cX7_dare 117 = .ok (.invokevirtual 135, 3) := by decide +kernel
theorem dX7_dare_120 : decode cX7_dare 120 = .ok (.iload_n 1, 1) := by decide +kernel
theorem dX7_dare_121 : decode cX7_dare 121 = .ok (.iload_n 2, 1) := by decide +kernel
theorem dX7_dare_122 : decode cX7_dare 122 = .ok (.iadd, 1) := by decide +kernel
theorem dX7_dare_123 : decode cX7_dare 123 = .ok (.if_icmp .gt 7, 3) := by decide +kernel
theorem dX7_dare_126 : decode cX7_dare 126 = .ok (.iconst 1, 1) := by decide +kernel
theorem dX7_dare_127 : decode cX7_dare 127 = .ok (.goto 4, 3) := by decide +kernel
theorem dX7_dare_130 : decode cX7_dare 130 = .ok (.iconst 0, 1) := by decide +kernel
theorem dX7_dare_131 : decode cX7_dare 131 = .ok (.iadd, 1) := by decide +kernel
theorem dX7_dare_132 : decode cX7_dare 132 = .ok (.istore 5, 2) := by decide +kernel
theorem dX7_dare_134 : decode cX7_dare 134 = .ok (.iinc 6 1, 3) := by decide +kernel
theorem dX7_dare_137 : decode cX7_dare 137 = .ok (.goto (-92), 3) := by decide +kernel
theorem dX7_dare_140 : decode cX7_dare 140 = .ok (.iload 4, 2) := by decide +kernel
theorem dX7_dare_142 : decode cX7_dare 142 = .ok (.ifCond .ne 8, 3) := by decide +kernel
theorem dX7_dare_145 : decode cX7_dare 145 = .ok (.bipush (-4), 2) := by decide +kernel
theorem dX7_dare_147 : decode cX7_dare 147 = .ok (.goto 14, 3) := by decide +kernel
theorem dX7_dare_150 : decode cX7_dare 150 = .ok (.iload_n 3, 1) := by decide +kernel
theorem dX7_dare_151 : decode cX7_dare 151 = .ok (.ifCond .ne 8, 3) := by decide +kernel
theorem dX7_dare_154 : decode cX7_dare 154 = .ok (.iload 5, 2) := by decide +kernel
theorem dX7_dare_156 : decode cX7_dare 156 = .ok (.goto 5, 3) := by decide +kernel
theorem dX7_dare_159 : decode cX7_dare 159 = .ok (.iload 4, 2) := by decide +kernel
theorem dX7_dare_161 : decode cX7_dare 161 = .ok (.ireturn, 1) := by decide +kernel
theorem dX7_drawnDay_0 : decode cX7_drawnDay 0 = .ok (.iconst 0, 1) := by decide +kernel
theorem dX7_drawnDay_1 : decode cX7_drawnDay 1 = .ok (.istore_n 3, 1) := by decide +kernel
theorem dX7_drawnDay_2 : decode cX7_drawnDay 2 = .ok (.iload_n 3, 1) := by decide +kernel
theorem dX7_drawnDay_3 : decode cX7_drawnDay 3 = .ok (.bipush 8, 2) := by decide +kernel
theorem dX7_drawnDay_5 : decode cX7_drawnDay 5 = .ok (.if_icmp .ge 52, 3) := by decide +kernel
theorem dX7_drawnDay_8 : decode cX7_drawnDay 8 = .ok (.ldc2_w 236, 3) := by decide +kernel
theorem dX7_drawnDay_11 : decode cX7_drawnDay 11 = .ok (.iload_n 1, 1) := by decide +kernel
theorem dX7_drawnDay_12 : decode cX7_drawnDay 12 = .ok (.i2l, 1) := by decide +kernel
theorem dX7_drawnDay_13 : decode cX7_drawnDay 13 = .ok (.lmul, 1) := by decide +kernel
theorem dX7_drawnDay_14 : decode cX7_drawnDay 14 = .ok (.ldc2_w 238, 3) := by decide +kernel
theorem dX7_drawnDay_17 : decode cX7_drawnDay 17 = .ok (.iload_n 3, 1) := by decide +kernel
theorem dX7_drawnDay_18 : decode cX7_drawnDay 18 = .ok (.i2l, 1) := by decide +kernel
theorem dX7_drawnDay_19 : decode cX7_drawnDay 19 = .ok (.lmul, 1) := by decide +kernel
theorem dX7_drawnDay_20 : decode cX7_drawnDay 20 = .ok (.ladd, 1) := by decide +kernel
theorem dX7_drawnDay_21 : decode cX7_drawnDay 21 = .ok (.lconst 1, 1) := by decide +kernel
theorem dX7_drawnDay_22 : decode cX7_drawnDay 22 = .ok (.ladd, 1) := by decide +kernel
theorem dX7_drawnDay_23 : decode cX7_drawnDay 23 = .ok (.lstore 4, 2) := by decide +kernel
theorem dX7_drawnDay_25 : decode cX7_drawnDay 25 = .ok (.aload_n 0, 1) := by decide +kernel
theorem dX7_drawnDay_26 : decode cX7_drawnDay 26 = .ok (.getfield 51, 3) := by decide +kernel
theorem dX7_drawnDay_29 : decode cX7_drawnDay 29 = .ok (.iload_n 3, 1) := by decide +kernel
theorem dX7_drawnDay_30 : decode cX7_drawnDay 30 = .ok (.lload 4, 2) := by decide +kernel
theorem dX7_drawnDay_32 : decode cX7_drawnDay 32 = .ok (.lload 4, 2) := by decide +kernel
theorem dX7_drawnDay_34 : decode cX7_drawnDay 34 = .ok (.lmul, 1) := by decide +kernel
theorem dX7_drawnDay_35 : decode cX7_drawnDay 35 = .ok (.ldc2_w 240, 3) := by decide +kernel
theorem dX7_drawnDay_38 : decode cX7_drawnDay 38 = .ok (.lrem, 1) := by decide +kernel
theorem dX7_drawnDay_39 : decode cX7_drawnDay 39 = .ok (.aload_n 0, 1) := by decide +kernel
theorem dX7_drawnDay_40 : decode cX7_drawnDay 40 = .ok (.getfield 26, 3) := by decide +kernel
theorem dX7_drawnDay_43 : decode cX7_drawnDay 43 = .ok (.iconst 4, 1) := by decide +kernel
theorem dX7_drawnDay_44 : decode cX7_drawnDay 44 = .ok (.iaload, 1) := by decide +kernel
theorem dX7_drawnDay_45 : decode cX7_drawnDay 45 = .ok (.iconst 1, 1) := by decide +kernel
theorem dX7_drawnDay_46 : decode cX7_drawnDay 46 = .ok (.iadd, 1) := by decide +kernel
theorem dX7_drawnDay_47 : decode cX7_drawnDay 47 = .ok (.i2l, 1) := by decide +kernel
theorem dX7_drawnDay_48 : decode cX7_drawnDay 48 = .ok (.lrem, 1) := by decide +kernel
theorem dX7_drawnDay_49 : decode cX7_drawnDay 49 = .ok (.l2i, 1) := by decide +kernel
theorem dX7_drawnDay_50 : decode cX7_drawnDay 50 = .ok (.iastore, 1) := by decide +kernel
theorem dX7_drawnDay_51 : decode cX7_drawnDay 51 = .ok (.iinc 3 1, 3) := by decide +kernel
theorem dX7_drawnDay_54 : decode cX7_drawnDay 54 = .ok (.goto (-52), 3) := by decide +kernel
theorem dX7_drawnDay_57 : decode cX7_drawnDay 57 = .ok (.aload_n 0, 1) := by decide +kernel
theorem dX7_drawnDay_58 : decode cX7_drawnDay 58 = .ok (.iload_n 2, 1) := by decide +kernel
theorem dX7_drawnDay_59 : decode cX7_drawnDay 59 = .ok (.aload_n 0, 1) := by decide +kernel
theorem dX7_drawnDay_60 : decode cX7_drawnDay 60 = .ok (.getfield 113, 3) := by decide +kernel
theorem dX7_drawnDay_63 : decode cX7_drawnDay 63 = .ok (.sipush 399, 3) := by decide +kernel
theorem dX7_drawnDay_66 : decode cX7_drawnDay 66 = .ok (.aload_n 0, 1) := by decide +kernel
theorem dX7_drawnDay_67 : decode cX7_drawnDay 67 = .ok (.getfield 26, 3) := by decide +kernel
theorem dX7_drawnDay_70 : decode cX7_drawnDay 70 = .ok (.iconst 0, 1) := by decide +kernel
theorem dX7_drawnDay_71 : decode cX7_drawnDay 71 = .ok (.iaload, 1) := by decide +kernel
theorem dX7_drawnDay_72 : decode cX7_drawnDay 72 = .ok (.aload_n 0, 1) := by decide +kernel
theorem dX7_drawnDay_73 : decode cX7_drawnDay 73 = .ok (.getfield 26, 3) := by decide +kernel
theorem dX7_drawnDay_76 : decode cX7_drawnDay 76 = .ok (.iconst 1, 1) := by decide +kernel
theorem dX7_drawnDay_77 : decode cX7_drawnDay 77 = .ok (.iaload, 1) := by decide +kernel
theorem dX7_drawnDay_78 : decode cX7_drawnDay 78 = .ok (.invokevirtual 173, 3) := by decide +kernel
theorem dX7_drawnDay_81 : decode cX7_drawnDay 81 = .ok (.aload_n 0, 1) := by decide +kernel
theorem dX7_drawnDay_82 : decode cX7_drawnDay 82 = .ok (.getfield 149, 3) := by decide +kernel
theorem dX7_drawnDay_85 : decode cX7_drawnDay 85 = .ok (.invokestatic 195, 3) := by decide +kernel
theorem dX7_drawnDay_88 : decode cX7_drawnDay 88 = .ok (.ireturn, 1) := by decide +kernel
theorem dX7_isSeed_0 : decode cX7_isSeed 0 = .ok (.iload_n 0, 1) := by decide +kernel
theorem dX7_isSeed_1 : decode cX7_isSeed 1 = .ok (.i2l, 1) := by decide +kernel
theorem dX7_isSeed_2 : decode cX7_isSeed 2 = .ok (.lconst 0, 1) := by decide +kernel
theorem dX7_isSeed_3 : decode cX7_isSeed 3 = .ok (.ldc2_w 205, 3) := by decide +kernel
theorem dX7_isSeed_6 : decode cX7_isSeed 6 = .ok (.invokestatic 80, 3) := by decide +kernel
theorem dX7_isSeed_9 : decode cX7_isSeed 9 = .ok (.ireturn, 1) := by decide +kernel
theorem dX7_drawn_0 : decode cX7_drawn 0 = .ok (.iload_n 1, 1) := by decide +kernel
theorem dX7_drawn_1 : decode cX7_drawn 1 = .ok (.invokestatic 242, 3) := by decide +kernel
theorem dX7_drawn_4 : decode cX7_drawn 4 = .ok (.ifCond .eq 19, 3) := by decide +kernel
theorem dX7_drawn_7 : decode cX7_drawn 7 = .ok (.iload_n 2, 1) := by decide +kernel
theorem dX7_drawn_8 : decode cX7_drawn 8 = .ok (.invokestatic 183, 3) := by decide +kernel
theorem dX7_drawn_11 : decode cX7_drawn 11 = .ok (.ifCond .eq 12, 3) := by decide +kernel
theorem dX7_drawn_14 : decode cX7_drawn 14 = .ok (.aload_n 0, 1) := by decide +kernel
theorem dX7_drawn_15 : decode cX7_drawn 15 = .ok (.iload_n 1, 1) := by decide +kernel
theorem dX7_drawn_16 : decode cX7_drawn 16 = .ok (.iload_n 2, 1) := by decide +kernel
theorem dX7_drawn_17 : decode cX7_drawn 17 = .ok (.invokevirtual 245, 3) := by decide +kernel
theorem dX7_drawn_20 : decode cX7_drawn 20 = .ok (.goto 4, 3) := by decide +kernel
theorem dX7_drawn_23 : decode cX7_drawn 23 = .ok (.iconst (-1), 1) := by decide +kernel
theorem dX7_drawn_24 : decode cX7_drawn 24 = .ok (.ireturn, 1) := by decide +kernel
theorem dX7_ten_0 : decode cX7_ten 0 = .ok (.iload_n 1, 1) := by decide +kernel
theorem dX7_ten_1 : decode cX7_ten 1 = .ok (.invokestatic 242, 3) := by decide +kernel
theorem dX7_ten_4 : decode cX7_ten 4 = .ok (.ifCond .eq 10, 3) := by decide +kernel
theorem dX7_ten_7 : decode cX7_ten 7 = .ok (.iload_n 2, 1) := by decide +kernel
theorem dX7_ten_8 : decode cX7_ten 8 = .ok (.invokestatic 183, 3) := by decide +kernel
theorem dX7_ten_11 : decode cX7_ten 11 = .ok (.ifCond .ne 5, 3) := by decide +kernel
theorem dX7_ten_14 : decode cX7_ten 14 = .ok (.iconst (-1), 1) := by decide +kernel
theorem dX7_ten_15 : decode cX7_ten 15 = .ok (.ireturn, 1) := by decide +kernel
theorem dX7_ten_16 : decode cX7_ten 16 = .ok (.iconst 0, 1) := by decide +kernel
theorem dX7_ten_17 : decode cX7_ten 17 = .ok (.istore_n 3, 1) := by decide +kernel
theorem dX7_ten_18 : decode cX7_ten 18 = .ok (.iconst 0, 1) := by decide +kernel
theorem dX7_ten_19 : decode cX7_ten 19 = .ok (.istore 4, 2) := by decide +kernel
theorem dX7_ten_21 : decode cX7_ten 21 = .ok (.iload 4, 2) := by decide +kernel
theorem dX7_ten_23 : decode cX7_ten 23 = .ok (.bipush 10, 2) := by decide +kernel
theorem dX7_ten_25 : decode cX7_ten 25 = .ok (.if_icmp .ge 33, 3) := by decide +kernel
theorem dX7_ten_28 : decode cX7_ten 28 = .ok (.iload_n 3, 1) := by decide +kernel
theorem dX7_ten_29 : decode cX7_ten 29 = .ok (.aload_n 0, 1) := by decide +kernel
theorem dX7_ten_30 : decode cX7_ten 30 = .ok (.iload_n 1, 1) := by decide +kernel
theorem dX7_ten_31 : decode cX7_ten 31 = .ok (.iload 4, 2) := by decide +kernel
theorem dX7_ten_33 : decode cX7_ten 33 = .ok (.iadd, 1) := by decide +kernel
theorem dX7_ten_34 : decode cX7_ten 34 = .ok (.sipush 10000, 3) := by decide +kernel
theorem dX7_ten_37 : decode cX7_ten 37 = .ok (.irem, 1) := by decide +kernel
theorem dX7_ten_38 : decode cX7_ten 38 = .ok (.iload_n 2, 1) := by decide +kernel
theorem dX7_ten_39 : decode cX7_ten 39 = .ok (.invokevirtual 245, 3) := by decide +kernel
theorem dX7_ten_42 : decode cX7_ten 42 = .ok (.ifCond .ne 7, 3) := by decide +kernel
theorem dX7_ten_45 : decode cX7_ten 45 = .ok (.iconst 1, 1) := by decide +kernel
theorem dX7_ten_46 : decode cX7_ten 46 = .ok (.goto 4, 3) := by decide +kernel
theorem dX7_ten_49 : decode cX7_ten 49 = .ok (.iconst 0, 1) := by decide +kernel
theorem dX7_ten_50 : decode cX7_ten 50 = .ok (.iadd, 1) := by decide +kernel
theorem dX7_ten_51 : decode cX7_ten 51 = .ok (.istore_n 3, 1) := by decide +kernel
theorem dX7_ten_52 : decode cX7_ten 52 = .ok (.iinc 4 1, 3) := by decide +kernel
theorem dX7_ten_55 : decode cX7_ten 55 = .ok (.goto (-34), 3) := by decide +kernel
theorem dX7_ten_58 : decode cX7_ten 58 = .ok (.iload_n 3, 1) := by decide +kernel
theorem dX7_ten_59 : decode cX7_ten 59 = .ok (.ireturn, 1) := by decide +kernel
theorem dX7_keep_0 : decode cX7_keep 0 = .ok (.aload_n 0, 1) := by decide +kernel
theorem dX7_keep_1 : decode cX7_keep 1 = .ok (.getfield 116, 3) := by decide +kernel
theorem dX7_keep_4 : decode cX7_keep 4 = .ok (.iconst 2, 1) := by decide +kernel
theorem dX7_keep_5 : decode cX7_keep 5 = .ok (.if_icmp .ne 6, 3) := by decide +kernel
theorem dX7_keep_8 : decode cX7_keep 8 = .ok (.bipush (-3), 2) := by decide +kernel
theorem dX7_keep_10 : decode cX7_keep 10 = .ok (.ireturn, 1) := by decide +kernel
theorem dX7_keep_11 : decode cX7_keep 11 = .ok (.aload_n 0, 1) := by decide +kernel
theorem dX7_keep_12 : decode cX7_keep 12 = .ok (.getfield 29, 3) := by decide +kernel
theorem dX7_keep_15 : decode cX7_keep 15 = .ok (.aload_n 0, 1) := by decide +kernel
theorem dX7_keep_16 : decode cX7_keep 16 = .ok (.getfield 116, 3) := by decide +kernel
theorem dX7_keep_19 : decode cX7_keep 19 = .ok (.aload_n 0, 1) := by decide +kernel
theorem dX7_keep_20 : decode cX7_keep 20 = .ok (.getfield 113, 3) := by decide +kernel
theorem dX7_keep_23 : decode cX7_keep 23 = .ok (.iastore, 1) := by decide +kernel
theorem dX7_keep_24 : decode cX7_keep 24 = .ok (.aload_n 0, 1) := by decide +kernel
theorem dX7_keep_25 : decode cX7_keep 25 = .ok (.dup, 1) := by decide +kernel
theorem dX7_keep_26 : decode cX7_keep 26 = .ok (.getfield 116, 3) := by decide +kernel
theorem dX7_keep_29 : decode cX7_keep 29 = .ok (.iconst 1, 1) := by decide +kernel
theorem dX7_keep_30 : decode cX7_keep 30 = .ok (.iadd, 1) := by decide +kernel
theorem dX7_keep_31 : decode cX7_keep 31 = .ok (.putfield 116, 3) := by decide +kernel
theorem dX7_keep_34 : decode cX7_keep 34 = .ok (.aload_n 0, 1) := by decide +kernel
theorem dX7_keep_35 : decode cX7_keep 35 = .ok (.getfield 116, 3) := by decide +kernel
theorem dX7_keep_38 : decode cX7_keep 38 = .ok (.ireturn, 1) := by decide +kernel
theorem dX7_back_0 : decode cX7_back 0 = .ok (.aload_n 0, 1) := by decide +kernel
theorem dX7_back_1 : decode cX7_back 1 = .ok (.getfield 116, 3) := by decide +kernel
theorem dX7_back_4 : decode cX7_back 4 = .ok (.ifCond .ne 6, 3) := by decide +kernel
theorem dX7_back_7 : decode cX7_back 7 = .ok (.bipush (-2), 2) := by decide +kernel
theorem dX7_back_9 : decode cX7_back 9 = .ok (.ireturn, 1) := by decide +kernel
theorem dX7_back_10 : decode cX7_back 10 = .ok (.aload_n 0, 1) := by decide +kernel
theorem dX7_back_11 : decode cX7_back 11 = .ok (.dup, 1) := by decide +kernel
theorem dX7_back_12 : decode cX7_back 12 = .ok (.getfield 116, 3) := by decide +kernel
theorem dX7_back_15 : decode cX7_back 15 = .ok (.iconst 1, 1) := by decide +kernel
theorem dX7_back_16 : decode cX7_back 16 = .ok (.isub, 1) := by decide +kernel
theorem dX7_back_17 : decode cX7_back 17 = .ok (.putfield 116, 3) := by decide +kernel
theorem dX7_back_20 : decode cX7_back 20 = .ok (.aload_n 0, 1) := by decide +kernel
theorem dX7_back_21 : decode cX7_back 21 = .ok (.aload_n 0, 1) := by decide +kernel
theorem dX7_back_22 : decode cX7_back 22 = .ok (.getfield 29, 3) := by decide +kernel
theorem dX7_back_25 : decode cX7_back 25 = .ok (.aload_n 0, 1) := by decide +kernel
theorem dX7_back_26 : decode cX7_back 26 = .ok (.getfield 116, 3) := by decide +kernel
theorem dX7_back_29 : decode cX7_back 29 = .ok (.iaload, 1) := by decide +kernel
theorem dX7_back_30 : decode cX7_back 30 = .ok (.putfield 113, 3) := by decide +kernel
theorem dX7_back_33 : decode cX7_back 33 = .ok (.aload_n 0, 1) := by decide +kernel
theorem dX7_back_34 : decode cX7_back 34 = .ok (.getfield 116, 3) := by decide +kernel
theorem dX7_back_37 : decode cX7_back 37 = .ok (.ireturn, 1) := by decide +kernel
theorem dX7_count_0 : decode cX7_count 0 = .ok (.iload_n 1, 1) := by decide +kernel
theorem dX7_count_1 : decode cX7_count 1 = .ok (.ifCond .ne 12, 3) := by decide +kernel
theorem dX7_count_4 : decode cX7_count 4 = .ok (.aload_n 0, 1) := by decide +kernel
theorem dX7_count_5 : decode cX7_count 5 = .ok (.getfield 13, 3) := by decide +kernel
theorem dX7_count_8 : decode cX7_count 8 = .ok (.iconst 0, 1) := by decide +kernel
theorem dX7_count_9 : decode cX7_count 9 = .ok (.iaload, 1) := by decide +kernel
theorem dX7_count_10 : decode cX7_count 10 = .ok (.goto 57, 3) := by decide +kernel
theorem dX7_count_13 : decode cX7_count 13 = .ok (.iload_n 1, 1) := by decide +kernel
theorem dX7_count_14 : decode cX7_count 14 = .ok (.iconst 1, 1) := by decide +kernel
theorem dX7_count_15 : decode cX7_count 15 = .ok (.if_icmp .ne 12, 3) := by decide +kernel
theorem dX7_count_18 : decode cX7_count 18 = .ok (.aload_n 0, 1) := by decide +kernel
theorem dX7_count_19 : decode cX7_count 19 = .ok (.getfield 17, 3) := by decide +kernel
theorem dX7_count_22 : decode cX7_count 22 = .ok (.iconst 0, 1) := by decide +kernel
theorem dX7_count_23 : decode cX7_count 23 = .ok (.iaload, 1) := by decide +kernel
theorem dX7_count_24 : decode cX7_count 24 = .ok (.goto 43, 3) := by decide +kernel
theorem dX7_count_27 : decode cX7_count 27 = .ok (.iload_n 1, 1) := by decide +kernel
theorem dX7_count_28 : decode cX7_count 28 = .ok (.iconst 2, 1) := by decide +kernel
theorem dX7_count_29 : decode cX7_count 29 = .ok (.if_icmp .ne 10, 3) := by decide +kernel
theorem dX7_count_32 : decode cX7_count 32 = .ok (.aload_n 0, 1) := by decide +kernel
theorem dX7_count_33 : decode cX7_count 33 = .ok (.getfield 84, 3) := by decide +kernel
theorem dX7_count_36 : decode cX7_count 36 = .ok (.goto 31, 3) := by decide +kernel
theorem dX7_count_39 : decode cX7_count 39 = .ok (.iload_n 1, 1) := by decide +kernel
theorem dX7_count_40 : decode cX7_count 40 = .ok (.iconst 3, 1) := by decide +kernel
theorem dX7_count_41 : decode cX7_count 41 = .ok (.if_icmp .ne 13, 3) := by decide +kernel
theorem dX7_count_44 : decode cX7_count 44 = .ok (.aload_n 0, 1) := by decide +kernel
theorem dX7_count_45 : decode cX7_count 45 = .ok (.getfield 113, 3) := by decide +kernel
theorem dX7_count_48 : decode cX7_count 48 = .ok (.invokestatic 195, 3) := by decide +kernel
theorem dX7_count_51 : decode cX7_count 51 = .ok (.goto 16, 3) := by decide +kernel
theorem dX7_count_54 : decode cX7_count 54 = .ok (.iload_n 1, 1) := by decide +kernel
theorem dX7_count_55 : decode cX7_count 55 = .ok (.iconst 4, 1) := by decide +kernel
theorem dX7_count_56 : decode cX7_count 56 = .ok (.if_icmp .ne 10, 3) := by decide +kernel
theorem dX7_count_59 : decode cX7_count 59 = .ok (.aload_n 0, 1) := by decide +kernel
theorem dX7_count_60 : decode cX7_count 60 = .ok (.getfield 116, 3) := by decide +kernel
theorem dX7_count_63 : decode cX7_count 63 = .ok (.goto 4, 3) := by decide +kernel
theorem dX7_count_66 : decode cX7_count 66 = .ok (.iconst (-1), 1) := by decide +kernel
theorem dX7_count_67 : decode cX7_count 67 = .ok (.ireturn, 1) := by decide +kernel
