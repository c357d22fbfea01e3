theorem dX7_init_0 : decode cX7_init 0 = .ok (.aload_n 0, 1) := by decide +kernel
theorem dX7_init_1 : decode cX7_init 1 = .ok (.invokespecial 1, 3) := by decide +kernel
theorem dX7_init_4 : decode cX7_init 4 = .ok (.aload_n 0, 1) := by decide +kernel
theorem dX7_init_5 : decode cX7_init 5 = .ok (.sipush 400, 3) := by decide +kernel
theorem dX7_init_8 : decode cX7_init 8 = .ok (.newarray .byte, 2) := by decide +kernel
theorem dX7_init_10 : decode cX7_init 10 = .ok (.putfield 7, 3) := by decide +kernel
theorem dX7_init_13 : decode cX7_init 13 = .ok (.aload_n 0, 1) := by decide +kernel
theorem dX7_init_14 : decode cX7_init 14 = .ok (.iconst 2, 1) := by decide +kernel
theorem dX7_init_15 : decode cX7_init 15 = .ok (.newarray .int, 2) := by decide +kernel
theorem dX7_init_17 : decode cX7_init 17 = .ok (.putfield 13, 3) := by decide +kernel
theorem dX7_init_20 : decode cX7_init 20 = .ok (.aload_n 0, 1) := by decide +kernel
theorem dX7_init_21 : decode cX7_init 21 = .ok (.iconst 2, 1) := by decide +kernel
theorem dX7_init_22 : decode cX7_init 22 = .ok (.newarray .int, 2) := by decide +kernel
theorem dX7_init_24 : decode cX7_init 24 = .ok (.putfield 17, 3) := by decide +kernel
theorem dX7_init_27 : decode cX7_init 27 = .ok (.aload_n 0, 1) := by decide +kernel
theorem dX7_init_28 : decode cX7_init 28 = .ok (.bipush 20, 2) := by decide +kernel
theorem dX7_init_30 : decode cX7_init 30 = .ok (.newarray .int, 2) := by decide +kernel
theorem dX7_init_32 : decode cX7_init 32 = .ok (.putfield 20, 3) := by decide +kernel
theorem dX7_init_35 : decode cX7_init 35 = .ok (.aload_n 0, 1) := by decide +kernel
theorem dX7_init_36 : decode cX7_init 36 = .ok (.bipush 112, 2) := by decide +kernel
theorem dX7_init_38 : decode cX7_init 38 = .ok (.newarray .int, 2) := by decide +kernel
theorem dX7_init_40 : decode cX7_init 40 = .ok (.putfield 23, 3) := by decide +kernel
theorem dX7_init_43 : decode cX7_init 43 = .ok (.aload_n 0, 1) := by decide +kernel
theorem dX7_init_44 : decode cX7_init 44 = .ok (.bipush 10, 2) := by decide +kernel
theorem dX7_init_46 : decode cX7_init 46 = .ok (.newarray .int, 2) := by decide +kernel
theorem dX7_init_48 : decode cX7_init 48 = .ok (.putfield 26, 3) := by decide +kernel
theorem dX7_init_51 : decode cX7_init 51 = .ok (.aload_n 0, 1) := by decide +kernel
theorem dX7_init_52 : decode cX7_init 52 = .ok (.iconst 2, 1) := by decide +kernel
theorem dX7_init_53 : decode cX7_init 53 = .ok (.newarray .int, 2) := by decide +kernel
theorem dX7_init_55 : decode cX7_init 55 = .ok (.putfield 29, 3) := by decide +kernel
theorem dX7_init_58 : decode cX7_init 58 = .ok (.aload_n 0, 1) := by decide +kernel
theorem dX7_init_59 : decode cX7_init 59 = .ok (.bipush 8, 2) := by decide +kernel
theorem dX7_init_61 : decode cX7_init 61 = .ok (.newarray .int, 2) := by decide +kernel
theorem dX7_init_63 : decode cX7_init 63 = .ok (.putfield 32, 3) := by decide +kernel
theorem dX7_init_66 : decode cX7_init 66 = .ok (.aload_n 0, 1) := by decide +kernel
theorem dX7_init_67 : decode cX7_init 67 = .ok (.bipush 8, 2) := by decide +kernel
theorem dX7_init_69 : decode cX7_init 69 = .ok (.newarray .int, 2) := by decide +kernel
theorem dX7_init_71 : decode cX7_init 71 = .ok (.putfield 35, 3) := by decide +kernel
theorem dX7_init_74 : decode cX7_init 74 = .ok (.aload_n 0, 1) := by decide +kernel
theorem dX7_init_75 : decode cX7_init 75 = .ok (.bipush 8, 2) := by decide +kernel
theorem dX7_init_77 : decode cX7_init 77 = .ok (.newarray .int, 2) := by decide +kernel
theorem dX7_init_79 : decode cX7_init 79 = .ok (.putfield 38, 3) := by decide +kernel
theorem dX7_init_82 : decode cX7_init 82 = .ok (.aload_n 0, 1) := by decide +kernel
theorem dX7_init_83 : decode cX7_init 83 = .ok (.bipush 8, 2) := by decide +kernel
theorem dX7_init_85 : decode cX7_init 85 = .ok (.newarray .int, 2) := by decide +kernel
theorem dX7_init_87 : decode cX7_init 87 = .ok (.putfield 41, 3) := by decide +kernel
theorem dX7_init_90 : decode cX7_init 90 = .ok (.aload_n 0, 1) := by decide +kernel
theorem dX7_init_91 : decode cX7_init 91 = .ok (.bipush 8, 2) := by decide +kernel
theorem dX7_init_93 : decode cX7_init 93 = .ok (.newarray .int, 2) := by decide +kernel
theorem dX7_init_95 : decode cX7_init 95 = .ok (.putfield 44, 3) := by decide +kernel
theorem dX7_init_98 : decode cX7_init 98 = .ok (.aload_n 0, 1) := by decide +kernel
theorem dX7_init_99 : decode cX7_init 99 = .ok (.bipush 8, 2) := by decide +kernel
theorem dX7_init_101 : decode cX7_init 101 = .ok (.newarray .boolean, 2) := by decide +kernel
theorem dX7_init_103 : decode cX7_init 103 = .ok (.putfield 47, 3) := by decide +kernel
theorem dX7_init_106 : decode cX7_init 106 = .ok (.aload_n 0, 1) := by decide +kernel
theorem dX7_init_107 : decode cX7_init 107 = .ok (.bipush 8, 2) := by decide +kernel
theorem dX7_init_109 : decode cX7_init 109 = .ok (.newarray .int, 2) := by decide +kernel
theorem dX7_init_111 : decode cX7_init 111 = .ok (.putfield 51, 3) := by decide +kernel
theorem dX7_init_114 : decode cX7_init 114 = .ok (.aload_n 0, 1) := by decide +kernel
theorem dX7_init_115 : decode cX7_init 115 = .ok (.bipush 10, 2) := by decide +kernel
theorem dX7_init_117 : decode cX7_init 117 = .ok (.newarray .int, 2) := by decide +kernel
theorem dX7_init_119 : decode cX7_init 119 = .ok (.putfield 54, 3) := by decide +kernel
theorem dX7_init_122 : decode cX7_init 122 = .ok (.aload_n 0, 1) := by decide +kernel
theorem dX7_init_123 : decode cX7_init 123 = .ok (.bipush 10, 2) := by decide +kernel
theorem dX7_init_125 : decode cX7_init 125 = .ok (.newarray .int, 2) := by decide +kernel
theorem dX7_init_127 : decode cX7_init 127 = .ok (.putfield 57, 3) := by decide +kernel
theorem dX7_init_130 : decode cX7_init 130 = .ok (.aload_n 0, 1) := by decide +kernel
theorem dX7_init_131 : decode cX7_init 131 = .ok (.sipush 400, 3) := by decide +kernel
theorem dX7_init_134 : decode cX7_init 134 = .ok (.newarray .int, 2) := by decide +kernel
theorem dX7_init_136 : decode cX7_init 136 = .ok (.putfield 60, 3) := by decide +kernel
theorem dX7_init_139 : decode cX7_init 139 = .ok (.aload_n 0, 1) := by decide +kernel
theorem dX7_init_140 : decode cX7_init 140 = .ok (.sipush 2048, 3) := by decide +kernel
theorem dX7_init_143 : decode cX7_init 143 = .ok (.newarray .int, 2) := by decide +kernel
theorem dX7_init_145 : decode cX7_init 145 = .ok (.putfield 63, 3) := by decide +kernel
theorem dX7_init_148 : decode cX7_init 148 = .ok (.aload_n 0, 1) := by decide +kernel
theorem dX7_init_149 : decode cX7_init 149 = .ok (.bipush 15, 2) := by decide +kernel
theorem dX7_init_151 : decode cX7_init 151 = .ok (.newarray .int, 2) := by decide +kernel
theorem dX7_init_153 : decode cX7_init 153 = .ok (.putfield 66, 3) := by decide +kernel
theorem dX7_init_156 : decode cX7_init 156 = .ok (.aload_n 0, 1) := by decide +kernel
theorem dX7_init_157 : decode cX7_init 157 = .ok (.bipush 7, 2) := by decide +kernel
theorem dX7_init_159 : decode cX7_init 159 = .ok (.newarray .int, 2) := by decide +kernel
theorem dX7_init_161 : decode cX7_init 161 = .ok (.putfield 69, 3) := by decide +kernel
theorem dX7_init_164 : decode cX7_init 164 = .ok (.aload_n 0, 1) := by decide +kernel
theorem dX7_init_165 : decode cX7_init 165 = .ok (.invokevirtual 72, 3) := by decide +kernel
theorem dX7_init_168 : decode cX7_init 168 = .ok (.aload_n 0, 1) := by decide +kernel
theorem dX7_init_169 : decode cX7_init 169 = .ok (.getfield 13, 3) := by decide +kernel
theorem dX7_init_172 : decode cX7_init 172 = .ok (.iconst 1, 1) := by decide +kernel
theorem dX7_init_173 : decode cX7_init 173 = .ok (.iconst 1, 1) := by decide +kernel
theorem dX7_init_174 : decode cX7_init 174 = .ok (.iastore, 1) := by decide +kernel
theorem dX7_init_175 : decode cX7_init 175 = .ok (.aload_n 0, 1) := by decide +kernel
theorem dX7_init_176 : decode cX7_init 176 = .ok (.getfield 17, 3) := by decide +kernel
theorem dX7_init_179 : decode cX7_init 179 = .ok (.iconst 1, 1) := by decide +kernel
theorem dX7_init_180 : decode cX7_init 180 = .ok (.iconst 1, 1) := by decide +kernel
theorem dX7_init_181 : decode cX7_init 181 = .ok (.iastore, 1) := by decide +kernel
theorem dX7_init_182 : decode cX7_init 182 = .ok (.aload_n 0, 1) := by decide +kernel
theorem dX7_init_183 : decode cX7_init 183 = .ok (.getfield 23, 3) := by decide +kernel
theorem dX7_init_186 : decode cX7_init 186 = .ok (.bipush 56, 2) := by decide +kernel
theorem dX7_init_188 : decode cX7_init 188 = .ok (.iconst 0, 1) := by decide +kernel
theorem dX7_init_189 : decode cX7_init 189 = .ok (.iastore, 1) := by decide +kernel
theorem dX7_init_190 : decode cX7_init 190 = .ok (.aload_n 0, 1) := by decide +kernel
theorem dX7_init_191 : decode cX7_init 191 = .ok (.getfield 23, 3) := by decide +kernel
theorem dX7_init_194 : decode cX7_init 194 = .ok (.bipush 57, 2) := by decide +kernel
theorem dX7_init_196 : decode cX7_init 196 = .ok (.bipush 60, 2) := by decide +kernel
theorem dX7_init_198 : decode cX7_init 198 = .ok (.iastore, 1) := by decide +kernel
theorem dX7_init_199 : decode cX7_init 199 = .ok (.aload_n 0, 1) := by decide +kernel
theorem dX7_init_200 : decode cX7_init 200 = .ok (.getfield 23, 3) := by decide +kernel
theorem dX7_init_203 : decode cX7_init 203 = .ok (.bipush 58, 2) := by decide +kernel
theorem dX7_init_205 : decode cX7_init 205 = .ok (.bipush 30, 2) := by decide +kernel
theorem dX7_init_207 : decode cX7_init 207 = .ok (.iastore, 1) := by decide +kernel
theorem dX7_init_208 : decode cX7_init 208 = .ok (.aload_n 0, 1) := by decide +kernel
theorem dX7_init_209 : decode cX7_init 209 = .ok (.getfield 23, 3) := by decide +kernel
theorem dX7_init_212 : decode cX7_init 212 = .ok (.bipush 59, 2) := by decide +kernel
theorem dX7_init_214 : decode cX7_init 214 = .ok (.bipush 10, 2) := by decide +kernel
theorem dX7_init_216 : decode cX7_init 216 = .ok (.iastore, 1) := by decide +kernel
theorem dX7_init_217 : decode cX7_init 217 = .ok (.aload_n 0, 1) := by decide +kernel
theorem dX7_init_218 : decode cX7_init 218 = .ok (.getfield 23, 3) := by decide +kernel
theorem dX7_init_221 : decode cX7_init 221 = .ok (.bipush 60, 2) := by decide +kernel
theorem dX7_init_223 : decode cX7_init 223 = .ok (.iconst 0, 1) := by decide +kernel
theorem dX7_init_224 : decode cX7_init 224 = .ok (.iastore, 1) := by decide +kernel
theorem dX7_init_225 : decode cX7_init 225 = .ok (.aload_n 0, 1) := by decide +kernel
theorem dX7_init_226 : decode cX7_init 226 = .ok (.getfield 23, 3) := by decide +kernel
theorem dX7_init_229 : decode cX7_init 229 = .ok (.bipush 61, 2) := by decide +kernel
theorem dX7_init_231 : decode cX7_init 231 = .ok (.iconst 5, 1) := by decide +kernel
theorem dX7_init_232 : decode cX7_init 232 = .ok (.iastore, 1) := by decide +kernel
theorem dX7_init_233 : decode cX7_init 233 = .ok (.aload_n 0, 1) := by decide +kernel
theorem dX7_init_234 : decode cX7_init 234 = .ok (.getfield 23, 3) := by decide +kernel
theorem dX7_init_237 : decode cX7_init 237 = .ok (.bipush 62, 2) := by decide +kernel
theorem dX7_init_239 : decode cX7_init 239 = .ok (.iconst 5, 1) := by decide +kernel
theorem dX7_init_240 : decode cX7_init 240 = .ok (.iastore, 1) := by decide +kernel
theorem dX7_init_241 : decode cX7_init 241 = .ok (.aload_n 0, 1) := by decide +kernel
theorem dX7_init_242 : decode cX7_init 242 = .ok (.invokevirtual 75, 3) := by decide +kernel
theorem dX7_init_245 : decode cX7_init 245 = .ok (.return_, 1) := by decide +kernel
theorem dX7_in_0 : decode cX7_in 0 = .ok (.lload_n 0, 1) := by decide +kernel
theorem dX7_in_1 : decode cX7_in 1 = .ok (.lload_n 2, 1) := by decide +kernel
theorem dX7_in_2 : decode cX7_in 2 = .ok (.lcmp, 1) := by decide +kernel
theorem dX7_in_3 : decode cX7_in 3 = .ok (.ifCond .lt 14, 3) := by decide +kernel
theorem dX7_in_6 : decode cX7_in 6 = .ok (.lload_n 0, 1) := by decide +kernel
theorem dX7_in_7 : decode cX7_in 7 = .ok (.lload 4, 2) := by decide +kernel
theorem dX7_in_9 : decode cX7_in 9 = .ok (.lcmp, 1) := by decide +kernel
theorem dX7_in_10 : decode cX7_in 10 = .ok (.ifCond .gt 7, 3) := by decide +kernel
theorem dX7_in_13 : decode cX7_in 13 = .ok (.iconst 1, 1) := by decide +kernel
theorem dX7_in_14 : decode cX7_in 14 = .ok (.goto 4, 3) := by decide +kernel
theorem dX7_in_17 : decode cX7_in 17 = .ok (.iconst 0, 1) := by decide +kernel
theorem dX7_in_18 : decode cX7_in 18 = .ok (.ireturn, 1) := by decide +kernel
theorem dX7_write_0 : decode cX7_write 0 = .ok (.iload_n 1, 1) := by decide +kernel
theorem dX7_write_1 : decode cX7_write 1 = .ok (.i2l, 1) := by decide +kernel
theorem dX7_write_2 : decode cX7_write 2 = .ok (.lconst 1, 1) := by decide +kernel
theorem dX7_write_3 : decode cX7_write 3 = .ok (.ldc2_w 78, 3) := by decide +kernel
theorem dX7_write_6 : decode cX7_write 6 = .ok (.invokestatic 80, 3) := by decide +kernel
theorem dX7_write_9 : decode cX7_write 9 = .ok (.ifCond .ne 5, 3) := by decide +kernel
theorem dX7_write_12 : decode cX7_write 12 = .ok (.iconst (-1), 1) := by decide +kernel
theorem dX7_write_13 : decode cX7_write 13 = .ok (.ireturn, 1) := by decide +kernel
theorem dX7_write_14 : decode cX7_write 14 = .ok (.aload_n 0, 1) := by decide +kernel
theorem dX7_write_15 : decode cX7_write 15 = .ok (.getfield 84, 3) := by decide +kernel
theorem dX7_write_18 : decode cX7_write 18 = .ok (.iload_n 1, 1) := by decide +kernel
theorem dX7_write_19 : decode cX7_write 19 = .ok (.iadd, 1) := by decide +kernel
theorem dX7_write_20 : decode cX7_write 20 = .ok (.sipush 400, 3) := by decide +kernel
theorem dX7_write_23 : decode cX7_write 23 = .ok (.if_icmp .le 6, 3) := by decide +kernel
theorem dX7_write_26 : decode cX7_write 26 = .ok (.bipush (-3), 2) := by decide +kernel
theorem dX7_write_28 : decode cX7_write 28 = .ok (.ireturn, 1) := by decide +kernel
theorem dX7_write_29 : decode cX7_write 29 = .ok (.iload_n 1, 1) := by decide +kernel
theorem dX7_write_30 : decode cX7_write 30 = .ok (.iconst 1, 1) := by decide +kernel
theorem dX7_write_31 : decode cX7_write 31 = .ok (.isub, 1) := by decide +kernel
theorem dX7_write_32 : decode cX7_write 32 = .ok (.istore 4, 2) := by decide +kernel
theorem dX7_write_34 : decode cX7_write 34 = .ok (.iload 4, 2) := by decide +kernel
theorem dX7_write_36 : decode cX7_write 36 = .ok (.ifCond .lt 37, 3) := by decide +kernel
theorem dX7_write_39 : decode cX7_write 39 = .ok (.aload_n 0, 1) := by decide +kernel
theorem dX7_write_40 : decode cX7_write 40 = .ok (.getfield 7, 3) := by decide +kernel
theorem dX7_write_43 : decode cX7_write 43 = .ok (.aload_n 0, 1) := by decide +kernel
theorem dX7_write_44 : decode cX7_write 44 = .ok (.getfield 84, 3) := by decide +kernel
theorem dX7_write_47 : decode cX7_write 47 = .ok (.lload_n 2, 1) := by decide +kernel
theorem dX7_write_48 : decode cX7_write 48 = .ok (.bipush 8, 2) := by decide +kernel
theorem dX7_write_50 : decode cX7_write 50 = .ok (.iload 4, 2) := by decide +kernel
theorem dX7_write_52 : decode cX7_write 52 = .ok (.imul, 1) := by decide +kernel
theorem dX7_write_53 : decode cX7_write 53 = .ok (.lshr, 1) := by decide +kernel
theorem dX7_write_54 : decode cX7_write 54 = .ok (.l2i, 1) := by decide +kernel
theorem dX7_write_55 : decode cX7_write 55 = .ok (.i2b, 1) := by decide +kernel
theorem dX7_write_56 : decode cX7_write 56 = .ok (.bastore, 1) := by decide +kernel
theorem dX7_write_57 : decode cX7_write 57 = .ok (.aload_n 0, 1) := by decide +kernel
theorem dX7_write_58 : decode cX7_write 58 = .ok (.dup, 1) := by decide +kernel
theorem dX7_write_59 : decode cX7_write 59 = .ok (.getfield 84, 3) := by decide +kernel
theorem dX7_write_62 : decode cX7_write 62 = .ok (.iconst 1, 1) := by decide +kernel
theorem dX7_write_63 : decode cX7_write 63 = .ok (.iadd, 1) := by decide +kernel
theorem dX7_write_64 : decode cX7_write 64 = .ok (.putfield 84, 3) := by decide +kernel
theorem dX7_write_67 : decode cX7_write 67 = .ok (.iinc 4 (-1), 3) := by decide +kernel
theorem dX7_write_70 : decode cX7_write 70 = .ok (.goto (-36), 3) := by decide +kernel
theorem dX7_write_73 : decode cX7_write 73 = .ok (.aload_n 0, 1) := by decide +kernel
theorem dX7_write_74 : decode cX7_write 74 = .ok (.getfield 84, 3) := by decide +kernel
theorem dX7_write_77 : decode cX7_write 77 = .ok (.ireturn, 1) := by decide +kernel
theorem dX7_wipe_0 : decode cX7_wipe 0 = .ok (.aload_n 0, 1) := by decide +kernel
theorem dX7_wipe_1 : decode cX7_wipe 1 = .ok (.getfield 84, 3) := by decide +kernel
theorem dX7_wipe_4 : decode cX7_wipe 4 = .ok (.istore_n 1, 1) := by decide +kernel
theorem dX7_wipe_5 : decode cX7_wipe 5 = .ok (.aload_n 0, 1) := by decide +kernel
theorem dX7_wipe_6 : decode cX7_wipe 6 = .ok (.iconst 0, 1) := by decide +kernel
theorem dX7_wipe_7 : decode cX7_wipe 7 = .ok (.putfield 84, 3) := by decide +kernel
theorem dX7_wipe_10 : decode cX7_wipe 10 = .ok (.iload_n 1, 1) := by decide +kernel
theorem dX7_wipe_11 : decode cX7_wipe 11 = .ok (.ireturn, 1) := by decide +kernel
theorem dX7_number_0 : decode cX7_number 0 = .ok (.iconst 0, 1) := by decide +kernel
theorem dX7_number_1 : decode cX7_number 1 = .ok (.istore_n 1, 1) := by decide +kernel
theorem dX7_number_2 : decode cX7_number 2 = .ok (.iconst 0, 1) := by decide +kernel
theorem dX7_number_3 : decode cX7_number 3 = .ok (.istore_n 2, 1) := by decide +kernel
theorem dX7_number_4 : decode cX7_number 4 = .ok (.aload_n 0, 1) := by decide +kernel
theorem dX7_number_5 : decode cX7_number 5 = .ok (.getfield 88, 3) := by decide +kernel
theorem dX7_number_8 : decode cX7_number 8 = .ok (.aload_n 0, 1) := by decide +kernel
theorem dX7_number_9 : decode cX7_number 9 = .ok (.getfield 84, 3) := by decide +kernel
theorem dX7_number_12 : decode cX7_number 12 = .ok (.if_icmp .ge 68, 3) := by decide +kernel
theorem dX7_number_15 : decode cX7_number 15 = .ok (.aload_n 0, 1) := by decide +kernel
theorem dX7_number_16 : decode cX7_number 16 = .ok (.getfield 7, 3) := by decide +kernel
theorem dX7_number_19 : decode cX7_number 19 = .ok (.aload_n 0, 1) := by decide +kernel
theorem dX7_number_20 : decode cX7_number 20 = .ok (.getfield 88, 3) := by decide +kernel
theorem dX7_number_23 : decode cX7_number 23 = .ok (.baload, 1) := by decide +kernel
theorem dX7_number_24 : decode cX7_number 24 = .ok (.i2l, 1) := by decide +kernel
theorem dX7_number_25 : decode cX7_number 25 = .ok (.ldc2_w 91, 3) := by decide +kernel
theorem dX7_number_28 : decode cX7_number 28 = .ok (.ldc2_w 93, 3) := by decide +kernel
theorem dX7_number_31 : decode cX7_number 31 = .ok (.invokestatic 80, 3) := by decide +kernel
theorem dX7_number_34 : decode cX7_number 34 = .ok (.ifCond .eq 46, 3) := by decide +kernel
theorem dX7_number_37 : decode cX7_number 37 = .ok (.iload_n 2, 1) := by decide +kernel
theorem dX7_number_38 : decode cX7_number 38 = .ok (.iconst 3, 1) := by decide +kernel
theorem dX7_number_39 : decode cX7_number 39 = .ok (.if_icmp .ge 23, 3) := by decide +kernel
theorem dX7_number_42 : decode cX7_number 42 = .ok (.bipush 10, 2) := by decide +kernel
theorem dX7_number_44 : decode cX7_number 44 = .ok (.iload_n 1, 1) := by decide +kernel
theorem dX7_number_45 : decode cX7_number 45 = .ok (.imul, 1) := by decide +kernel
theorem dX7_number_46 : decode cX7_number 46 = .ok (.aload_n 0, 1) := by decide +kernel
theorem dX7_number_47 : decode cX7_number 47 = .ok (.getfield 7, 3) := by decide +kernel
theorem dX7_number_50 : decode cX7_number 50 = .ok (.aload_n 0, 1) := by decide +kernel
theorem dX7_number_51 : decode cX7_number 51 = .ok (.getfield 88, 3) := by decide +kernel
theorem dX7_number_54 : decode cX7_number 54 = .ok (.baload, 1) := by decide +kernel
theorem dX7_number_55 : decode cX7_number 55 = .ok (.iadd, 1) := by decide +kernel
theorem dX7_number_56 : decode cX7_number 56 = .ok (.bipush 48, 2) := by decide +kernel
theorem dX7_number_58 : decode cX7_number 58 = .ok (.isub, 1) := by decide +kernel
theorem dX7_number_59 : decode cX7_number 59 = .ok (.goto 4, 3) := by decide +kernel
theorem dX7_number_62 : decode cX7_number 62 = .ok (.iload_n 1, 1) := by decide +kernel
theorem dX7_number_63 : decode cX7_number 63 = .ok (.istore_n 1, 1) := by decide +kernel
theorem dX7_number_64 : decode cX7_number 64 = .ok (.iinc 2 1, 3) := by decide +kernel
theorem dX7_number_67 : decode cX7_number 67 = .ok (.aload_n 0, 1) := by decide +kernel
theorem dX7_number_68 : decode cX7_number 68 = .ok (.dup, 1) := by decide +kernel
theorem dX7_number_69 : decode cX7_number 69 = .ok (.getfield 88, 3) := by decide +kernel
theorem dX7_number_72 : decode cX7_number 72 = .ok (.iconst 1, 1) := by decide +kernel
theorem dX7_number_73 : decode cX7_number 73 = .ok (.iadd, 1) := by decide +kernel
theorem dX7_number_74 : decode cX7_number 74 = .ok (.putfield 88, 3) := by decide +kernel
theorem dX7_number_77 : decode cX7_number 77 = .ok (.goto (-73), 3) := by decide +kernel
theorem dX7_number_80 : decode cX7_number 80 = .ok (.iload_n 2, 1) := by decide +kernel
theorem dX7_number_81 : decode cX7_number 81 = .ok (.i2l, 1) := by decide +kernel
theorem dX7_number_82 : decode cX7_number 82 = .ok (.lconst 1, 1) := by decide +kernel
theorem dX7_number_83 : decode cX7_number 83 = .ok (.ldc2_w 95, 3) := by decide +kernel
theorem dX7_number_86 : decode cX7_number 86 = .ok (.invokestatic 80, 3) := by decide +kernel
theorem dX7_number_89 : decode cX7_number 89 = .ok (.ifCond .eq 7, 3) := by decide +kernel
theorem dX7_number_92 : decode cX7_number 92 = .ok (.iload_n 1, 1) := by decide +kernel
theorem dX7_number_93 : decode cX7_number 93 = .ok (.goto 4, 3) := by decide +kernel
theorem dX7_number_96 : decode cX7_number 96 = .ok (.iconst (-1), 1) := by decide +kernel
theorem dX7_number_97 : decode cX7_number 97 = .ok (.ireturn, 1) := by decide +kernel
theorem dX7_parts_0 : decode cX7_parts 0 = .ok (.iload_n 0, 1) := by decide +kernel
theorem dX7_parts_1 : decode cX7_parts 1 = .ok (.bipush 114, 2) := by decide +kernel
theorem dX7_parts_3 : decode cX7_parts 3 = .ok (.if_icmp .ne 8, 3) := by decide +kernel
theorem dX7_parts_6 : decode cX7_parts 6 = .ok (.bipush 7, 2) := by decide +kernel
theorem dX7_parts_8 : decode cX7_parts 8 = .ok (.goto 42, 3) := by decide +kernel
theorem dX7_parts_11 : decode cX7_parts 11 = .ok (.iload_n 0, 1) := by decide +kernel
theorem dX7_parts_12 : decode cX7_parts 12 = .ok (.bipush 99, 2) := by decide +kernel
theorem dX7_parts_14 : decode cX7_parts 14 = .ok (.if_icmp .ne 7, 3) := by decide +kernel
theorem dX7_parts_17 : decode cX7_parts 17 = .ok (.iconst 2, 1) := by decide +kernel
theorem dX7_parts_18 : decode cX7_parts 18 = .ok (.goto 32, 3) := by decide +kernel
theorem dX7_parts_21 : decode cX7_parts 21 = .ok (.iload_n 0, 1) := by decide +kernel
theorem dX7_parts_22 : decode cX7_parts 22 = .ok (.bipush 115, 2) := by decide +kernel
theorem dX7_parts_24 : decode cX7_parts 24 = .ok (.if_icmp .eq 21, 3) := by decide +kernel
theorem dX7_parts_27 : decode cX7_parts 27 = .ok (.iload_n 0, 1) := by decide +kernel
theorem dX7_parts_28 : decode cX7_parts 28 = .ok (.bipush 108, 2) := by decide +kernel
theorem dX7_parts_30 : decode cX7_parts 30 = .ok (.if_icmp .eq 15, 3) := by decide +kernel
theorem dX7_parts_33 : decode cX7_parts 33 = .ok (.iload_n 0, 1) := by decide +kernel
theorem dX7_parts_34 : decode cX7_parts 34 = .ok (.bipush 119, 2) := by decide +kernel
theorem dX7_parts_36 : decode cX7_parts 36 = .ok (.if_icmp .eq 9, 3) := by decide +kernel
theorem dX7_parts_39 : decode cX7_parts 39 = .ok (.iload_n 0, 1) := by decide +kernel
theorem dX7_parts_40 : decode cX7_parts 40 = .ok (.bipush 118, 2) := by decide +kernel
theorem dX7_parts_42 : decode cX7_parts 42 = .ok (.if_icmp .ne 7, 3) := by decide +kernel
theorem dX7_parts_45 : decode cX7_parts 45 = .ok (.iconst 1, 1) := by decide +kernel
theorem dX7_parts_46 : decode cX7_parts 46 = .ok (.goto 4, 3) := by decide +kernel
theorem dX7_parts_49 : decode cX7_parts 49 = .ok (.iconst 0, 1) := by decide +kernel
theorem dX7_parts_50 : decode cX7_parts 50 = .ok (.ireturn, 1) := by decide +kernel
theorem dX7_isItem_0 : decode cX7_isItem 0 = .ok (.aload_n 0, 1) := by decide +kernel
theorem dX7_isItem_1 : decode cX7_isItem 1 = .ok (.getfield 7, 3) := by decide +kernel
theorem dX7_isItem_4 : decode cX7_isItem 4 = .ok (.aload_n 0, 1) := by decide +kernel
theorem dX7_isItem_5 : decode cX7_isItem 5 = .ok (.getfield 88, 3) := by decide +kernel
theorem dX7_isItem_8 : decode cX7_isItem 8 = .ok (.baload, 1) := by decide +kernel
theorem dX7_isItem_9 : decode cX7_isItem 9 = .ok (.istore_n 1, 1) := by decide +kernel
theorem dX7_isItem_10 : decode cX7_isItem 10 = .ok (.aload_n 0, 1) := by decide +kernel
theorem dX7_isItem_11 : decode cX7_isItem 11 = .ok (.dup, 1) := by decide +kernel
theorem dX7_isItem_12 : decode cX7_isItem 12 = .ok (.getfield 88, 3) := by decide +kernel
theorem dX7_isItem_15 : decode cX7_isItem 15 = .ok (.iconst 1, 1) := by decide +kernel
theorem dX7_isItem_16 : decode cX7_isItem 16 = .ok (.iadd, 1) := by decide +kernel
theorem dX7_isItem_17 : decode cX7_isItem 17 = .ok (.putfield 88, 3) := by decide +kernel
theorem dX7_isItem_20 : decode cX7_isItem 20 = .ok (.iload_n 1, 1) := by decide +kernel
theorem dX7_isItem_21 : decode cX7_isItem 21 = .ok (.invokestatic 97, 3) := by decide +kernel
theorem dX7_isItem_24 : decode cX7_isItem 24 = .ok (.istore_n 2, 1) := by decide +kernel
theorem dX7_isItem_25 : decode cX7_isItem 25 = .ok (.iload_n 2, 1) := by decide +kernel
theorem dX7_isItem_26 : decode cX7_isItem 26 = .ok (.ifCond .le 7, 3) := by decide +kernel
theorem dX7_isItem_29 : decode cX7_isItem 29 = .ok (.iconst 1, 1) := by decide +kernel
theorem dX7_isItem_30 : decode cX7_isItem 30 = .ok (.goto 4, 3) := by decide +kernel
theorem dX7_isItem_33 : decode cX7_isItem 33 = .ok (.iconst 0, 1) := by decide +kernel
theorem dX7_isItem_34 : decode cX7_isItem 34 = .ok (.istore_n 3, 1) := by decide +kernel
theorem dX7_isItem_35 : decode cX7_isItem 35 = .ok (.iconst 0, 1) := by decide +kernel
theorem dX7_isItem_36 : decode cX7_isItem 36 = .ok (.istore 4, 2) := by decide +kernel
theorem dX7_isItem_38 : decode cX7_isItem 38 = .ok (.iload 4, 2) := by decide +kernel
theorem dX7_isItem_40 : decode cX7_isItem 40 = .ok (.iload_n 2, 1) := by decide +kernel
theorem dX7_isItem_41 : decode cX7_isItem 41 = .ok (.if_icmp .ge 103, 3) := by decide +kernel
theorem dX7_isItem_44 : decode cX7_isItem 44 = .ok (.iload_n 3, 1) := by decide +kernel
theorem dX7_isItem_45 : decode cX7_isItem 45 = .ok (.ifCond .eq 99, 3) := by decide +kernel
theorem dX7_isItem_48 : decode cX7_isItem 48 = .ok (.iload 4, 2) := by decide +kernel
theorem dX7_isItem_50 : decode cX7_isItem 50 = .ok (.ifCond .eq 28, 3) := by decide +kernel
theorem dX7_isItem_53 : decode cX7_isItem 53 = .ok (.aload_n 0, 1) := by decide +kernel
theorem dX7_isItem_54 : decode cX7_isItem 54 = .ok (.getfield 88, 3) := by decide +kernel
theorem dX7_isItem_57 : decode cX7_isItem 57 = .ok (.aload_n 0, 1) := by decide +kernel
theorem dX7_isItem_58 : decode cX7_isItem 58 = .ok (.getfield 84, 3) := by decide +kernel
theorem dX7_isItem_61 : decode cX7_isItem 61 = .ok (.if_icmp .ge 21, 3) := by decide +kernel
theorem dX7_isItem_64 : decode cX7_isItem 64 = .ok (.aload_n 0, 1) := by decide +kernel
theorem dX7_isItem_65 : decode cX7_isItem 65 = .ok (.getfield 7, 3) := by decide +kernel
theorem dX7_isItem_68 : decode cX7_isItem 68 = .ok (.aload_n 0, 1) := by decide +kernel
theorem dX7_isItem_69 : decode cX7_isItem 69 = .ok (.getfield 88, 3) := by decide +kernel
theorem dX7_isItem_72 : decode cX7_isItem 72 = .ok (.baload, 1) := by decide +kernel
theorem dX7_isItem_73 : decode cX7_isItem 73 = .ok (.bipush 44, 2) := by decide +kernel
theorem dX7_isItem_75 : decode cX7_isItem 75 = .ok (.if_icmp .ne 7, 3) := by decide +kernel
theorem dX7_isItem_78 : decode cX7_isItem 78 = .ok (.iconst 1, 1) := by decide +kernel
theorem dX7_isItem_79 : decode cX7_isItem 79 = .ok (.goto 4, 3) := by decide +kernel
theorem dX7_isItem_82 : decode cX7_isItem 82 = .ok (.iconst 0, 1) := by decide +kernel
theorem dX7_isItem_83 : decode cX7_isItem 83 = .ok (.istore_n 3, 1) := by decide +kernel
theorem dX7_isItem_84 : decode cX7_isItem 84 = .ok (.aload_n 0, 1) := by decide +kernel
theorem dX7_isItem_85 : decode cX7_isItem 85 = .ok (.dup, 1) := by decide +kernel
theorem dX7_isItem_86 : decode cX7_isItem 86 = .ok (.getfield 88, 3) := by decide +kernel
theorem dX7_isItem_89 : decode cX7_isItem 89 = .ok (.iload 4, 2) := by decide +kernel
theorem dX7_isItem_91 : decode cX7_isItem 91 = .ok (.ifCond .ne 7, 3) := by decide +kernel
theorem dX7_isItem_94 : decode cX7_isItem 94 = .ok (.iconst 0, 1) := by decide +kernel
theorem dX7_isItem_95 : decode cX7_isItem 95 = .ok (.goto 4, 3) := by decide +kernel
theorem dX7_isItem_98 : decode cX7_isItem 98 = .ok (.iconst 1, 1) := by decide +kernel
theorem dX7_isItem_99 : decode cX7_isItem 99 = .ok (.iadd, 1) := by decide +kernel
theorem dX7_isItem_100 : decode cX7_isItem 100 = .ok (.putfield 88, 3) := by decide +kernel
theorem dX7_isItem_103 : decode cX7_isItem 103 = .ok (.aload_n 0, 1) := by decide +kernel
theorem dX7_isItem_104 : decode cX7_isItem 104 = .ok (.getfield 69, 3) := by decide +kernel
theorem dX7_isItem_107 : decode cX7_isItem 107 = .ok (.iload 4, 2) := by decide +kernel
theorem dX7_isItem_109 : decode cX7_isItem 109 = .ok (.iload_n 3, 1) := by decide +kernel
theorem dX7_isItem_110 : decode cX7_isItem 110 = .ok (.ifCond .eq 10, 3) := by decide +kernel
theorem dX7_isItem_113 : decode cX7_isItem 113 = .ok (.aload_n 0, 1) := by decide +kernel
theorem dX7_isItem_114 : decode cX7_isItem 114 = .ok (.invokevirtual 101, 3) := by decide +kernel
theorem dX7_isItem_117 : decode cX7_isItem 117 = .ok (.goto 4, 3) := by decide +kernel
theorem dX7_isItem_120 : decode cX7_isItem 120 = .ok (.iconst (-1), 1) := by decide +kernel
theorem dX7_isItem_121 : decode cX7_isItem 121 = .ok (.iastore, 1) := by decide +kernel
theorem dX7_isItem_122 : decode cX7_isItem 122 = .ok (.aload_n 0, 1) := by decide +kernel
theorem dX7_isItem_123 : decode cX7_isItem 123 = .ok (.getfield 69, 3) := by decide +kernel
theorem dX7_isItem_126 : decode cX7_isItem 126 = .ok (.iload 4, 2) := by decide +kernel
theorem dX7_isItem_128 : decode cX7_isItem 128 = .ok (.iaload, 1) := by decide +kernel
theorem dX7_isItem_129 : decode cX7_isItem 129 = .ok (.ifCond .lt 7, 3) := by decide +kernel
theorem dX7_isItem_132 : decode cX7_isItem 132 = .ok (.iconst 1, 1) := by decide +kernel
theorem dX7_isItem_133 : decode cX7_isItem 133 = .ok (.goto 4, 3) := by decide +kernel
theorem dX7_isItem_136 : decode cX7_isItem 136 = .ok (.iconst 0, 1) := by decide +kernel
theorem dX7_isItem_137 : decode cX7_isItem 137 = .ok (.istore_n 3, 1) := by decide +kernel
theorem dX7_isItem_138 : decode cX7_isItem 138 = .ok (.iinc 4 1, 3) := by decide +kernel
theorem dX7_isItem_141 : decode cX7_isItem 141 = .ok (.goto (-103), 3) := by decide +kernel
theorem dX7_isItem_144 : decode cX7_isItem 144 = .ok (.iload_n 3, 1) := by decide +kernel
theorem dX7_isItem_145 : decode cX7_isItem 145 = .ok (.ifCond .eq 32, 3) := by decide +kernel
theorem dX7_isItem_148 : decode cX7_isItem 148 = .ok (.aload_n 0, 1) := by decide +kernel
theorem dX7_isItem_149 : decode cX7_isItem 149 = .ok (.getfield 88, 3) := by decide +kernel
theorem dX7_isItem_152 : decode cX7_isItem 152 = .ok (.aload_n 0, 1) := by decide +kernel
theorem dX7_isItem_153 : decode cX7_isItem 153 = .ok (.getfield 84, 3) := by decide +kernel
theorem dX7_isItem_156 : decode cX7_isItem 156 = .ok (.if_icmp .ge 21, 3) := by decide +kernel
theorem dX7_isItem_159 : decode cX7_isItem 159 = .ok (.aload_n 0, 1) := by decide +kernel
theorem dX7_isItem_160 : decode cX7_isItem 160 = .ok (.getfield 7, 3) := by decide +kernel
theorem dX7_isItem_163 : decode cX7_isItem 163 = .ok (.aload_n 0, 1) := by decide +kernel
theorem dX7_isItem_164 : decode cX7_isItem 164 = .ok (.getfield 88, 3) := by decide +kernel
theorem dX7_isItem_167 : decode cX7_isItem 167 = .ok (.baload, 1) := by decide +kernel
theorem dX7_isItem_168 : decode cX7_isItem 168 = .ok (.bipush 59, 2) := by decide +kernel
theorem dX7_isItem_170 : decode cX7_isItem 170 = .ok (.if_icmp .ne 7, 3) := by decide +kernel
theorem dX7_isItem_173 : decode cX7_isItem 173 = .ok (.iconst 1, 1) := by decide +kernel
theorem dX7_isItem_174 : decode cX7_isItem 174 = .ok (.goto 4, 3) := by decide +kernel
theorem dX7_isItem_177 : decode cX7_isItem 177 = .ok (.iconst 0, 1) := by decide +kernel
theorem dX7_isItem_178 : decode cX7_isItem 178 = .ok (.istore_n 3, 1) := by decide +kernel
theorem dX7_isItem_179 : decode cX7_isItem 179 = .ok (.aload_n 0, 1) := by decide +kernel
theorem dX7_isItem_180 : decode cX7_isItem 180 = .ok (.dup, 1) := by decide +kernel
theorem dX7_isItem_181 : decode cX7_isItem 181 = .ok (.getfield 88, 3) := by decide +kernel
theorem dX7_isItem_184 : decode cX7_isItem 184 = .ok (.iconst 1, 1) := by decide +kernel
theorem dX7_isItem_185 : decode cX7_isItem 185 = .ok (.iadd, 1) := by decide +kernel
theorem dX7_isItem_186 : decode cX7_isItem 186 = .ok (.putfield 88, 3) := by decide +kernel
theorem dX7_isItem_189 : decode cX7_isItem 189 = .ok (.iload_n 3, 1) := by decide +kernel
theorem dX7_isItem_190 : decode cX7_isItem 190 = .ok (.ifCond .eq 15, 3) := by decide +kernel
theorem dX7_isItem_193 : decode cX7_isItem 193 = .ok (.aload_n 0, 1) := by decide +kernel
theorem dX7_isItem_194 : decode cX7_isItem 194 = .ok (.iload_n 1, 1) := by decide +kernel
theorem dX7_isItem_195 : decode cX7_isItem 195 = .ok (.invokevirtual 105, 3) := by decide +kernel
theorem dX7_isItem_198 : decode cX7_isItem 198 = .ok (.ifCond .eq 7, 3) := by decide +kernel
theorem dX7_isItem_201 : decode cX7_isItem 201 = .ok (.iconst 1, 1) := by decide +kernel
theorem dX7_isItem_202 : decode cX7_isItem 202 = .ok (.goto 4, 3) := by decide +kernel
theorem dX7_isItem_205 : decode cX7_isItem 205 = .ok (.iconst 0, 1) := by decide +kernel
theorem dX7_isItem_206 : decode cX7_isItem 206 = .ok (.ireturn, 1) := by decide +kernel
theorem dX7_isIn_0 : decode cX7_isIn 0 = .ok (.aload_n 0, 1) := by decide +kernel
theorem dX7_isIn_1 : decode cX7_isIn 1 = .ok (.getfield 69, 3) := by decide +kernel
theorem dX7_isIn_4 : decode cX7_isIn 4 = .ok (.iload_n 1, 1) := by decide +kernel
theorem dX7_isIn_5 : decode cX7_isIn 5 = .ok (.iaload, 1) := by decide +kernel
theorem dX7_isIn_6 : decode cX7_isIn 6 = .ok (.i2l, 1) := by decide +kernel
theorem dX7_isIn_7 : decode cX7_isIn 7 = .ok (.iload_n 2, 1) := by decide +kernel
theorem dX7_isIn_8 : decode cX7_isIn 8 = .ok (.i2l, 1) := by decide +kernel
theorem dX7_isIn_9 : decode cX7_isIn 9 = .ok (.iload_n 3, 1) := by decide +kernel
theorem dX7_isIn_10 : decode cX7_isIn 10 = .ok (.i2l, 1) := by decide +kernel
theorem dX7_isIn_11 : decode cX7_isIn 11 = .ok (.invokestatic 80, 3) := by decide +kernel
theorem dX7_isIn_14 : decode cX7_isIn 14 = .ok (.ireturn, 1) := by decide +kernel
theorem dX7_isGood_0 : decode cX7_isGood 0 = .ok (.iload_n 1, 1) := by decide +kernel
theorem dX7_isGood_1 : decode cX7_isGood 1 = .ok (.bipush 115, 2) := by decide +kernel
theorem dX7_isGood_3 : decode cX7_isGood 3 = .ok (.if_icmp .ne 59, 3) := by decide +kernel
theorem dX7_isGood_6 : decode cX7_isGood 6 = .ok (.aload_n 0, 1) := by decide +kernel
theorem dX7_isGood_7 : decode cX7_isGood 7 = .ok (.iconst 0, 1) := by decide +kernel
theorem dX7_isGood_8 : decode cX7_isGood 8 = .ok (.iconst 0, 1) := by decide +kernel
theorem dX7_isGood_9 : decode cX7_isGood 9 = .ok (.iconst 3, 1) := by decide +kernel
theorem dX7_isGood_10 : decode cX7_isGood 10 = .ok (.invokevirtual 109, 3) := by decide +kernel
theorem dX7_isGood_13 : decode cX7_isGood 13 = .ok (.ifCond .eq 14, 3) := by decide +kernel
theorem dX7_isGood_16 : decode cX7_isGood 16 = .ok (.aload_n 0, 1) := by decide +kernel
theorem dX7_isGood_17 : decode cX7_isGood 17 = .ok (.getfield 13, 3) := by decide +kernel
theorem dX7_isGood_20 : decode cX7_isGood 20 = .ok (.iconst 1, 1) := by decide +kernel
theorem dX7_isGood_21 : decode cX7_isGood 21 = .ok (.iaload, 1) := by decide +kernel
theorem dX7_isGood_22 : decode cX7_isGood 22 = .ok (.bipush 10, 2) := by decide +kernel
theorem dX7_isGood_24 : decode cX7_isGood 24 = .ok (.if_icmp .ne 5, 3) := by decide +kernel
theorem dX7_isGood_27 : decode cX7_isGood 27 = .ok (.iconst 0, 1) := by decide +kernel
theorem dX7_isGood_28 : decode cX7_isGood 28 = .ok (.ireturn, 1) := by decide +kernel
theorem dX7_isGood_29 : decode cX7_isGood 29 = .ok (.aload_n 0, 1) := by decide +kernel
theorem dX7_isGood_30 : decode cX7_isGood 30 = .ok (.getfield 20, 3) := by decide +kernel
theorem dX7_isGood_33 : decode cX7_isGood 33 = .ok (.bipush 10, 2) := by decide +kernel
theorem dX7_isGood_35 : decode cX7_isGood 35 = .ok (.aload_n 0, 1) := by decide +kernel
theorem dX7_isGood_36 : decode cX7_isGood 36 = .ok (.getfield 13, 3) := by decide +kernel
theorem dX7_isGood_39 : decode cX7_isGood 39 = .ok (.iconst 1, 1) := by decide +kernel
theorem dX7_isGood_40 : decode cX7_isGood 40 = .ok (.iaload, 1) := by decide +kernel
theorem dX7_isGood_41 : decode cX7_isGood 41 = .ok (.iadd, 1) := by decide +kernel
theorem dX7_isGood_42 : decode cX7_isGood 42 = .ok (.aload_n 0, 1) := by decide +kernel
theorem dX7_isGood_43 : decode cX7_isGood 43 = .ok (.getfield 69, 3) := by decide +kernel
theorem dX7_isGood_46 : decode cX7_isGood 46 = .ok (.iconst 0, 1) := by decide +kernel
theorem dX7_isGood_47 : decode cX7_isGood 47 = .ok (.iaload, 1) := by decide +kernel
theorem dX7_isGood_48 : decode cX7_isGood 48 = .ok (.iastore, 1) := by decide +kernel
theorem dX7_isGood_49 : decode cX7_isGood 49 = .ok (.aload_n 0, 1) := by decide +kernel
theorem dX7_isGood_50 : decode cX7_isGood 50 = .ok (.getfield 13, 3) := by decide +kernel
theorem dX7_isGood_53 : decode cX7_isGood 53 = .ok (.iconst 1, 1) := by decide +kernel
theorem dX7_isGood_54 : decode cX7_isGood 54 = .ok (.dup2, 1) := by decide +kernel
theorem dX7_isGood_55 : decode cX7_isGood 55 = .ok (.iaload, 1) := by decide +kernel
theorem dX7_isGood_56 : decode cX7_isGood 56 = .ok (.iconst 1, 1) := by decide +kernel
theorem dX7_isGood_57 : decode cX7_isGood 57 = .ok (.iadd, 1) := by decide +kernel
theorem dX7_isGood_58 : decode cX7_isGood 58 = .ok (.iastore, 1) := by decide +kernel
theorem dX7_isGood_59 : decode cX7_isGood 59 = .ok (.goto 291, 3) := by decide +kernel
theorem dX7_isGood_62 : decode cX7_isGood 62 = .ok (.iload_n 1, 1) := by decide +kernel
theorem dX7_isGood_63 : decode cX7_isGood 63 = .ok (.bipush 114, 2) := by decide +kernel
theorem dX7_isGood_65 : decode cX7_isGood 65 = .ok (.if_icmp .ne 148, 3) := by decide +kernel
theorem dX7_isGood_68 : decode cX7_isGood 68 = .ok (.aload_n 0, 1) := by decide +kernel
theorem dX7_isGood_69 : decode cX7_isGood 69 = .ok (.iconst 0, 1) := by decide +kernel
theorem dX7_isGood_70 : decode cX7_isGood 70 = .ok (.iconst 0, 1) := by decide +kernel
theorem dX7_isGood_71 : decode cX7_isGood 71 = .ok (.sipush 199, 3) := by decide +kernel
theorem dX7_isGood_74 : decode cX7_isGood 74 = .ok (.invokevirtual 109, 3) := by decide +kernel
theorem dX7_isGood_77 : decode cX7_isGood 77 = .ok (.ifCond .eq 82, 3) := by decide +kernel
theorem dX7_isGood_80 : decode cX7_isGood 80 = .ok (.aload_n 0, 1) := by decide +kernel
theorem dX7_isGood_81 : decode cX7_isGood 81 = .ok (.iconst 1, 1) := by decide +kernel
theorem dX7_isGood_82 : decode cX7_isGood 82 = .ok (.iconst 1, 1) := by decide +kernel
theorem dX7_isGood_83 : decode cX7_isGood 83 = .ok (.sipush 199, 3) := by decide +kernel
theorem dX7_isGood_86 : decode cX7_isGood 86 = .ok (.invokevirtual 109, 3) := by decide +kernel
theorem dX7_isGood_89 : decode cX7_isGood 89 = .ok (.ifCond .eq 70, 3) := by decide +kernel
theorem dX7_isGood_92 : decode cX7_isGood 92 = .ok (.aload_n 0, 1) := by decide +kernel
theorem dX7_isGood_93 : decode cX7_isGood 93 = .ok (.iconst 2, 1) := by decide +kernel
theorem dX7_isGood_94 : decode cX7_isGood 94 = .ok (.iconst 1, 1) := by decide +kernel
theorem dX7_isGood_95 : decode cX7_isGood 95 = .ok (.sipush 199, 3) := by decide +kernel
theorem dX7_isGood_98 : decode cX7_isGood 98 = .ok (.invokevirtual 109, 3) := by decide +kernel
theorem dX7_isGood_101 : decode cX7_isGood 101 = .ok (.ifCond .eq 58, 3) := by decide +kernel
theorem dX7_isGood_104 : decode cX7_isGood 104 = .ok (.aload_n 0, 1) := by decide +kernel
theorem dX7_isGood_105 : decode cX7_isGood 105 = .ok (.iconst 3, 1) := by decide +kernel
theorem dX7_isGood_106 : decode cX7_isGood 106 = .ok (.iconst 1, 1) := by decide +kernel
theorem dX7_isGood_107 : decode cX7_isGood 107 = .ok (.bipush 99, 2) := by decide +kernel
theorem dX7_isGood_109 : decode cX7_isGood 109 = .ok (.invokevirtual 109, 3) := by decide +kernel
theorem dX7_isGood_112 : decode cX7_isGood 112 = .ok (.ifCond .eq 47, 3) := by decide +kernel
theorem dX7_isGood_115 : decode cX7_isGood 115 = .ok (.aload_n 0, 1) := by decide +kernel
theorem dX7_isGood_116 : decode cX7_isGood 116 = .ok (.iconst 4, 1) := by decide +kernel
theorem dX7_isGood_117 : decode cX7_isGood 117 = .ok (.iconst 0, 1) := by decide +kernel
theorem dX7_isGood_118 : decode cX7_isGood 118 = .ok (.iconst 3, 1) := by decide +kernel
theorem dX7_isGood_119 : decode cX7_isGood 119 = .ok (.invokevirtual 109, 3) := by decide +kernel
theorem dX7_isGood_122 : decode cX7_isGood 122 = .ok (.ifCond .eq 37, 3) := by decide +kernel
theorem dX7_isGood_125 : decode cX7_isGood 125 = .ok (.aload_n 0, 1) := by decide +kernel
theorem dX7_isGood_126 : decode cX7_isGood 126 = .ok (.iconst 5, 1) := by decide +kernel
theorem dX7_isGood_127 : decode cX7_isGood 127 = .ok (.iconst 0, 1) := by decide +kernel
theorem dX7_isGood_128 : decode cX7_isGood 128 = .ok (.bipush 9, 2) := by decide +kernel
theorem dX7_isGood_130 : decode cX7_isGood 130 = .ok (.invokevirtual 109, 3) := by decide +kernel
theorem dX7_isGood_133 : decode cX7_isGood 133 = .ok (.ifCond .eq 26, 3) := by decide +kernel
theorem dX7_isGood_136 : decode cX7_isGood 136 = .ok (.aload_n 0, 1) := by decide +kernel
theorem dX7_isGood_137 : decode cX7_isGood 137 = .ok (.bipush 6, 2) := by decide +kernel
theorem dX7_isGood_139 : decode cX7_isGood 139 = .ok (.iconst 0, 1) := by decide +kernel
theorem dX7_isGood_140 : decode cX7_isGood 140 = .ok (.bipush 9, 2) := by decide +kernel
theorem dX7_isGood_142 : decode cX7_isGood 142 = .ok (.invokevirtual 109, 3) := by decide +kernel
theorem dX7_isGood_145 : decode cX7_isGood 145 = .ok (.ifCond .eq 14, 3) := by decide +kernel
theorem dX7_isGood_148 : decode cX7_isGood 148 = .ok (.aload_n 0, 1) := by decide +kernel
theorem dX7_isGood_149 : decode cX7_isGood 149 = .ok (.getfield 17, 3) := by decide +kernel
theorem dX7_isGood_152 : decode cX7_isGood 152 = .ok (.iconst 1, 1) := by decide +kernel
theorem dX7_isGood_153 : decode cX7_isGood 153 = .ok (.iaload, 1) := by decide +kernel
theorem dX7_isGood_154 : decode cX7_isGood 154 = .ok (.bipush 8, 2) := by decide +kernel
theorem dX7_isGood_156 : decode cX7_isGood 156 = .ok (.if_icmp .ne 5, 3) := by decide +kernel
theorem dX7_isGood_159 : decode cX7_isGood 159 = .ok (.iconst 0, 1) := by decide +kernel
theorem dX7_isGood_160 : decode cX7_isGood 160 = .ok (.ireturn, 1) := by decide +kernel
theorem dX7_isGood_161 : decode cX7_isGood 161 = .ok (.iconst 0, 1) := by decide +kernel
theorem dX7_isGood_162 : decode cX7_isGood 162 = .ok (.istore_n 2, 1) := by decide +kernel
theorem dX7_isGood_163 : decode cX7_isGood 163 = .ok (.iload_n 2, 1) := by decide +kernel
theorem dX7_isGood_164 : decode cX7_isGood 164 = .ok (.bipush 7, 2) := by decide +kernel
theorem dX7_isGood_166 : decode cX7_isGood 166 = .ok (.if_icmp .ge 34, 3) := by decide +kernel
theorem dX7_isGood_169 : decode cX7_isGood 169 = .ok (.aload_n 0, 1) := by decide +kernel
theorem dX7_isGood_170 : decode cX7_isGood 170 = .ok (.getfield 23, 3) := by decide +kernel
theorem dX7_isGood_173 : decode cX7_isGood 173 = .ok (.bipush 56, 2) := by decide +kernel
theorem dX7_isGood_175 : decode cX7_isGood 175 = .ok (.bipush 7, 2) := by decide +kernel
theorem dX7_isGood_177 : decode cX7_isGood 177 = .ok (.aload_n 0, 1) := by decide +kernel
theorem dX7_isGood_178 : decode cX7_isGood 178 = .ok (.getfield 17, 3) := by decide +kernel
theorem dX7_isGood_181 : decode cX7_isGood 181 = .ok (.iconst 1, 1) := by decide +kernel
theorem dX7_isGood_182 : decode cX7_isGood 182 = .ok (.iaload, 1) := by decide +kernel
theorem dX7_isGood_183 : decode cX7_isGood 183 = .ok (.imul, 1) := by decide +kernel
theorem dX7_isGood_184 : decode cX7_isGood 184 = .ok (.iadd, 1) := by decide +kernel
theorem dX7_isGood_185 : decode cX7_isGood 185 = .ok (.iload_n 2, 1) := by decide +kernel
theorem dX7_isGood_186 : decode cX7_isGood 186 = .ok (.iadd, 1) := by decide +kernel
theorem dX7_isGood_187 : decode cX7_isGood 187 = .ok (.aload_n 0, 1) := by decide +kernel
theorem dX7_isGood_188 : decode cX7_isGood 188 = .ok (.getfield 69, 3) := by decide +kernel
theorem dX7_isGood_191 : decode cX7_isGood 191 = .ok (.iload_n 2, 1) := by decide +kernel
theorem dX7_isGood_192 : decode cX7_isGood 192 = .ok (.iaload, 1) := by decide +kernel
theorem dX7_isGood_193 : decode cX7_isGood 193 = .ok (.iastore, 1) := by decide +kernel
theorem dX7_isGood_194 : decode cX7_isGood 194 = .ok (.iinc 2 1, 3) := by decide +kernel
theorem dX7_isGood_197 : decode cX7_isGood 197 = .ok (.goto (-34), 3) := by decide +kernel
theorem dX7_isGood_200 : decode cX7_isGood 200 = .ok (.aload_n 0, 1) := by decide +kernel
theorem dX7_isGood_201 : decode cX7_isGood 201 = .ok (.getfield 17, 3) := by decide +kernel
theorem dX7_isGood_204 : decode cX7_isGood 204 = .ok (.iconst 1, 1) := by decide +kernel
theorem dX7_isGood_205 : decode cX7_isGood 205 = .ok (.dup2, 1) := by decide +kernel
theorem dX7_isGood_206 : decode cX7_isGood 206 = .ok (.iaload, 1) := by decide +kernel
theorem dX7_isGood_207 : decode cX7_isGood 207 = .ok (.iconst 1, 1) := by decide +kernel
theorem dX7_isGood_208 : decode cX7_isGood 208 = .ok (.iadd, 1) := by decide +kernel
theorem dX7_isGood_209 : decode cX7_isGood 209 = .ok (.iastore, 1) := by decide +kernel
theorem dX7_isGood_210 : decode cX7_isGood 210 = .ok (.goto 140, 3) := by decide +kernel
theorem dX7_isGood_213 : decode cX7_isGood 213 = .ok (.iload_n 1, 1) := by decide +kernel
theorem dX7_isGood_214 : decode cX7_isGood 214 = .ok (.bipush 99, 2) := by decide +kernel
theorem dX7_isGood_216 : decode cX7_isGood 216 = .ok (.if_icmp .ne 56, 3) := by decide +kernel
theorem dX7_isGood_219 : decode cX7_isGood 219 = .ok (.aload_n 0, 1) := by decide +kernel
theorem dX7_isGood_220 : decode cX7_isGood 220 = .ok (.getfield 26, 3) := by decide +kernel
theorem dX7_isGood_223 : decode cX7_isGood 223 = .ok (.iconst 5, 1) := by decide +kernel
theorem dX7_isGood_224 : decode cX7_isGood 224 = .ok (.aload_n 0, 1) := by decide +kernel
theorem dX7_isGood_225 : decode cX7_isGood 225 = .ok (.getfield 69, 3) := by decide +kernel
theorem dX7_isGood_228 : decode cX7_isGood 228 = .ok (.iconst 0, 1) := by decide +kernel
theorem dX7_isGood_229 : decode cX7_isGood 229 = .ok (.iaload, 1) := by decide +kernel
theorem dX7_isGood_230 : decode cX7_isGood 230 = .ok (.iastore, 1) := by decide +kernel
theorem dX7_isGood_231 : decode cX7_isGood 231 = .ok (.aload_n 0, 1) := by decide +kernel
theorem dX7_isGood_232 : decode cX7_isGood 232 = .ok (.getfield 26, 3) := by decide +kernel
theorem dX7_isGood_235 : decode cX7_isGood 235 = .ok (.bipush 6, 2) := by decide +kernel
theorem dX7_isGood_237 : decode cX7_isGood 237 = .ok (.aload_n 0, 1) := by decide +kernel
theorem dX7_isGood_238 : decode cX7_isGood 238 = .ok (.getfield 69, 3) := by decide +kernel
theorem dX7_isGood_241 : decode cX7_isGood 241 = .ok (.iconst 1, 1) := by decide +kernel
theorem dX7_isGood_242 : decode cX7_isGood 242 = .ok (.iaload, 1) := by decide +kernel
theorem dX7_isGood_243 : decode cX7_isGood 243 = .ok (.iastore, 1) := by decide +kernel
theorem dX7_isGood_244 : decode cX7_isGood 244 = .ok (.aload_n 0, 1) := by decide +kernel
theorem dX7_isGood_245 : decode cX7_isGood 245 = .ok (.iconst 0, 1) := by decide +kernel
theorem dX7_isGood_246 : decode cX7_isGood 246 = .ok (.iconst 1, 1) := by decide +kernel
theorem dX7_isGood_247 : decode cX7_isGood 247 = .ok (.bipush 99, 2) := by decide +kernel
theorem dX7_isGood_249 : decode cX7_isGood 249 = .ok (.invokevirtual 109, 3) := by decide +kernel
theorem dX7_isGood_252 : decode cX7_isGood 252 = .ok (.ifCond .eq 18, 3) := by decide +kernel
theorem dX7_isGood_255 : decode cX7_isGood 255 = .ok (.aload_n 0, 1) := by decide +kernel
theorem dX7_isGood_256 : decode cX7_isGood 256 = .ok (.iconst 1, 1) := by decide +kernel
theorem dX7_isGood_257 : decode cX7_isGood 257 = .ok (.iconst 1, 1) := by decide +kernel
theorem dX7_isGood_258 : decode cX7_isGood 258 = .ok (.bipush 99, 2) := by decide +kernel
theorem dX7_isGood_260 : decode cX7_isGood 260 = .ok (.invokevirtual 109, 3) := by decide +kernel
theorem dX7_isGood_263 : decode cX7_isGood 263 = .ok (.ifCond .eq 7, 3) := by decide +kernel
theorem dX7_isGood_266 : decode cX7_isGood 266 = .ok (.iconst 1, 1) := by decide +kernel
theorem dX7_isGood_267 : decode cX7_isGood 267 = .ok (.goto 4, 3) := by decide +kernel
theorem dX7_isGood_270 : decode cX7_isGood 270 = .ok (.iconst 0, 1) := by decide +kernel
theorem dX7_isGood_271 : decode cX7_isGood 271 = .ok (.ireturn, 1) := by decide +kernel
theorem dX7_isGood_272 : decode cX7_isGood 272 = .ok (.iload_n 1, 1) := by decide +kernel
theorem dX7_isGood_273 : decode cX7_isGood 273 = .ok (.bipush 108, 2) := by decide +kernel
theorem dX7_isGood_275 : decode cX7_isGood 275 = .ok (.if_icmp .ne 25, 3) := by decide +kernel
theorem dX7_isGood_278 : decode cX7_isGood 278 = .ok (.aload_n 0, 1) := by decide +kernel
theorem dX7_isGood_279 : decode cX7_isGood 279 = .ok (.getfield 26, 3) := by decide +kernel
theorem dX7_isGood_282 : decode cX7_isGood 282 = .ok (.bipush 7, 2) := by decide +kernel
theorem dX7_isGood_284 : decode cX7_isGood 284 = .ok (.aload_n 0, 1) := by decide +kernel
theorem dX7_isGood_285 : decode cX7_isGood 285 = .ok (.getfield 69, 3) := by decide +kernel
theorem dX7_isGood_288 : decode cX7_isGood 288 = .ok (.iconst 0, 1) := by decide +kernel
theorem dX7_isGood_289 : decode cX7_isGood 289 = .ok (.iaload, 1) := by decide +kernel
theorem dX7_isGood_290 : decode cX7_isGood 290 = .ok (.iastore, 1) := by decide +kernel
theorem dX7_isGood_291 : decode cX7_isGood 291 = .ok (.aload_n 0, 1) := by decide +kernel
theorem dX7_isGood_292 : decode cX7_isGood 292 = .ok (.iconst 0, 1) := by decide +kernel
theorem dX7_isGood_293 : decode cX7_isGood 293 = .ok (.iconst 1, 1) := by decide +kernel
theorem dX7_isGood_294 : decode cX7_isGood 294 = .ok (.bipush 99, 2) := by decide +kernel
theorem dX7_isGood_296 : decode cX7_isGood 296 = .ok (.invokevirtual 109, 3) := by decide +kernel
theorem dX7_isGood_299 : decode cX7_isGood 299 = .ok (.ireturn, 1) := by decide +kernel
theorem dX7_isGood_300 : decode cX7_isGood 300 = .ok (.iload_n 1, 1) := by decide +kernel
theorem dX7_isGood_301 : decode cX7_isGood 301 = .ok (.bipush 119, 2) := by decide +kernel
theorem dX7_isGood_303 : decode cX7_isGood 303 = .ok (.if_icmp .ne 25, 3) := by decide +kernel
theorem dX7_isGood_306 : decode cX7_isGood 306 = .ok (.aload_n 0, 1) := by decide +kernel
theorem dX7_isGood_307 : decode cX7_isGood 307 = .ok (.getfield 26, 3) := by decide +kernel
theorem dX7_isGood_310 : decode cX7_isGood 310 = .ok (.bipush 8, 2) := by decide +kernel
theorem dX7_isGood_312 : decode cX7_isGood 312 = .ok (.aload_n 0, 1) := by decide +kernel
theorem dX7_isGood_313 : decode cX7_isGood 313 = .ok (.getfield 69, 3) := by decide +kernel
theorem dX7_isGood_316 : decode cX7_isGood 316 = .ok (.iconst 0, 1) := by decide +kernel
theorem dX7_isGood_317 : decode cX7_isGood 317 = .ok (.iaload, 1) := by decide +kernel
theorem dX7_isGood_318 : decode cX7_isGood 318 = .ok (.iastore, 1) := by decide +kernel
theorem dX7_isGood_319 : decode cX7_isGood 319 = .ok (.aload_n 0, 1) := by decide +kernel
theorem dX7_isGood_320 : decode cX7_isGood 320 = .ok (.iconst 0, 1) := by decide +kernel
theorem dX7_isGood_321 : decode cX7_isGood 321 = .ok (.iconst 0, 1) := by decide +kernel
theorem dX7_isGood_322 : decode cX7_isGood 322 = .ok (.bipush 99, 2) := by decide +kernel
theorem dX7_isGood_324 : decode cX7_isGood 324 = .ok (.invokevirtual 109, 3) := by decide +kernel
theorem dX7_isGood_327 : decode cX7_isGood 327 = .ok (.ireturn, 1) := by decide +kernel
theorem dX7_isGood_328 : decode cX7_isGood 328 = .ok (.aload_n 0, 1) := by decide +kernel
theorem dX7_isGood_329 : decode cX7_isGood 329 = .ok (.getfield 26, 3) := by decide +kernel
theorem dX7_isGood_332 : decode cX7_isGood 332 = .ok (.bipush 9, 2) := by decide +kernel
theorem dX7_isGood_334 : decode cX7_isGood 334 = .ok (.aload_n 0, 1) := by decide +kernel
theorem dX7_isGood_335 : decode cX7_isGood 335 = .ok (.getfield 69, 3) := by decide +kernel
theorem dX7_isGood_338 : decode cX7_isGood 338 = .ok (.iconst 0, 1) := by decide +kernel
theorem dX7_isGood_339 : decode cX7_isGood 339 = .ok (.iaload, 1) := by decide +kernel
theorem dX7_isGood_340 : decode cX7_isGood 340 = .ok (.iastore, 1) := by decide +kernel
theorem dX7_isGood_341 : decode cX7_isGood 341 = .ok (.aload_n 0, 1) := by decide +kernel
theorem dX7_isGood_342 : decode cX7_isGood 342 = .ok (.iconst 0, 1) := by decide +kernel
theorem dX7_isGood_343 : decode cX7_isGood 343 = .ok (.iconst 0, 1) := by decide +kernel
theorem dX7_isGood_344 : decode cX7_isGood 344 = .ok (.bipush 30, 2) := by decide +kernel
theorem dX7_isGood_346 : decode cX7_isGood 346 = .ok (.invokevirtual 109, 3) := by decide +kernel
theorem dX7_isGood_349 : decode cX7_isGood 349 = .ok (.ireturn, 1) := by decide +kernel
theorem dX7_isGood_350 : decode cX7_isGood 350 = .ok (.iconst 1, 1) := by decide +kernel
theorem dX7_isGood_351 : decode cX7_isGood 351 = .ok (.ireturn, 1) := by decide +kernel
theorem dX7_begins_0 : decode cX7_begins 0 = .ok (.aload_n 0, 1) := by decide +kernel
theorem dX7_begins_1 : decode cX7_begins 1 = .ok (.getfield 13, 3) := by decide +kernel
theorem dX7_begins_4 : decode cX7_begins 4 = .ok (.iconst 1, 1) := by decide +kernel
theorem dX7_begins_5 : decode cX7_begins 5 = .ok (.iconst 0, 1) := by decide +kernel
theorem dX7_begins_6 : decode cX7_begins 6 = .ok (.iastore, 1) := by decide +kernel
theorem dX7_begins_7 : decode cX7_begins 7 = .ok (.aload_n 0, 1) := by decide +kernel
theorem dX7_begins_8 : decode cX7_begins 8 = .ok (.getfield 17, 3) := by decide +kernel
theorem dX7_begins_11 : decode cX7_begins 11 = .ok (.iconst 1, 1) := by decide +kernel
theorem dX7_begins_12 : decode cX7_begins 12 = .ok (.iconst 0, 1) := by decide +kernel
theorem dX7_begins_13 : decode cX7_begins 13 = .ok (.iastore, 1) := by decide +kernel
theorem dX7_begins_14 : decode cX7_begins 14 = .ok (.aload_n 0, 1) := by decide +kernel
theorem dX7_begins_15 : decode cX7_begins 15 = .ok (.getfield 26, 3) := by decide +kernel
theorem dX7_begins_18 : decode cX7_begins 18 = .ok (.iconst 5, 1) := by decide +kernel
theorem dX7_begins_19 : decode cX7_begins 19 = .ok (.bipush 30, 2) := by decide +kernel
theorem dX7_begins_21 : decode cX7_begins 21 = .ok (.iastore, 1) := by decide +kernel
theorem dX7_begins_22 : decode cX7_begins 22 = .ok (.aload_n 0, 1) := by decide +kernel
theorem dX7_begins_23 : decode cX7_begins 23 = .ok (.getfield 26, 3) := by decide +kernel
theorem dX7_begins_26 : decode cX7_begins 26 = .ok (.bipush 6, 2) := by decide +kernel
theorem dX7_begins_28 : decode cX7_begins 28 = .ok (.bipush 20, 2) := by decide +kernel
theorem dX7_begins_30 : decode cX7_begins 30 = .ok (.iastore, 1) := by decide +kernel
theorem dX7_begins_31 : decode cX7_begins 31 = .ok (.aload_n 0, 1) := by decide +kernel
theorem dX7_begins_32 : decode cX7_begins 32 = .ok (.getfield 26, 3) := by decide +kernel
theorem dX7_begins_35 : decode cX7_begins 35 = .ok (.bipush 7, 2) := by decide +kernel
theorem dX7_begins_37 : decode cX7_begins 37 = .ok (.bipush 15, 2) := by decide +kernel
theorem dX7_begins_39 : decode cX7_begins 39 = .ok (.iastore, 1) := by decide +kernel
theorem dX7_begins_40 : decode cX7_begins 40 = .ok (.aload_n 0, 1) := by decide +kernel
theorem dX7_begins_41 : decode cX7_begins 41 = .ok (.getfield 26, 3) := by decide +kernel
theorem dX7_begins_44 : decode cX7_begins 44 = .ok (.bipush 8, 2) := by decide +kernel
theorem dX7_begins_46 : decode cX7_begins 46 = .ok (.bipush 20, 2) := by decide +kernel
theorem dX7_begins_48 : decode cX7_begins 48 = .ok (.iastore, 1) := by decide +kernel
theorem dX7_begins_49 : decode cX7_begins 49 = .ok (.aload_n 0, 1) := by decide +kernel
theorem dX7_begins_50 : decode cX7_begins 50 = .ok (.getfield 26, 3) := by decide +kernel
theorem dX7_begins_53 : decode cX7_begins 53 = .ok (.bipush 9, 2) := by decide +kernel
theorem dX7_begins_55 : decode cX7_begins 55 = .ok (.iconst 0, 1) := by decide +kernel
theorem dX7_begins_56 : decode cX7_begins 56 = .ok (.iastore, 1) := by decide +kernel
theorem dX7_begins_57 : decode cX7_begins 57 = .ok (.return_, 1) := by decide +kernel
theorem dX7_takes_0 : decode cX7_takes 0 = .ok (.aload_n 0, 1) := by decide +kernel
theorem dX7_takes_1 : decode cX7_takes 1 = .ok (.getfield 13, 3) := by decide +kernel
theorem dX7_takes_4 : decode cX7_takes 4 = .ok (.iconst 0, 1) := by decide +kernel
theorem dX7_takes_5 : decode cX7_takes 5 = .ok (.aload_n 0, 1) := by decide +kernel
theorem dX7_takes_6 : decode cX7_takes 6 = .ok (.getfield 13, 3) := by decide +kernel
theorem dX7_takes_9 : decode cX7_takes 9 = .ok (.iconst 1, 1) := by decide +kernel
theorem dX7_takes_10 : decode cX7_takes 10 = .ok (.iaload, 1) := by decide +kernel
theorem dX7_takes_11 : decode cX7_takes 11 = .ok (.iastore, 1) := by decide +kernel
theorem dX7_takes_12 : decode cX7_takes 12 = .ok (.aload_n 0, 1) := by decide +kernel
theorem dX7_takes_13 : decode cX7_takes 13 = .ok (.getfield 17, 3) := by decide +kernel
theorem dX7_takes_16 : decode cX7_takes 16 = .ok (.iconst 0, 1) := by decide +kernel
theorem dX7_takes_17 : decode cX7_takes 17 = .ok (.aload_n 0, 1) := by decide +kernel
theorem dX7_takes_18 : decode cX7_takes 18 = .ok (.getfield 17, 3) := by decide +kernel
theorem dX7_takes_21 : decode cX7_takes 21 = .ok (.iconst 1, 1) := by decide +kernel
theorem dX7_takes_22 : decode cX7_takes 22 = .ok (.iaload, 1) := by decide +kernel
theorem dX7_takes_23 : decode cX7_takes 23 = .ok (.iastore, 1) := by decide +kernel
theorem dX7_takes_24 : decode cX7_takes 24 = .ok (.iconst 0, 1) := by decide +kernel
theorem dX7_takes_25 : decode cX7_takes 25 = .ok (.istore_n 1, 1) := by decide +kernel
theorem dX7_takes_26 : decode cX7_takes 26 = .ok (.iload_n 1, 1) := by decide +kernel
theorem dX7_takes_27 : decode cX7_takes 27 = .ok (.bipush 56, 2) := by decide +kernel
theorem dX7_takes_29 : decode cX7_takes 29 = .ok (.if_icmp .ge 64, 3) := by decide +kernel
theorem dX7_takes_32 : decode cX7_takes 32 = .ok (.aload_n 0, 1) := by decide +kernel
theorem dX7_takes_33 : decode cX7_takes 33 = .ok (.getfield 23, 3) := by decide +kernel
theorem dX7_takes_36 : decode cX7_takes 36 = .ok (.iload_n 1, 1) := by decide +kernel
theorem dX7_takes_37 : decode cX7_takes 37 = .ok (.aload_n 0, 1) := by decide +kernel
theorem dX7_takes_38 : decode cX7_takes 38 = .ok (.getfield 23, 3) := by decide +kernel
theorem dX7_takes_41 : decode cX7_takes 41 = .ok (.bipush 56, 2) := by decide +kernel
theorem dX7_takes_43 : decode cX7_takes 43 = .ok (.iload_n 1, 1) := by decide +kernel
theorem dX7_takes_44 : decode cX7_takes 44 = .ok (.iadd, 1) := by decide +kernel
theorem dX7_takes_45 : decode cX7_takes 45 = .ok (.iaload, 1) := by decide +kernel
theorem dX7_takes_46 : decode cX7_takes 46 = .ok (.iastore, 1) := by decide +kernel
theorem dX7_takes_47 : decode cX7_takes 47 = .ok (.iload_n 1, 1) := by decide +kernel
theorem dX7_takes_48 : decode cX7_takes 48 = .ok (.bipush 10, 2) := by decide +kernel
theorem dX7_takes_50 : decode cX7_takes 50 = .ok (.if_icmp .ge 18, 3) := by decide +kernel
theorem dX7_takes_53 : decode cX7_takes 53 = .ok (.aload_n 0, 1) := by decide +kernel
theorem dX7_takes_54 : decode cX7_takes 54 = .ok (.getfield 20, 3) := by decide +kernel
theorem dX7_takes_57 : decode cX7_takes 57 = .ok (.iload_n 1, 1) := by decide +kernel
theorem dX7_takes_58 : decode cX7_takes 58 = .ok (.aload_n 0, 1) := by decide +kernel
theorem dX7_takes_59 : decode cX7_takes 59 = .ok (.getfield 20, 3) := by decide +kernel
theorem dX7_takes_62 : decode cX7_takes 62 = .ok (.bipush 10, 2) := by decide +kernel
theorem dX7_takes_64 : decode cX7_takes 64 = .ok (.iload_n 1, 1) := by decide +kernel
theorem dX7_takes_65 : decode cX7_takes 65 = .ok (.iadd, 1) := by decide +kernel
theorem dX7_takes_66 : decode cX7_takes 66 = .ok (.iaload, 1) := by decide +kernel
theorem dX7_takes_67 : decode cX7_takes 67 = .ok (.iastore, 1) := by decide +kernel
theorem dX7_takes_68 : decode cX7_takes 68 = .ok (.iload_n 1, 1) := by decide +kernel
theorem dX7_takes_69 : decode cX7_takes 69 = .ok (.iconst 5, 1) := by decide +kernel
theorem dX7_takes_70 : decode cX7_takes 70 = .ok (.if_icmp .ge 17, 3) := by decide +kernel
theorem dX7_takes_73 : decode cX7_takes 73 = .ok (.aload_n 0, 1) := by decide +kernel
theorem dX7_takes_74 : decode cX7_takes 74 = .ok (.getfield 26, 3) := by decide +kernel
theorem dX7_takes_77 : decode cX7_takes 77 = .ok (.iload_n 1, 1) := by decide +kernel
theorem dX7_takes_78 : decode cX7_takes 78 = .ok (.aload_n 0, 1) := by decide +kernel
theorem dX7_takes_79 : decode cX7_takes 79 = .ok (.getfield 26, 3) := by decide +kernel
theorem dX7_takes_82 : decode cX7_takes 82 = .ok (.iconst 5, 1) := by decide +kernel
theorem dX7_takes_83 : decode cX7_takes 83 = .ok (.iload_n 1, 1) := by decide +kernel
theorem dX7_takes_84 : decode cX7_takes 84 = .ok (.iadd, 1) := by decide +kernel
theorem dX7_takes_85 : decode cX7_takes 85 = .ok (.iaload, 1) := by decide +kernel
theorem dX7_takes_86 : decode cX7_takes 86 = .ok (.iastore, 1) := by decide +kernel
theorem dX7_takes_87 : decode cX7_takes 87 = .ok (.iinc 1 1, 3) := by decide +kernel
theorem dX7_takes_90 : decode cX7_takes 90 = .ok (.goto (-64), 3) := by decide +kernel
theorem dX7_takes_93 : decode cX7_takes 93 = .ok (.aload_n 0, 1) := by decide +kernel
theorem dX7_takes_94 : decode cX7_takes 94 = .ok (.iconst 1, 1) := by decide +kernel
theorem dX7_takes_95 : decode cX7_takes 95 = .ok (.aload_n 0, 1) := by decide +kernel
theorem dX7_takes_96 : decode cX7_takes 96 = .ok (.getfield 17, 3) := by decide +kernel
theorem dX7_takes_99 : decode cX7_takes 99 = .ok (.iconst 0, 1) := by decide +kernel
theorem dX7_takes_100 : decode cX7_takes 100 = .ok (.iaload, 1) := by decide +kernel
theorem dX7_takes_101 : decode cX7_takes 101 = .ok (.ishl, 1) := by decide +kernel
theorem dX7_takes_102 : decode cX7_takes 102 = .ok (.iconst 1, 1) := by decide +kernel
theorem dX7_takes_103 : decode cX7_takes 103 = .ok (.isub, 1) := by decide +kernel
theorem dX7_takes_104 : decode cX7_takes 104 = .ok (.putfield 113, 3) := by decide +kernel
theorem dX7_takes_107 : decode cX7_takes 107 = .ok (.aload_n 0, 1) := by decide +kernel
theorem dX7_takes_108 : decode cX7_takes 108 = .ok (.iconst 0, 1) := by decide +kernel
theorem dX7_takes_109 : decode cX7_takes 109 = .ok (.putfield 116, 3) := by decide +kernel
theorem dX7_takes_112 : decode cX7_takes 112 = .ok (.return_, 1) := by decide +kernel
theorem dX7_fault_0 : decode cX7_fault 0 = .ok (.aload_n 0, 1) := by decide +kernel
theorem dX7_fault_1 : decode cX7_fault 1 = .ok (.iconst 0, 1) := by decide +kernel
theorem dX7_fault_2 : decode cX7_fault 2 = .ok (.putfield 88, 3) := by decide +kernel
theorem dX7_fault_5 : decode cX7_fault 5 = .ok (.aload_n 0, 1) := by decide +kernel
theorem dX7_fault_6 : decode cX7_fault 6 = .ok (.invokevirtual 72, 3) := by decide +kernel
theorem dX7_fault_9 : decode cX7_fault 9 = .ok (.aload_n 0, 1) := by decide +kernel
theorem dX7_fault_10 : decode cX7_fault 10 = .ok (.getfield 88, 3) := by decide +kernel
theorem dX7_fault_13 : decode cX7_fault 13 = .ok (.aload_n 0, 1) := by decide +kernel
theorem dX7_fault_14 : decode cX7_fault 14 = .ok (.getfield 84, 3) := by decide +kernel
theorem dX7_fault_17 : decode cX7_fault 17 = .ok (.if_icmp .ge 20, 3) := by decide +kernel
theorem dX7_fault_20 : decode cX7_fault 20 = .ok (.aload_n 0, 1) := by decide +kernel
theorem dX7_fault_21 : decode cX7_fault 21 = .ok (.getfield 88, 3) := by decide +kernel
theorem dX7_fault_24 : decode cX7_fault 24 = .ok (.istore_n 1, 1) := by decide +kernel
theorem dX7_fault_25 : decode cX7_fault 25 = .ok (.aload_n 0, 1) := by decide +kernel
theorem dX7_fault_26 : decode cX7_fault 26 = .ok (.invokevirtual 119, 3) := by decide +kernel
theorem dX7_fault_29 : decode cX7_fault 29 = .ok (.ifCond .ne 5, 3) := by decide +kernel
theorem dX7_fault_32 : decode cX7_fault 32 = .ok (.iload_n 1, 1) := by decide +kernel
theorem dX7_fault_33 : decode cX7_fault 33 = .ok (.ireturn, 1) := by decide +kernel
theorem dX7_fault_34 : decode cX7_fault 34 = .ok (.goto (-25), 3) := by decide +kernel
theorem dX7_fault_37 : decode cX7_fault 37 = .ok (.bipush (-4), 2) := by decide +kernel
theorem dX7_fault_39 : decode cX7_fault 39 = .ok (.ireturn, 1) := by decide +kernel
theorem dX7_lay_0 : decode cX7_lay 0 = .ok (.aload_n 0, 1) := by decide +kernel
theorem dX7_lay_1 : decode cX7_lay 1 = .ok (.invokevirtual 123, 3) := by decide +kernel
theorem dX7_lay_4 : decode cX7_lay 4 = .ok (.bipush (-4), 2) := by decide +kernel
theorem dX7_lay_6 : decode cX7_lay 6 = .ok (.if_icmp .ne 21, 3) := by decide +kernel
theorem dX7_lay_9 : decode cX7_lay 9 = .ok (.aload_n 0, 1) := by decide +kernel
theorem dX7_lay_10 : decode cX7_lay 10 = .ok (.getfield 13, 3) := by decide +kernel
theorem dX7_lay_13 : decode cX7_lay 13 = .ok (.iconst 1, 1) := by decide +kernel
theorem dX7_lay_14 : decode cX7_lay 14 = .ok (.iaload, 1) := by decide +kernel
theorem dX7_lay_15 : decode cX7_lay 15 = .ok (.ifCond .eq 12, 3) := by decide +kernel
theorem dX7_lay_18 : decode cX7_lay 18 = .ok (.aload_n 0, 1) := by decide +kernel
theorem dX7_lay_19 : decode cX7_lay 19 = .ok (.getfield 17, 3) := by decide +kernel
theorem dX7_lay_22 : decode cX7_lay 22 = .ok (.iconst 1, 1) := by decide +kernel
theorem dX7_lay_23 : decode cX7_lay 23 = .ok (.iaload, 1) := by decide +kernel
theorem dX7_lay_24 : decode cX7_lay 24 = .ok (.ifCond .ne 6, 3) := by decide +kernel
theorem dX7_lay_27 : decode cX7_lay 27 = .ok (.bipush (-2), 2) := by decide +kernel
theorem dX7_lay_29 : decode cX7_lay 29 = .ok (.ireturn, 1) := by decide +kernel
theorem dX7_lay_30 : decode cX7_lay 30 = .ok (.aload_n 0, 1) := by decide +kernel
theorem dX7_lay_31 : decode cX7_lay 31 = .ok (.invokevirtual 75, 3) := by decide +kernel
theorem dX7_lay_34 : decode cX7_lay 34 = .ok (.aload_n 0, 1) := by decide +kernel
theorem dX7_lay_35 : decode cX7_lay 35 = .ok (.getfield 17, 3) := by decide +kernel
theorem dX7_lay_38 : decode cX7_lay 38 = .ok (.iconst 0, 1) := by decide +kernel
theorem dX7_lay_39 : decode cX7_lay 39 = .ok (.iaload, 1) := by decide +kernel
theorem dX7_lay_40 : decode cX7_lay 40 = .ok (.ireturn, 1) := by decide +kernel
theorem dX7_isReader_0 : decode cX7_isReader 0 = .ok (.iload_n 1, 1) := by decide +kernel
theorem dX7_isReader_1 : decode cX7_isReader 1 = .ok (.i2l, 1) := by decide +kernel
theorem dX7_isReader_2 : decode cX7_isReader 2 = .ok (.lconst 0, 1) := by decide +kernel
theorem dX7_isReader_3 : decode cX7_isReader 3 = .ok (.aload_n 0, 1) := by decide +kernel
theorem dX7_isReader_4 : decode cX7_isReader 4 = .ok (.getfield 17, 3) := by decide +kernel
theorem dX7_isReader_7 : decode cX7_isReader 7 = .ok (.iconst 0, 1) := by decide +kernel
theorem dX7_isReader_8 : decode cX7_isReader 8 = .ok (.iaload, 1) := by decide +kernel
theorem dX7_isReader_9 : decode cX7_isReader 9 = .ok (.iconst 1, 1) := by decide +kernel
theorem dX7_isReader_10 : decode cX7_isReader 10 = .ok (.isub, 1) := by decide +kernel
theorem dX7_isReader_11 : decode cX7_isReader 11 = .ok (.i2l, 1) := by decide +kernel
theorem dX7_isReader_12 : decode cX7_isReader 12 = .ok (.invokestatic 80, 3) := by decide +kernel
theorem dX7_isReader_15 : decode cX7_isReader 15 = .ok (.ireturn, 1) := by decide +kernel
theorem dX7_isRule_0 : decode cX7_isRule 0 = .ok (.iload_n 0, 1) := by decide +kernel
theorem dX7_isRule_1 : decode cX7_isRule 1 = .ok (.i2l, 1) := by decide +kernel
theorem dX7_isRule_2 : decode cX7_isRule 2 = .ok (.lconst 0, 1) := by decide +kernel
theorem dX7_isRule_3 : decode cX7_isRule 3 = .ok (.ldc2_w 126, 3) := by decide +kernel
theorem dX7_isRule_6 : decode cX7_isRule 6 = .ok (.invokestatic 80, 3) := by decide +kernel
theorem dX7_isRule_9 : decode cX7_isRule 9 = .ok (.ireturn, 1) := by decide +kernel
theorem dX7_isMinute_0 : decode cX7_isMinute 0 = .ok (.iload_n 0, 1) := by decide +kernel
theorem dX7_isMinute_1 : decode cX7_isMinute 1 = .ok (.i2l, 1) := by decide +kernel
theorem dX7_isMinute_2 : decode cX7_isMinute 2 = .ok (.lconst 0, 1) := by decide +kernel
theorem dX7_isMinute_3 : decode cX7_isMinute 3 = .ok (.ldc2_w 128, 3) := by decide +kernel
theorem dX7_isMinute_6 : decode cX7_isMinute 6 = .ok (.invokestatic 80, 3) := by decide +kernel
theorem dX7_isMinute_9 : decode cX7_isMinute 9 = .ok (.ireturn, 1) := by decide +kernel
theorem dX7_of_0 : decode cX7_of 0 = .ok (.aload_n 0, 1) := by decide +kernel
theorem dX7_of_1 : decode cX7_of 1 = .ok (.getfield 23, 3) := by decide +kernel
theorem dX7_of_4 : decode cX7_of 4 = .ok (.bipush 7, 2) := by decide +kernel
theorem dX7_of_6 : decode cX7_of 6 = .ok (.iload_n 1, 1) := by decide +kernel
theorem dX7_of_7 : decode cX7_of 7 = .ok (.imul, 1) := by decide +kernel
theorem dX7_of_8 : decode cX7_of 8 = .ok (.iload_n 2, 1) := by decide +kernel
theorem dX7_of_9 : decode cX7_of 9 = .ok (.iadd, 1) := by decide +kernel
theorem dX7_of_10 : decode cX7_of 10 = .ok (.iaload, 1) := by decide +kernel
theorem dX7_of_11 : decode cX7_of 11 = .ok (.ireturn, 1) := by decide +kernel
theorem dX7_reader_0 : decode cX7_reader 0 = .ok (.aload_n 0, 1) := by decide +kernel
theorem dX7_reader_1 : decode cX7_reader 1 = .ok (.iload_n 1, 1) := by decide +kernel
theorem dX7_reader_2 : decode cX7_reader 2 = .ok (.invokevirtual 130, 3) := by decide +kernel
theorem dX7_reader_5 : decode cX7_reader 5 = .ok (.ifCond .eq 15, 3) := by decide +kernel
theorem dX7_reader_8 : decode cX7_reader 8 = .ok (.iload_n 2, 1) := by decide +kernel
theorem dX7_reader_9 : decode cX7_reader 9 = .ok (.i2l, 1) := by decide +kernel
theorem dX7_reader_10 : decode cX7_reader 10 = .ok (.lconst 0, 1) := by decide +kernel
theorem dX7_reader_11 : decode cX7_reader 11 = .ok (.ldc2_w 133, 3) := by decide +kernel
theorem dX7_reader_14 : decode cX7_reader 14 = .ok (.invokestatic 80, 3) := by decide +kernel
theorem dX7_reader_17 : decode cX7_reader 17 = .ok (.ifCond .ne 7, 3) := by decide +kernel
theorem dX7_reader_20 : decode cX7_reader 20 = .ok (.iconst (-1), 1) := by decide +kernel
theorem dX7_reader_21 : decode cX7_reader 21 = .ok (.goto 26, 3) := by decide +kernel
theorem dX7_reader_24 : decode cX7_reader 24 = .ok (.iload_n 2, 1) := by decide +kernel
theorem dX7_reader_25 : decode cX7_reader 25 = .ok (.bipush 7, 2) := by decide +kernel
theorem dX7_reader_27 : decode cX7_reader 27 = .ok (.if_icmp .ge 12, 3) := by decide +kernel
theorem dX7_reader_30 : decode cX7_reader 30 = .ok (.aload_n 0, 1) := by decide +kernel
theorem dX7_reader_31 : decode cX7_reader 31 = .ok (.iload_n 1, 1) := by decide +kernel
theorem dX7_reader_32 : decode cX7_reader 32 = .ok (.iload_n 2, 1) := by decide +kernel
theorem dX7_reader_33 : decode cX7_reader 33 = .ok (.invokevirtual 135, 3) := by decide +kernel
theorem dX7_reader_36 : decode cX7_reader 36 = .ok (.goto 11, 3) := by decide +kernel
theorem dX7_reader_39 : decode cX7_reader 39 = .ok (.aload_n 0, 1) := by decide +kernel
theorem dX7_reader_40 : decode cX7_reader 40 = .ok (.getfield 113, 3) := by decide +kernel
theorem dX7_reader_43 : decode cX7_reader 43 = .ok (.iload_n 1, 1) := by decide +kernel
theorem dX7_reader_44 : decode cX7_reader 44 = .ok (.ishr, 1) := by decide +kernel
theorem dX7_reader_45 : decode cX7_reader 45 = .ok (.iconst 1, 1) := by decide +kernel
theorem dX7_reader_46 : decode cX7_reader 46 = .ok (.iand, 1) := by decide +kernel
theorem dX7_reader_47 : decode cX7_reader 47 = .ok (.ireturn, 1) := by decide +kernel
theorem dX7_kind_0 : decode cX7_kind 0 = .ok (.iload_n 1, 1) := by decide +kernel
theorem dX7_kind_1 : decode cX7_kind 1 = .ok (.i2l, 1) := by decide +kernel
theorem dX7_kind_2 : decode cX7_kind 2 = .ok (.lconst 0, 1) := by decide +kernel
theorem dX7_kind_3 : decode cX7_kind 3 = .ok (.aload_n 0, 1) := by decide +kernel
theorem dX7_kind_4 : decode cX7_kind 4 = .ok (.getfield 13, 3) := by decide +kernel
theorem dX7_kind_7 : decode cX7_kind 7 = .ok (.iconst 0, 1) := by decide +kernel
theorem dX7_kind_8 : decode cX7_kind 8 = .ok (.iaload, 1) := by decide +kernel
theorem dX7_kind_9 : decode cX7_kind 9 = .ok (.iconst 1, 1) := by decide +kernel
theorem dX7_kind_10 : decode cX7_kind 10 = .ok (.isub, 1) := by decide +kernel
theorem dX7_kind_11 : decode cX7_kind 11 = .ok (.i2l, 1) := by decide +kernel
theorem dX7_kind_12 : decode cX7_kind 12 = .ok (.invokestatic 80, 3) := by decide +kernel
theorem dX7_kind_15 : decode cX7_kind 15 = .ok (.ifCond .eq 12, 3) := by decide +kernel
theorem dX7_kind_18 : decode cX7_kind 18 = .ok (.aload_n 0, 1) := by decide +kernel
theorem dX7_kind_19 : decode cX7_kind 19 = .ok (.getfield 20, 3) := by decide +kernel
theorem dX7_kind_22 : decode cX7_kind 22 = .ok (.iload_n 1, 1) := by decide +kernel
theorem dX7_kind_23 : decode cX7_kind 23 = .ok (.iaload, 1) := by decide +kernel
theorem dX7_kind_24 : decode cX7_kind 24 = .ok (.goto 4, 3) := by decide +kernel
theorem dX7_kind_27 : decode cX7_kind 27 = .ok (.iconst (-1), 1) := by decide +kernel
theorem dX7_kind_28 : decode cX7_kind 28 = .ok (.ireturn, 1) := by decide +kernel
theorem dX7_hold_0 : decode cX7_hold 0 = .ok (.aload_n 0, 1) := by decide +kernel
theorem dX7_hold_1 : decode cX7_hold 1 = .ok (.iload_n 1, 1) := by decide +kernel
theorem dX7_hold_2 : decode cX7_hold 2 = .ok (.invokevirtual 130, 3) := by decide +kernel
theorem dX7_hold_5 : decode cX7_hold 5 = .ok (.ifCond .ne 5, 3) := by decide +kernel
theorem dX7_hold_8 : decode cX7_hold 8 = .ok (.iconst (-1), 1) := by decide +kernel
theorem dX7_hold_9 : decode cX7_hold 9 = .ok (.ireturn, 1) := by decide +kernel
theorem dX7_hold_10 : decode cX7_hold 10 = .ok (.aload_n 0, 1) := by decide +kernel
theorem dX7_hold_11 : decode cX7_hold 11 = .ok (.getfield 113, 3) := by decide +kernel
theorem dX7_hold_14 : decode cX7_hold 14 = .ok (.iload_n 1, 1) := by decide +kernel
theorem dX7_hold_15 : decode cX7_hold 15 = .ok (.ishr, 1) := by decide +kernel
theorem dX7_hold_16 : decode cX7_hold 16 = .ok (.iconst 1, 1) := by decide +kernel
theorem dX7_hold_17 : decode cX7_hold 17 = .ok (.iand, 1) := by decide +kernel
theorem dX7_hold_18 : decode cX7_hold 18 = .ok (.istore_n 3, 1) := by decide +kernel
theorem dX7_hold_19 : decode cX7_hold 19 = .ok (.aload_n 0, 1) := by decide +kernel
theorem dX7_hold_20 : decode cX7_hold 20 = .ok (.iload_n 2, 1) := by decide +kernel
theorem dX7_hold_21 : decode cX7_hold 21 = .ok (.ifCond .eq 14, 3) := by decide +kernel
theorem dX7_hold_24 : decode cX7_hold 24 = .ok (.aload_n 0, 1) := by decide +kernel
theorem dX7_hold_25 : decode cX7_hold 25 = .ok (.getfield 113, 3) := by decide +kernel
theorem dX7_hold_28 : decode cX7_hold 28 = .ok (.iconst 1, 1) := by decide +kernel
theorem dX7_hold_29 : decode cX7_hold 29 = .ok (.iload_n 1, 1) := by decide +kernel
theorem dX7_hold_30 : decode cX7_hold 30 = .ok (.ishl, 1) := by decide +kernel
theorem dX7_hold_31 : decode cX7_hold 31 = .ok (.ior, 1) := by decide +kernel
theorem dX7_hold_32 : decode cX7_hold 32 = .ok (.goto 13, 3) := by decide +kernel
theorem dX7_hold_35 : decode cX7_hold 35 = .ok (.aload_n 0, 1) := by decide +kernel
theorem dX7_hold_36 : decode cX7_hold 36 = .ok (.getfield 113, 3) := by decide +kernel
theorem dX7_hold_39 : decode cX7_hold 39 = .ok (.iconst 1, 1) := by decide +kernel
theorem dX7_hold_40 : decode cX7_hold 40 = .ok (.iload_n 1, 1) := by decide +kernel
theorem dX7_hold_41 : decode cX7_hold 41 = .ok (.ishl, 1) := by decide +kernel
theorem dX7_hold_42 : decode cX7_hold 42 = .ok (.iconst (-1), 1) := by decide +kernel
theorem dX7_hold_43 : decode cX7_hold 43 = .ok (.ixor, 1) := by decide +kernel
theorem dX7_hold_44 : decode cX7_hold 44 = .ok (.iand, 1) := by decide +kernel
theorem dX7_hold_45 : decode cX7_hold 45 = .ok (.putfield 113, 3) := by decide +kernel
theorem dX7_hold_48 : decode cX7_hold 48 = .ok (.iload_n 3, 1) := by decide +kernel
theorem dX7_hold_49 : decode cX7_hold 49 = .ok (.ireturn, 1) := by decide +kernel
theorem dX7_comesBack_0 : decode cX7_comesBack 0 = .ok (.aload_n 0, 1) := by decide +kernel
theorem dX7_comesBack_1 : decode cX7_comesBack 1 = .ok (.getfield 35, 3) := by decide +kernel
theorem dX7_comesBack_4 : decode cX7_comesBack 4 = .ok (.iload_n 1, 1) := by decide +kernel
theorem dX7_comesBack_5 : decode cX7_comesBack 5 = .ok (.iaload, 1) := by decide +kernel
theorem dX7_comesBack_6 : decode cX7_comesBack 6 = .ok (.istore_n 3, 1) := by decide +kernel
theorem dX7_comesBack_7 : decode cX7_comesBack 7 = .ok (.aload_n 0, 1) := by decide +kernel
theorem dX7_comesBack_8 : decode cX7_comesBack 8 = .ok (.getfield 57, 3) := by decide +kernel
theorem dX7_comesBack_11 : decode cX7_comesBack 11 = .ok (.iload_n 3, 1) := by decide +kernel
theorem dX7_comesBack_12 : decode cX7_comesBack 12 = .ok (.iaload, 1) := by decide +kernel
theorem dX7_comesBack_13 : decode cX7_comesBack 13 = .ok (.iload_n 1, 1) := by decide +kernel
theorem dX7_comesBack_14 : decode cX7_comesBack 14 = .ok (.if_icmp .ne 25, 3) := by decide +kernel
theorem dX7_comesBack_17 : decode cX7_comesBack 17 = .ok (.aload_n 0, 1) := by decide +kernel
theorem dX7_comesBack_18 : decode cX7_comesBack 18 = .ok (.getfield 57, 3) := by decide +kernel
theorem dX7_comesBack_21 : decode cX7_comesBack 21 = .ok (.iload_n 3, 1) := by decide +kernel
theorem dX7_comesBack_22 : decode cX7_comesBack 22 = .ok (.iconst (-1), 1) := by decide +kernel
theorem dX7_comesBack_23 : decode cX7_comesBack 23 = .ok (.iastore, 1) := by decide +kernel
theorem dX7_comesBack_24 : decode cX7_comesBack 24 = .ok (.aload_n 0, 1) := by decide +kernel
theorem dX7_comesBack_25 : decode cX7_comesBack 25 = .ok (.getfield 54, 3) := by decide +kernel
theorem dX7_comesBack_28 : decode cX7_comesBack 28 = .ok (.iload_n 3, 1) := by decide +kernel
theorem dX7_comesBack_29 : decode cX7_comesBack 29 = .ok (.iload_n 1, 1) := by decide +kernel
theorem dX7_comesBack_30 : decode cX7_comesBack 30 = .ok (.iastore, 1) := by decide +kernel
theorem dX7_comesBack_31 : decode cX7_comesBack 31 = .ok (.aload_n 0, 1) := by decide +kernel
theorem dX7_comesBack_32 : decode cX7_comesBack 32 = .ok (.getfield 32, 3) := by decide +kernel
theorem dX7_comesBack_35 : decode cX7_comesBack 35 = .ok (.iload_n 1, 1) := by decide +kernel
theorem dX7_comesBack_36 : decode cX7_comesBack 36 = .ok (.iconst 2, 1) := by decide +kernel
