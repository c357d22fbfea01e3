theorem dX0_init_0 : decode cX0_init 0 = .ok (.aload_n 0, 1) := by decide +kernel
theorem dX0_init_1 : decode cX0_init 1 = .ok (.invokespecial 3, 3) := by decide +kernel
theorem dX0_init_4 : decode cX0_init 4 = .ok (.aload_n 0, 1) := by decide +kernel
theorem dX0_init_5 : decode cX0_init 5 = .ok (.bipush 8, 2) := by decide +kernel
theorem dX0_init_7 : decode cX0_init 7 = .ok (.newarray .int, 2) := by decide +kernel
theorem dX0_init_9 : decode cX0_init 9 = .ok (.putfield 9, 3) := by decide +kernel
theorem dX0_init_12 : decode cX0_init 12 = .ok (.aload_n 0, 1) := by decide +kernel
theorem dX0_init_13 : decode cX0_init 13 = .ok (.bipush 8, 2) := by decide +kernel
theorem dX0_init_15 : decode cX0_init 15 = .ok (.newarray .int, 2) := by decide +kernel
theorem dX0_init_17 : decode cX0_init 17 = .ok (.putfield 15, 3) := by decide +kernel
theorem dX0_init_20 : decode cX0_init 20 = .ok (.aload_n 0, 1) := by decide +kernel
theorem dX0_init_21 : decode cX0_init 21 = .ok (.bipush 8, 2) := by decide +kernel
theorem dX0_init_23 : decode cX0_init 23 = .ok (.newarray .int, 2) := by decide +kernel
theorem dX0_init_25 : decode cX0_init 25 = .ok (.putfield 18, 3) := by decide +kernel
theorem dX0_init_28 : decode cX0_init 28 = .ok (.aload_n 0, 1) := by decide +kernel
theorem dX0_init_29 : decode cX0_init 29 = .ok (.bipush 8, 2) := by decide +kernel
theorem dX0_init_31 : decode cX0_init 31 = .ok (.newarray .int, 2) := by decide +kernel
theorem dX0_init_33 : decode cX0_init 33 = .ok (.putfield 21, 3) := by decide +kernel
theorem dX0_init_36 : decode cX0_init 36 = .ok (.aload_n 0, 1) := by decide +kernel
theorem dX0_init_37 : decode cX0_init 37 = .ok (.bipush 8, 2) := by decide +kernel
theorem dX0_init_39 : decode cX0_init 39 = .ok (.newarray .int, 2) := by decide +kernel
theorem dX0_init_41 : decode cX0_init 41 = .ok (.putfield 24, 3) := by decide +kernel
theorem dX0_init_44 : decode cX0_init 44 = .ok (.aload_n 0, 1) := by decide +kernel
theorem dX0_init_45 : decode cX0_init 45 = .ok (.bipush 10, 2) := by decide +kernel
theorem dX0_init_47 : decode cX0_init 47 = .ok (.newarray .int, 2) := by decide +kernel
theorem dX0_init_49 : decode cX0_init 49 = .ok (.putfield 27, 3) := by decide +kernel
theorem dX0_init_52 : decode cX0_init 52 = .ok (.aload_n 0, 1) := by decide +kernel
theorem dX0_init_53 : decode cX0_init 53 = .ok (.bipush 10, 2) := by decide +kernel
theorem dX0_init_55 : decode cX0_init 55 = .ok (.newarray .int, 2) := by decide +kernel
theorem dX0_init_57 : decode cX0_init 57 = .ok (.putfield 30, 3) := by decide +kernel
theorem dX0_init_60 : decode cX0_init 60 = .ok (.aload_n 0, 1) := by decide +kernel
theorem dX0_init_61 : decode cX0_init 61 = .ok (.sipush 400, 3) := by decide +kernel
theorem dX0_init_64 : decode cX0_init 64 = .ok (.newarray .int, 2) := by decide +kernel
theorem dX0_init_66 : decode cX0_init 66 = .ok (.putfield 33, 3) := by decide +kernel
theorem dX0_init_69 : decode cX0_init 69 = .ok (.aload_n 0, 1) := by decide +kernel
theorem dX0_init_70 : decode cX0_init 70 = .ok (.aload_n 1, 1) := by decide +kernel
theorem dX0_init_71 : decode cX0_init 71 = .ok (.putfield 36, 3) := by decide +kernel
theorem dX0_init_74 : decode cX0_init 74 = .ok (.return_, 1) := by decide +kernel
theorem dX0_open_0 : decode cX0_open 0 = .ok (.aload_n 0, 1) := by decide +kernel
theorem dX0_open_1 : decode cX0_open 1 = .ok (.aload_n 1, 1) := by decide +kernel
theorem dX0_open_2 : decode cX0_open 2 = .ok (.putfield 36, 3) := by decide +kernel
theorem dX0_open_5 : decode cX0_open 5 = .ok (.aload_n 0, 1) := by decide +kernel
theorem dX0_open_6 : decode cX0_open 6 = .ok (.aload_n 1, 1) := by decide +kernel
theorem dX0_open_7 : decode cX0_open 7 = .ok (.invokevirtual 40, 3) := by decide +kernel
theorem dX0_open_10 : decode cX0_open 10 = .ok (.bipush 8, 2) := by decide +kernel
theorem dX0_open_12 : decode cX0_open 12 = .ok (.invokestatic 46, 3) := by decide +kernel
theorem dX0_open_15 : decode cX0_open 15 = .ok (.putfield 52, 3) := by decide +kernel
theorem dX0_open_18 : decode cX0_open 18 = .ok (.aload_n 0, 1) := by decide +kernel
theorem dX0_open_19 : decode cX0_open 19 = .ok (.aload_n 1, 1) := by decide +kernel
theorem dX0_open_20 : decode cX0_open 20 = .ok (.invokevirtual 56, 3) := by decide +kernel
theorem dX0_open_23 : decode cX0_open 23 = .ok (.bipush 10, 2) := by decide +kernel
theorem dX0_open_25 : decode cX0_open 25 = .ok (.invokestatic 46, 3) := by decide +kernel
theorem dX0_open_28 : decode cX0_open 28 = .ok (.putfield 59, 3) := by decide +kernel
theorem dX0_open_31 : decode cX0_open 31 = .ok (.aload_n 0, 1) := by decide +kernel
theorem dX0_open_32 : decode cX0_open 32 = .ok (.iload_n 2, 1) := by decide +kernel
theorem dX0_open_33 : decode cX0_open 33 = .ok (.putfield 62, 3) := by decide +kernel
theorem dX0_open_36 : decode cX0_open 36 = .ok (.aload_n 0, 1) := by decide +kernel
theorem dX0_open_37 : decode cX0_open 37 = .ok (.iload_n 2, 1) := by decide +kernel
theorem dX0_open_38 : decode cX0_open 38 = .ok (.iconst 1, 1) := by decide +kernel
theorem dX0_open_39 : decode cX0_open 39 = .ok (.if_icmp .ne 7, 3) := by decide +kernel
theorem dX0_open_42 : decode cX0_open 42 = .ok (.iconst 0, 1) := by decide +kernel
theorem dX0_open_43 : decode cX0_open 43 = .ok (.goto 4, 3) := by decide +kernel
theorem dX0_open_46 : decode cX0_open 46 = .ok (.iload_n 3, 1) := by decide +kernel
theorem dX0_open_47 : decode cX0_open 47 = .ok (.putfield 65, 3) := by decide +kernel
theorem dX0_open_50 : decode cX0_open 50 = .ok (.aload_n 0, 1) := by decide +kernel
theorem dX0_open_51 : decode cX0_open 51 = .ok (.aload_n 1, 1) := by decide +kernel
theorem dX0_open_52 : decode cX0_open 52 = .ok (.invokevirtual 68, 3) := by decide +kernel
theorem dX0_open_55 : decode cX0_open 55 = .ok (.aload_n 1, 1) := by decide +kernel
theorem dX0_open_56 : decode cX0_open 56 = .ok (.invokevirtual 71, 3) := by decide +kernel
theorem dX0_open_59 : decode cX0_open 59 = .ok (.invokevirtual 74, 3) := by decide +kernel
theorem dX0_open_62 : decode cX0_open 62 = .ok (.iconst 0, 1) := by decide +kernel
theorem dX0_open_63 : decode cX0_open 63 = .ok (.istore 4, 2) := by decide +kernel
theorem dX0_open_65 : decode cX0_open 65 = .ok (.iload 4, 2) := by decide +kernel
theorem dX0_open_67 : decode cX0_open 67 = .ok (.bipush 8, 2) := by decide +kernel
theorem dX0_open_69 : decode cX0_open 69 = .ok (.if_icmp .ge 55, 3) := by decide +kernel
theorem dX0_open_72 : decode cX0_open 72 = .ok (.aload_n 0, 1) := by decide +kernel
theorem dX0_open_73 : decode cX0_open 73 = .ok (.getfield 9, 3) := by decide +kernel
theorem dX0_open_76 : decode cX0_open 76 = .ok (.iload 4, 2) := by decide +kernel
theorem dX0_open_78 : decode cX0_open 78 = .ok (.iconst 0, 1) := by decide +kernel
theorem dX0_open_79 : decode cX0_open 79 = .ok (.iastore, 1) := by decide +kernel
theorem dX0_open_80 : decode cX0_open 80 = .ok (.aload_n 0, 1) := by decide +kernel
theorem dX0_open_81 : decode cX0_open 81 = .ok (.getfield 15, 3) := by decide +kernel
theorem dX0_open_84 : decode cX0_open 84 = .ok (.iload 4, 2) := by decide +kernel
theorem dX0_open_86 : decode cX0_open 86 = .ok (.iconst (-1), 1) := by decide +kernel
theorem dX0_open_87 : decode cX0_open 87 = .ok (.iastore, 1) := by decide +kernel
theorem dX0_open_88 : decode cX0_open 88 = .ok (.aload_n 0, 1) := by decide +kernel
theorem dX0_open_89 : decode cX0_open 89 = .ok (.getfield 18, 3) := by decide +kernel
theorem dX0_open_92 : decode cX0_open 92 = .ok (.iload 4, 2) := by decide +kernel
theorem dX0_open_94 : decode cX0_open 94 = .ok (.iconst 0, 1) := by decide +kernel
theorem dX0_open_95 : decode cX0_open 95 = .ok (.iastore, 1) := by decide +kernel
theorem dX0_open_96 : decode cX0_open 96 = .ok (.aload_n 0, 1) := by decide +kernel
theorem dX0_open_97 : decode cX0_open 97 = .ok (.getfield 21, 3) := by decide +kernel
theorem dX0_open_100 : decode cX0_open 100 = .ok (.iload 4, 2) := by decide +kernel
theorem dX0_open_102 : decode cX0_open 102 = .ok (.iconst 0, 1) := by decide +kernel
theorem dX0_open_103 : decode cX0_open 103 = .ok (.iastore, 1) := by decide +kernel
theorem dX0_open_104 : decode cX0_open 104 = .ok (.aload_n 0, 1) := by decide +kernel
theorem dX0_open_105 : decode cX0_open 105 = .ok (.getfield 24, 3) := by decide +kernel
theorem dX0_open_108 : decode cX0_open 108 = .ok (.iload 4, 2) := by decide +kernel
theorem dX0_open_110 : decode cX0_open 110 = .ok (.aload_n 1, 1) := by decide +kernel
theorem dX0_open_111 : decode cX0_open 111 = .ok (.iload 4, 2) := by decide +kernel
theorem dX0_open_113 : decode cX0_open 113 = .ok (.iconst 0, 1) := by decide +kernel
theorem dX0_open_114 : decode cX0_open 114 = .ok (.invokevirtual 78, 3) := by decide +kernel
theorem dX0_open_117 : decode cX0_open 117 = .ok (.iastore, 1) := by decide +kernel
theorem dX0_open_118 : decode cX0_open 118 = .ok (.iinc 4 1, 3) := by decide +kernel
theorem dX0_open_121 : decode cX0_open 121 = .ok (.goto (-56), 3) := by decide +kernel
theorem dX0_open_124 : decode cX0_open 124 = .ok (.aload_n 0, 1) := by decide +kernel
theorem dX0_open_125 : decode cX0_open 125 = .ok (.getfield 27, 3) := by decide +kernel
theorem dX0_open_128 : decode cX0_open 128 = .ok (.iconst (-1), 1) := by decide +kernel
theorem dX0_open_129 : decode cX0_open 129 = .ok (.invokestatic 81, 3) := by decide +kernel
theorem dX0_open_132 : decode cX0_open 132 = .ok (.aload_n 0, 1) := by decide +kernel
theorem dX0_open_133 : decode cX0_open 133 = .ok (.getfield 30, 3) := by decide +kernel
theorem dX0_open_136 : decode cX0_open 136 = .ok (.iconst (-1), 1) := by decide +kernel
theorem dX0_open_137 : decode cX0_open 137 = .ok (.invokestatic 81, 3) := by decide +kernel
theorem dX0_open_140 : decode cX0_open 140 = .ok (.aload_n 0, 1) := by decide +kernel
theorem dX0_open_141 : decode cX0_open 141 = .ok (.iconst 0, 1) := by decide +kernel
theorem dX0_open_142 : decode cX0_open 142 = .ok (.putfield 87, 3) := by decide +kernel
theorem dX0_open_145 : decode cX0_open 145 = .ok (.aload_n 0, 1) := by decide +kernel
theorem dX0_open_146 : decode cX0_open 146 = .ok (.aload_n 0, 1) := by decide +kernel
theorem dX0_open_147 : decode cX0_open 147 = .ok (.getfield 52, 3) := by decide +kernel
theorem dX0_open_150 : decode cX0_open 150 = .ok (.putfield 90, 3) := by decide +kernel
theorem dX0_open_153 : decode cX0_open 153 = .ok (.aload_n 0, 1) := by decide +kernel
theorem dX0_open_154 : decode cX0_open 154 = .ok (.iconst 0, 1) := by decide +kernel
theorem dX0_open_155 : decode cX0_open 155 = .ok (.putfield 93, 3) := by decide +kernel
theorem dX0_open_158 : decode cX0_open 158 = .ok (.aload_n 0, 1) := by decide +kernel
theorem dX0_open_159 : decode cX0_open 159 = .ok (.iconst 0, 1) := by decide +kernel
theorem dX0_open_160 : decode cX0_open 160 = .ok (.putfield 96, 3) := by decide +kernel
theorem dX0_open_163 : decode cX0_open 163 = .ok (.aload_n 0, 1) := by decide +kernel
theorem dX0_open_164 : decode cX0_open 164 = .ok (.iconst 0, 1) := by decide +kernel
theorem dX0_open_165 : decode cX0_open 165 = .ok (.putfield 99, 3) := by decide +kernel
theorem dX0_open_168 : decode cX0_open 168 = .ok (.return_, 1) := by decide +kernel
theorem dX0_useCards_0 : decode cX0_useCards 0 = .ok (.aload_n 0, 1) := by decide +kernel
theorem dX0_useCards_1 : decode cX0_useCards 1 = .ok (.iload_n 1, 1) := by decide +kernel
theorem dX0_useCards_2 : decode cX0_useCards 2 = .ok (.putfield 102, 3) := by decide +kernel
theorem dX0_useCards_5 : decode cX0_useCards 5 = .ok (.aload_n 0, 1) := by decide +kernel
theorem dX0_useCards_6 : decode cX0_useCards 6 = .ok (.iload_n 2, 1) := by decide +kernel
theorem dX0_useCards_7 : decode cX0_useCards 7 = .ok (.putfield 104, 3) := by decide +kernel
theorem dX0_useCards_10 : decode cX0_useCards 10 = .ok (.return_, 1) := by decide +kernel
theorem dX0_comeLater_0 : decode cX0_comeLater 0 = .ok (.aload_n 0, 1) := by decide +kernel
theorem dX0_comeLater_1 : decode cX0_comeLater 1 = .ok (.getfield 36, 3) := by decide +kernel
theorem dX0_comeLater_4 : decode cX0_comeLater 4 = .ok (.invokevirtual 106, 3) := by decide +kernel
theorem dX0_comeLater_7 : decode cX0_comeLater 7 = .ok (.iconst 1, 1) := by decide +kernel
theorem dX0_comeLater_8 : decode cX0_comeLater 8 = .ok (.iadd, 1) := by decide +kernel
theorem dX0_comeLater_9 : decode cX0_comeLater 9 = .ok (.istore_n 2, 1) := by decide +kernel
theorem dX0_comeLater_10 : decode cX0_comeLater 10 = .ok (.iconst 0, 1) := by decide +kernel
theorem dX0_comeLater_11 : decode cX0_comeLater 11 = .ok (.istore_n 3, 1) := by decide +kernel
theorem dX0_comeLater_12 : decode cX0_comeLater 12 = .ok (.iload_n 3, 1) := by decide +kernel
theorem dX0_comeLater_13 : decode cX0_comeLater 13 = .ok (.aload_n 0, 1) := by decide +kernel
theorem dX0_comeLater_14 : decode cX0_comeLater 14 = .ok (.getfield 52, 3) := by decide +kernel
theorem dX0_comeLater_17 : decode cX0_comeLater 17 = .ok (.if_icmp .ge 52, 3) := by decide +kernel
theorem dX0_comeLater_20 : decode cX0_comeLater 20 = .ok (.iload_n 2, 1) := by decide +kernel
theorem dX0_comeLater_21 : decode cX0_comeLater 21 = .ok (.ifCond .le 48, 3) := by decide +kernel
theorem dX0_comeLater_24 : decode cX0_comeLater 24 = .ok (.ldc2_w 109, 3) := by decide +kernel
theorem dX0_comeLater_27 : decode cX0_comeLater 27 = .ok (.iload_n 1, 1) := by decide +kernel
theorem dX0_comeLater_28 : decode cX0_comeLater 28 = .ok (.i2l, 1) := by decide +kernel
theorem dX0_comeLater_29 : decode cX0_comeLater 29 = .ok (.lmul, 1) := by decide +kernel
theorem dX0_comeLater_30 : decode cX0_comeLater 30 = .ok (.ldc2_w 111, 3) := by decide +kernel
theorem dX0_comeLater_33 : decode cX0_comeLater 33 = .ok (.iload_n 3, 1) := by decide +kernel
theorem dX0_comeLater_34 : decode cX0_comeLater 34 = .ok (.i2l, 1) := by decide +kernel
theorem dX0_comeLater_35 : decode cX0_comeLater 35 = .ok (.lmul, 1) := by decide +kernel
theorem dX0_comeLater_36 : decode cX0_comeLater 36 = .ok (.ladd, 1) := by decide +kernel
theorem dX0_comeLater_37 : decode cX0_comeLater 37 = .ok (.lconst 1, 1) := by decide +kernel
theorem dX0_comeLater_38 : decode cX0_comeLater 38 = .ok (.ladd, 1) := by decide +kernel
theorem dX0_comeLater_39 : decode cX0_comeLater 39 = .ok (.lstore 4, 2) := by decide +kernel
theorem dX0_comeLater_41 : decode cX0_comeLater 41 = .ok (.aload_n 0, 1) := by decide +kernel
theorem dX0_comeLater_42 : decode cX0_comeLater 42 = .ok (.getfield 24, 3) := by decide +kernel
theorem dX0_comeLater_45 : decode cX0_comeLater 45 = .ok (.iload_n 3, 1) := by decide +kernel
theorem dX0_comeLater_46 : decode cX0_comeLater 46 = .ok (.dup2, 1) := by decide +kernel
theorem dX0_comeLater_47 : decode cX0_comeLater 47 = .ok (.iaload, 1) := by decide +kernel
theorem dX0_comeLater_48 : decode cX0_comeLater 48 = .ok (.lload 4, 2) := by decide +kernel
theorem dX0_comeLater_50 : decode cX0_comeLater 50 = .ok (.lload 4, 2) := by decide +kernel
theorem dX0_comeLater_52 : decode cX0_comeLater 52 = .ok (.lmul, 1) := by decide +kernel
theorem dX0_comeLater_53 : decode cX0_comeLater 53 = .ok (.ldc2_w 113, 3) := by decide +kernel
theorem dX0_comeLater_56 : decode cX0_comeLater 56 = .ok (.lrem, 1) := by decide +kernel
theorem dX0_comeLater_57 : decode cX0_comeLater 57 = .ok (.iload_n 2, 1) := by decide +kernel
theorem dX0_comeLater_58 : decode cX0_comeLater 58 = .ok (.i2l, 1) := by decide +kernel
theorem dX0_comeLater_59 : decode cX0_comeLater 59 = .ok (.lrem, 1) := by decide +kernel
theorem dX0_comeLater_60 : decode cX0_comeLater 60 = .ok (.l2i, 1) := by decide +kernel
theorem dX0_comeLater_61 : decode cX0_comeLater 61 = .ok (.iadd, 1) := by decide +kernel
theorem dX0_comeLater_62 : decode cX0_comeLater 62 = .ok (.iastore, 1) := by decide +kernel
theorem dX0_comeLater_63 : decode cX0_comeLater 63 = .ok (.iinc 3 1, 3) := by decide +kernel
theorem dX0_comeLater_66 : decode cX0_comeLater 66 = .ok (.goto (-54), 3) := by decide +kernel
theorem dX0_comeLater_69 : decode cX0_comeLater 69 = .ok (.return_, 1) := by decide +kernel
theorem dX0_runTo_0 : decode cX0_runTo 0 = .ok (.aload_n 0, 1) := by decide +kernel
theorem dX0_runTo_1 : decode cX0_runTo 1 = .ok (.getfield 87, 3) := by decide +kernel
theorem dX0_runTo_4 : decode cX0_runTo 4 = .ok (.istore_n 2, 1) := by decide +kernel
theorem dX0_runTo_5 : decode cX0_runTo 5 = .ok (.iload_n 2, 1) := by decide +kernel
theorem dX0_runTo_6 : decode cX0_runTo 6 = .ok (.iload_n 1, 1) := by decide +kernel
theorem dX0_runTo_7 : decode cX0_runTo 7 = .ok (.if_icmp .gt 55, 3) := by decide +kernel
theorem dX0_runTo_10 : decode cX0_runTo 10 = .ok (.iload_n 2, 1) := by decide +kernel
theorem dX0_runTo_11 : decode cX0_runTo 11 = .ok (.sipush 400, 3) := by decide +kernel
theorem dX0_runTo_14 : decode cX0_runTo 14 = .ok (.if_icmp .ge 48, 3) := by decide +kernel
theorem dX0_runTo_17 : decode cX0_runTo 17 = .ok (.aload_n 0, 1) := by decide +kernel
theorem dX0_runTo_18 : decode cX0_runTo 18 = .ok (.getfield 90, 3) := by decide +kernel
theorem dX0_runTo_21 : decode cX0_runTo 21 = .ok (.ifCond .le 41, 3) := by decide +kernel
theorem dX0_runTo_24 : decode cX0_runTo 24 = .ok (.aload_n 0, 1) := by decide +kernel
theorem dX0_runTo_25 : decode cX0_runTo 25 = .ok (.iload_n 2, 1) := by decide +kernel
theorem dX0_runTo_26 : decode cX0_runTo 26 = .ok (.invokevirtual 115, 3) := by decide +kernel
theorem dX0_runTo_29 : decode cX0_runTo 29 = .ok (.aload_n 0, 1) := by decide +kernel
theorem dX0_runTo_30 : decode cX0_runTo 30 = .ok (.iload_n 2, 1) := by decide +kernel
theorem dX0_runTo_31 : decode cX0_runTo 31 = .ok (.invokevirtual 119, 3) := by decide +kernel
theorem dX0_runTo_34 : decode cX0_runTo 34 = .ok (.aload_n 0, 1) := by decide +kernel
theorem dX0_runTo_35 : decode cX0_runTo 35 = .ok (.iload_n 2, 1) := by decide +kernel
theorem dX0_runTo_36 : decode cX0_runTo 36 = .ok (.invokevirtual 122, 3) := by decide +kernel
theorem dX0_runTo_39 : decode cX0_runTo 39 = .ok (.aload_n 0, 1) := by decide +kernel
theorem dX0_runTo_40 : decode cX0_runTo 40 = .ok (.iload_n 2, 1) := by decide +kernel
theorem dX0_runTo_41 : decode cX0_runTo 41 = .ok (.invokevirtual 125, 3) := by decide +kernel
theorem dX0_runTo_44 : decode cX0_runTo 44 = .ok (.aload_n 0, 1) := by decide +kernel
theorem dX0_runTo_45 : decode cX0_runTo 45 = .ok (.iload_n 2, 1) := by decide +kernel
theorem dX0_runTo_46 : decode cX0_runTo 46 = .ok (.invokevirtual 128, 3) := by decide +kernel
theorem dX0_runTo_49 : decode cX0_runTo 49 = .ok (.aload_n 0, 1) := by decide +kernel
theorem dX0_runTo_50 : decode cX0_runTo 50 = .ok (.iload_n 2, 1) := by decide +kernel
theorem dX0_runTo_51 : decode cX0_runTo 51 = .ok (.iconst 1, 1) := by decide +kernel
theorem dX0_runTo_52 : decode cX0_runTo 52 = .ok (.iadd, 1) := by decide +kernel
theorem dX0_runTo_53 : decode cX0_runTo 53 = .ok (.putfield 87, 3) := by decide +kernel
theorem dX0_runTo_56 : decode cX0_runTo 56 = .ok (.iinc 2 1, 3) := by decide +kernel
theorem dX0_runTo_59 : decode cX0_runTo 59 = .ok (.goto (-54), 3) := by decide +kernel
theorem dX0_runTo_62 : decode cX0_runTo 62 = .ok (.return_, 1) := by decide +kernel
theorem dX0_comeBack_0 : decode cX0_comeBack 0 = .ok (.iconst 0, 1) := by decide +kernel
theorem dX0_comeBack_1 : decode cX0_comeBack 1 = .ok (.istore_n 2, 1) := by decide +kernel
theorem dX0_comeBack_2 : decode cX0_comeBack 2 = .ok (.iload_n 2, 1) := by decide +kernel
theorem dX0_comeBack_3 : decode cX0_comeBack 3 = .ok (.aload_n 0, 1) := by decide +kernel
theorem dX0_comeBack_4 : decode cX0_comeBack 4 = .ok (.getfield 52, 3) := by decide +kernel
theorem dX0_comeBack_7 : decode cX0_comeBack 7 = .ok (.if_icmp .ge 98, 3) := by decide +kernel
theorem dX0_comeBack_10 : decode cX0_comeBack 10 = .ok (.aload_n 0, 1) := by decide +kernel
theorem dX0_comeBack_11 : decode cX0_comeBack 11 = .ok (.getfield 9, 3) := by decide +kernel
theorem dX0_comeBack_14 : decode cX0_comeBack 14 = .ok (.iload_n 2, 1) := by decide +kernel
theorem dX0_comeBack_15 : decode cX0_comeBack 15 = .ok (.iaload, 1) := by decide +kernel
theorem dX0_comeBack_16 : decode cX0_comeBack 16 = .ok (.iconst 3, 1) := by decide +kernel
theorem dX0_comeBack_17 : decode cX0_comeBack 17 = .ok (.if_icmp .ne 82, 3) := by decide +kernel
theorem dX0_comeBack_20 : decode cX0_comeBack 20 = .ok (.iload_n 1, 1) := by decide +kernel
theorem dX0_comeBack_21 : decode cX0_comeBack 21 = .ok (.aload_n 0, 1) := by decide +kernel
theorem dX0_comeBack_22 : decode cX0_comeBack 22 = .ok (.getfield 18, 3) := by decide +kernel
theorem dX0_comeBack_25 : decode cX0_comeBack 25 = .ok (.iload_n 2, 1) := by decide +kernel
theorem dX0_comeBack_26 : decode cX0_comeBack 26 = .ok (.iaload, 1) := by decide +kernel
theorem dX0_comeBack_27 : decode cX0_comeBack 27 = .ok (.isub, 1) := by decide +kernel
theorem dX0_comeBack_28 : decode cX0_comeBack 28 = .ok (.aload_n 0, 1) := by decide +kernel
theorem dX0_comeBack_29 : decode cX0_comeBack 29 = .ok (.getfield 36, 3) := by decide +kernel
theorem dX0_comeBack_32 : decode cX0_comeBack 32 = .ok (.iload_n 2, 1) := by decide +kernel
theorem dX0_comeBack_33 : decode cX0_comeBack 33 = .ok (.iconst 3, 1) := by decide +kernel
theorem dX0_comeBack_34 : decode cX0_comeBack 34 = .ok (.invokevirtual 78, 3) := by decide +kernel
theorem dX0_comeBack_37 : decode cX0_comeBack 37 = .ok (.if_icmp .eq 6, 3) := by decide +kernel
theorem dX0_comeBack_40 : decode cX0_comeBack 40 = .ok (.goto 59, 3) := by decide +kernel
theorem dX0_comeBack_43 : decode cX0_comeBack 43 = .ok (.aload_n 0, 1) := by decide +kernel
theorem dX0_comeBack_44 : decode cX0_comeBack 44 = .ok (.getfield 15, 3) := by decide +kernel
theorem dX0_comeBack_47 : decode cX0_comeBack 47 = .ok (.iload_n 2, 1) := by decide +kernel
theorem dX0_comeBack_48 : decode cX0_comeBack 48 = .ok (.iaload, 1) := by decide +kernel
theorem dX0_comeBack_49 : decode cX0_comeBack 49 = .ok (.istore_n 3, 1) := by decide +kernel
theorem dX0_comeBack_50 : decode cX0_comeBack 50 = .ok (.aload_n 0, 1) := by decide +kernel
theorem dX0_comeBack_51 : decode cX0_comeBack 51 = .ok (.iload_n 3, 1) := by decide +kernel
theorem dX0_comeBack_52 : decode cX0_comeBack 52 = .ok (.invokevirtual 131, 3) := by decide +kernel
theorem dX0_comeBack_55 : decode cX0_comeBack 55 = .ok (.iload_n 2, 1) := by decide +kernel
theorem dX0_comeBack_56 : decode cX0_comeBack 56 = .ok (.if_icmp .ne 12, 3) := by decide +kernel
theorem dX0_comeBack_59 : decode cX0_comeBack 59 = .ok (.aload_n 0, 1) := by decide +kernel
theorem dX0_comeBack_60 : decode cX0_comeBack 60 = .ok (.iload_n 2, 1) := by decide +kernel
theorem dX0_comeBack_61 : decode cX0_comeBack 61 = .ok (.iload_n 3, 1) := by decide +kernel
theorem dX0_comeBack_62 : decode cX0_comeBack 62 = .ok (.invokevirtual 135, 3) := by decide +kernel
theorem dX0_comeBack_65 : decode cX0_comeBack 65 = .ok (.goto 34, 3) := by decide +kernel
theorem dX0_comeBack_68 : decode cX0_comeBack 68 = .ok (.aload_n 0, 1) := by decide +kernel
theorem dX0_comeBack_69 : decode cX0_comeBack 69 = .ok (.getfield 9, 3) := by decide +kernel
theorem dX0_comeBack_72 : decode cX0_comeBack 72 = .ok (.iload_n 2, 1) := by decide +kernel
theorem dX0_comeBack_73 : decode cX0_comeBack 73 = .ok (.iconst 1, 1) := by decide +kernel
theorem dX0_comeBack_74 : decode cX0_comeBack 74 = .ok (.iastore, 1) := by decide +kernel
theorem dX0_comeBack_75 : decode cX0_comeBack 75 = .ok (.aload_n 0, 1) := by decide +kernel
theorem dX0_comeBack_76 : decode cX0_comeBack 76 = .ok (.getfield 18, 3) := by decide +kernel
theorem dX0_comeBack_79 : decode cX0_comeBack 79 = .ok (.iload_n 2, 1) := by decide +kernel
theorem dX0_comeBack_80 : decode cX0_comeBack 80 = .ok (.iload_n 1, 1) := by decide +kernel
theorem dX0_comeBack_81 : decode cX0_comeBack 81 = .ok (.iastore, 1) := by decide +kernel
theorem dX0_comeBack_82 : decode cX0_comeBack 82 = .ok (.aload_n 0, 1) := by decide +kernel
theorem dX0_comeBack_83 : decode cX0_comeBack 83 = .ok (.dup, 1) := by decide +kernel
theorem dX0_comeBack_84 : decode cX0_comeBack 84 = .ok (.getfield 99, 3) := by decide +kernel
theorem dX0_comeBack_87 : decode cX0_comeBack 87 = .ok (.aload_n 0, 1) := by decide +kernel
theorem dX0_comeBack_88 : decode cX0_comeBack 88 = .ok (.getfield 65, 3) := by decide +kernel
theorem dX0_comeBack_91 : decode cX0_comeBack 91 = .ok (.iconst 1, 1) := by decide +kernel
theorem dX0_comeBack_92 : decode cX0_comeBack 92 = .ok (.iload_n 2, 1) := by decide +kernel
theorem dX0_comeBack_93 : decode cX0_comeBack 93 = .ok (.ishl, 1) := by decide +kernel
theorem dX0_comeBack_94 : decode cX0_comeBack 94 = .ok (.iand, 1) := by decide +kernel
theorem dX0_comeBack_95 : decode cX0_comeBack 95 = .ok (.ior, 1) := by decide +kernel
theorem dX0_comeBack_96 : decode cX0_comeBack 96 = .ok (.putfield 99, 3) := by decide +kernel
theorem dX0_comeBack_99 : decode cX0_comeBack 99 = .ok (.iinc 2 1, 3) := by decide +kernel
theorem dX0_comeBack_102 : decode cX0_comeBack 102 = .ok (.goto (-100), 3) := by decide +kernel
theorem dX0_comeBack_105 : decode cX0_comeBack 105 = .ok (.return_, 1) := by decide +kernel
theorem dX0_freeHeld_0 : decode cX0_freeHeld 0 = .ok (.aload_n 0, 1) := by decide +kernel
theorem dX0_freeHeld_1 : decode cX0_freeHeld 1 = .ok (.getfield 62, 3) := by decide +kernel
theorem dX0_freeHeld_4 : decode cX0_freeHeld 4 = .ok (.iconst 2, 1) := by decide +kernel
theorem dX0_freeHeld_5 : decode cX0_freeHeld 5 = .ok (.if_icmp .ne 23, 3) := by decide +kernel
theorem dX0_freeHeld_8 : decode cX0_freeHeld 8 = .ok (.aload_n 0, 1) := by decide +kernel
theorem dX0_freeHeld_9 : decode cX0_freeHeld 9 = .ok (.getfield 104, 3) := by decide +kernel
theorem dX0_freeHeld_12 : decode cX0_freeHeld 12 = .ok (.ifCond .le 16, 3) := by decide +kernel
theorem dX0_freeHeld_15 : decode cX0_freeHeld 15 = .ok (.iload_n 1, 1) := by decide +kernel
theorem dX0_freeHeld_16 : decode cX0_freeHeld 16 = .ok (.aload_n 0, 1) := by decide +kernel
theorem dX0_freeHeld_17 : decode cX0_freeHeld 17 = .ok (.getfield 104, 3) := by decide +kernel
theorem dX0_freeHeld_20 : decode cX0_freeHeld 20 = .ok (.irem, 1) := by decide +kernel
theorem dX0_freeHeld_21 : decode cX0_freeHeld 21 = .ok (.ifCond .ne 7, 3) := by decide +kernel
theorem dX0_freeHeld_24 : decode cX0_freeHeld 24 = .ok (.iconst 1, 1) := by decide +kernel
theorem dX0_freeHeld_25 : decode cX0_freeHeld 25 = .ok (.goto 4, 3) := by decide +kernel
theorem dX0_freeHeld_28 : decode cX0_freeHeld 28 = .ok (.iconst 0, 1) := by decide +kernel
theorem dX0_freeHeld_29 : decode cX0_freeHeld 29 = .ok (.istore_n 2, 1) := by decide +kernel
theorem dX0_freeHeld_30 : decode cX0_freeHeld 30 = .ok (.iload_n 2, 1) := by decide +kernel
theorem dX0_freeHeld_31 : decode cX0_freeHeld 31 = .ok (.ifCond .ne 12, 3) := by decide +kernel
theorem dX0_freeHeld_34 : decode cX0_freeHeld 34 = .ok (.aload_n 0, 1) := by decide +kernel
theorem dX0_freeHeld_35 : decode cX0_freeHeld 35 = .ok (.getfield 62, 3) := by decide +kernel
theorem dX0_freeHeld_38 : decode cX0_freeHeld 38 = .ok (.iconst 3, 1) := by decide +kernel
theorem dX0_freeHeld_39 : decode cX0_freeHeld 39 = .ok (.if_icmp .eq 4, 3) := by decide +kernel
theorem dX0_freeHeld_42 : decode cX0_freeHeld 42 = .ok (.return_, 1) := by decide +kernel
theorem dX0_freeHeld_43 : decode cX0_freeHeld 43 = .ok (.iload_n 2, 1) := by decide +kernel
theorem dX0_freeHeld_44 : decode cX0_freeHeld 44 = .ok (.ifCond .eq 10, 3) := by decide +kernel
theorem dX0_freeHeld_47 : decode cX0_freeHeld 47 = .ok (.aload_n 0, 1) := by decide +kernel
theorem dX0_freeHeld_48 : decode cX0_freeHeld 48 = .ok (.getfield 102, 3) := by decide +kernel
theorem dX0_freeHeld_51 : decode cX0_freeHeld 51 = .ok (.goto 10, 3) := by decide +kernel
theorem dX0_freeHeld_54 : decode cX0_freeHeld 54 = .ok (.aload_n 0, 1) := by decide +kernel
theorem dX0_freeHeld_55 : decode cX0_freeHeld 55 = .ok (.getfield 36, 3) := by decide +kernel
theorem dX0_freeHeld_58 : decode cX0_freeHeld 58 = .ok (.invokevirtual 138, 3) := by decide +kernel
theorem dX0_freeHeld_61 : decode cX0_freeHeld 61 = .ok (.istore_n 3, 1) := by decide +kernel
theorem dX0_freeHeld_62 : decode cX0_freeHeld 62 = .ok (.iconst 0, 1) := by decide +kernel
theorem dX0_freeHeld_63 : decode cX0_freeHeld 63 = .ok (.istore 4, 2) := by decide +kernel
theorem dX0_freeHeld_65 : decode cX0_freeHeld 65 = .ok (.iload 4, 2) := by decide +kernel
theorem dX0_freeHeld_67 : decode cX0_freeHeld 67 = .ok (.aload_n 0, 1) := by decide +kernel
theorem dX0_freeHeld_68 : decode cX0_freeHeld 68 = .ok (.getfield 59, 3) := by decide +kernel
theorem dX0_freeHeld_71 : decode cX0_freeHeld 71 = .ok (.if_icmp .ge 43, 3) := by decide +kernel
theorem dX0_freeHeld_74 : decode cX0_freeHeld 74 = .ok (.aload_n 0, 1) := by decide +kernel
theorem dX0_freeHeld_75 : decode cX0_freeHeld 75 = .ok (.getfield 30, 3) := by decide +kernel
theorem dX0_freeHeld_78 : decode cX0_freeHeld 78 = .ok (.iload 4, 2) := by decide +kernel
theorem dX0_freeHeld_80 : decode cX0_freeHeld 80 = .ok (.iaload, 1) := by decide +kernel
theorem dX0_freeHeld_81 : decode cX0_freeHeld 81 = .ok (.istore 5, 2) := by decide +kernel
theorem dX0_freeHeld_83 : decode cX0_freeHeld 83 = .ok (.iload 5, 2) := by decide +kernel
theorem dX0_freeHeld_85 : decode cX0_freeHeld 85 = .ok (.iconst (-1), 1) := by decide +kernel
theorem dX0_freeHeld_86 : decode cX0_freeHeld 86 = .ok (.if_icmp .eq 22, 3) := by decide +kernel
theorem dX0_freeHeld_89 : decode cX0_freeHeld 89 = .ok (.aload_n 0, 1) := by decide +kernel
theorem dX0_freeHeld_90 : decode cX0_freeHeld 90 = .ok (.iload 5, 2) := by decide +kernel
theorem dX0_freeHeld_92 : decode cX0_freeHeld 92 = .ok (.iload_n 1, 1) := by decide +kernel
theorem dX0_freeHeld_93 : decode cX0_freeHeld 93 = .ok (.invokevirtual 141, 3) := by decide +kernel
theorem dX0_freeHeld_96 : decode cX0_freeHeld 96 = .ok (.iload_n 3, 1) := by decide +kernel
theorem dX0_freeHeld_97 : decode cX0_freeHeld 97 = .ok (.if_icmp .lt 11, 3) := by decide +kernel
theorem dX0_freeHeld_100 : decode cX0_freeHeld 100 = .ok (.aload_n 0, 1) := by decide +kernel
theorem dX0_freeHeld_101 : decode cX0_freeHeld 101 = .ok (.getfield 30, 3) := by decide +kernel
theorem dX0_freeHeld_104 : decode cX0_freeHeld 104 = .ok (.iload 4, 2) := by decide +kernel
theorem dX0_freeHeld_106 : decode cX0_freeHeld 106 = .ok (.iconst (-1), 1) := by decide +kernel
theorem dX0_freeHeld_107 : decode cX0_freeHeld 107 = .ok (.iastore, 1) := by decide +kernel
theorem dX0_freeHeld_108 : decode cX0_freeHeld 108 = .ok (.iinc 4 1, 3) := by decide +kernel
theorem dX0_freeHeld_111 : decode cX0_freeHeld 111 = .ok (.goto (-46), 3) := by decide +kernel
theorem dX0_freeHeld_114 : decode cX0_freeHeld 114 = .ok (.return_, 1) := by decide +kernel
theorem dX0_seekSeats_0 : decode cX0_seekSeats 0 = .ok (.iconst 0, 1) := by decide +kernel
theorem dX0_seekSeats_1 : decode cX0_seekSeats 1 = .ok (.istore_n 2, 1) := by decide +kernel
theorem dX0_seekSeats_2 : decode cX0_seekSeats 2 = .ok (.iload_n 2, 1) := by decide +kernel
theorem dX0_seekSeats_3 : decode cX0_seekSeats 3 = .ok (.aload_n 0, 1) := by decide +kernel
theorem dX0_seekSeats_4 : decode cX0_seekSeats 4 = .ok (.getfield 52, 3) := by decide +kernel
theorem dX0_seekSeats_7 : decode cX0_seekSeats 7 = .ok (.if_icmp .ge 142, 3) := by decide +kernel
theorem dX0_seekSeats_10 : decode cX0_seekSeats 10 = .ok (.aload_n 0, 1) := by decide +kernel
theorem dX0_seekSeats_11 : decode cX0_seekSeats 11 = .ok (.getfield 9, 3) := by decide +kernel
theorem dX0_seekSeats_14 : decode cX0_seekSeats 14 = .ok (.iload_n 2, 1) := by decide +kernel
theorem dX0_seekSeats_15 : decode cX0_seekSeats 15 = .ok (.iaload, 1) := by decide +kernel
theorem dX0_seekSeats_16 : decode cX0_seekSeats 16 = .ok (.ifCond .ne 27, 3) := by decide +kernel
theorem dX0_seekSeats_19 : decode cX0_seekSeats 19 = .ok (.aload_n 0, 1) := by decide +kernel
theorem dX0_seekSeats_20 : decode cX0_seekSeats 20 = .ok (.getfield 24, 3) := by decide +kernel
theorem dX0_seekSeats_23 : decode cX0_seekSeats 23 = .ok (.iload_n 2, 1) := by decide +kernel
theorem dX0_seekSeats_24 : decode cX0_seekSeats 24 = .ok (.iaload, 1) := by decide +kernel
theorem dX0_seekSeats_25 : decode cX0_seekSeats 25 = .ok (.iload_n 1, 1) := by decide +kernel
theorem dX0_seekSeats_26 : decode cX0_seekSeats 26 = .ok (.if_icmp .ne 17, 3) := by decide +kernel
theorem dX0_seekSeats_29 : decode cX0_seekSeats 29 = .ok (.aload_n 0, 1) := by decide +kernel
theorem dX0_seekSeats_30 : decode cX0_seekSeats 30 = .ok (.getfield 9, 3) := by decide +kernel
theorem dX0_seekSeats_33 : decode cX0_seekSeats 33 = .ok (.iload_n 2, 1) := by decide +kernel
theorem dX0_seekSeats_34 : decode cX0_seekSeats 34 = .ok (.iconst 1, 1) := by decide +kernel
theorem dX0_seekSeats_35 : decode cX0_seekSeats 35 = .ok (.iastore, 1) := by decide +kernel
theorem dX0_seekSeats_36 : decode cX0_seekSeats 36 = .ok (.aload_n 0, 1) := by decide +kernel
theorem dX0_seekSeats_37 : decode cX0_seekSeats 37 = .ok (.getfield 18, 3) := by decide +kernel
theorem dX0_seekSeats_40 : decode cX0_seekSeats 40 = .ok (.iload_n 2, 1) := by decide +kernel
theorem dX0_seekSeats_41 : decode cX0_seekSeats 41 = .ok (.iload_n 1, 1) := by decide +kernel
theorem dX0_seekSeats_42 : decode cX0_seekSeats 42 = .ok (.iastore, 1) := by decide +kernel
theorem dX0_seekSeats_43 : decode cX0_seekSeats 43 = .ok (.aload_n 0, 1) := by decide +kernel
theorem dX0_seekSeats_44 : decode cX0_seekSeats 44 = .ok (.getfield 9, 3) := by decide +kernel
theorem dX0_seekSeats_47 : decode cX0_seekSeats 47 = .ok (.iload_n 2, 1) := by decide +kernel
theorem dX0_seekSeats_48 : decode cX0_seekSeats 48 = .ok (.iaload, 1) := by decide +kernel
theorem dX0_seekSeats_49 : decode cX0_seekSeats 49 = .ok (.iconst 1, 1) := by decide +kernel
theorem dX0_seekSeats_50 : decode cX0_seekSeats 50 = .ok (.if_icmp .eq 6, 3) := by decide +kernel
theorem dX0_seekSeats_53 : decode cX0_seekSeats 53 = .ok (.goto 90, 3) := by decide +kernel
theorem dX0_seekSeats_56 : decode cX0_seekSeats 56 = .ok (.aload_n 0, 1) := by decide +kernel
theorem dX0_seekSeats_57 : decode cX0_seekSeats 57 = .ok (.iload_n 2, 1) := by decide +kernel
theorem dX0_seekSeats_58 : decode cX0_seekSeats 58 = .ok (.invokevirtual 144, 3) := by decide +kernel
theorem dX0_seekSeats_61 : decode cX0_seekSeats 61 = .ok (.istore_n 3, 1) := by decide +kernel
theorem dX0_seekSeats_62 : decode cX0_seekSeats 62 = .ok (.iload_n 3, 1) := by decide +kernel
theorem dX0_seekSeats_63 : decode cX0_seekSeats 63 = .ok (.iconst (-1), 1) := by decide +kernel
theorem dX0_seekSeats_64 : decode cX0_seekSeats 64 = .ok (.if_icmp .ne 18, 3) := by decide +kernel
theorem dX0_seekSeats_67 : decode cX0_seekSeats 67 = .ok (.aload_n 0, 1) := by decide +kernel
theorem dX0_seekSeats_68 : decode cX0_seekSeats 68 = .ok (.getfield 62, 3) := by decide +kernel
theorem dX0_seekSeats_71 : decode cX0_seekSeats 71 = .ok (.iconst 4, 1) := by decide +kernel
theorem dX0_seekSeats_72 : decode cX0_seekSeats 72 = .ok (.if_icmp .ne 10, 3) := by decide +kernel
theorem dX0_seekSeats_75 : decode cX0_seekSeats 75 = .ok (.aload_n 0, 1) := by decide +kernel
theorem dX0_seekSeats_76 : decode cX0_seekSeats 76 = .ok (.iload_n 2, 1) := by decide +kernel
theorem dX0_seekSeats_77 : decode cX0_seekSeats 77 = .ok (.iload_n 1, 1) := by decide +kernel
theorem dX0_seekSeats_78 : decode cX0_seekSeats 78 = .ok (.invokevirtual 147, 3) := by decide +kernel
theorem dX0_seekSeats_81 : decode cX0_seekSeats 81 = .ok (.istore_n 3, 1) := by decide +kernel
theorem dX0_seekSeats_82 : decode cX0_seekSeats 82 = .ok (.iload_n 3, 1) := by decide +kernel
theorem dX0_seekSeats_83 : decode cX0_seekSeats 83 = .ok (.iconst (-1), 1) := by decide +kernel
theorem dX0_seekSeats_84 : decode cX0_seekSeats 84 = .ok (.if_icmp .eq 12, 3) := by decide +kernel
theorem dX0_seekSeats_87 : decode cX0_seekSeats 87 = .ok (.aload_n 0, 1) := by decide +kernel
theorem dX0_seekSeats_88 : decode cX0_seekSeats 88 = .ok (.iload_n 2, 1) := by decide +kernel
theorem dX0_seekSeats_89 : decode cX0_seekSeats 89 = .ok (.iload_n 3, 1) := by decide +kernel
theorem dX0_seekSeats_90 : decode cX0_seekSeats 90 = .ok (.invokevirtual 135, 3) := by decide +kernel
theorem dX0_seekSeats_93 : decode cX0_seekSeats 93 = .ok (.goto 50, 3) := by decide +kernel
theorem dX0_seekSeats_96 : decode cX0_seekSeats 96 = .ok (.iload_n 1, 1) := by decide +kernel
theorem dX0_seekSeats_97 : decode cX0_seekSeats 97 = .ok (.aload_n 0, 1) := by decide +kernel
theorem dX0_seekSeats_98 : decode cX0_seekSeats 98 = .ok (.getfield 18, 3) := by decide +kernel
theorem dX0_seekSeats_101 : decode cX0_seekSeats 101 = .ok (.iload_n 2, 1) := by decide +kernel
theorem dX0_seekSeats_102 : decode cX0_seekSeats 102 = .ok (.iaload, 1) := by decide +kernel
theorem dX0_seekSeats_103 : decode cX0_seekSeats 103 = .ok (.isub, 1) := by decide +kernel
theorem dX0_seekSeats_104 : decode cX0_seekSeats 104 = .ok (.aload_n 0, 1) := by decide +kernel
theorem dX0_seekSeats_105 : decode cX0_seekSeats 105 = .ok (.getfield 36, 3) := by decide +kernel
theorem dX0_seekSeats_108 : decode cX0_seekSeats 108 = .ok (.invokevirtual 150, 3) := by decide +kernel
theorem dX0_seekSeats_111 : decode cX0_seekSeats 111 = .ok (.if_icmp .lt 32, 3) := by decide +kernel
theorem dX0_seekSeats_114 : decode cX0_seekSeats 114 = .ok (.aload_n 0, 1) := by decide +kernel
theorem dX0_seekSeats_115 : decode cX0_seekSeats 115 = .ok (.getfield 9, 3) := by decide +kernel
theorem dX0_seekSeats_118 : decode cX0_seekSeats 118 = .ok (.iload_n 2, 1) := by decide +kernel
theorem dX0_seekSeats_119 : decode cX0_seekSeats 119 = .ok (.iconst 4, 1) := by decide +kernel
theorem dX0_seekSeats_120 : decode cX0_seekSeats 120 = .ok (.iastore, 1) := by decide +kernel
theorem dX0_seekSeats_121 : decode cX0_seekSeats 121 = .ok (.aload_n 0, 1) := by decide +kernel
theorem dX0_seekSeats_122 : decode cX0_seekSeats 122 = .ok (.dup, 1) := by decide +kernel
theorem dX0_seekSeats_123 : decode cX0_seekSeats 123 = .ok (.getfield 90, 3) := by decide +kernel
theorem dX0_seekSeats_126 : decode cX0_seekSeats 126 = .ok (.iconst 1, 1) := by decide +kernel
theorem dX0_seekSeats_127 : decode cX0_seekSeats 127 = .ok (.isub, 1) := by decide +kernel
theorem dX0_seekSeats_128 : decode cX0_seekSeats 128 = .ok (.putfield 90, 3) := by decide +kernel
theorem dX0_seekSeats_131 : decode cX0_seekSeats 131 = .ok (.aload_n 0, 1) := by decide +kernel
theorem dX0_seekSeats_132 : decode cX0_seekSeats 132 = .ok (.dup, 1) := by decide +kernel
theorem dX0_seekSeats_133 : decode cX0_seekSeats 133 = .ok (.getfield 96, 3) := by decide +kernel
theorem dX0_seekSeats_136 : decode cX0_seekSeats 136 = .ok (.iconst 1, 1) := by decide +kernel
theorem dX0_seekSeats_137 : decode cX0_seekSeats 137 = .ok (.iload_n 2, 1) := by decide +kernel
theorem dX0_seekSeats_138 : decode cX0_seekSeats 138 = .ok (.ishl, 1) := by decide +kernel
theorem dX0_seekSeats_139 : decode cX0_seekSeats 139 = .ok (.ior, 1) := by decide +kernel
theorem dX0_seekSeats_140 : decode cX0_seekSeats 140 = .ok (.putfield 96, 3) := by decide +kernel
theorem dX0_seekSeats_143 : decode cX0_seekSeats 143 = .ok (.iinc 2 1, 3) := by decide +kernel
theorem dX0_seekSeats_146 : decode cX0_seekSeats 146 = .ok (.goto (-144), 3) := by decide +kernel
theorem dX0_seekSeats_149 : decode cX0_seekSeats 149 = .ok (.return_, 1) := by decide +kernel
theorem dX0_freeSeatFor_0 : decode cX0_freeSeatFor 0 = .ok (.aload_n 0, 1) := by decide +kernel
theorem dX0_freeSeatFor_1 : decode cX0_freeSeatFor 1 = .ok (.getfield 36, 3) := by decide +kernel
theorem dX0_freeSeatFor_4 : decode cX0_freeSeatFor 4 = .ok (.iload_n 1, 1) := by decide +kernel
theorem dX0_freeSeatFor_5 : decode cX0_freeSeatFor 5 = .ok (.iconst 4, 1) := by decide +kernel
theorem dX0_freeSeatFor_6 : decode cX0_freeSeatFor 6 = .ok (.invokevirtual 78, 3) := by decide +kernel
theorem dX0_freeSeatFor_9 : decode cX0_freeSeatFor 9 = .ok (.istore_n 2, 1) := by decide +kernel
theorem dX0_freeSeatFor_10 : decode cX0_freeSeatFor 10 = .ok (.iconst (-1), 1) := by decide +kernel
theorem dX0_freeSeatFor_11 : decode cX0_freeSeatFor 11 = .ok (.istore_n 3, 1) := by decide +kernel
theorem dX0_freeSeatFor_12 : decode cX0_freeSeatFor 12 = .ok (.iconst (-1), 1) := by decide +kernel
theorem dX0_freeSeatFor_13 : decode cX0_freeSeatFor 13 = .ok (.istore 4, 2) := by decide +kernel
theorem dX0_freeSeatFor_15 : decode cX0_freeSeatFor 15 = .ok (.iconst 0, 1) := by decide +kernel
theorem dX0_freeSeatFor_16 : decode cX0_freeSeatFor 16 = .ok (.istore 5, 2) := by decide +kernel
theorem dX0_freeSeatFor_18 : decode cX0_freeSeatFor 18 = .ok (.iload 5, 2) := by decide +kernel
theorem dX0_freeSeatFor_20 : decode cX0_freeSeatFor 20 = .ok (.aload_n 0, 1) := by decide +kernel
theorem dX0_freeSeatFor_21 : decode cX0_freeSeatFor 21 = .ok (.getfield 59, 3) := by decide +kernel
theorem dX0_freeSeatFor_24 : decode cX0_freeSeatFor 24 = .ok (.if_icmp .ge 64, 3) := by decide +kernel
theorem dX0_freeSeatFor_27 : decode cX0_freeSeatFor 27 = .ok (.aload_n 0, 1) := by decide +kernel
theorem dX0_freeSeatFor_28 : decode cX0_freeSeatFor 28 = .ok (.getfield 27, 3) := by decide +kernel
theorem dX0_freeSeatFor_31 : decode cX0_freeSeatFor 31 = .ok (.iload 5, 2) := by decide +kernel
theorem dX0_freeSeatFor_33 : decode cX0_freeSeatFor 33 = .ok (.iaload, 1) := by decide +kernel
theorem dX0_freeSeatFor_34 : decode cX0_freeSeatFor 34 = .ok (.iconst (-1), 1) := by decide +kernel
theorem dX0_freeSeatFor_35 : decode cX0_freeSeatFor 35 = .ok (.if_icmp .ne 47, 3) := by decide +kernel
theorem dX0_freeSeatFor_38 : decode cX0_freeSeatFor 38 = .ok (.aload_n 0, 1) := by decide +kernel
theorem dX0_freeSeatFor_39 : decode cX0_freeSeatFor 39 = .ok (.getfield 30, 3) := by decide +kernel
theorem dX0_freeSeatFor_42 : decode cX0_freeSeatFor 42 = .ok (.iload 5, 2) := by decide +kernel
theorem dX0_freeSeatFor_44 : decode cX0_freeSeatFor 44 = .ok (.iaload, 1) := by decide +kernel
theorem dX0_freeSeatFor_45 : decode cX0_freeSeatFor 45 = .ok (.iconst (-1), 1) := by decide +kernel
theorem dX0_freeSeatFor_46 : decode cX0_freeSeatFor 46 = .ok (.if_icmp .eq 6, 3) := by decide +kernel
theorem dX0_freeSeatFor_49 : decode cX0_freeSeatFor 49 = .ok (.goto 33, 3) := by decide +kernel
theorem dX0_freeSeatFor_52 : decode cX0_freeSeatFor 52 = .ok (.aload_n 0, 1) := by decide +kernel
theorem dX0_freeSeatFor_53 : decode cX0_freeSeatFor 53 = .ok (.getfield 36, 3) := by decide +kernel
theorem dX0_freeSeatFor_56 : decode cX0_freeSeatFor 56 = .ok (.iload 5, 2) := by decide +kernel
theorem dX0_freeSeatFor_58 : decode cX0_freeSeatFor 58 = .ok (.invokevirtual 153, 3) := by decide +kernel
theorem dX0_freeSeatFor_61 : decode cX0_freeSeatFor 61 = .ok (.iload_n 2, 1) := by decide +kernel
theorem dX0_freeSeatFor_62 : decode cX0_freeSeatFor 62 = .ok (.iand, 1) := by decide +kernel
theorem dX0_freeSeatFor_63 : decode cX0_freeSeatFor 63 = .ok (.invokestatic 156, 3) := by decide +kernel
theorem dX0_freeSeatFor_66 : decode cX0_freeSeatFor 66 = .ok (.istore 6, 2) := by decide +kernel
theorem dX0_freeSeatFor_68 : decode cX0_freeSeatFor 68 = .ok (.iload 6, 2) := by decide +kernel
theorem dX0_freeSeatFor_70 : decode cX0_freeSeatFor 70 = .ok (.iload 4, 2) := by decide +kernel
theorem dX0_freeSeatFor_72 : decode cX0_freeSeatFor 72 = .ok (.if_icmp .le 10, 3) := by decide +kernel
theorem dX0_freeSeatFor_75 : decode cX0_freeSeatFor 75 = .ok (.iload 5, 2) := by decide +kernel
theorem dX0_freeSeatFor_77 : decode cX0_freeSeatFor 77 = .ok (.istore_n 3, 1) := by decide +kernel
theorem dX0_freeSeatFor_78 : decode cX0_freeSeatFor 78 = .ok (.iload 6, 2) := by decide +kernel
theorem dX0_freeSeatFor_80 : decode cX0_freeSeatFor 80 = .ok (.istore 4, 2) := by decide +kernel
theorem dX0_freeSeatFor_82 : decode cX0_freeSeatFor 82 = .ok (.iinc 5 1, 3) := by decide +kernel
theorem dX0_freeSeatFor_85 : decode cX0_freeSeatFor 85 = .ok (.goto (-67), 3) := by decide +kernel
theorem dX0_freeSeatFor_88 : decode cX0_freeSeatFor 88 = .ok (.iload_n 3, 1) := by decide +kernel
theorem dX0_freeSeatFor_89 : decode cX0_freeSeatFor 89 = .ok (.ireturn, 1) := by decide +kernel
theorem dX0_daredSeatFor_0 : decode cX0_daredSeatFor 0 = .ok (.iconst 0, 1) := by decide +kernel
theorem dX0_daredSeatFor_1 : decode cX0_daredSeatFor 1 = .ok (.istore_n 3, 1) := by decide +kernel
theorem dX0_daredSeatFor_2 : decode cX0_daredSeatFor 2 = .ok (.iload_n 3, 1) := by decide +kernel
theorem dX0_daredSeatFor_3 : decode cX0_daredSeatFor 3 = .ok (.aload_n 0, 1) := by decide +kernel
theorem dX0_daredSeatFor_4 : decode cX0_daredSeatFor 4 = .ok (.getfield 59, 3) := by decide +kernel
theorem dX0_daredSeatFor_7 : decode cX0_daredSeatFor 7 = .ok (.if_icmp .ge 59, 3) := by decide +kernel
theorem dX0_daredSeatFor_10 : decode cX0_daredSeatFor 10 = .ok (.aload_n 0, 1) := by decide +kernel
theorem dX0_daredSeatFor_11 : decode cX0_daredSeatFor 11 = .ok (.getfield 30, 3) := by decide +kernel
theorem dX0_daredSeatFor_14 : decode cX0_daredSeatFor 14 = .ok (.iload_n 3, 1) := by decide +kernel
theorem dX0_daredSeatFor_15 : decode cX0_daredSeatFor 15 = .ok (.iaload, 1) := by decide +kernel
theorem dX0_daredSeatFor_16 : decode cX0_daredSeatFor 16 = .ok (.istore 4, 2) := by decide +kernel
theorem dX0_daredSeatFor_18 : decode cX0_daredSeatFor 18 = .ok (.iload 4, 2) := by decide +kernel
theorem dX0_daredSeatFor_20 : decode cX0_daredSeatFor 20 = .ok (.iconst (-1), 1) := by decide +kernel
theorem dX0_daredSeatFor_21 : decode cX0_daredSeatFor 21 = .ok (.if_icmp .eq 39, 3) := by decide +kernel
theorem dX0_daredSeatFor_24 : decode cX0_daredSeatFor 24 = .ok (.aload_n 0, 1) := by decide +kernel
theorem dX0_daredSeatFor_25 : decode cX0_daredSeatFor 25 = .ok (.getfield 36, 3) := by decide +kernel
theorem dX0_daredSeatFor_28 : decode cX0_daredSeatFor 28 = .ok (.iload 4, 2) := by decide +kernel
theorem dX0_daredSeatFor_30 : decode cX0_daredSeatFor 30 = .ok (.iconst 5, 1) := by decide +kernel
theorem dX0_daredSeatFor_31 : decode cX0_daredSeatFor 31 = .ok (.invokevirtual 78, 3) := by decide +kernel
theorem dX0_daredSeatFor_34 : decode cX0_daredSeatFor 34 = .ok (.aload_n 0, 1) := by decide +kernel
theorem dX0_daredSeatFor_35 : decode cX0_daredSeatFor 35 = .ok (.getfield 36, 3) := by decide +kernel
theorem dX0_daredSeatFor_38 : decode cX0_daredSeatFor 38 = .ok (.iload_n 1, 1) := by decide +kernel
theorem dX0_daredSeatFor_39 : decode cX0_daredSeatFor 39 = .ok (.bipush 6, 2) := by decide +kernel
theorem dX0_daredSeatFor_41 : decode cX0_daredSeatFor 41 = .ok (.invokevirtual 78, 3) := by decide +kernel
theorem dX0_daredSeatFor_44 : decode cX0_daredSeatFor 44 = .ok (.aload_n 0, 1) := by decide +kernel
theorem dX0_daredSeatFor_45 : decode cX0_daredSeatFor 45 = .ok (.iload 4, 2) := by decide +kernel
theorem dX0_daredSeatFor_47 : decode cX0_daredSeatFor 47 = .ok (.iload_n 2, 1) := by decide +kernel
theorem dX0_daredSeatFor_48 : decode cX0_daredSeatFor 48 = .ok (.invokevirtual 141, 3) := by decide +kernel
theorem dX0_daredSeatFor_51 : decode cX0_daredSeatFor 51 = .ok (.bipush 10, 2) := by decide +kernel
theorem dX0_daredSeatFor_53 : decode cX0_daredSeatFor 53 = .ok (.idiv, 1) := by decide +kernel
theorem dX0_daredSeatFor_54 : decode cX0_daredSeatFor 54 = .ok (.iadd, 1) := by decide +kernel
theorem dX0_daredSeatFor_55 : decode cX0_daredSeatFor 55 = .ok (.if_icmp .gt 5, 3) := by decide +kernel
theorem dX0_daredSeatFor_58 : decode cX0_daredSeatFor 58 = .ok (.iload_n 3, 1) := by decide +kernel
theorem dX0_daredSeatFor_59 : decode cX0_daredSeatFor 59 = .ok (.ireturn, 1) := by decide +kernel
theorem dX0_daredSeatFor_60 : decode cX0_daredSeatFor 60 = .ok (.iinc 3 1, 3) := by decide +kernel
theorem dX0_daredSeatFor_63 : decode cX0_daredSeatFor 63 = .ok (.goto (-61), 3) := by decide +kernel
theorem dX0_daredSeatFor_66 : decode cX0_daredSeatFor 66 = .ok (.iconst (-1), 1) := by decide +kernel
theorem dX0_daredSeatFor_67 : decode cX0_daredSeatFor 67 = .ok (.ireturn, 1) := by decide +kernel
theorem dX0_sitDown_0 : decode cX0_sitDown 0 = .ok (.iload_n 2, 1) := by decide +kernel
theorem dX0_sitDown_1 : decode cX0_sitDown 1 = .ok (.ifCond .lt 12, 3) := by decide +kernel
theorem dX0_sitDown_4 : decode cX0_sitDown 4 = .ok (.iload_n 2, 1) := by decide +kernel
theorem dX0_sitDown_5 : decode cX0_sitDown 5 = .ok (.aload_n 0, 1) := by decide +kernel
theorem dX0_sitDown_6 : decode cX0_sitDown 6 = .ok (.getfield 27, 3) := by decide +kernel
theorem dX0_sitDown_9 : decode cX0_sitDown 9 = .ok (.arraylength, 1) := by decide +kernel
theorem dX0_sitDown_10 : decode cX0_sitDown 10 = .ok (.if_icmp .lt 4, 3) := by decide +kernel
theorem dX0_sitDown_13 : decode cX0_sitDown 13 = .ok (.return_, 1) := by decide +kernel
theorem dX0_sitDown_14 : decode cX0_sitDown 14 = .ok (.aload_n 0, 1) := by decide +kernel
theorem dX0_sitDown_15 : decode cX0_sitDown 15 = .ok (.getfield 27, 3) := by decide +kernel
theorem dX0_sitDown_18 : decode cX0_sitDown 18 = .ok (.iload_n 2, 1) := by decide +kernel
theorem dX0_sitDown_19 : decode cX0_sitDown 19 = .ok (.iload_n 1, 1) := by decide +kernel
theorem dX0_sitDown_20 : decode cX0_sitDown 20 = .ok (.iastore, 1) := by decide +kernel
theorem dX0_sitDown_21 : decode cX0_sitDown 21 = .ok (.aload_n 0, 1) := by decide +kernel
theorem dX0_sitDown_22 : decode cX0_sitDown 22 = .ok (.getfield 30, 3) := by decide +kernel
theorem dX0_sitDown_25 : decode cX0_sitDown 25 = .ok (.iload_n 2, 1) := by decide +kernel
theorem dX0_sitDown_26 : decode cX0_sitDown 26 = .ok (.iconst (-1), 1) := by decide +kernel
theorem dX0_sitDown_27 : decode cX0_sitDown 27 = .ok (.iastore, 1) := by decide +kernel
theorem dX0_sitDown_28 : decode cX0_sitDown 28 = .ok (.aload_n 0, 1) := by decide +kernel
theorem dX0_sitDown_29 : decode cX0_sitDown 29 = .ok (.getfield 15, 3) := by decide +kernel
theorem dX0_sitDown_32 : decode cX0_sitDown 32 = .ok (.iload_n 1, 1) := by decide +kernel
theorem dX0_sitDown_33 : decode cX0_sitDown 33 = .ok (.iload_n 2, 1) := by decide +kernel
theorem dX0_sitDown_34 : decode cX0_sitDown 34 = .ok (.iastore, 1) := by decide +kernel
theorem dX0_sitDown_35 : decode cX0_sitDown 35 = .ok (.aload_n 0, 1) := by decide +kernel
theorem dX0_sitDown_36 : decode cX0_sitDown 36 = .ok (.getfield 9, 3) := by decide +kernel
theorem dX0_sitDown_39 : decode cX0_sitDown 39 = .ok (.iload_n 1, 1) := by decide +kernel
theorem dX0_sitDown_40 : decode cX0_sitDown 40 = .ok (.iconst 2, 1) := by decide +kernel
theorem dX0_sitDown_41 : decode cX0_sitDown 41 = .ok (.iastore, 1) := by decide +kernel
theorem dX0_sitDown_42 : decode cX0_sitDown 42 = .ok (.return_, 1) := by decide +kernel
theorem dX0_sitOn_0 : decode cX0_sitOn 0 = .ok (.iconst 0, 1) := by decide +kernel
theorem dX0_sitOn_1 : decode cX0_sitOn 1 = .ok (.istore_n 2, 1) := by decide +kernel
theorem dX0_sitOn_2 : decode cX0_sitOn 2 = .ok (.iload_n 2, 1) := by decide +kernel
theorem dX0_sitOn_3 : decode cX0_sitOn 3 = .ok (.aload_n 0, 1) := by decide +kernel
theorem dX0_sitOn_4 : decode cX0_sitOn 4 = .ok (.getfield 52, 3) := by decide +kernel
theorem dX0_sitOn_7 : decode cX0_sitOn 7 = .ok (.if_icmp .ge 159, 3) := by decide +kernel
theorem dX0_sitOn_10 : decode cX0_sitOn 10 = .ok (.aload_n 0, 1) := by decide +kernel
theorem dX0_sitOn_11 : decode cX0_sitOn 11 = .ok (.getfield 15, 3) := by decide +kernel
theorem dX0_sitOn_14 : decode cX0_sitOn 14 = .ok (.iload_n 2, 1) := by decide +kernel
theorem dX0_sitOn_15 : decode cX0_sitOn 15 = .ok (.iaload, 1) := by decide +kernel
theorem dX0_sitOn_16 : decode cX0_sitOn 16 = .ok (.istore_n 3, 1) := by decide +kernel
theorem dX0_sitOn_17 : decode cX0_sitOn 17 = .ok (.aload_n 0, 1) := by decide +kernel
theorem dX0_sitOn_18 : decode cX0_sitOn 18 = .ok (.getfield 9, 3) := by decide +kernel
theorem dX0_sitOn_21 : decode cX0_sitOn 21 = .ok (.iload_n 2, 1) := by decide +kernel
theorem dX0_sitOn_22 : decode cX0_sitOn 22 = .ok (.iaload, 1) := by decide +kernel
theorem dX0_sitOn_23 : decode cX0_sitOn 23 = .ok (.iconst 2, 1) := by decide +kernel
theorem dX0_sitOn_24 : decode cX0_sitOn 24 = .ok (.if_icmp .ne 136, 3) := by decide +kernel
theorem dX0_sitOn_27 : decode cX0_sitOn 27 = .ok (.iload_n 3, 1) := by decide +kernel
theorem dX0_sitOn_28 : decode cX0_sitOn 28 = .ok (.ifCond .lt 132, 3) := by decide +kernel
theorem dX0_sitOn_31 : decode cX0_sitOn 31 = .ok (.iload_n 3, 1) := by decide +kernel
theorem dX0_sitOn_32 : decode cX0_sitOn 32 = .ok (.aload_n 0, 1) := by decide +kernel
theorem dX0_sitOn_33 : decode cX0_sitOn 33 = .ok (.getfield 27, 3) := by decide +kernel
theorem dX0_sitOn_36 : decode cX0_sitOn 36 = .ok (.arraylength, 1) := by decide +kernel
theorem dX0_sitOn_37 : decode cX0_sitOn 37 = .ok (.if_icmp .lt 6, 3) := by decide +kernel
theorem dX0_sitOn_40 : decode cX0_sitOn 40 = .ok (.goto 120, 3) := by decide +kernel
theorem dX0_sitOn_43 : decode cX0_sitOn 43 = .ok (.aload_n 0, 1) := by decide +kernel
theorem dX0_sitOn_44 : decode cX0_sitOn 44 = .ok (.getfield 21, 3) := by decide +kernel
theorem dX0_sitOn_47 : decode cX0_sitOn 47 = .ok (.iload_n 2, 1) := by decide +kernel
theorem dX0_sitOn_48 : decode cX0_sitOn 48 = .ok (.dup2, 1) := by decide +kernel
theorem dX0_sitOn_49 : decode cX0_sitOn 49 = .ok (.iaload, 1) := by decide +kernel
theorem dX0_sitOn_50 : decode cX0_sitOn 50 = .ok (.iconst 1, 1) := by decide +kernel
theorem dX0_sitOn_51 : decode cX0_sitOn 51 = .ok (.iadd, 1) := by decide +kernel
theorem dX0_sitOn_52 : decode cX0_sitOn 52 = .ok (.iastore, 1) := by decide +kernel
theorem dX0_sitOn_53 : decode cX0_sitOn 53 = .ok (.aload_n 0, 1) := by decide +kernel
theorem dX0_sitOn_54 : decode cX0_sitOn 54 = .ok (.getfield 21, 3) := by decide +kernel
theorem dX0_sitOn_57 : decode cX0_sitOn 57 = .ok (.iload_n 2, 1) := by decide +kernel
theorem dX0_sitOn_58 : decode cX0_sitOn 58 = .ok (.iaload, 1) := by decide +kernel
theorem dX0_sitOn_59 : decode cX0_sitOn 59 = .ok (.aload_n 0, 1) := by decide +kernel
theorem dX0_sitOn_60 : decode cX0_sitOn 60 = .ok (.getfield 36, 3) := by decide +kernel
theorem dX0_sitOn_63 : decode cX0_sitOn 63 = .ok (.iload_n 2, 1) := by decide +kernel
theorem dX0_sitOn_64 : decode cX0_sitOn 64 = .ok (.iconst 1, 1) := by decide +kernel
theorem dX0_sitOn_65 : decode cX0_sitOn 65 = .ok (.invokevirtual 78, 3) := by decide +kernel
theorem dX0_sitOn_68 : decode cX0_sitOn 68 = .ok (.if_icmp .lt 30, 3) := by decide +kernel
theorem dX0_sitOn_71 : decode cX0_sitOn 71 = .ok (.aload_n 0, 1) := by decide +kernel
theorem dX0_sitOn_72 : decode cX0_sitOn 72 = .ok (.getfield 27, 3) := by decide +kernel
theorem dX0_sitOn_75 : decode cX0_sitOn 75 = .ok (.iload_n 3, 1) := by decide +kernel
theorem dX0_sitOn_76 : decode cX0_sitOn 76 = .ok (.iconst (-1), 1) := by decide +kernel
theorem dX0_sitOn_77 : decode cX0_sitOn 77 = .ok (.iastore, 1) := by decide +kernel
theorem dX0_sitOn_78 : decode cX0_sitOn 78 = .ok (.aload_n 0, 1) := by decide +kernel
theorem dX0_sitOn_79 : decode cX0_sitOn 79 = .ok (.getfield 9, 3) := by decide +kernel
theorem dX0_sitOn_82 : decode cX0_sitOn 82 = .ok (.iload_n 2, 1) := by decide +kernel
theorem dX0_sitOn_83 : decode cX0_sitOn 83 = .ok (.iconst 4, 1) := by decide +kernel
theorem dX0_sitOn_84 : decode cX0_sitOn 84 = .ok (.iastore, 1) := by decide +kernel
theorem dX0_sitOn_85 : decode cX0_sitOn 85 = .ok (.aload_n 0, 1) := by decide +kernel
theorem dX0_sitOn_86 : decode cX0_sitOn 86 = .ok (.dup, 1) := by decide +kernel
theorem dX0_sitOn_87 : decode cX0_sitOn 87 = .ok (.getfield 90, 3) := by decide +kernel
theorem dX0_sitOn_90 : decode cX0_sitOn 90 = .ok (.iconst 1, 1) := by decide +kernel
theorem dX0_sitOn_91 : decode cX0_sitOn 91 = .ok (.isub, 1) := by decide +kernel
theorem dX0_sitOn_92 : decode cX0_sitOn 92 = .ok (.putfield 90, 3) := by decide +kernel
theorem dX0_sitOn_95 : decode cX0_sitOn 95 = .ok (.goto 65, 3) := by decide +kernel
theorem dX0_sitOn_98 : decode cX0_sitOn 98 = .ok (.aload_n 0, 1) := by decide +kernel
theorem dX0_sitOn_99 : decode cX0_sitOn 99 = .ok (.getfield 21, 3) := by decide +kernel
theorem dX0_sitOn_102 : decode cX0_sitOn 102 = .ok (.iload_n 2, 1) := by decide +kernel
theorem dX0_sitOn_103 : decode cX0_sitOn 103 = .ok (.iaload, 1) := by decide +kernel
theorem dX0_sitOn_104 : decode cX0_sitOn 104 = .ok (.aload_n 0, 1) := by decide +kernel
theorem dX0_sitOn_105 : decode cX0_sitOn 105 = .ok (.getfield 36, 3) := by decide +kernel
theorem dX0_sitOn_108 : decode cX0_sitOn 108 = .ok (.iload_n 2, 1) := by decide +kernel
theorem dX0_sitOn_109 : decode cX0_sitOn 109 = .ok (.iconst 2, 1) := by decide +kernel
theorem dX0_sitOn_110 : decode cX0_sitOn 110 = .ok (.invokevirtual 78, 3) := by decide +kernel
theorem dX0_sitOn_113 : decode cX0_sitOn 113 = .ok (.if_icmp .ne 47, 3) := by decide +kernel
theorem dX0_sitOn_116 : decode cX0_sitOn 116 = .ok (.aload_n 0, 1) := by decide +kernel
theorem dX0_sitOn_117 : decode cX0_sitOn 117 = .ok (.getfield 27, 3) := by decide +kernel
theorem dX0_sitOn_120 : decode cX0_sitOn 120 = .ok (.iload_n 3, 1) := by decide +kernel
theorem dX0_sitOn_121 : decode cX0_sitOn 121 = .ok (.iconst (-1), 1) := by decide +kernel
theorem dX0_sitOn_122 : decode cX0_sitOn 122 = .ok (.iastore, 1) := by decide +kernel
theorem dX0_sitOn_123 : decode cX0_sitOn 123 = .ok (.aload_n 0, 1) := by decide +kernel
theorem dX0_sitOn_124 : decode cX0_sitOn 124 = .ok (.getfield 30, 3) := by decide +kernel
theorem dX0_sitOn_127 : decode cX0_sitOn 127 = .ok (.iload_n 3, 1) := by decide +kernel
theorem dX0_sitOn_128 : decode cX0_sitOn 128 = .ok (.aload_n 0, 1) := by decide +kernel
theorem dX0_sitOn_129 : decode cX0_sitOn 129 = .ok (.getfield 65, 3) := by decide +kernel
theorem dX0_sitOn_132 : decode cX0_sitOn 132 = .ok (.iload_n 2, 1) := by decide +kernel
theorem dX0_sitOn_133 : decode cX0_sitOn 133 = .ok (.ishr, 1) := by decide +kernel
theorem dX0_sitOn_134 : decode cX0_sitOn 134 = .ok (.iconst 1, 1) := by decide +kernel
theorem dX0_sitOn_135 : decode cX0_sitOn 135 = .ok (.iand, 1) := by decide +kernel
theorem dX0_sitOn_136 : decode cX0_sitOn 136 = .ok (.iconst 1, 1) := by decide +kernel
theorem dX0_sitOn_137 : decode cX0_sitOn 137 = .ok (.if_icmp .ne 7, 3) := by decide +kernel
theorem dX0_sitOn_140 : decode cX0_sitOn 140 = .ok (.iload_n 2, 1) := by decide +kernel
theorem dX0_sitOn_141 : decode cX0_sitOn 141 = .ok (.goto 4, 3) := by decide +kernel
theorem dX0_sitOn_144 : decode cX0_sitOn 144 = .ok (.iconst (-1), 1) := by decide +kernel
theorem dX0_sitOn_145 : decode cX0_sitOn 145 = .ok (.iastore, 1) := by decide +kernel
theorem dX0_sitOn_146 : decode cX0_sitOn 146 = .ok (.aload_n 0, 1) := by decide +kernel
theorem dX0_sitOn_147 : decode cX0_sitOn 147 = .ok (.getfield 9, 3) := by decide +kernel
theorem dX0_sitOn_150 : decode cX0_sitOn 150 = .ok (.iload_n 2, 1) := by decide +kernel
theorem dX0_sitOn_151 : decode cX0_sitOn 151 = .ok (.iconst 3, 1) := by decide +kernel
theorem dX0_sitOn_152 : decode cX0_sitOn 152 = .ok (.iastore, 1) := by decide +kernel
theorem dX0_sitOn_153 : decode cX0_sitOn 153 = .ok (.aload_n 0, 1) := by decide +kernel
theorem dX0_sitOn_154 : decode cX0_sitOn 154 = .ok (.getfield 18, 3) := by decide +kernel
theorem dX0_sitOn_157 : decode cX0_sitOn 157 = .ok (.iload_n 2, 1) := by decide +kernel
theorem dX0_sitOn_158 : decode cX0_sitOn 158 = .ok (.iload_n 1, 1) := by decide +kernel
theorem dX0_sitOn_159 : decode cX0_sitOn 159 = .ok (.iastore, 1) := by decide +kernel
theorem dX0_sitOn_160 : decode cX0_sitOn 160 = .ok (.iinc 2 1, 3) := by decide +kernel
theorem dX0_sitOn_163 : decode cX0_sitOn 163 = .ok (.goto (-161), 3) := by decide +kernel
theorem dX0_sitOn_166 : decode cX0_sitOn 166 = .ok (.return_, 1) := by decide +kernel
theorem dX0_countSeats_0 : decode cX0_countSeats 0 = .ok (.iconst 0, 1) := by decide +kernel
theorem dX0_countSeats_1 : decode cX0_countSeats 1 = .ok (.istore_n 2, 1) := by decide +kernel
theorem dX0_countSeats_2 : decode cX0_countSeats 2 = .ok (.iconst 0, 1) := by decide +kernel
theorem dX0_countSeats_3 : decode cX0_countSeats 3 = .ok (.istore_n 3, 1) := by decide +kernel
theorem dX0_countSeats_4 : decode cX0_countSeats 4 = .ok (.iload_n 3, 1) := by decide +kernel
theorem dX0_countSeats_5 : decode cX0_countSeats 5 = .ok (.aload_n 0, 1) := by decide +kernel
theorem dX0_countSeats_6 : decode cX0_countSeats 6 = .ok (.getfield 59, 3) := by decide +kernel
theorem dX0_countSeats_9 : decode cX0_countSeats 9 = .ok (.if_icmp .ge 51, 3) := by decide +kernel
theorem dX0_countSeats_12 : decode cX0_countSeats 12 = .ok (.iload_n 2, 1) := by decide +kernel
theorem dX0_countSeats_13 : decode cX0_countSeats 13 = .ok (.aload_n 0, 1) := by decide +kernel
theorem dX0_countSeats_14 : decode cX0_countSeats 14 = .ok (.getfield 27, 3) := by decide +kernel
theorem dX0_countSeats_17 : decode cX0_countSeats 17 = .ok (.iload_n 3, 1) := by decide +kernel
theorem dX0_countSeats_18 : decode cX0_countSeats 18 = .ok (.iaload, 1) := by decide +kernel
theorem dX0_countSeats_19 : decode cX0_countSeats 19 = .ok (.iconst (-1), 1) := by decide +kernel
theorem dX0_countSeats_20 : decode cX0_countSeats 20 = .ok (.if_icmp .eq 7, 3) := by decide +kernel
theorem dX0_countSeats_23 : decode cX0_countSeats 23 = .ok (.iconst 1, 1) := by decide +kernel
theorem dX0_countSeats_24 : decode cX0_countSeats 24 = .ok (.goto 4, 3) := by decide +kernel
theorem dX0_countSeats_27 : decode cX0_countSeats 27 = .ok (.iconst 0, 1) := by decide +kernel
theorem dX0_countSeats_28 : decode cX0_countSeats 28 = .ok (.iadd, 1) := by decide +kernel
theorem dX0_countSeats_29 : decode cX0_countSeats 29 = .ok (.istore_n 2, 1) := by decide +kernel
theorem dX0_countSeats_30 : decode cX0_countSeats 30 = .ok (.aload_n 0, 1) := by decide +kernel
theorem dX0_countSeats_31 : decode cX0_countSeats 31 = .ok (.dup, 1) := by decide +kernel
theorem dX0_countSeats_32 : decode cX0_countSeats 32 = .ok (.getfield 93, 3) := by decide +kernel
theorem dX0_countSeats_35 : decode cX0_countSeats 35 = .ok (.aload_n 0, 1) := by decide +kernel
theorem dX0_countSeats_36 : decode cX0_countSeats 36 = .ok (.getfield 30, 3) := by decide +kernel
theorem dX0_countSeats_39 : decode cX0_countSeats 39 = .ok (.iload_n 3, 1) := by decide +kernel
theorem dX0_countSeats_40 : decode cX0_countSeats 40 = .ok (.iaload, 1) := by decide +kernel
theorem dX0_countSeats_41 : decode cX0_countSeats 41 = .ok (.iconst (-1), 1) := by decide +kernel
theorem dX0_countSeats_42 : decode cX0_countSeats 42 = .ok (.if_icmp .eq 7, 3) := by decide +kernel
theorem dX0_countSeats_45 : decode cX0_countSeats 45 = .ok (.iconst 1, 1) := by decide +kernel
theorem dX0_countSeats_46 : decode cX0_countSeats 46 = .ok (.goto 4, 3) := by decide +kernel
theorem dX0_countSeats_49 : decode cX0_countSeats 49 = .ok (.iconst 0, 1) := by decide +kernel
theorem dX0_countSeats_50 : decode cX0_countSeats 50 = .ok (.iadd, 1) := by decide +kernel
theorem dX0_countSeats_51 : decode cX0_countSeats 51 = .ok (.putfield 93, 3) := by decide +kernel
theorem dX0_countSeats_54 : decode cX0_countSeats 54 = .ok (.iinc 3 1, 3) := by decide +kernel
theorem dX0_countSeats_57 : decode cX0_countSeats 57 = .ok (.goto (-53), 3) := by decide +kernel
theorem dX0_countSeats_60 : decode cX0_countSeats 60 = .ok (.aload_n 0, 1) := by decide +kernel
theorem dX0_countSeats_61 : decode cX0_countSeats 61 = .ok (.getfield 33, 3) := by decide +kernel
theorem dX0_countSeats_64 : decode cX0_countSeats 64 = .ok (.iload_n 1, 1) := by decide +kernel
theorem dX0_countSeats_65 : decode cX0_countSeats 65 = .ok (.iload_n 2, 1) := by decide +kernel
theorem dX0_countSeats_66 : decode cX0_countSeats 66 = .ok (.iastore, 1) := by decide +kernel
theorem dX0_countSeats_67 : decode cX0_countSeats 67 = .ok (.return_, 1) := by decide +kernel
theorem dX0_offFor_0 : decode cX0_offFor 0 = .ok (.iload_n 1, 1) := by decide +kernel
theorem dX0_offFor_1 : decode cX0_offFor 1 = .ok (.ifCond .lt 23, 3) := by decide +kernel
theorem dX0_offFor_4 : decode cX0_offFor 4 = .ok (.iload_n 1, 1) := by decide +kernel
theorem dX0_offFor_5 : decode cX0_offFor 5 = .ok (.aload_n 0, 1) := by decide +kernel
theorem dX0_offFor_6 : decode cX0_offFor 6 = .ok (.getfield 18, 3) := by decide +kernel
theorem dX0_offFor_9 : decode cX0_offFor 9 = .ok (.arraylength, 1) := by decide +kernel
theorem dX0_offFor_10 : decode cX0_offFor 10 = .ok (.if_icmp .ge 14, 3) := by decide +kernel
theorem dX0_offFor_13 : decode cX0_offFor 13 = .ok (.iload_n 2, 1) := by decide +kernel
theorem dX0_offFor_14 : decode cX0_offFor 14 = .ok (.aload_n 0, 1) := by decide +kernel
theorem dX0_offFor_15 : decode cX0_offFor 15 = .ok (.getfield 18, 3) := by decide +kernel
theorem dX0_offFor_18 : decode cX0_offFor 18 = .ok (.iload_n 1, 1) := by decide +kernel
theorem dX0_offFor_19 : decode cX0_offFor 19 = .ok (.iaload, 1) := by decide +kernel
theorem dX0_offFor_20 : decode cX0_offFor 20 = .ok (.isub, 1) := by decide +kernel
theorem dX0_offFor_21 : decode cX0_offFor 21 = .ok (.goto 4, 3) := by decide +kernel
theorem dX0_offFor_24 : decode cX0_offFor 24 = .ok (.iconst 0, 1) := by decide +kernel
theorem dX0_offFor_25 : decode cX0_offFor 25 = .ok (.ireturn, 1) := by decide +kernel
theorem dX0_sitterOf_0 : decode cX0_sitterOf 0 = .ok (.iload_n 1, 1) := by decide +kernel
theorem dX0_sitterOf_1 : decode cX0_sitterOf 1 = .ok (.ifCond .lt 21, 3) := by decide +kernel
theorem dX0_sitterOf_4 : decode cX0_sitterOf 4 = .ok (.iload_n 1, 1) := by decide +kernel
theorem dX0_sitterOf_5 : decode cX0_sitterOf 5 = .ok (.aload_n 0, 1) := by decide +kernel
theorem dX0_sitterOf_6 : decode cX0_sitterOf 6 = .ok (.getfield 27, 3) := by decide +kernel
theorem dX0_sitterOf_9 : decode cX0_sitterOf 9 = .ok (.arraylength, 1) := by decide +kernel
theorem dX0_sitterOf_10 : decode cX0_sitterOf 10 = .ok (.if_icmp .ge 12, 3) := by decide +kernel
theorem dX0_sitterOf_13 : decode cX0_sitterOf 13 = .ok (.aload_n 0, 1) := by decide +kernel
theorem dX0_sitterOf_14 : decode cX0_sitterOf 14 = .ok (.getfield 27, 3) := by decide +kernel
theorem dX0_sitterOf_17 : decode cX0_sitterOf 17 = .ok (.iload_n 1, 1) := by decide +kernel
theorem dX0_sitterOf_18 : decode cX0_sitterOf 18 = .ok (.iaload, 1) := by decide +kernel
theorem dX0_sitterOf_19 : decode cX0_sitterOf 19 = .ok (.goto 4, 3) := by decide +kernel
theorem dX0_sitterOf_22 : decode cX0_sitterOf 22 = .ok (.iconst (-1), 1) := by decide +kernel
theorem dX0_sitterOf_23 : decode cX0_sitterOf 23 = .ok (.ireturn, 1) := by decide +kernel
theorem dX0_holderOf_0 : decode cX0_holderOf 0 = .ok (.iload_n 1, 1) := by decide +kernel
theorem dX0_holderOf_1 : decode cX0_holderOf 1 = .ok (.ifCond .lt 21, 3) := by decide +kernel
theorem dX0_holderOf_4 : decode cX0_holderOf 4 = .ok (.iload_n 1, 1) := by decide +kernel
theorem dX0_holderOf_5 : decode cX0_holderOf 5 = .ok (.aload_n 0, 1) := by decide +kernel
theorem dX0_holderOf_6 : decode cX0_holderOf 6 = .ok (.getfield 30, 3) := by decide +kernel
theorem dX0_holderOf_9 : decode cX0_holderOf 9 = .ok (.arraylength, 1) := by decide +kernel
theorem dX0_holderOf_10 : decode cX0_holderOf 10 = .ok (.if_icmp .ge 12, 3) := by decide +kernel
theorem dX0_holderOf_13 : decode cX0_holderOf 13 = .ok (.aload_n 0, 1) := by decide +kernel
theorem dX0_holderOf_14 : decode cX0_holderOf 14 = .ok (.getfield 30, 3) := by decide +kernel
theorem dX0_holderOf_17 : decode cX0_holderOf 17 = .ok (.iload_n 1, 1) := by decide +kernel
theorem dX0_holderOf_18 : decode cX0_holderOf 18 = .ok (.iaload, 1) := by decide +kernel
theorem dX0_holderOf_19 : decode cX0_holderOf 19 = .ok (.goto 4, 3) := by decide +kernel
theorem dX0_holderOf_22 : decode cX0_holderOf 22 = .ok (.iconst (-1), 1) := by decide +kernel
theorem dX0_holderOf_23 : decode cX0_holderOf 23 = .ok (.ireturn, 1) := by decide +kernel
theorem dX0_stateOf_0 : decode cX0_stateOf 0 = .ok (.iload_n 1, 1) := by decide +kernel
theorem dX0_stateOf_1 : decode cX0_stateOf 1 = .ok (.ifCond .lt 21, 3) := by decide +kernel
theorem dX0_stateOf_4 : decode cX0_stateOf 4 = .ok (.iload_n 1, 1) := by decide +kernel
theorem dX0_stateOf_5 : decode cX0_stateOf 5 = .ok (.aload_n 0, 1) := by decide +kernel
theorem dX0_stateOf_6 : decode cX0_stateOf 6 = .ok (.getfield 9, 3) := by decide +kernel
theorem dX0_stateOf_9 : decode cX0_stateOf 9 = .ok (.arraylength, 1) := by decide +kernel
theorem dX0_stateOf_10 : decode cX0_stateOf 10 = .ok (.if_icmp .ge 12, 3) := by decide +kernel
theorem dX0_stateOf_13 : decode cX0_stateOf 13 = .ok (.aload_n 0, 1) := by decide +kernel
theorem dX0_stateOf_14 : decode cX0_stateOf 14 = .ok (.getfield 9, 3) := by decide +kernel
theorem dX0_stateOf_17 : decode cX0_stateOf 17 = .ok (.iload_n 1, 1) := by decide +kernel
theorem dX0_stateOf_18 : decode cX0_stateOf 18 = .ok (.iaload, 1) := by decide +kernel
theorem dX0_stateOf_19 : decode cX0_stateOf 19 = .ok (.goto 4, 3) := by decide +kernel
theorem dX0_stateOf_22 : decode cX0_stateOf 22 = .ok (.iconst 0, 1) := by decide +kernel
theorem dX0_stateOf_23 : decode cX0_stateOf 23 = .ok (.ireturn, 1) := by decide +kernel
theorem dX0_minutesOf_0 : decode cX0_minutesOf 0 = .ok (.iload_n 1, 1) := by decide +kernel
theorem dX0_minutesOf_1 : decode cX0_minutesOf 1 = .ok (.ifCond .lt 21, 3) := by decide +kernel
theorem dX0_minutesOf_4 : decode cX0_minutesOf 4 = .ok (.iload_n 1, 1) := by decide +kernel
theorem dX0_minutesOf_5 : decode cX0_minutesOf 5 = .ok (.aload_n 0, 1) := by decide +kernel
theorem dX0_minutesOf_6 : decode cX0_minutesOf 6 = .ok (.getfield 21, 3) := by decide +kernel
theorem dX0_minutesOf_9 : decode cX0_minutesOf 9 = .ok (.arraylength, 1) := by decide +kernel
theorem dX0_minutesOf_10 : decode cX0_minutesOf 10 = .ok (.if_icmp .ge 12, 3) := by decide +kernel
theorem dX0_minutesOf_13 : decode cX0_minutesOf 13 = .ok (.aload_n 0, 1) := by decide +kernel
theorem dX0_minutesOf_14 : decode cX0_minutesOf 14 = .ok (.getfield 21, 3) := by decide +kernel
theorem dX0_minutesOf_17 : decode cX0_minutesOf 17 = .ok (.iload_n 1, 1) := by decide +kernel
theorem dX0_minutesOf_18 : decode cX0_minutesOf 18 = .ok (.iaload, 1) := by decide +kernel
theorem dX0_minutesOf_19 : decode cX0_minutesOf 19 = .ok (.goto 4, 3) := by decide +kernel
theorem dX0_minutesOf_22 : decode cX0_minutesOf 22 = .ok (.iconst 0, 1) := by decide +kernel
theorem dX0_minutesOf_23 : decode cX0_minutesOf 23 = .ok (.ireturn, 1) := by decide +kernel
theorem dX0_used_0 : decode cX0_used 0 = .ok (.aload_n 0, 1) := by decide +kernel
theorem dX0_used_1 : decode cX0_used 1 = .ok (.iconst 1, 1) := by decide +kernel
theorem dX0_used_2 : decode cX0_used 2 = .ok (.invokevirtual 161, 3) := by decide +kernel
theorem dX0_used_5 : decode cX0_used 5 = .ok (.ireturn, 1) := by decide +kernel
theorem dX0_empty_0 : decode cX0_empty 0 = .ok (.aload_n 0, 1) := by decide +kernel
theorem dX0_empty_1 : decode cX0_empty 1 = .ok (.getfield 93, 3) := by decide +kernel
theorem dX0_empty_4 : decode cX0_empty 4 = .ok (.ireturn, 1) := by decide +kernel
theorem dX0_shutOut_0 : decode cX0_shutOut 0 = .ok (.aload_n 0, 1) := by decide +kernel
theorem dX0_shutOut_1 : decode cX0_shutOut 1 = .ok (.getfield 96, 3) := by decide +kernel
theorem dX0_shutOut_4 : decode cX0_shutOut 4 = .ok (.ireturn, 1) := by decide +kernel
theorem dX0_thrownOut_0 : decode cX0_thrownOut 0 = .ok (.aload_n 0, 1) := by decide +kernel
theorem dX0_thrownOut_1 : decode cX0_thrownOut 1 = .ok (.getfield 99, 3) := by decide +kernel
theorem dX0_thrownOut_4 : decode cX0_thrownOut 4 = .ok (.ireturn, 1) := by decide +kernel
theorem dX0_seenEvery_0 : decode cX0_seenEvery 0 = .ok (.iconst 0, 1) := by decide +kernel
theorem dX0_seenEvery_1 : decode cX0_seenEvery 1 = .ok (.istore_n 2, 1) := by decide +kernel
theorem dX0_seenEvery_2 : decode cX0_seenEvery 2 = .ok (.iconst 0, 1) := by decide +kernel
theorem dX0_seenEvery_3 : decode cX0_seenEvery 3 = .ok (.istore_n 3, 1) := by decide +kernel
theorem dX0_seenEvery_4 : decode cX0_seenEvery 4 = .ok (.iload_n 3, 1) := by decide +kernel
theorem dX0_seenEvery_5 : decode cX0_seenEvery 5 = .ok (.aload_n 0, 1) := by decide +kernel
theorem dX0_seenEvery_6 : decode cX0_seenEvery 6 = .ok (.getfield 87, 3) := by decide +kernel
theorem dX0_seenEvery_9 : decode cX0_seenEvery 9 = .ok (.if_icmp .ge 23, 3) := by decide +kernel
theorem dX0_seenEvery_12 : decode cX0_seenEvery 12 = .ok (.iload_n 1, 1) := by decide +kernel
theorem dX0_seenEvery_13 : decode cX0_seenEvery 13 = .ok (.ifCond .le 19, 3) := by decide +kernel
theorem dX0_seenEvery_16 : decode cX0_seenEvery 16 = .ok (.iload_n 2, 1) := by decide +kernel
theorem dX0_seenEvery_17 : decode cX0_seenEvery 17 = .ok (.aload_n 0, 1) := by decide +kernel
theorem dX0_seenEvery_18 : decode cX0_seenEvery 18 = .ok (.getfield 33, 3) := by decide +kernel
theorem dX0_seenEvery_21 : decode cX0_seenEvery 21 = .ok (.iload_n 3, 1) := by decide +kernel
theorem dX0_seenEvery_22 : decode cX0_seenEvery 22 = .ok (.iaload, 1) := by decide +kernel
theorem dX0_seenEvery_23 : decode cX0_seenEvery 23 = .ok (.iadd, 1) := by decide +kernel
theorem dX0_seenEvery_24 : decode cX0_seenEvery 24 = .ok (.istore_n 2, 1) := by decide +kernel
theorem dX0_seenEvery_25 : decode cX0_seenEvery 25 = .ok (.iload_n 3, 1) := by decide +kernel
theorem dX0_seenEvery_26 : decode cX0_seenEvery 26 = .ok (.iload_n 1, 1) := by decide +kernel
theorem dX0_seenEvery_27 : decode cX0_seenEvery 27 = .ok (.iadd, 1) := by decide +kernel
theorem dX0_seenEvery_28 : decode cX0_seenEvery 28 = .ok (.istore_n 3, 1) := by decide +kernel
theorem dX0_seenEvery_29 : decode cX0_seenEvery 29 = .ok (.goto (-25), 3) := by decide +kernel
theorem dX0_seenEvery_32 : decode cX0_seenEvery 32 = .ok (.iload_n 2, 1) := by decide +kernel
theorem dX0_seenEvery_33 : decode cX0_seenEvery 33 = .ok (.iload_n 1, 1) := by decide +kernel
theorem dX0_seenEvery_34 : decode cX0_seenEvery 34 = .ok (.imul, 1) := by decide +kernel
theorem dX0_seenEvery_35 : decode cX0_seenEvery 35 = .ok (.ireturn, 1) := by decide +kernel
theorem dX0_packedMinutes_0 : decode cX0_packedMinutes 0 = .ok (.lconst 0, 1) := by decide +kernel
theorem dX0_packedMinutes_1 : decode cX0_packedMinutes 1 = .ok (.lstore_n 1, 1) := by decide +kernel
theorem dX0_packedMinutes_2 : decode cX0_packedMinutes 2 = .ok (.bipush 7, 2) := by decide +kernel
theorem dX0_packedMinutes_4 : decode cX0_packedMinutes 4 = .ok (.istore_n 3, 1) := by decide +kernel
theorem dX0_packedMinutes_5 : decode cX0_packedMinutes 5 = .ok (.iload_n 3, 1) := by decide +kernel
theorem dX0_packedMinutes_6 : decode cX0_packedMinutes 6 = .ok (.ifCond .lt 22, 3) := by decide +kernel
theorem dX0_packedMinutes_9 : decode cX0_packedMinutes 9 = .ok (.lload_n 1, 1) := by decide +kernel
theorem dX0_packedMinutes_10 : decode cX0_packedMinutes 10 = .ok (.bipush 8, 2) := by decide +kernel
theorem dX0_packedMinutes_12 : decode cX0_packedMinutes 12 = .ok (.lshl, 1) := by decide +kernel
theorem dX0_packedMinutes_13 : decode cX0_packedMinutes 13 = .ok (.aload_n 0, 1) := by decide +kernel
theorem dX0_packedMinutes_14 : decode cX0_packedMinutes 14 = .ok (.getfield 21, 3) := by decide +kernel
theorem dX0_packedMinutes_17 : decode cX0_packedMinutes 17 = .ok (.iload_n 3, 1) := by decide +kernel
theorem dX0_packedMinutes_18 : decode cX0_packedMinutes 18 = .ok (.iaload, 1) := by decide +kernel
theorem dX0_packedMinutes_19 : decode cX0_packedMinutes 19 = .ok (.i2l, 1) := by decide +kernel
theorem dX0_packedMinutes_20 : decode cX0_packedMinutes 20 = .ok (.lor, 1) := by decide +kernel
theorem dX0_packedMinutes_21 : decode cX0_packedMinutes 21 = .ok (.lstore_n 1, 1) := by decide +kernel
theorem dX0_packedMinutes_22 : decode cX0_packedMinutes 22 = .ok (.iinc 3 (-1), 3) := by decide +kernel
theorem dX0_packedMinutes_25 : decode cX0_packedMinutes 25 = .ok (.goto (-20), 3) := by decide +kernel
theorem dX0_packedMinutes_28 : decode cX0_packedMinutes 28 = .ok (.lload_n 1, 1) := by decide +kernel
theorem dX0_packedMinutes_29 : decode cX0_packedMinutes 29 = .ok (.lreturn, 1) := by decide +kernel
