theorem dX6_init_0 : decode cX6_init 0 = .ok (.aload_n 0, 1) := by decide +kernel
theorem dX6_init_1 : decode cX6_init 1 = .ok (.invokespecial 1, 3) := by decide +kernel
theorem dX6_init_4 : decode cX6_init 4 = .ok (.aload_n 0, 1) := by decide +kernel
theorem dX6_init_5 : decode cX6_init 5 = .ok (.new 7, 3) := by decide +kernel
theorem dX6_init_8 : decode cX6_init 8 = .ok (.dup, 1) := by decide +kernel
theorem dX6_init_9 : decode cX6_init 9 = .ok (.invokespecial 9, 3) := by decide +kernel
theorem dX6_init_12 : decode cX6_init 12 = .ok (.putfield 10, 3) := by decide +kernel
theorem dX6_init_15 : decode cX6_init 15 = .ok (.aload_n 0, 1) := by decide +kernel
theorem dX6_init_16 : decode cX6_init 16 = .ok (.new 16, 3) := by decide +kernel
theorem dX6_init_19 : decode cX6_init 19 = .ok (.dup, 1) := by decide +kernel
theorem dX6_init_20 : decode cX6_init 20 = .ok (.aload_n 0, 1) := by decide +kernel
theorem dX6_init_21 : decode cX6_init 21 = .ok (.getfield 10, 3) := by decide +kernel
theorem dX6_init_24 : decode cX6_init 24 = .ok (.invokespecial 18, 3) := by decide +kernel
theorem dX6_init_27 : decode cX6_init 27 = .ok (.putfield 21, 3) := by decide +kernel
theorem dX6_init_30 : decode cX6_init 30 = .ok (.aload_n 0, 1) := by decide +kernel
theorem dX6_init_31 : decode cX6_init 31 = .ok (.new 25, 3) := by decide +kernel
theorem dX6_init_34 : decode cX6_init 34 = .ok (.dup, 1) := by decide +kernel
theorem dX6_init_35 : decode cX6_init 35 = .ok (.invokespecial 27, 3) := by decide +kernel
theorem dX6_init_38 : decode cX6_init 38 = .ok (.putfield 28, 3) := by decide +kernel
theorem dX6_init_41 : decode cX6_init 41 = .ok (.aload_n 0, 1) := by decide +kernel
theorem dX6_init_42 : decode cX6_init 42 = .ok (.getfield 28, 3) := by decide +kernel
theorem dX6_init_45 : decode cX6_init 45 = .ok (.iconst 0, 1) := by decide +kernel
theorem dX6_init_46 : decode cX6_init 46 = .ok (.invokevirtual 32, 3) := by decide +kernel
theorem dX6_init_49 : decode cX6_init 49 = .ok (.pop, 1) := by decide +kernel
theorem dX6_init_50 : decode cX6_init 50 = .ok (.aload_n 0, 1) := by decide +kernel
theorem dX6_init_51 : decode cX6_init 51 = .ok (.getfield 28, 3) := by decide +kernel
theorem dX6_init_54 : decode cX6_init 54 = .ok (.getstatic 36, 3) := by decide +kernel
theorem dX6_init_57 : decode cX6_init 57 = .ok (.invokevirtual 40, 3) := by decide +kernel
theorem dX6_init_60 : decode cX6_init 60 = .ok (.pop, 1) := by decide +kernel
theorem dX6_init_61 : decode cX6_init 61 = .ok (.aload_n 0, 1) := by decide +kernel
theorem dX6_init_62 : decode cX6_init 62 = .ok (.new 25, 3) := by decide +kernel
theorem dX6_init_65 : decode cX6_init 65 = .ok (.dup, 1) := by decide +kernel
theorem dX6_init_66 : decode cX6_init 66 = .ok (.invokespecial 27, 3) := by decide +kernel
theorem dX6_init_69 : decode cX6_init 69 = .ok (.putfield 44, 3) := by decide +kernel
theorem dX6_init_72 : decode cX6_init 72 = .ok (.aload_n 0, 1) := by decide +kernel
theorem dX6_init_73 : decode cX6_init 73 = .ok (.new 47, 3) := by decide +kernel
theorem dX6_init_76 : decode cX6_init 76 = .ok (.dup, 1) := by decide +kernel
theorem dX6_init_77 : decode cX6_init 77 = .ok (.aload_n 0, 1) := by decide +kernel
theorem dX6_init_78 : decode cX6_init 78 = .ok (.getfield 28, 3) := by decide +kernel
theorem dX6_init_81 : decode cX6_init 81 = .ok (.invokespecial 49, 3) := by decide +kernel
theorem dX6_init_84 : decode cX6_init 84 = .ok (.putfield 52, 3) := by decide +kernel
theorem dX6_init_87 : decode cX6_init 87 = .ok (.aload_n 0, 1) := by decide +kernel
theorem dX6_init_88 : decode cX6_init 88 = .ok (.new 56, 3) := by decide +kernel
theorem dX6_init_91 : decode cX6_init 91 = .ok (.dup, 1) := by decide +kernel
theorem dX6_init_92 : decode cX6_init 92 = .ok (.aload_n 0, 1) := by decide +kernel
theorem dX6_init_93 : decode cX6_init 93 = .ok (.getfield 52, 3) := by decide +kernel
theorem dX6_init_96 : decode cX6_init 96 = .ok (.aload_n 0, 1) := by decide +kernel
theorem dX6_init_97 : decode cX6_init 97 = .ok (.getfield 28, 3) := by decide +kernel
theorem dX6_init_100 : decode cX6_init 100 = .ok (.invokespecial 58, 3) := by decide +kernel
theorem dX6_init_103 : decode cX6_init 103 = .ok (.putfield 61, 3) := by decide +kernel
theorem dX6_init_106 : decode cX6_init 106 = .ok (.aload_n 0, 1) := by decide +kernel
theorem dX6_init_107 : decode cX6_init 107 = .ok (.iconst 5, 1) := by decide +kernel
theorem dX6_init_108 : decode cX6_init 108 = .ok (.newarray .int, 2) := by decide +kernel
theorem dX6_init_110 : decode cX6_init 110 = .ok (.putfield 65, 3) := by decide +kernel
theorem dX6_init_113 : decode cX6_init 113 = .ok (.aload_n 0, 1) := by decide +kernel
theorem dX6_init_114 : decode cX6_init 114 = .ok (.iconst 5, 1) := by decide +kernel
theorem dX6_init_115 : decode cX6_init 115 = .ok (.newarray .int, 2) := by decide +kernel
theorem dX6_init_117 : decode cX6_init 117 = .ok (.putfield 68, 3) := by decide +kernel
theorem dX6_init_120 : decode cX6_init 120 = .ok (.aload_n 0, 1) := by decide +kernel
theorem dX6_init_121 : decode cX6_init 121 = .ok (.iconst 5, 1) := by decide +kernel
theorem dX6_init_122 : decode cX6_init 122 = .ok (.newarray .int, 2) := by decide +kernel
theorem dX6_init_124 : decode cX6_init 124 = .ok (.putfield 71, 3) := by decide +kernel
theorem dX6_init_127 : decode cX6_init 127 = .ok (.aload_n 0, 1) := by decide +kernel
theorem dX6_init_128 : decode cX6_init 128 = .ok (.iconst 2, 1) := by decide +kernel
theorem dX6_init_129 : decode cX6_init 129 = .ok (.newarray .int, 2) := by decide +kernel
theorem dX6_init_131 : decode cX6_init 131 = .ok (.putfield 74, 3) := by decide +kernel
theorem dX6_init_134 : decode cX6_init 134 = .ok (.aload_n 0, 1) := by decide +kernel
theorem dX6_init_135 : decode cX6_init 135 = .ok (.iconst 0, 1) := by decide +kernel
theorem dX6_init_136 : decode cX6_init 136 = .ok (.putfield 77, 3) := by decide +kernel
theorem dX6_init_139 : decode cX6_init 139 = .ok (.aload_n 0, 1) := by decide +kernel
theorem dX6_init_140 : decode cX6_init 140 = .ok (.aload_n 0, 1) := by decide +kernel
theorem dX6_init_141 : decode cX6_init 141 = .ok (.getfield 28, 3) := by decide +kernel
theorem dX6_init_144 : decode cX6_init 144 = .ok (.invokevirtual 81, 3) := by decide +kernel
theorem dX6_init_147 : decode cX6_init 147 = .ok (.putfield 85, 3) := by decide +kernel
theorem dX6_init_150 : decode cX6_init 150 = .ok (.return_, 1) := by decide +kernel
theorem dX6_write_0 : decode cX6_write 0 = .ok (.iload_n 1, 1) := by decide +kernel
theorem dX6_write_1 : decode cX6_write 1 = .ok (.iconst 1, 1) := by decide +kernel
theorem dX6_write_2 : decode cX6_write 2 = .ok (.bipush 8, 2) := by decide +kernel
theorem dX6_write_4 : decode cX6_write 4 = .ok (.invokestatic 88, 3) := by decide +kernel
theorem dX6_write_7 : decode cX6_write 7 = .ok (.ifCond .ne 5, 3) := by decide +kernel
theorem dX6_write_10 : decode cX6_write 10 = .ok (.iconst (-1), 1) := by decide +kernel
theorem dX6_write_11 : decode cX6_write 11 = .ok (.ireturn, 1) := by decide +kernel
theorem dX6_write_12 : decode cX6_write 12 = .ok (.aload_n 0, 1) := by decide +kernel
theorem dX6_write_13 : decode cX6_write 13 = .ok (.getfield 10, 3) := by decide +kernel
theorem dX6_write_16 : decode cX6_write 16 = .ok (.iload_n 1, 1) := by decide +kernel
theorem dX6_write_17 : decode cX6_write 17 = .ok (.lload_n 2, 1) := by decide +kernel
theorem dX6_write_18 : decode cX6_write 18 = .ok (.invokevirtual 92, 3) := by decide +kernel
theorem dX6_write_21 : decode cX6_write 21 = .ok (.ifCond .eq 13, 3) := by decide +kernel
theorem dX6_write_24 : decode cX6_write 24 = .ok (.aload_n 0, 1) := by decide +kernel
theorem dX6_write_25 : decode cX6_write 25 = .ok (.getfield 10, 3) := by decide +kernel
theorem dX6_write_28 : decode cX6_write 28 = .ok (.invokevirtual 96, 3) := by decide +kernel
theorem dX6_write_31 : decode cX6_write 31 = .ok (.goto 5, 3) := by decide +kernel
theorem dX6_write_34 : decode cX6_write 34 = .ok (.bipush (-3), 2) := by decide +kernel
theorem dX6_write_36 : decode cX6_write 36 = .ok (.ireturn, 1) := by decide +kernel
theorem dX6_wipe_0 : decode cX6_wipe 0 = .ok (.aload_n 0, 1) := by decide +kernel
theorem dX6_wipe_1 : decode cX6_wipe 1 = .ok (.getfield 10, 3) := by decide +kernel
theorem dX6_wipe_4 : decode cX6_wipe 4 = .ok (.invokevirtual 96, 3) := by decide +kernel
theorem dX6_wipe_7 : decode cX6_wipe 7 = .ok (.istore_n 1, 1) := by decide +kernel
theorem dX6_wipe_8 : decode cX6_wipe 8 = .ok (.aload_n 0, 1) := by decide +kernel
theorem dX6_wipe_9 : decode cX6_wipe 9 = .ok (.getfield 10, 3) := by decide +kernel
theorem dX6_wipe_12 : decode cX6_wipe 12 = .ok (.invokevirtual 99, 3) := by decide +kernel
theorem dX6_wipe_15 : decode cX6_wipe 15 = .ok (.iload_n 1, 1) := by decide +kernel
theorem dX6_wipe_16 : decode cX6_wipe 16 = .ok (.ireturn, 1) := by decide +kernel
theorem dX6_fault_0 : decode cX6_fault 0 = .ok (.aload_n 0, 1) := by decide +kernel
theorem dX6_fault_1 : decode cX6_fault 1 = .ok (.getfield 21, 3) := by decide +kernel
theorem dX6_fault_4 : decode cX6_fault 4 = .ok (.aload_n 0, 1) := by decide +kernel
theorem dX6_fault_5 : decode cX6_fault 5 = .ok (.getfield 44, 3) := by decide +kernel
theorem dX6_fault_8 : decode cX6_fault 8 = .ok (.invokevirtual 102, 3) := by decide +kernel
theorem dX6_fault_11 : decode cX6_fault 11 = .ok (.ireturn, 1) := by decide +kernel
theorem dX6_lay_0 : decode cX6_lay 0 = .ok (.aload_n 0, 1) := by decide +kernel
theorem dX6_lay_1 : decode cX6_lay 1 = .ok (.getfield 21, 3) := by decide +kernel
theorem dX6_lay_4 : decode cX6_lay 4 = .ok (.aload_n 0, 1) := by decide +kernel
theorem dX6_lay_5 : decode cX6_lay 5 = .ok (.getfield 44, 3) := by decide +kernel
theorem dX6_lay_8 : decode cX6_lay 8 = .ok (.invokevirtual 102, 3) := by decide +kernel
theorem dX6_lay_11 : decode cX6_lay 11 = .ok (.bipush (-4), 2) := by decide +kernel
theorem dX6_lay_13 : decode cX6_lay 13 = .ok (.if_icmp .ne 23, 3) := by decide +kernel
theorem dX6_lay_16 : decode cX6_lay 16 = .ok (.aload_n 0, 1) := by decide +kernel
theorem dX6_lay_17 : decode cX6_lay 17 = .ok (.getfield 44, 3) := by decide +kernel
theorem dX6_lay_20 : decode cX6_lay 20 = .ok (.invokevirtual 106, 3) := by decide +kernel
theorem dX6_lay_23 : decode cX6_lay 23 = .ok (.ifCond .eq 13, 3) := by decide +kernel
theorem dX6_lay_26 : decode cX6_lay 26 = .ok (.aload_n 0, 1) := by decide +kernel
theorem dX6_lay_27 : decode cX6_lay 27 = .ok (.getfield 44, 3) := by decide +kernel
theorem dX6_lay_30 : decode cX6_lay 30 = .ok (.invokevirtual 109, 3) := by decide +kernel
theorem dX6_lay_33 : decode cX6_lay 33 = .ok (.ifCond .ne 6, 3) := by decide +kernel
theorem dX6_lay_36 : decode cX6_lay 36 = .ok (.bipush (-2), 2) := by decide +kernel
theorem dX6_lay_38 : decode cX6_lay 38 = .ok (.ireturn, 1) := by decide +kernel
theorem dX6_lay_39 : decode cX6_lay 39 = .ok (.aload_n 0, 1) := by decide +kernel
theorem dX6_lay_40 : decode cX6_lay 40 = .ok (.getfield 28, 3) := by decide +kernel
theorem dX6_lay_43 : decode cX6_lay 43 = .ok (.astore_n 1, 1) := by decide +kernel
theorem dX6_lay_44 : decode cX6_lay 44 = .ok (.aload_n 0, 1) := by decide +kernel
theorem dX6_lay_45 : decode cX6_lay 45 = .ok (.aload_n 0, 1) := by decide +kernel
theorem dX6_lay_46 : decode cX6_lay 46 = .ok (.getfield 44, 3) := by decide +kernel
theorem dX6_lay_49 : decode cX6_lay 49 = .ok (.putfield 28, 3) := by decide +kernel
theorem dX6_lay_52 : decode cX6_lay 52 = .ok (.aload_n 0, 1) := by decide +kernel
theorem dX6_lay_53 : decode cX6_lay 53 = .ok (.aload_n 1, 1) := by decide +kernel
theorem dX6_lay_54 : decode cX6_lay 54 = .ok (.putfield 44, 3) := by decide +kernel
theorem dX6_lay_57 : decode cX6_lay 57 = .ok (.aload_n 0, 1) := by decide +kernel
theorem dX6_lay_58 : decode cX6_lay 58 = .ok (.getfield 61, 3) := by decide +kernel
theorem dX6_lay_61 : decode cX6_lay 61 = .ok (.aload_n 0, 1) := by decide +kernel
theorem dX6_lay_62 : decode cX6_lay 62 = .ok (.getfield 28, 3) := by decide +kernel
theorem dX6_lay_65 : decode cX6_lay 65 = .ok (.invokevirtual 112, 3) := by decide +kernel
theorem dX6_lay_68 : decode cX6_lay 68 = .ok (.aload_n 0, 1) := by decide +kernel
theorem dX6_lay_69 : decode cX6_lay 69 = .ok (.aload_n 0, 1) := by decide +kernel
theorem dX6_lay_70 : decode cX6_lay 70 = .ok (.getfield 28, 3) := by decide +kernel
theorem dX6_lay_73 : decode cX6_lay 73 = .ok (.invokevirtual 81, 3) := by decide +kernel
theorem dX6_lay_76 : decode cX6_lay 76 = .ok (.putfield 85, 3) := by decide +kernel
theorem dX6_lay_79 : decode cX6_lay 79 = .ok (.aload_n 0, 1) := by decide +kernel
theorem dX6_lay_80 : decode cX6_lay 80 = .ok (.iconst 0, 1) := by decide +kernel
theorem dX6_lay_81 : decode cX6_lay 81 = .ok (.putfield 77, 3) := by decide +kernel
theorem dX6_lay_84 : decode cX6_lay 84 = .ok (.aload_n 0, 1) := by decide +kernel
theorem dX6_lay_85 : decode cX6_lay 85 = .ok (.getfield 28, 3) := by decide +kernel
theorem dX6_lay_88 : decode cX6_lay 88 = .ok (.invokevirtual 109, 3) := by decide +kernel
theorem dX6_lay_91 : decode cX6_lay 91 = .ok (.ireturn, 1) := by decide +kernel
theorem dX6_reader_0 : decode cX6_reader 0 = .ok (.aload_n 0, 1) := by decide +kernel
theorem dX6_reader_1 : decode cX6_reader 1 = .ok (.iload_n 1, 1) := by decide +kernel
theorem dX6_reader_2 : decode cX6_reader 2 = .ok (.invokevirtual 115, 3) := by decide +kernel
theorem dX6_reader_5 : decode cX6_reader 5 = .ok (.ifCond .eq 13, 3) := by decide +kernel
theorem dX6_reader_8 : decode cX6_reader 8 = .ok (.iload_n 2, 1) := by decide +kernel
theorem dX6_reader_9 : decode cX6_reader 9 = .ok (.iconst 0, 1) := by decide +kernel
theorem dX6_reader_10 : decode cX6_reader 10 = .ok (.bipush 7, 2) := by decide +kernel
theorem dX6_reader_12 : decode cX6_reader 12 = .ok (.invokestatic 88, 3) := by decide +kernel
theorem dX6_reader_15 : decode cX6_reader 15 = .ok (.ifCond .ne 5, 3) := by decide +kernel
theorem dX6_reader_18 : decode cX6_reader 18 = .ok (.iconst (-1), 1) := by decide +kernel
theorem dX6_reader_19 : decode cX6_reader 19 = .ok (.ireturn, 1) := by decide +kernel
theorem dX6_reader_20 : decode cX6_reader 20 = .ok (.iload_n 2, 1) := by decide +kernel
theorem dX6_reader_21 : decode cX6_reader 21 = .ok (.bipush 7, 2) := by decide +kernel
theorem dX6_reader_23 : decode cX6_reader 23 = .ok (.if_icmp .ne 14, 3) := by decide +kernel
theorem dX6_reader_26 : decode cX6_reader 26 = .ok (.aload_n 0, 1) := by decide +kernel
theorem dX6_reader_27 : decode cX6_reader 27 = .ok (.getfield 85, 3) := by decide +kernel
theorem dX6_reader_30 : decode cX6_reader 30 = .ok (.iload_n 1, 1) := by decide +kernel
theorem dX6_reader_31 : decode cX6_reader 31 = .ok (.ishr, 1) := by decide +kernel
theorem dX6_reader_32 : decode cX6_reader 32 = .ok (.iconst 1, 1) := by decide +kernel
theorem dX6_reader_33 : decode cX6_reader 33 = .ok (.iand, 1) := by decide +kernel
theorem dX6_reader_34 : decode cX6_reader 34 = .ok (.goto 12, 3) := by decide +kernel
theorem dX6_reader_37 : decode cX6_reader 37 = .ok (.aload_n 0, 1) := by decide +kernel
theorem dX6_reader_38 : decode cX6_reader 38 = .ok (.getfield 28, 3) := by decide +kernel
theorem dX6_reader_41 : decode cX6_reader 41 = .ok (.iload_n 1, 1) := by decide +kernel
theorem dX6_reader_42 : decode cX6_reader 42 = .ok (.iload_n 2, 1) := by decide +kernel
theorem dX6_reader_43 : decode cX6_reader 43 = .ok (.invokevirtual 118, 3) := by decide +kernel
theorem dX6_reader_46 : decode cX6_reader 46 = .ok (.ireturn, 1) := by decide +kernel
theorem dX6_kind_0 : decode cX6_kind 0 = .ok (.aload_n 0, 1) := by decide +kernel
theorem dX6_kind_1 : decode cX6_kind 1 = .ok (.iload_n 1, 1) := by decide +kernel
theorem dX6_kind_2 : decode cX6_kind 2 = .ok (.invokevirtual 122, 3) := by decide +kernel
theorem dX6_kind_5 : decode cX6_kind 5 = .ok (.ifCond .eq 14, 3) := by decide +kernel
theorem dX6_kind_8 : decode cX6_kind 8 = .ok (.aload_n 0, 1) := by decide +kernel
theorem dX6_kind_9 : decode cX6_kind 9 = .ok (.getfield 28, 3) := by decide +kernel
theorem dX6_kind_12 : decode cX6_kind 12 = .ok (.iload_n 1, 1) := by decide +kernel
theorem dX6_kind_13 : decode cX6_kind 13 = .ok (.invokevirtual 125, 3) := by decide +kernel
theorem dX6_kind_16 : decode cX6_kind 16 = .ok (.goto 4, 3) := by decide +kernel
theorem dX6_kind_19 : decode cX6_kind 19 = .ok (.iconst (-1), 1) := by decide +kernel
theorem dX6_kind_20 : decode cX6_kind 20 = .ok (.ireturn, 1) := by decide +kernel
theorem dX6_hold_0 : decode cX6_hold 0 = .ok (.aload_n 0, 1) := by decide +kernel
theorem dX6_hold_1 : decode cX6_hold 1 = .ok (.iload_n 1, 1) := by decide +kernel
theorem dX6_hold_2 : decode cX6_hold 2 = .ok (.invokevirtual 115, 3) := by decide +kernel
theorem dX6_hold_5 : decode cX6_hold 5 = .ok (.ifCond .ne 5, 3) := by decide +kernel
theorem dX6_hold_8 : decode cX6_hold 8 = .ok (.iconst (-1), 1) := by decide +kernel
theorem dX6_hold_9 : decode cX6_hold 9 = .ok (.ireturn, 1) := by decide +kernel
theorem dX6_hold_10 : decode cX6_hold 10 = .ok (.aload_n 0, 1) := by decide +kernel
theorem dX6_hold_11 : decode cX6_hold 11 = .ok (.getfield 85, 3) := by decide +kernel
theorem dX6_hold_14 : decode cX6_hold 14 = .ok (.iload_n 1, 1) := by decide +kernel
theorem dX6_hold_15 : decode cX6_hold 15 = .ok (.ishr, 1) := by decide +kernel
theorem dX6_hold_16 : decode cX6_hold 16 = .ok (.iconst 1, 1) := by decide +kernel
theorem dX6_hold_17 : decode cX6_hold 17 = .ok (.iand, 1) := by decide +kernel
theorem dX6_hold_18 : decode cX6_hold 18 = .ok (.istore_n 3, 1) := by decide +kernel
theorem dX6_hold_19 : decode cX6_hold 19 = .ok (.aload_n 0, 1) := by decide +kernel
theorem dX6_hold_20 : decode cX6_hold 20 = .ok (.iload_n 2, 1) := by decide +kernel
theorem dX6_hold_21 : decode cX6_hold 21 = .ok (.ifCond .eq 14, 3) := by decide +kernel
theorem dX6_hold_24 : decode cX6_hold 24 = .ok (.aload_n 0, 1) := by decide +kernel
theorem dX6_hold_25 : decode cX6_hold 25 = .ok (.getfield 85, 3) := by decide +kernel
theorem dX6_hold_28 : decode cX6_hold 28 = .ok (.iconst 1, 1) := by decide +kernel
theorem dX6_hold_29 : decode cX6_hold 29 = .ok (.iload_n 1, 1) := by decide +kernel
theorem dX6_hold_30 : decode cX6_hold 30 = .ok (.ishl, 1) := by decide +kernel
theorem dX6_hold_31 : decode cX6_hold 31 = .ok (.ior, 1) := by decide +kernel
theorem dX6_hold_32 : decode cX6_hold 32 = .ok (.goto 13, 3) := by decide +kernel
theorem dX6_hold_35 : decode cX6_hold 35 = .ok (.aload_n 0, 1) := by decide +kernel
theorem dX6_hold_36 : decode cX6_hold 36 = .ok (.getfield 85, 3) := by decide +kernel
theorem dX6_hold_39 : decode cX6_hold 39 = .ok (.iconst 1, 1) := by decide +kernel
theorem dX6_hold_40 : decode cX6_hold 40 = .ok (.iload_n 1, 1) := by decide +kernel
theorem dX6_hold_41 : decode cX6_hold 41 = .ok (.ishl, 1) := by decide +kernel
theorem dX6_hold_42 : decode cX6_hold 42 = .ok (.iconst (-1), 1) := by decide +kernel
theorem dX6_hold_43 : decode cX6_hold 43 = .ok (.ixor, 1) := by decide +kernel
theorem dX6_hold_44 : decode cX6_hold 44 = .ok (.iand, 1) := by decide +kernel
theorem dX6_hold_45 : decode cX6_hold 45 = .ok (.putfield 85, 3) := by decide +kernel
theorem dX6_hold_48 : decode cX6_hold 48 = .ok (.iload_n 3, 1) := by decide +kernel
theorem dX6_hold_49 : decode cX6_hold 49 = .ok (.ireturn, 1) := by decide +kernel
theorem dX6_seat_0 : decode cX6_seat 0 = .ok (.iload_n 1, 1) := by decide +kernel
theorem dX6_seat_1 : decode cX6_seat 1 = .ok (.invokestatic 129, 3) := by decide +kernel
theorem dX6_seat_4 : decode cX6_seat 4 = .ok (.ifCond .eq 32, 3) := by decide +kernel
theorem dX6_seat_7 : decode cX6_seat 7 = .ok (.iload_n 2, 1) := by decide +kernel
theorem dX6_seat_8 : decode cX6_seat 8 = .ok (.iconst 0, 1) := by decide +kernel
theorem dX6_seat_9 : decode cX6_seat 9 = .ok (.sipush 399, 3) := by decide +kernel
theorem dX6_seat_12 : decode cX6_seat 12 = .ok (.invokestatic 88, 3) := by decide +kernel
theorem dX6_seat_15 : decode cX6_seat 15 = .ok (.ifCond .eq 21, 3) := by decide +kernel
theorem dX6_seat_18 : decode cX6_seat 18 = .ok (.aload_n 0, 1) := by decide +kernel
theorem dX6_seat_19 : decode cX6_seat 19 = .ok (.iload_n 3, 1) := by decide +kernel
theorem dX6_seat_20 : decode cX6_seat 20 = .ok (.invokevirtual 122, 3) := by decide +kernel
theorem dX6_seat_23 : decode cX6_seat 23 = .ok (.ifCond .eq 13, 3) := by decide +kernel
theorem dX6_seat_26 : decode cX6_seat 26 = .ok (.iload 4, 2) := by decide +kernel
theorem dX6_seat_28 : decode cX6_seat 28 = .ok (.iconst 0, 1) := by decide +kernel
theorem dX6_seat_29 : decode cX6_seat 29 = .ok (.iconst 1, 1) := by decide +kernel
theorem dX6_seat_30 : decode cX6_seat 30 = .ok (.invokestatic 88, 3) := by decide +kernel
theorem dX6_seat_33 : decode cX6_seat 33 = .ok (.ifCond .ne 5, 3) := by decide +kernel
theorem dX6_seat_36 : decode cX6_seat 36 = .ok (.iconst (-1), 1) := by decide +kernel
theorem dX6_seat_37 : decode cX6_seat 37 = .ok (.ireturn, 1) := by decide +kernel
theorem dX6_seat_38 : decode cX6_seat 38 = .ok (.aload_n 0, 1) := by decide +kernel
theorem dX6_seat_39 : decode cX6_seat 39 = .ok (.getfield 52, 3) := by decide +kernel
theorem dX6_seat_42 : decode cX6_seat 42 = .ok (.aload_n 0, 1) := by decide +kernel
theorem dX6_seat_43 : decode cX6_seat 43 = .ok (.getfield 28, 3) := by decide +kernel
theorem dX6_seat_46 : decode cX6_seat 46 = .ok (.iload_n 1, 1) := by decide +kernel
theorem dX6_seat_47 : decode cX6_seat 47 = .ok (.aload_n 0, 1) := by decide +kernel
theorem dX6_seat_48 : decode cX6_seat 48 = .ok (.getfield 85, 3) := by decide +kernel
theorem dX6_seat_51 : decode cX6_seat 51 = .ok (.invokevirtual 132, 3) := by decide +kernel
theorem dX6_seat_54 : decode cX6_seat 54 = .ok (.aload_n 0, 1) := by decide +kernel
theorem dX6_seat_55 : decode cX6_seat 55 = .ok (.getfield 52, 3) := by decide +kernel
theorem dX6_seat_58 : decode cX6_seat 58 = .ok (.iload_n 2, 1) := by decide +kernel
theorem dX6_seat_59 : decode cX6_seat 59 = .ok (.invokevirtual 136, 3) := by decide +kernel
theorem dX6_seat_62 : decode cX6_seat 62 = .ok (.iload 4, 2) := by decide +kernel
theorem dX6_seat_64 : decode cX6_seat 64 = .ok (.ifCond .ne 14, 3) := by decide +kernel
theorem dX6_seat_67 : decode cX6_seat 67 = .ok (.aload_n 0, 1) := by decide +kernel
theorem dX6_seat_68 : decode cX6_seat 68 = .ok (.getfield 52, 3) := by decide +kernel
theorem dX6_seat_71 : decode cX6_seat 71 = .ok (.iload_n 3, 1) := by decide +kernel
theorem dX6_seat_72 : decode cX6_seat 72 = .ok (.invokevirtual 140, 3) := by decide +kernel
theorem dX6_seat_75 : decode cX6_seat 75 = .ok (.goto 11, 3) := by decide +kernel
theorem dX6_seat_78 : decode cX6_seat 78 = .ok (.aload_n 0, 1) := by decide +kernel
theorem dX6_seat_79 : decode cX6_seat 79 = .ok (.getfield 52, 3) := by decide +kernel
theorem dX6_seat_82 : decode cX6_seat 82 = .ok (.iload_n 3, 1) := by decide +kernel
theorem dX6_seat_83 : decode cX6_seat 83 = .ok (.invokevirtual 143, 3) := by decide +kernel
theorem dX6_seat_86 : decode cX6_seat 86 = .ok (.istore 5, 2) := by decide +kernel
theorem dX6_seat_88 : decode cX6_seat 88 = .ok (.iload 5, 2) := by decide +kernel
theorem dX6_seat_90 : decode cX6_seat 90 = .ok (.iconst (-1), 1) := by decide +kernel
theorem dX6_seat_91 : decode cX6_seat 91 = .ok (.if_icmp .ne 8, 3) := by decide +kernel
theorem dX6_seat_94 : decode cX6_seat 94 = .ok (.bipush (-4), 2) := by decide +kernel
theorem dX6_seat_96 : decode cX6_seat 96 = .ok (.goto 5, 3) := by decide +kernel
theorem dX6_seat_99 : decode cX6_seat 99 = .ok (.iload 5, 2) := by decide +kernel
theorem dX6_seat_101 : decode cX6_seat 101 = .ok (.ireturn, 1) := by decide +kernel
theorem dX6_does_0 : decode cX6_does 0 = .ok (.iload_n 1, 1) := by decide +kernel
theorem dX6_does_1 : decode cX6_does 1 = .ok (.invokestatic 129, 3) := by decide +kernel
theorem dX6_does_4 : decode cX6_does 4 = .ok (.ifCond .eq 22, 3) := by decide +kernel
theorem dX6_does_7 : decode cX6_does 7 = .ok (.iload_n 2, 1) := by decide +kernel
theorem dX6_does_8 : decode cX6_does 8 = .ok (.iconst 0, 1) := by decide +kernel
theorem dX6_does_9 : decode cX6_does 9 = .ok (.sipush 399, 3) := by decide +kernel
theorem dX6_does_12 : decode cX6_does 12 = .ok (.invokestatic 88, 3) := by decide +kernel
theorem dX6_does_15 : decode cX6_does 15 = .ok (.ifCond .eq 11, 3) := by decide +kernel
theorem dX6_does_18 : decode cX6_does 18 = .ok (.aload_n 0, 1) := by decide +kernel
theorem dX6_does_19 : decode cX6_does 19 = .ok (.iload_n 3, 1) := by decide +kernel
theorem dX6_does_20 : decode cX6_does 20 = .ok (.invokevirtual 115, 3) := by decide +kernel
theorem dX6_does_23 : decode cX6_does 23 = .ok (.ifCond .ne 5, 3) := by decide +kernel
theorem dX6_does_26 : decode cX6_does 26 = .ok (.iconst (-1), 1) := by decide +kernel
theorem dX6_does_27 : decode cX6_does 27 = .ok (.ireturn, 1) := by decide +kernel
theorem dX6_does_28 : decode cX6_does 28 = .ok (.aload_n 0, 1) := by decide +kernel
theorem dX6_does_29 : decode cX6_does 29 = .ok (.getfield 52, 3) := by decide +kernel
theorem dX6_does_32 : decode cX6_does 32 = .ok (.aload_n 0, 1) := by decide +kernel
theorem dX6_does_33 : decode cX6_does 33 = .ok (.getfield 28, 3) := by decide +kernel
theorem dX6_does_36 : decode cX6_does 36 = .ok (.iload_n 1, 1) := by decide +kernel
theorem dX6_does_37 : decode cX6_does 37 = .ok (.aload_n 0, 1) := by decide +kernel
theorem dX6_does_38 : decode cX6_does 38 = .ok (.getfield 85, 3) := by decide +kernel
theorem dX6_does_41 : decode cX6_does 41 = .ok (.invokevirtual 132, 3) := by decide +kernel
theorem dX6_does_44 : decode cX6_does 44 = .ok (.aload_n 0, 1) := by decide +kernel
theorem dX6_does_45 : decode cX6_does 45 = .ok (.getfield 52, 3) := by decide +kernel
theorem dX6_does_48 : decode cX6_does 48 = .ok (.iload_n 2, 1) := by decide +kernel
theorem dX6_does_49 : decode cX6_does 49 = .ok (.invokevirtual 136, 3) := by decide +kernel
theorem dX6_does_52 : decode cX6_does 52 = .ok (.aload_n 0, 1) := by decide +kernel
theorem dX6_does_53 : decode cX6_does 53 = .ok (.getfield 52, 3) := by decide +kernel
theorem dX6_does_56 : decode cX6_does 56 = .ok (.iload_n 3, 1) := by decide +kernel
theorem dX6_does_57 : decode cX6_does 57 = .ok (.invokevirtual 146, 3) := by decide +kernel
theorem dX6_does_60 : decode cX6_does 60 = .ok (.ireturn, 1) := by decide +kernel
theorem dX6_day_0 : decode cX6_day 0 = .ok (.iload_n 1, 1) := by decide +kernel
theorem dX6_day_1 : decode cX6_day 1 = .ok (.invokestatic 129, 3) := by decide +kernel
theorem dX6_day_4 : decode cX6_day 4 = .ok (.ifCond .eq 12, 3) := by decide +kernel
theorem dX6_day_7 : decode cX6_day 7 = .ok (.iload_n 2, 1) := by decide +kernel
theorem dX6_day_8 : decode cX6_day 8 = .ok (.iconst 0, 1) := by decide +kernel
theorem dX6_day_9 : decode cX6_day 9 = .ok (.iconst 5, 1) := by decide +kernel
theorem dX6_day_10 : decode cX6_day 10 = .ok (.invokestatic 88, 3) := by decide +kernel
theorem dX6_day_13 : decode cX6_day 13 = .ok (.ifCond .ne 5, 3) := by decide +kernel
theorem dX6_day_16 : decode cX6_day 16 = .ok (.iconst (-1), 1) := by decide +kernel
theorem dX6_day_17 : decode cX6_day 17 = .ok (.ireturn, 1) := by decide +kernel
theorem dX6_day_18 : decode cX6_day 18 = .ok (.aload_n 0, 1) := by decide +kernel
theorem dX6_day_19 : decode cX6_day 19 = .ok (.iload_n 1, 1) := by decide +kernel
theorem dX6_day_20 : decode cX6_day 20 = .ok (.invokevirtual 149, 3) := by decide +kernel
theorem dX6_day_23 : decode cX6_day 23 = .ok (.iload_n 2, 1) := by decide +kernel
theorem dX6_day_24 : decode cX6_day 24 = .ok (.tableswitch 82 0 4 #[36, 44, 52, 63, 71], 36) := by decide +kernel
theorem dX6_day_60 : decode cX6_day 60 = .ok (.aload_n 0, 1) := by decide +kernel
theorem dX6_day_61 : decode cX6_day 61 = .ok (.getfield 52, 3) := by decide +kernel
theorem dX6_day_64 : decode cX6_day 64 = .ok (.invokevirtual 152, 3) := by decide +kernel
theorem dX6_day_67 : decode cX6_day 67 = .ok (.ireturn, 1) := by decide +kernel
theorem dX6_day_68 : decode cX6_day 68 = .ok (.aload_n 0, 1) := by decide +kernel
theorem dX6_day_69 : decode cX6_day 69 = .ok (.getfield 52, 3) := by decide +kernel
theorem dX6_day_72 : decode cX6_day 72 = .ok (.invokevirtual 155, 3) := by decide +kernel
theorem dX6_day_75 : decode cX6_day 75 = .ok (.ireturn, 1) := by decide +kernel
theorem dX6_day_76 : decode cX6_day 76 = .ok (.aload_n 0, 1) := by decide +kernel
theorem dX6_day_77 : decode cX6_day 77 = .ok (.getfield 52, 3) := by decide +kernel
theorem dX6_day_80 : decode cX6_day 80 = .ok (.invokevirtual 158, 3) := by decide +kernel
theorem dX6_day_83 : decode cX6_day 83 = .ok (.invokestatic 161, 3) := by decide +kernel
theorem dX6_day_86 : decode cX6_day 86 = .ok (.ireturn, 1) := by decide +kernel
theorem dX6_day_87 : decode cX6_day 87 = .ok (.aload_n 0, 1) := by decide +kernel
theorem dX6_day_88 : decode cX6_day 88 = .ok (.getfield 52, 3) := by decide +kernel
theorem dX6_day_91 : decode cX6_day 91 = .ok (.invokevirtual 158, 3) := by decide +kernel
theorem dX6_day_94 : decode cX6_day 94 = .ok (.ireturn, 1) := by decide +kernel
theorem dX6_day_95 : decode cX6_day 95 = .ok (.aload_n 0, 1) := by decide +kernel
theorem dX6_day_96 : decode cX6_day 96 = .ok (.getfield 52, 3) := by decide +kernel
theorem dX6_day_99 : decode cX6_day 99 = .ok (.invokevirtual 166, 3) := by decide +kernel
theorem dX6_day_102 : decode cX6_day 102 = .ok (.invokestatic 161, 3) := by decide +kernel
theorem dX6_day_105 : decode cX6_day 105 = .ok (.ireturn, 1) := by decide +kernel
theorem dX6_day_106 : decode cX6_day 106 = .ok (.aload_n 0, 1) := by decide +kernel
theorem dX6_day_107 : decode cX6_day 107 = .ok (.getfield 52, 3) := by decide +kernel
theorem dX6_day_110 : decode cX6_day 110 = .ok (.invokevirtual 166, 3) := by decide +kernel
theorem dX6_day_113 : decode cX6_day 113 = .ok (.ireturn, 1) := by decide +kernel
theorem dX6_sat_0 : decode cX6_sat 0 = .ok (.iload_n 1, 1) := by decide +kernel
theorem dX6_sat_1 : decode cX6_sat 1 = .ok (.invokestatic 129, 3) := by decide +kernel
theorem dX6_sat_4 : decode cX6_sat 4 = .ok (.ifCond .eq 11, 3) := by decide +kernel
theorem dX6_sat_7 : decode cX6_sat 7 = .ok (.aload_n 0, 1) := by decide +kernel
theorem dX6_sat_8 : decode cX6_sat 8 = .ok (.iload_n 2, 1) := by decide +kernel
theorem dX6_sat_9 : decode cX6_sat 9 = .ok (.invokevirtual 115, 3) := by decide +kernel
theorem dX6_sat_12 : decode cX6_sat 12 = .ok (.ifCond .ne 5, 3) := by decide +kernel
theorem dX6_sat_15 : decode cX6_sat 15 = .ok (.iconst (-1), 1) := by decide +kernel
theorem dX6_sat_16 : decode cX6_sat 16 = .ok (.ireturn, 1) := by decide +kernel
theorem dX6_sat_17 : decode cX6_sat 17 = .ok (.aload_n 0, 1) := by decide +kernel
theorem dX6_sat_18 : decode cX6_sat 18 = .ok (.iload_n 1, 1) := by decide +kernel
theorem dX6_sat_19 : decode cX6_sat 19 = .ok (.invokevirtual 149, 3) := by decide +kernel
theorem dX6_sat_22 : decode cX6_sat 22 = .ok (.aload_n 0, 1) := by decide +kernel
theorem dX6_sat_23 : decode cX6_sat 23 = .ok (.getfield 52, 3) := by decide +kernel
theorem dX6_sat_26 : decode cX6_sat 26 = .ok (.iload_n 2, 1) := by decide +kernel
theorem dX6_sat_27 : decode cX6_sat 27 = .ok (.invokevirtual 169, 3) := by decide +kernel
theorem dX6_sat_30 : decode cX6_sat 30 = .ok (.ireturn, 1) := by decide +kernel
theorem dX6_bettered_0 : decode cX6_bettered 0 = .ok (.iconst 0, 1) := by decide +kernel
theorem dX6_bettered_1 : decode cX6_bettered 1 = .ok (.istore_n 1, 1) := by decide +kernel
theorem dX6_bettered_2 : decode cX6_bettered 2 = .ok (.iload_n 1, 1) := by decide +kernel
theorem dX6_bettered_3 : decode cX6_bettered 3 = .ok (.iconst 5, 1) := by decide +kernel
theorem dX6_bettered_4 : decode cX6_bettered 4 = .ok (.if_icmp .ge 59, 3) := by decide +kernel
theorem dX6_bettered_7 : decode cX6_bettered 7 = .ok (.aload_n 0, 1) := by decide +kernel
theorem dX6_bettered_8 : decode cX6_bettered 8 = .ok (.iload_n 1, 1) := by decide +kernel
theorem dX6_bettered_9 : decode cX6_bettered 9 = .ok (.invokevirtual 149, 3) := by decide +kernel
theorem dX6_bettered_12 : decode cX6_bettered 12 = .ok (.aload_n 0, 1) := by decide +kernel
theorem dX6_bettered_13 : decode cX6_bettered 13 = .ok (.getfield 65, 3) := by decide +kernel
theorem dX6_bettered_16 : decode cX6_bettered 16 = .ok (.iload_n 1, 1) := by decide +kernel
theorem dX6_bettered_17 : decode cX6_bettered 17 = .ok (.aload_n 0, 1) := by decide +kernel
theorem dX6_bettered_18 : decode cX6_bettered 18 = .ok (.getfield 52, 3) := by decide +kernel
theorem dX6_bettered_21 : decode cX6_bettered 21 = .ok (.invokevirtual 152, 3) := by decide +kernel
theorem dX6_bettered_24 : decode cX6_bettered 24 = .ok (.iastore, 1) := by decide +kernel
theorem dX6_bettered_25 : decode cX6_bettered 25 = .ok (.aload_n 0, 1) := by decide +kernel
theorem dX6_bettered_26 : decode cX6_bettered 26 = .ok (.getfield 68, 3) := by decide +kernel
theorem dX6_bettered_29 : decode cX6_bettered 29 = .ok (.iload_n 1, 1) := by decide +kernel
theorem dX6_bettered_30 : decode cX6_bettered 30 = .ok (.aload_n 0, 1) := by decide +kernel
theorem dX6_bettered_31 : decode cX6_bettered 31 = .ok (.getfield 52, 3) := by decide +kernel
theorem dX6_bettered_34 : decode cX6_bettered 34 = .ok (.invokevirtual 158, 3) := by decide +kernel
theorem dX6_bettered_37 : decode cX6_bettered 37 = .ok (.invokestatic 161, 3) := by decide +kernel
theorem dX6_bettered_40 : decode cX6_bettered 40 = .ok (.iastore, 1) := by decide +kernel
theorem dX6_bettered_41 : decode cX6_bettered 41 = .ok (.aload_n 0, 1) := by decide +kernel
theorem dX6_bettered_42 : decode cX6_bettered 42 = .ok (.getfield 71, 3) := by decide +kernel
theorem dX6_bettered_45 : decode cX6_bettered 45 = .ok (.iload_n 1, 1) := by decide +kernel
theorem dX6_bettered_46 : decode cX6_bettered 46 = .ok (.aload_n 0, 1) := by decide +kernel
theorem dX6_bettered_47 : decode cX6_bettered 47 = .ok (.getfield 52, 3) := by decide +kernel
theorem dX6_bettered_50 : decode cX6_bettered 50 = .ok (.invokevirtual 166, 3) := by decide +kernel
theorem dX6_bettered_53 : decode cX6_bettered 53 = .ok (.invokestatic 161, 3) := by decide +kernel
theorem dX6_bettered_56 : decode cX6_bettered 56 = .ok (.iastore, 1) := by decide +kernel
theorem dX6_bettered_57 : decode cX6_bettered 57 = .ok (.iinc 1 1, 3) := by decide +kernel
theorem dX6_bettered_60 : decode cX6_bettered 60 = .ok (.goto (-58), 3) := by decide +kernel
theorem dX6_bettered_63 : decode cX6_bettered 63 = .ok (.iconst 0, 1) := by decide +kernel
theorem dX6_bettered_64 : decode cX6_bettered 64 = .ok (.istore_n 1, 1) := by decide +kernel
theorem dX6_bettered_65 : decode cX6_bettered 65 = .ok (.iconst 0, 1) := by decide +kernel
theorem dX6_bettered_66 : decode cX6_bettered 66 = .ok (.istore_n 2, 1) := by decide +kernel
theorem dX6_bettered_67 : decode cX6_bettered 67 = .ok (.iload_n 2, 1) := by decide +kernel
theorem dX6_bettered_68 : decode cX6_bettered 68 = .ok (.iconst 5, 1) := by decide +kernel
theorem dX6_bettered_69 : decode cX6_bettered 69 = .ok (.if_icmp .ge 41, 3) := by decide +kernel
theorem dX6_bettered_72 : decode cX6_bettered 72 = .ok (.iconst 0, 1) := by decide +kernel
theorem dX6_bettered_73 : decode cX6_bettered 73 = .ok (.istore_n 3, 1) := by decide +kernel
theorem dX6_bettered_74 : decode cX6_bettered 74 = .ok (.iload_n 3, 1) := by decide +kernel
theorem dX6_bettered_75 : decode cX6_bettered 75 = .ok (.iconst 5, 1) := by decide +kernel
theorem dX6_bettered_76 : decode cX6_bettered 76 = .ok (.if_icmp .ge 28, 3) := by decide +kernel
theorem dX6_bettered_79 : decode cX6_bettered 79 = .ok (.iload_n 1, 1) := by decide +kernel
theorem dX6_bettered_80 : decode cX6_bettered 80 = .ok (.aload_n 0, 1) := by decide +kernel
theorem dX6_bettered_81 : decode cX6_bettered 81 = .ok (.iload_n 3, 1) := by decide +kernel
theorem dX6_bettered_82 : decode cX6_bettered 82 = .ok (.iload_n 2, 1) := by decide +kernel
theorem dX6_bettered_83 : decode cX6_bettered 83 = .ok (.invokevirtual 172, 3) := by decide +kernel
theorem dX6_bettered_86 : decode cX6_bettered 86 = .ok (.ifCond .eq 9, 3) := by decide +kernel
theorem dX6_bettered_89 : decode cX6_bettered 89 = .ok (.iconst 1, 1) := by decide +kernel
theorem dX6_bettered_90 : decode cX6_bettered 90 = .ok (.iload_n 2, 1) := by decide +kernel
theorem dX6_bettered_91 : decode cX6_bettered 91 = .ok (.ishl, 1) := by decide +kernel
theorem dX6_bettered_92 : decode cX6_bettered 92 = .ok (.goto 4, 3) := by decide +kernel
theorem dX6_bettered_95 : decode cX6_bettered 95 = .ok (.iconst 0, 1) := by decide +kernel
theorem dX6_bettered_96 : decode cX6_bettered 96 = .ok (.ior, 1) := by decide +kernel
theorem dX6_bettered_97 : decode cX6_bettered 97 = .ok (.istore_n 1, 1) := by decide +kernel
theorem dX6_bettered_98 : decode cX6_bettered 98 = .ok (.iinc 3 1, 3) := by decide +kernel
theorem dX6_bettered_101 : decode cX6_bettered 101 = .ok (.goto (-27), 3) := by decide +kernel
theorem dX6_bettered_104 : decode cX6_bettered 104 = .ok (.iinc 2 1, 3) := by decide +kernel
theorem dX6_bettered_107 : decode cX6_bettered 107 = .ok (.goto (-40), 3) := by decide +kernel
theorem dX6_bettered_110 : decode cX6_bettered 110 = .ok (.iload_n 1, 1) := by decide +kernel
theorem dX6_bettered_111 : decode cX6_bettered 111 = .ok (.ireturn, 1) := by decide +kernel
theorem dX6_rest_0 : decode cX6_rest 0 = .ok (.iload_n 1, 1) := by decide +kernel
theorem dX6_rest_1 : decode cX6_rest 1 = .ok (.invokestatic 129, 3) := by decide +kernel
theorem dX6_rest_4 : decode cX6_rest 4 = .ok (.ifCond .eq 18, 3) := by decide +kernel
theorem dX6_rest_7 : decode cX6_rest 7 = .ok (.iload_n 2, 1) := by decide +kernel
theorem dX6_rest_8 : decode cX6_rest 8 = .ok (.iconst 0, 1) := by decide +kernel
theorem dX6_rest_9 : decode cX6_rest 9 = .ok (.aload_n 0, 1) := by decide +kernel
theorem dX6_rest_10 : decode cX6_rest 10 = .ok (.getfield 28, 3) := by decide +kernel
theorem dX6_rest_13 : decode cX6_rest 13 = .ok (.invokevirtual 81, 3) := by decide +kernel
theorem dX6_rest_16 : decode cX6_rest 16 = .ok (.invokestatic 88, 3) := by decide +kernel
theorem dX6_rest_19 : decode cX6_rest 19 = .ok (.ifCond .ne 5, 3) := by decide +kernel
theorem dX6_rest_22 : decode cX6_rest 22 = .ok (.iconst (-1), 1) := by decide +kernel
theorem dX6_rest_23 : decode cX6_rest 23 = .ok (.ireturn, 1) := by decide +kernel
theorem dX6_rest_24 : decode cX6_rest 24 = .ok (.aload_n 0, 1) := by decide +kernel
theorem dX6_rest_25 : decode cX6_rest 25 = .ok (.getfield 61, 3) := by decide +kernel
theorem dX6_rest_28 : decode cX6_rest 28 = .ok (.iload_n 1, 1) := by decide +kernel
theorem dX6_rest_29 : decode cX6_rest 29 = .ok (.invokevirtual 176, 3) := by decide +kernel
theorem dX6_rest_32 : decode cX6_rest 32 = .ok (.aload_n 0, 1) := by decide +kernel
theorem dX6_rest_33 : decode cX6_rest 33 = .ok (.getfield 61, 3) := by decide +kernel
theorem dX6_rest_36 : decode cX6_rest 36 = .ok (.iload_n 2, 1) := by decide +kernel
theorem dX6_rest_37 : decode cX6_rest 37 = .ok (.invokevirtual 179, 3) := by decide +kernel
theorem dX6_rest_40 : decode cX6_rest 40 = .ok (.ifCond .eq 7, 3) := by decide +kernel
theorem dX6_rest_43 : decode cX6_rest 43 = .ok (.iconst 1, 1) := by decide +kernel
theorem dX6_rest_44 : decode cX6_rest 44 = .ok (.goto 4, 3) := by decide +kernel
theorem dX6_rest_47 : decode cX6_rest 47 = .ok (.iconst 0, 1) := by decide +kernel
theorem dX6_rest_48 : decode cX6_rest 48 = .ok (.ireturn, 1) := by decide +kernel
theorem dX6_rests_0 : decode cX6_rests 0 = .ok (.iload_n 1, 1) := by decide +kernel
theorem dX6_rests_1 : decode cX6_rests 1 = .ok (.invokestatic 129, 3) := by decide +kernel
theorem dX6_rests_4 : decode cX6_rests 4 = .ok (.ifCond .eq 12, 3) := by decide +kernel
theorem dX6_rests_7 : decode cX6_rests 7 = .ok (.iload_n 2, 1) := by decide +kernel
theorem dX6_rests_8 : decode cX6_rests 8 = .ok (.iconst 0, 1) := by decide +kernel
theorem dX6_rests_9 : decode cX6_rests 9 = .ok (.iconst 2, 1) := by decide +kernel
theorem dX6_rests_10 : decode cX6_rests 10 = .ok (.invokestatic 88, 3) := by decide +kernel
theorem dX6_rests_13 : decode cX6_rests 13 = .ok (.ifCond .ne 5, 3) := by decide +kernel
theorem dX6_rests_16 : decode cX6_rests 16 = .ok (.iconst (-1), 1) := by decide +kernel
theorem dX6_rests_17 : decode cX6_rests 17 = .ok (.ireturn, 1) := by decide +kernel
theorem dX6_rests_18 : decode cX6_rests 18 = .ok (.aload_n 0, 1) := by decide +kernel
theorem dX6_rests_19 : decode cX6_rests 19 = .ok (.getfield 61, 3) := by decide +kernel
theorem dX6_rests_22 : decode cX6_rests 22 = .ok (.iload_n 1, 1) := by decide +kernel
theorem dX6_rests_23 : decode cX6_rests 23 = .ok (.invokevirtual 176, 3) := by decide +kernel
theorem dX6_rests_26 : decode cX6_rests 26 = .ok (.iconst 0, 1) := by decide +kernel
theorem dX6_rests_27 : decode cX6_rests 27 = .ok (.istore_n 3, 1) := by decide +kernel
theorem dX6_rests_28 : decode cX6_rests 28 = .ok (.bipush (-4), 2) := by decide +kernel
theorem dX6_rests_30 : decode cX6_rests 30 = .ok (.istore 4, 2) := by decide +kernel
theorem dX6_rests_32 : decode cX6_rests 32 = .ok (.bipush (-4), 2) := by decide +kernel
theorem dX6_rests_34 : decode cX6_rests 34 = .ok (.istore 5, 2) := by decide +kernel
theorem dX6_rests_36 : decode cX6_rests 36 = .ok (.iconst 0, 1) := by decide +kernel
theorem dX6_rests_37 : decode cX6_rests 37 = .ok (.istore 6, 2) := by decide +kernel
theorem dX6_rests_39 : decode cX6_rests 39 = .ok (.iload 6, 2) := by decide +kernel
theorem dX6_rests_41 : decode cX6_rests 41 = .ok (.aload_n 0, 1) := by decide +kernel
theorem dX6_rests_42 : decode cX6_rests 42 = .ok (.getfield 28, 3) := by decide +kernel
theorem dX6_rests_45 : decode cX6_rests 45 = .ok (.invokevirtual 81, 3) := by decide +kernel
theorem dX6_rests_48 : decode cX6_rests 48 = .ok (.if_icmp .gt 44, 3) := by decide +kernel
theorem dX6_rests_51 : decode cX6_rests 51 = .ok (.aload_n 0, 1) := by decide +kernel
theorem dX6_rests_52 : decode cX6_rests 52 = .ok (.getfield 61, 3) := by decide +kernel
theorem dX6_rests_55 : decode cX6_rests 55 = .ok (.iload 6, 2) := by decide +kernel
theorem dX6_rests_57 : decode cX6_rests 57 = .ok (.invokevirtual 179, 3) := by decide +kernel
theorem dX6_rests_60 : decode cX6_rests 60 = .ok (.ifCond .eq 26, 3) := by decide +kernel
theorem dX6_rests_63 : decode cX6_rests 63 = .ok (.iinc 3 1, 3) := by decide +kernel
theorem dX6_rests_66 : decode cX6_rests 66 = .ok (.iload 4, 2) := by decide +kernel
theorem dX6_rests_68 : decode cX6_rests 68 = .ok (.bipush (-4), 2) := by decide +kernel
theorem dX6_rests_70 : decode cX6_rests 70 = .ok (.if_icmp .ne 8, 3) := by decide +kernel
theorem dX6_rests_73 : decode cX6_rests 73 = .ok (.iload 6, 2) := by decide +kernel
theorem dX6_rests_75 : decode cX6_rests 75 = .ok (.goto 5, 3) := by decide +kernel
theorem dX6_rests_78 : decode cX6_rests 78 = .ok (.iload 4, 2) := by decide +kernel
theorem dX6_rests_80 : decode cX6_rests 80 = .ok (.istore 4, 2) := by decide +kernel
theorem dX6_rests_82 : decode cX6_rests 82 = .ok (.iload 6, 2) := by decide +kernel
theorem dX6_rests_84 : decode cX6_rests 84 = .ok (.istore 5, 2) := by decide +kernel
theorem dX6_rests_86 : decode cX6_rests 86 = .ok (.iinc 6 1, 3) := by decide +kernel
theorem dX6_rests_89 : decode cX6_rests 89 = .ok (.goto (-50), 3) := by decide +kernel
theorem dX6_rests_92 : decode cX6_rests 92 = .ok (.iload_n 2, 1) := by decide +kernel
theorem dX6_rests_93 : decode cX6_rests 93 = .ok (.ifCond .ne 7, 3) := by decide +kernel
theorem dX6_rests_96 : decode cX6_rests 96 = .ok (.iload_n 3, 1) := by decide +kernel
theorem dX6_rests_97 : decode cX6_rests 97 = .ok (.goto 15, 3) := by decide +kernel
theorem dX6_rests_100 : decode cX6_rests 100 = .ok (.iload_n 2, 1) := by decide +kernel
theorem dX6_rests_101 : decode cX6_rests 101 = .ok (.iconst 1, 1) := by decide +kernel
theorem dX6_rests_102 : decode cX6_rests 102 = .ok (.if_icmp .ne 8, 3) := by decide +kernel
theorem dX6_rests_105 : decode cX6_rests 105 = .ok (.iload 4, 2) := by decide +kernel
theorem dX6_rests_107 : decode cX6_rests 107 = .ok (.goto 5, 3) := by decide +kernel
theorem dX6_rests_110 : decode cX6_rests 110 = .ok (.iload 5, 2) := by decide +kernel
theorem dX6_rests_112 : decode cX6_rests 112 = .ok (.ireturn, 1) := by decide +kernel
theorem dX6_rounds_0 : decode cX6_rounds 0 = .ok (.iload_n 1, 1) := by decide +kernel
theorem dX6_rounds_1 : decode cX6_rounds 1 = .ok (.invokestatic 129, 3) := by decide +kernel
theorem dX6_rounds_4 : decode cX6_rounds 4 = .ok (.ifCond .eq 13, 3) := by decide +kernel
theorem dX6_rounds_7 : decode cX6_rounds 7 = .ok (.iload_n 2, 1) := by decide +kernel
theorem dX6_rounds_8 : decode cX6_rounds 8 = .ok (.iconst 1, 1) := by decide +kernel
theorem dX6_rounds_9 : decode cX6_rounds 9 = .ok (.bipush 99, 2) := by decide +kernel
theorem dX6_rounds_11 : decode cX6_rounds 11 = .ok (.invokestatic 88, 3) := by decide +kernel
theorem dX6_rounds_14 : decode cX6_rounds 14 = .ok (.ifCond .ne 5, 3) := by decide +kernel
theorem dX6_rounds_17 : decode cX6_rounds 17 = .ok (.iconst (-1), 1) := by decide +kernel
theorem dX6_rounds_18 : decode cX6_rounds 18 = .ok (.ireturn, 1) := by decide +kernel
theorem dX6_rounds_19 : decode cX6_rounds 19 = .ok (.aload_n 0, 1) := by decide +kernel
theorem dX6_rounds_20 : decode cX6_rounds 20 = .ok (.iload_n 1, 1) := by decide +kernel
theorem dX6_rounds_21 : decode cX6_rounds 21 = .ok (.invokevirtual 149, 3) := by decide +kernel
theorem dX6_rounds_24 : decode cX6_rounds 24 = .ok (.aload_n 0, 1) := by decide +kernel
theorem dX6_rounds_25 : decode cX6_rounds 25 = .ok (.getfield 52, 3) := by decide +kernel
theorem dX6_rounds_28 : decode cX6_rounds 28 = .ok (.iload_n 2, 1) := by decide +kernel
theorem dX6_rounds_29 : decode cX6_rounds 29 = .ok (.invokevirtual 182, 3) := by decide +kernel
theorem dX6_rounds_32 : decode cX6_rounds 32 = .ok (.ireturn, 1) := by decide +kernel
theorem dX6_often_0 : decode cX6_often 0 = .ok (.iload_n 1, 1) := by decide +kernel
theorem dX6_often_1 : decode cX6_often 1 = .ok (.invokestatic 129, 3) := by decide +kernel
theorem dX6_often_4 : decode cX6_often 4 = .ok (.ifCond .eq 14, 3) := by decide +kernel
theorem dX6_often_7 : decode cX6_often 7 = .ok (.iload_n 2, 1) := by decide +kernel
theorem dX6_often_8 : decode cX6_often 8 = .ok (.iconst 0, 1) := by decide +kernel
theorem dX6_often_9 : decode cX6_often 9 = .ok (.sipush 9999, 3) := by decide +kernel
theorem dX6_often_12 : decode cX6_often 12 = .ok (.invokestatic 88, 3) := by decide +kernel
theorem dX6_often_15 : decode cX6_often 15 = .ok (.ifCond .ne 5, 3) := by decide +kernel
theorem dX6_often_18 : decode cX6_often 18 = .ok (.iconst (-1), 1) := by decide +kernel
theorem dX6_often_19 : decode cX6_often 19 = .ok (.ireturn, 1) := by decide +kernel
theorem dX6_often_20 : decode cX6_often 20 = .ok (.aload_n 0, 1) := by decide +kernel
theorem dX6_often_21 : decode cX6_often 21 = .ok (.iload_n 1, 1) := by decide +kernel
theorem dX6_often_22 : decode cX6_often 22 = .ok (.invokevirtual 149, 3) := by decide +kernel
theorem dX6_often_25 : decode cX6_often 25 = .ok (.aload_n 0, 1) := by decide +kernel
theorem dX6_often_26 : decode cX6_often 26 = .ok (.getfield 52, 3) := by decide +kernel
theorem dX6_often_29 : decode cX6_often 29 = .ok (.invokevirtual 152, 3) := by decide +kernel
theorem dX6_often_32 : decode cX6_often 32 = .ok (.istore_n 3, 1) := by decide +kernel
theorem dX6_often_33 : decode cX6_often 33 = .ok (.bipush 99, 2) := by decide +kernel
theorem dX6_often_35 : decode cX6_often 35 = .ok (.istore 4, 2) := by decide +kernel
theorem dX6_often_37 : decode cX6_often 37 = .ok (.iload 4, 2) := by decide +kernel
theorem dX6_often_39 : decode cX6_often 39 = .ok (.iconst 1, 1) := by decide +kernel
theorem dX6_often_40 : decode cX6_often 40 = .ok (.if_icmp .lt 30, 3) := by decide +kernel
theorem dX6_often_43 : decode cX6_often 43 = .ok (.aload_n 0, 1) := by decide +kernel
theorem dX6_often_44 : decode cX6_often 44 = .ok (.getfield 52, 3) := by decide +kernel
theorem dX6_often_47 : decode cX6_often 47 = .ok (.iload 4, 2) := by decide +kernel
theorem dX6_often_49 : decode cX6_often 49 = .ok (.invokevirtual 182, 3) := by decide +kernel
theorem dX6_often_52 : decode cX6_often 52 = .ok (.iload_n 3, 1) := by decide +kernel
theorem dX6_often_53 : decode cX6_often 53 = .ok (.isub, 1) := by decide +kernel
theorem dX6_often_54 : decode cX6_often 54 = .ok (.invokestatic 185, 3) := by decide +kernel
theorem dX6_often_57 : decode cX6_often 57 = .ok (.iload_n 2, 1) := by decide +kernel
theorem dX6_often_58 : decode cX6_often 58 = .ok (.if_icmp .gt 6, 3) := by decide +kernel
theorem dX6_often_61 : decode cX6_often 61 = .ok (.iload 4, 2) := by decide +kernel
theorem dX6_often_63 : decode cX6_often 63 = .ok (.ireturn, 1) := by decide +kernel
theorem dX6_often_64 : decode cX6_often 64 = .ok (.iinc 4 (-1), 3) := by decide +kernel
theorem dX6_often_67 : decode cX6_often 67 = .ok (.goto (-30), 3) := by decide +kernel
theorem dX6_often_70 : decode cX6_often 70 = .ok (.bipush (-4), 2) := by decide +kernel
theorem dX6_often_72 : decode cX6_often 72 = .ok (.ireturn, 1) := by decide +kernel
theorem dX6_porter_0 : decode cX6_porter 0 = .ok (.iload_n 1, 1) := by decide +kernel
theorem dX6_porter_1 : decode cX6_porter 1 = .ok (.iconst 0, 1) := by decide +kernel
theorem dX6_porter_2 : decode cX6_porter 2 = .ok (.bipush 8, 2) := by decide +kernel
theorem dX6_porter_4 : decode cX6_porter 4 = .ok (.invokestatic 88, 3) := by decide +kernel
theorem dX6_porter_7 : decode cX6_porter 7 = .ok (.ifCond .ne 5, 3) := by decide +kernel
theorem dX6_porter_10 : decode cX6_porter 10 = .ok (.iconst (-1), 1) := by decide +kernel
theorem dX6_porter_11 : decode cX6_porter 11 = .ok (.ireturn, 1) := by decide +kernel
theorem dX6_porter_12 : decode cX6_porter 12 = .ok (.bipush 99, 2) := by decide +kernel
theorem dX6_porter_14 : decode cX6_porter 14 = .ok (.istore_n 2, 1) := by decide +kernel
theorem dX6_porter_15 : decode cX6_porter 15 = .ok (.iload_n 2, 1) := by decide +kernel
theorem dX6_porter_16 : decode cX6_porter 16 = .ok (.iconst 1, 1) := by decide +kernel
theorem dX6_porter_17 : decode cX6_porter 17 = .ok (.if_icmp .lt 27, 3) := by decide +kernel
theorem dX6_porter_20 : decode cX6_porter 20 = .ok (.aload_n 0, 1) := by decide +kernel
theorem dX6_porter_21 : decode cX6_porter 21 = .ok (.aload_n 0, 1) := by decide +kernel
theorem dX6_porter_22 : decode cX6_porter 22 = .ok (.getfield 28, 3) := by decide +kernel
theorem dX6_porter_25 : decode cX6_porter 25 = .ok (.invokevirtual 190, 3) := by decide +kernel
theorem dX6_porter_28 : decode cX6_porter 28 = .ok (.iload_n 2, 1) := by decide +kernel
theorem dX6_porter_29 : decode cX6_porter 29 = .ok (.invokevirtual 193, 3) := by decide +kernel
theorem dX6_porter_32 : decode cX6_porter 32 = .ok (.iload_n 1, 1) := by decide +kernel
theorem dX6_porter_33 : decode cX6_porter 33 = .ok (.if_icmp .gt 5, 3) := by decide +kernel
theorem dX6_porter_36 : decode cX6_porter 36 = .ok (.iload_n 2, 1) := by decide +kernel
theorem dX6_porter_37 : decode cX6_porter 37 = .ok (.ireturn, 1) := by decide +kernel
theorem dX6_porter_38 : decode cX6_porter 38 = .ok (.iinc 2 (-1), 3) := by decide +kernel
theorem dX6_porter_41 : decode cX6_porter 41 = .ok (.goto (-26), 3) := by decide +kernel
theorem dX6_porter_44 : decode cX6_porter 44 = .ok (.bipush (-4), 2) := by decide +kernel
theorem dX6_porter_46 : decode cX6_porter 46 = .ok (.ireturn, 1) := by decide +kernel
theorem dX6_card_0 : decode cX6_card 0 = .ok (.iload_n 1, 1) := by decide +kernel
theorem dX6_card_1 : decode cX6_card 1 = .ok (.iconst 0, 1) := by decide +kernel
theorem dX6_card_2 : decode cX6_card 2 = .ok (.bipush 8, 2) := by decide +kernel
theorem dX6_card_4 : decode cX6_card 4 = .ok (.invokestatic 88, 3) := by decide +kernel
theorem dX6_card_7 : decode cX6_card 7 = .ok (.ifCond .ne 5, 3) := by decide +kernel
theorem dX6_card_10 : decode cX6_card 10 = .ok (.iconst (-1), 1) := by decide +kernel
theorem dX6_card_11 : decode cX6_card 11 = .ok (.ireturn, 1) := by decide +kernel
theorem dX6_card_12 : decode cX6_card 12 = .ok (.bipush 99, 2) := by decide +kernel
theorem dX6_card_14 : decode cX6_card 14 = .ok (.istore_n 2, 1) := by decide +kernel
theorem dX6_card_15 : decode cX6_card 15 = .ok (.iload_n 2, 1) := by decide +kernel
theorem dX6_card_16 : decode cX6_card 16 = .ok (.iconst 1, 1) := by decide +kernel
theorem dX6_card_17 : decode cX6_card 17 = .ok (.if_icmp .lt 27, 3) := by decide +kernel
theorem dX6_card_20 : decode cX6_card 20 = .ok (.aload_n 0, 1) := by decide +kernel
theorem dX6_card_21 : decode cX6_card 21 = .ok (.iload_n 2, 1) := by decide +kernel
theorem dX6_card_22 : decode cX6_card 22 = .ok (.aload_n 0, 1) := by decide +kernel
theorem dX6_card_23 : decode cX6_card 23 = .ok (.getfield 28, 3) := by decide +kernel
theorem dX6_card_26 : decode cX6_card 26 = .ok (.invokevirtual 196, 3) := by decide +kernel
theorem dX6_card_29 : decode cX6_card 29 = .ok (.invokevirtual 193, 3) := by decide +kernel
theorem dX6_card_32 : decode cX6_card 32 = .ok (.iload_n 1, 1) := by decide +kernel
theorem dX6_card_33 : decode cX6_card 33 = .ok (.if_icmp .gt 5, 3) := by decide +kernel
theorem dX6_card_36 : decode cX6_card 36 = .ok (.iload_n 2, 1) := by decide +kernel
theorem dX6_card_37 : decode cX6_card 37 = .ok (.ireturn, 1) := by decide +kernel
theorem dX6_card_38 : decode cX6_card 38 = .ok (.iinc 2 (-1), 3) := by decide +kernel
theorem dX6_card_41 : decode cX6_card 41 = .ok (.goto (-26), 3) := by decide +kernel
theorem dX6_card_44 : decode cX6_card 44 = .ok (.bipush (-4), 2) := by decide +kernel
theorem dX6_card_46 : decode cX6_card 46 = .ok (.ireturn, 1) := by decide +kernel
theorem dX6_booked_0 : decode cX6_booked 0 = .ok (.iload_n 1, 1) := by decide +kernel
theorem dX6_booked_1 : decode cX6_booked 1 = .ok (.iconst 1, 1) := by decide +kernel
theorem dX6_booked_2 : decode cX6_booked 2 = .ok (.bipush 14, 2) := by decide +kernel
theorem dX6_booked_4 : decode cX6_booked 4 = .ok (.invokestatic 88, 3) := by decide +kernel
theorem dX6_booked_7 : decode cX6_booked 7 = .ok (.ifCond .eq 33, 3) := by decide +kernel
theorem dX6_booked_10 : decode cX6_booked 10 = .ok (.iload_n 2, 1) := by decide +kernel
theorem dX6_booked_11 : decode cX6_booked 11 = .ok (.iconst 1, 1) := by decide +kernel
theorem dX6_booked_12 : decode cX6_booked 12 = .ok (.bipush 14, 2) := by decide +kernel
theorem dX6_booked_14 : decode cX6_booked 14 = .ok (.invokestatic 88, 3) := by decide +kernel
theorem dX6_booked_17 : decode cX6_booked 17 = .ok (.ifCond .eq 23, 3) := by decide +kernel
theorem dX6_booked_20 : decode cX6_booked 20 = .ok (.iload_n 3, 1) := by decide +kernel
theorem dX6_booked_21 : decode cX6_booked 21 = .ok (.iconst 0, 1) := by decide +kernel
theorem dX6_booked_22 : decode cX6_booked 22 = .ok (.bipush 10, 2) := by decide +kernel
theorem dX6_booked_24 : decode cX6_booked 24 = .ok (.invokestatic 88, 3) := by decide +kernel
theorem dX6_booked_27 : decode cX6_booked 27 = .ok (.ifCond .eq 13, 3) := by decide +kernel
theorem dX6_booked_30 : decode cX6_booked 30 = .ok (.iload 4, 2) := by decide +kernel
theorem dX6_booked_32 : decode cX6_booked 32 = .ok (.iconst 0, 1) := by decide +kernel
theorem dX6_booked_33 : decode cX6_booked 33 = .ok (.iconst 1, 1) := by decide +kernel
theorem dX6_booked_34 : decode cX6_booked 34 = .ok (.invokestatic 88, 3) := by decide +kernel
theorem dX6_booked_37 : decode cX6_booked 37 = .ok (.ifCond .ne 7, 3) := by decide +kernel
theorem dX6_booked_40 : decode cX6_booked 40 = .ok (.ldc2_w 199, 3) := by decide +kernel
theorem dX6_booked_43 : decode cX6_booked 43 = .ok (.lreturn, 1) := by decide +kernel
theorem dX6_booked_44 : decode cX6_booked 44 = .ok (.iload_n 1, 1) := by decide +kernel
theorem dX6_booked_45 : decode cX6_booked 45 = .ok (.iload_n 2, 1) := by decide +kernel
theorem dX6_booked_46 : decode cX6_booked 46 = .ok (.iload_n 3, 1) := by decide +kernel
theorem dX6_booked_47 : decode cX6_booked 47 = .ok (.invokestatic 201, 3) := by decide +kernel
theorem dX6_booked_50 : decode cX6_booked 50 = .ok (.lstore 5, 2) := by decide +kernel
theorem dX6_booked_52 : decode cX6_booked 52 = .ok (.bipush 10, 2) := by decide +kernel
theorem dX6_booked_54 : decode cX6_booked 54 = .ok (.iload_n 1, 1) := by decide +kernel
theorem dX6_booked_55 : decode cX6_booked 55 = .ok (.invokestatic 207, 3) := by decide +kernel
theorem dX6_booked_58 : decode cX6_booked 58 = .ok (.lstore 7, 2) := by decide +kernel
theorem dX6_booked_60 : decode cX6_booked 60 = .ok (.lload 5, 2) := by decide +kernel
theorem dX6_booked_62 : decode cX6_booked 62 = .ok (.lload 7, 2) := by decide +kernel
theorem dX6_booked_64 : decode cX6_booked 64 = .ok (.invokestatic 211, 3) := by decide +kernel
theorem dX6_booked_67 : decode cX6_booked 67 = .ok (.lstore 9, 2) := by decide +kernel
theorem dX6_booked_69 : decode cX6_booked 69 = .ok (.lload 9, 2) := by decide +kernel
theorem dX6_booked_71 : decode cX6_booked 71 = .ok (.lconst 1, 1) := by decide +kernel
theorem dX6_booked_72 : decode cX6_booked 72 = .ok (.lcmp, 1) := by decide +kernel
theorem dX6_booked_73 : decode cX6_booked 73 = .ok (.ifCond .ge 7, 3) := by decide +kernel
theorem dX6_booked_76 : decode cX6_booked 76 = .ok (.ldc2_w 199, 3) := by decide +kernel
theorem dX6_booked_79 : decode cX6_booked 79 = .ok (.lreturn, 1) := by decide +kernel
theorem dX6_booked_80 : decode cX6_booked 80 = .ok (.iload 4, 2) := by decide +kernel
theorem dX6_booked_82 : decode cX6_booked 82 = .ok (.ifCond .ne 8, 3) := by decide +kernel
theorem dX6_booked_85 : decode cX6_booked 85 = .ok (.lload 5, 2) := by decide +kernel
theorem dX6_booked_87 : decode cX6_booked 87 = .ok (.goto 5, 3) := by decide +kernel
theorem dX6_booked_90 : decode cX6_booked 90 = .ok (.lload 7, 2) := by decide +kernel
theorem dX6_booked_92 : decode cX6_booked 92 = .ok (.lload 9, 2) := by decide +kernel
theorem dX6_booked_94 : decode cX6_booked 94 = .ok (.ldiv, 1) := by decide +kernel
theorem dX6_booked_95 : decode cX6_booked 95 = .ok (.lreturn, 1) := by decide +kernel
theorem dX6_over_0 : decode cX6_over 0 = .ok (.iload_n 1, 1) := by decide +kernel
theorem dX6_over_1 : decode cX6_over 1 = .ok (.iconst 1, 1) := by decide +kernel
theorem dX6_over_2 : decode cX6_over 2 = .ok (.bipush 14, 2) := by decide +kernel
theorem dX6_over_4 : decode cX6_over 4 = .ok (.invokestatic 88, 3) := by decide +kernel
theorem dX6_over_7 : decode cX6_over 7 = .ok (.ifCond .eq 23, 3) := by decide +kernel
theorem dX6_over_10 : decode cX6_over 10 = .ok (.iload_n 2, 1) := by decide +kernel
theorem dX6_over_11 : decode cX6_over 11 = .ok (.iconst 0, 1) := by decide +kernel
theorem dX6_over_12 : decode cX6_over 12 = .ok (.bipush 10, 2) := by decide +kernel
theorem dX6_over_14 : decode cX6_over 14 = .ok (.invokestatic 88, 3) := by decide +kernel
theorem dX6_over_17 : decode cX6_over 17 = .ok (.ifCond .eq 13, 3) := by decide +kernel
theorem dX6_over_20 : decode cX6_over 20 = .ok (.iload_n 3, 1) := by decide +kernel
theorem dX6_over_21 : decode cX6_over 21 = .ok (.iconst 0, 1) := by decide +kernel
theorem dX6_over_22 : decode cX6_over 22 = .ok (.bipush 100, 2) := by decide +kernel
theorem dX6_over_24 : decode cX6_over 24 = .ok (.invokestatic 88, 3) := by decide +kernel
theorem dX6_over_27 : decode cX6_over 27 = .ok (.ifCond .ne 5, 3) := by decide +kernel
theorem dX6_over_30 : decode cX6_over 30 = .ok (.iconst (-1), 1) := by decide +kernel
theorem dX6_over_31 : decode cX6_over 31 = .ok (.ireturn, 1) := by decide +kernel
theorem dX6_over_32 : decode cX6_over 32 = .ok (.bipush 14, 2) := by decide +kernel
theorem dX6_over_34 : decode cX6_over 34 = .ok (.istore 4, 2) := by decide +kernel
theorem dX6_over_36 : decode cX6_over 36 = .ok (.iload 4, 2) := by decide +kernel
theorem dX6_over_38 : decode cX6_over 38 = .ok (.iload_n 1, 1) := by decide +kernel
theorem dX6_over_39 : decode cX6_over 39 = .ok (.if_icmp .lt 37, 3) := by decide +kernel
theorem dX6_over_42 : decode cX6_over 42 = .ok (.iload 4, 2) := by decide +kernel
theorem dX6_over_44 : decode cX6_over 44 = .ok (.iload_n 1, 1) := by decide +kernel
theorem dX6_over_45 : decode cX6_over 45 = .ok (.iload_n 2, 1) := by decide +kernel
theorem dX6_over_46 : decode cX6_over 46 = .ok (.invokestatic 201, 3) := by decide +kernel
theorem dX6_over_49 : decode cX6_over 49 = .ok (.ldc2_w 215, 3) := by decide +kernel
theorem dX6_over_52 : decode cX6_over 52 = .ok (.lmul, 1) := by decide +kernel
theorem dX6_over_53 : decode cX6_over 53 = .ok (.bipush 10, 2) := by decide +kernel
theorem dX6_over_55 : decode cX6_over 55 = .ok (.iload 4, 2) := by decide +kernel
theorem dX6_over_57 : decode cX6_over 57 = .ok (.invokestatic 207, 3) := by decide +kernel
theorem dX6_over_60 : decode cX6_over 60 = .ok (.iload_n 3, 1) := by decide +kernel
theorem dX6_over_61 : decode cX6_over 61 = .ok (.i2l, 1) := by decide +kernel
theorem dX6_over_62 : decode cX6_over 62 = .ok (.lmul, 1) := by decide +kernel
theorem dX6_over_63 : decode cX6_over 63 = .ok (.lcmp, 1) := by decide +kernel
theorem dX6_over_64 : decode cX6_over 64 = .ok (.ifCond .lt 6, 3) := by decide +kernel
theorem dX6_over_67 : decode cX6_over 67 = .ok (.iload 4, 2) := by decide +kernel
theorem dX6_over_69 : decode cX6_over 69 = .ok (.ireturn, 1) := by decide +kernel
theorem dX6_over_70 : decode cX6_over 70 = .ok (.iinc 4 (-1), 3) := by decide +kernel
theorem dX6_over_73 : decode cX6_over 73 = .ok (.goto (-37), 3) := by decide +kernel
theorem dX6_over_76 : decode cX6_over 76 = .ok (.bipush (-4), 2) := by decide +kernel
theorem dX6_over_78 : decode cX6_over 78 = .ok (.ireturn, 1) := by decide +kernel
theorem dX6_dare_0 : decode cX6_dare 0 = .ok (.iload_n 1, 1) := by decide +kernel
theorem dX6_dare_1 : decode cX6_dare 1 = .ok (.iconst 0, 1) := by decide +kernel
theorem dX6_dare_2 : decode cX6_dare 2 = .ok (.bipush 98, 2) := by decide +kernel
theorem dX6_dare_4 : decode cX6_dare 4 = .ok (.invokestatic 88, 3) := by decide +kernel
theorem dX6_dare_7 : decode cX6_dare 7 = .ok (.ifCond .eq 22, 3) := by decide +kernel
theorem dX6_dare_10 : decode cX6_dare 10 = .ok (.iload_n 2, 1) := by decide +kernel
theorem dX6_dare_11 : decode cX6_dare 11 = .ok (.iconst 1, 1) := by decide +kernel
theorem dX6_dare_12 : decode cX6_dare 12 = .ok (.bipush 99, 2) := by decide +kernel
theorem dX6_dare_14 : decode cX6_dare 14 = .ok (.invokestatic 88, 3) := by decide +kernel
theorem dX6_dare_17 : decode cX6_dare 17 = .ok (.ifCond .eq 12, 3) := by decide +kernel
theorem dX6_dare_20 : decode cX6_dare 20 = .ok (.iload_n 3, 1) := by decide +kernel
theorem dX6_dare_21 : decode cX6_dare 21 = .ok (.iconst 0, 1) := by decide +kernel
theorem dX6_dare_22 : decode cX6_dare 22 = .ok (.iconst 1, 1) := by decide +kernel
theorem dX6_dare_23 : decode cX6_dare 23 = .ok (.invokestatic 88, 3) := by decide +kernel
theorem dX6_dare_26 : decode cX6_dare 26 = .ok (.ifCond .ne 5, 3) := by decide +kernel
theorem dX6_dare_29 : decode cX6_dare 29 = .ok (.iconst (-1), 1) := by decide +kernel
theorem dX6_dare_30 : decode cX6_dare 30 = .ok (.ireturn, 1) := by decide +kernel
theorem dX6_dare_31 : decode cX6_dare 31 = .ok (.iconst 0, 1) := by decide +kernel
theorem dX6_dare_32 : decode cX6_dare 32 = .ok (.istore 4, 2) := by decide +kernel
theorem dX6_dare_34 : decode cX6_dare 34 = .ok (.iconst 0, 1) := by decide +kernel
theorem dX6_dare_35 : decode cX6_dare 35 = .ok (.istore 5, 2) := by decide +kernel
theorem dX6_dare_37 : decode cX6_dare 37 = .ok (.iconst 0, 1) := by decide +kernel
theorem dX6_dare_38 : decode cX6_dare 38 = .ok (.istore 6, 2) := by decide +kernel
theorem dX6_dare_40 : decode cX6_dare 40 = .ok (.iload 6, 2) := by decide +kernel
theorem dX6_dare_42 : decode cX6_dare 42 = .ok (.aload_n 0, 1) := by decide +kernel
theorem dX6_dare_43 : decode cX6_dare 43 = .ok (.getfield 28, 3) := by decide +kernel
theorem dX6_dare_46 : decode cX6_dare 46 = .ok (.invokevirtual 109, 3) := by decide +kernel
theorem dX6_dare_49 : decode cX6_dare 49 = .ok (.if_icmp .ge 60, 3) := by decide +kernel
theorem dX6_dare_52 : decode cX6_dare 52 = .ok (.aload_n 0, 1) := by decide +kernel
theorem dX6_dare_53 : decode cX6_dare 53 = .ok (.getfield 28, 3) := by decide +kernel
theorem dX6_dare_56 : decode cX6_dare 56 = .ok (.iload 6, 2) := by decide +kernel
theorem dX6_dare_58 : decode cX6_dare 58 = .ok (.iconst 3, 1) := by decide +kernel
theorem dX6_dare_59 : decode cX6_dare 59 = .ok (.invokevirtual 118, 3) := by decide +kernel
theorem dX6_dare_62 : decode cX6_dare 62 = .ok (.istore 7, 2) := by decide +kernel
theorem dX6_dare_64 : decode cX6_dare 64 = .ok (.aload_n 0, 1) := by decide +kernel
theorem dX6_dare_65 : decode cX6_dare 65 = .ok (.getfield 28, 3) := by decide +kernel
theorem dX6_dare_68 : decode cX6_dare 68 = .ok (.iload 6, 2) := by decide +kernel
theorem dX6_dare_70 : decode cX6_dare 70 = .ok (.invokevirtual 217, 3) := by decide +kernel
theorem dX6_dare_73 : decode cX6_dare 73 = .ok (.ifCond .eq 30, 3) := by decide +kernel
theorem dX6_dare_76 : decode cX6_dare 76 = .ok (.iload 7, 2) := by decide +kernel
theorem dX6_dare_78 : decode cX6_dare 78 = .ok (.iload_n 1, 1) := by decide +kernel
theorem dX6_dare_79 : decode cX6_dare 79 = .ok (.if_icmp .le 24, 3) := by decide +kernel
theorem dX6_dare_82 : decode cX6_dare 82 = .ok (.iinc 4 1, 3) := by decide +kernel
theorem dX6_dare_85 : decode cX6_dare 85 = .ok (.iload 5, 2) := by decide +kernel
theorem dX6_dare_87 : decode cX6_dare 87 = .ok (.iload 7, 2) := by decide +kernel
theorem dX6_dare_89 : decode cX6_dare 89 = .ok (.iload_n 1, 1) := by decide +kernel
theorem dX6_dare_90 : decode cX6_dare 90 = .ok (.iload_n 2, 1) := by decide +kernel
theorem dX6_dare_91 : decode cX6_dare 91 = .ok (.iadd, 1) := by decide +kernel
theorem dX6_dare_92 : decode cX6_dare 92 = .ok (.if_icmp .gt 7, 3) := by decide +kernel
theorem dX6_dare_95 : decode cX6_dare 95 = .ok (.iconst 1, 1) := by decide +kernel
theorem dX6_dare_96 : decode cX6_dare 96 = .ok (.goto 4, 3) := by decide +kernel
theorem dX6_dare_99 : decode cX6_dare 99 = .ok (.iconst 0, 1) := by decide +kernel
theorem dX6_dare_100 : decode cX6_dare 100 = .ok (.iadd, 1) := by decide +kernel
theorem dX6_dare_101 : decode cX6_dare 101 = .ok (.istore 5, 2) := by decide +kernel
theorem dX6_dare_103 : decode cX6_dare 103 = .ok (.iinc 6 1, 3) := by decide +kernel
theorem dX6_dare_106 : decode cX6_dare 106 = .ok (.goto (-66), 3) := by decide +kernel
theorem dX6_dare_109 : decode cX6_dare 109 = .ok (.iload 4, 2) := by decide +kernel
theorem dX6_dare_111 : decode cX6_dare 111 = .ok (.ifCond .ne 6, 3) := by decide +kernel
theorem dX6_dare_114 : decode cX6_dare 114 = .ok (.bipush (-4), 2) := by decide +kernel
theorem dX6_dare_116 : decode cX6_dare 116 = .ok (.ireturn, 1) := by decide +kernel
theorem dX6_dare_117 : decode cX6_dare 117 = .ok (.iload_n 3, 1) := by decide +kernel
theorem dX6_dare_118 : decode cX6_dare 118 = .ok (.ifCond .ne 8, 3) := by decide +kernel
theorem dX6_dare_121 : decode cX6_dare 121 = .ok (.iload 5, 2) := by decide +kernel
theorem dX6_dare_123 : decode cX6_dare 123 = .ok (.goto 5, 3) := by decide +kernel
theorem dX6_dare_126 : decode cX6_dare 126 = .ok (.iload 4, 2) := by decide +kernel
theorem dX6_dare_128 : decode cX6_dare 128 = .ok (.ireturn, 1) := by decide +kernel
theorem dX6_drawn_0 : decode cX6_drawn 0 = .ok (.iload_n 1, 1) := by decide +kernel
theorem dX6_drawn_1 : decode cX6_drawn 1 = .ok (.iconst 0, 1) := by decide +kernel
theorem dX6_drawn_2 : decode cX6_drawn 2 = .ok (.sipush 9999, 3) := by decide +kernel
theorem dX6_drawn_5 : decode cX6_drawn 5 = .ok (.invokestatic 88, 3) := by decide +kernel
theorem dX6_drawn_8 : decode cX6_drawn 8 = .ok (.ifCond .eq 10, 3) := by decide +kernel
theorem dX6_drawn_11 : decode cX6_drawn 11 = .ok (.iload_n 2, 1) := by decide +kernel
theorem dX6_drawn_12 : decode cX6_drawn 12 = .ok (.invokestatic 129, 3) := by decide +kernel
theorem dX6_drawn_15 : decode cX6_drawn 15 = .ok (.ifCond .ne 5, 3) := by decide +kernel
theorem dX6_drawn_18 : decode cX6_drawn 18 = .ok (.iconst (-1), 1) := by decide +kernel
theorem dX6_drawn_19 : decode cX6_drawn 19 = .ok (.ireturn, 1) := by decide +kernel
theorem dX6_drawn_20 : decode cX6_drawn 20 = .ok (.aload_n 0, 1) := by decide +kernel
theorem dX6_drawn_21 : decode cX6_drawn 21 = .ok (.iload_n 1, 1) := by decide +kernel
theorem dX6_drawn_22 : decode cX6_drawn 22 = .ok (.iload_n 2, 1) := by decide +kernel
theorem dX6_drawn_23 : decode cX6_drawn 23 = .ok (.invokevirtual 220, 3) := by decide +kernel
theorem dX6_drawn_26 : decode cX6_drawn 26 = .ok (.ireturn, 1) := by decide +kernel
theorem dX6_ten_0 : decode cX6_ten 0 = .ok (.iload_n 1, 1) := by decide +kernel
theorem dX6_ten_1 : decode cX6_ten 1 = .ok (.iconst 0, 1) := by decide +kernel
theorem dX6_ten_2 : decode cX6_ten 2 = .ok (.sipush 9999, 3) := by decide +kernel
theorem dX6_ten_5 : decode cX6_ten 5 = .ok (.invokestatic 88, 3) := by decide +kernel
theorem dX6_ten_8 : decode cX6_ten 8 = .ok (.ifCond .eq 10, 3) := by decide +kernel
theorem dX6_ten_11 : decode cX6_ten 11 = .ok (.iload_n 2, 1) := by decide +kernel
theorem dX6_ten_12 : decode cX6_ten 12 = .ok (.invokestatic 129, 3) := by decide +kernel
theorem dX6_ten_15 : decode cX6_ten 15 = .ok (.ifCond .ne 5, 3) := by decide +kernel
theorem dX6_ten_18 : decode cX6_ten 18 = .ok (.iconst (-1), 1) := by decide +kernel
theorem dX6_ten_19 : decode cX6_ten 19 = .ok (.ireturn, 1) := by decide +kernel
theorem dX6_ten_20 : decode cX6_ten 20 = .ok (.iconst 0, 1) := by decide +kernel
theorem dX6_ten_21 : decode cX6_ten 21 = .ok (.istore_n 3, 1) := by decide +kernel
theorem dX6_ten_22 : decode cX6_ten 22 = .ok (.iconst 0, 1) := by decide +kernel
theorem dX6_ten_23 : decode cX6_ten 23 = .ok (.istore 4, 2) := by decide +kernel
theorem dX6_ten_25 : decode cX6_ten 25 = .ok (.iload 4, 2) := by decide +kernel
theorem dX6_ten_27 : decode cX6_ten 27 = .ok (.bipush 10, 2) := by decide +kernel
theorem dX6_ten_29 : decode cX6_ten 29 = .ok (.if_icmp .ge 33, 3) := by decide +kernel
theorem dX6_ten_32 : decode cX6_ten 32 = .ok (.iload_n 3, 1) := by decide +kernel
theorem dX6_ten_33 : decode cX6_ten 33 = .ok (.aload_n 0, 1) := by decide +kernel
theorem dX6_ten_34 : decode cX6_ten 34 = .ok (.iload_n 1, 1) := by decide +kernel
theorem dX6_ten_35 : decode cX6_ten 35 = .ok (.iload 4, 2) := by decide +kernel
theorem dX6_ten_37 : decode cX6_ten 37 = .ok (.iadd, 1) := by decide +kernel
theorem dX6_ten_38 : decode cX6_ten 38 = .ok (.sipush 10000, 3) := by decide +kernel
theorem dX6_ten_41 : decode cX6_ten 41 = .ok (.irem, 1) := by decide +kernel
theorem dX6_ten_42 : decode cX6_ten 42 = .ok (.iload_n 2, 1) := by decide +kernel
theorem dX6_ten_43 : decode cX6_ten 43 = .ok (.invokevirtual 220, 3) := by decide +kernel
theorem dX6_ten_46 : decode cX6_ten 46 = .ok (.ifCond .ne 7, 3) := by decide +kernel
theorem dX6_ten_49 : decode cX6_ten 49 = .ok (.iconst 1, 1) := by decide +kernel
theorem dX6_ten_50 : decode cX6_ten 50 = .ok (.goto 4, 3) := by decide +kernel
theorem dX6_ten_53 : decode cX6_ten 53 = .ok (.iconst 0, 1) := by decide +kernel
theorem dX6_ten_54 : decode cX6_ten 54 = .ok (.iadd, 1) := by decide +kernel
theorem dX6_ten_55 : decode cX6_ten 55 = .ok (.istore_n 3, 1) := by decide +kernel
theorem dX6_ten_56 : decode cX6_ten 56 = .ok (.iinc 4 1, 3) := by decide +kernel
theorem dX6_ten_59 : decode cX6_ten 59 = .ok (.goto (-34), 3) := by decide +kernel
theorem dX6_ten_62 : decode cX6_ten 62 = .ok (.iload_n 3, 1) := by decide +kernel
theorem dX6_ten_63 : decode cX6_ten 63 = .ok (.ireturn, 1) := by decide +kernel
theorem dX6_keep_0 : decode cX6_keep 0 = .ok (.aload_n 0, 1) := by decide +kernel
theorem dX6_keep_1 : decode cX6_keep 1 = .ok (.getfield 77, 3) := by decide +kernel
theorem dX6_keep_4 : decode cX6_keep 4 = .ok (.ifCond .lt 15, 3) := by decide +kernel
theorem dX6_keep_7 : decode cX6_keep 7 = .ok (.aload_n 0, 1) := by decide +kernel
theorem dX6_keep_8 : decode cX6_keep 8 = .ok (.getfield 77, 3) := by decide +kernel
theorem dX6_keep_11 : decode cX6_keep 11 = .ok (.aload_n 0, 1) := by decide +kernel
theorem dX6_keep_12 : decode cX6_keep 12 = .ok (.getfield 74, 3) := by decide +kernel
theorem dX6_keep_15 : decode cX6_keep 15 = .ok (.arraylength, 1) := by decide +kernel
theorem dX6_keep_16 : decode cX6_keep 16 = .ok (.if_icmp .lt 6, 3) := by decide +kernel
theorem dX6_keep_19 : decode cX6_keep 19 = .ok (.bipush (-3), 2) := by decide +kernel
theorem dX6_keep_21 : decode cX6_keep 21 = .ok (.ireturn, 1) := by decide +kernel
theorem dX6_keep_22 : decode cX6_keep 22 = .ok (.aload_n 0, 1) := by decide +kernel
theorem dX6_keep_23 : decode cX6_keep 23 = .ok (.getfield 74, 3) := by decide +kernel
theorem dX6_keep_26 : decode cX6_keep 26 = .ok (.aload_n 0, 1) := by decide +kernel
theorem dX6_keep_27 : decode cX6_keep 27 = .ok (.getfield 77, 3) := by decide +kernel
theorem dX6_keep_30 : decode cX6_keep 30 = .ok (.aload_n 0, 1) := by decide +kernel
theorem dX6_keep_31 : decode cX6_keep 31 = .ok (.getfield 85, 3) := by decide +kernel
theorem dX6_keep_34 : decode cX6_keep 34 = .ok (.iastore, 1) := by decide +kernel
theorem dX6_keep_35 : decode cX6_keep 35 = .ok (.aload_n 0, 1) := by decide +kernel
theorem dX6_keep_36 : decode cX6_keep 36 = .ok (.dup, 1) := by decide +kernel
theorem dX6_keep_37 : decode cX6_keep 37 = .ok (.getfield 77, 3) := by decide +kernel
theorem dX6_keep_40 : decode cX6_keep 40 = .ok (.iconst 1, 1) := by decide +kernel
theorem dX6_keep_41 : decode cX6_keep 41 = .ok (.iadd, 1) := by decide +kernel
theorem dX6_keep_42 : decode cX6_keep 42 = .ok (.putfield 77, 3) := by decide +kernel
theorem dX6_keep_45 : decode cX6_keep 45 = .ok (.aload_n 0, 1) := by decide +kernel
theorem dX6_keep_46 : decode cX6_keep 46 = .ok (.getfield 77, 3) := by decide +kernel
theorem dX6_keep_49 : decode cX6_keep 49 = .ok (.ireturn, 1) := by decide +kernel
theorem dX6_back_0 : decode cX6_back 0 = .ok (.aload_n 0, 1) := by decide +kernel
theorem dX6_back_1 : decode cX6_back 1 = .ok (.getfield 77, 3) := by decide +kernel
theorem dX6_back_4 : decode cX6_back 4 = .ok (.iconst 1, 1) := by decide +kernel
theorem dX6_back_5 : decode cX6_back 5 = .ok (.if_icmp .lt 15, 3) := by decide +kernel
theorem dX6_back_8 : decode cX6_back 8 = .ok (.aload_n 0, 1) := by decide +kernel
theorem dX6_back_9 : decode cX6_back 9 = .ok (.getfield 77, 3) := by decide +kernel
theorem dX6_back_12 : decode cX6_back 12 = .ok (.aload_n 0, 1) := by decide +kernel
theorem dX6_back_13 : decode cX6_back 13 = .ok (.getfield 74, 3) := by decide +kernel
theorem dX6_back_16 : decode cX6_back 16 = .ok (.arraylength, 1) := by decide +kernel
theorem dX6_back_17 : decode cX6_back 17 = .ok (.if_icmp .le 6, 3) := by decide +kernel
theorem dX6_back_20 : decode cX6_back 20 = .ok (.bipush (-2), 2) := by decide +kernel
theorem dX6_back_22 : decode cX6_back 22 = .ok (.ireturn, 1) := by decide +kernel
theorem dX6_back_23 : decode cX6_back 23 = .ok (.aload_n 0, 1) := by decide +kernel
theorem dX6_back_24 : decode cX6_back 24 = .ok (.dup, 1) := by decide +kernel
theorem dX6_back_25 : decode cX6_back 25 = .ok (.getfield 77, 3) := by decide +kernel
theorem dX6_back_28 : decode cX6_back 28 = .ok (.iconst 1, 1) := by decide +kernel
theorem dX6_back_29 : decode cX6_back 29 = .ok (.isub, 1) := by decide +kernel
theorem dX6_back_30 : decode cX6_back 30 = .ok (.putfield 77, 3) := by decide +kernel
theorem dX6_back_33 : decode cX6_back 33 = .ok (.aload_n 0, 1) := by decide +kernel
theorem dX6_back_34 : decode cX6_back 34 = .ok (.aload_n 0, 1) := by decide +kernel
theorem dX6_back_35 : decode cX6_back 35 = .ok (.getfield 74, 3) := by decide +kernel
theorem dX6_back_38 : decode cX6_back 38 = .ok (.aload_n 0, 1) := by decide +kernel
theorem dX6_back_39 : decode cX6_back 39 = .ok (.getfield 77, 3) := by decide +kernel
theorem dX6_back_42 : decode cX6_back 42 = .ok (.iaload, 1) := by decide +kernel
theorem dX6_back_43 : decode cX6_back 43 = .ok (.putfield 85, 3) := by decide +kernel
theorem dX6_back_46 : decode cX6_back 46 = .ok (.aload_n 0, 1) := by decide +kernel
theorem dX6_back_47 : decode cX6_back 47 = .ok (.getfield 77, 3) := by decide +kernel
theorem dX6_back_50 : decode cX6_back 50 = .ok (.ireturn, 1) := by decide +kernel
theorem dX6_count_0 : decode cX6_count 0 = .ok (.iload_n 1, 1) := by decide +kernel
theorem dX6_count_1 : decode cX6_count 1 = .ok (.tableswitch 72 0 4 #[35, 43, 51, 59, 67], 35) := by decide +kernel
theorem dX6_count_36 : decode cX6_count 36 = .ok (.aload_n 0, 1) := by decide +kernel
theorem dX6_count_37 : decode cX6_count 37 = .ok (.getfield 28, 3) := by decide +kernel
theorem dX6_count_40 : decode cX6_count 40 = .ok (.invokevirtual 106, 3) := by decide +kernel
theorem dX6_count_43 : decode cX6_count 43 = .ok (.ireturn, 1) := by decide +kernel
theorem dX6_count_44 : decode cX6_count 44 = .ok (.aload_n 0, 1) := by decide +kernel
theorem dX6_count_45 : decode cX6_count 45 = .ok (.getfield 28, 3) := by decide +kernel
theorem dX6_count_48 : decode cX6_count 48 = .ok (.invokevirtual 109, 3) := by decide +kernel
theorem dX6_count_51 : decode cX6_count 51 = .ok (.ireturn, 1) := by decide +kernel
theorem dX6_count_52 : decode cX6_count 52 = .ok (.aload_n 0, 1) := by decide +kernel
theorem dX6_count_53 : decode cX6_count 53 = .ok (.getfield 10, 3) := by decide +kernel
theorem dX6_count_56 : decode cX6_count 56 = .ok (.invokevirtual 96, 3) := by decide +kernel
theorem dX6_count_59 : decode cX6_count 59 = .ok (.ireturn, 1) := by decide +kernel
theorem dX6_count_60 : decode cX6_count 60 = .ok (.aload_n 0, 1) := by decide +kernel
theorem dX6_count_61 : decode cX6_count 61 = .ok (.getfield 85, 3) := by decide +kernel
theorem dX6_count_64 : decode cX6_count 64 = .ok (.invokestatic 161, 3) := by decide +kernel
theorem dX6_count_67 : decode cX6_count 67 = .ok (.ireturn, 1) := by decide +kernel
theorem dX6_count_68 : decode cX6_count 68 = .ok (.aload_n 0, 1) := by decide +kernel
theorem dX6_count_69 : decode cX6_count 69 = .ok (.getfield 77, 3) := by decide +kernel
theorem dX6_count_72 : decode cX6_count 72 = .ok (.ireturn, 1) := by decide +kernel
theorem dX6_count_73 : decode cX6_count 73 = .ok (.iconst (-1), 1) := by decide +kernel
theorem dX6_count_74 : decode cX6_count 74 = .ok (.ireturn, 1) := by decide +kernel
theorem dX6_betters_0 : decode cX6_betters 0 = .ok (.aload_n 0, 1) := by decide +kernel
theorem dX6_betters_1 : decode cX6_betters 1 = .ok (.getfield 65, 3) := by decide +kernel
theorem dX6_betters_4 : decode cX6_betters 4 = .ok (.iload_n 1, 1) := by decide +kernel
theorem dX6_betters_5 : decode cX6_betters 5 = .ok (.iaload, 1) := by decide +kernel
theorem dX6_betters_6 : decode cX6_betters 6 = .ok (.aload_n 0, 1) := by decide +kernel
theorem dX6_betters_7 : decode cX6_betters 7 = .ok (.getfield 65, 3) := by decide +kernel
theorem dX6_betters_10 : decode cX6_betters 10 = .ok (.iload_n 2, 1) := by decide +kernel
theorem dX6_betters_11 : decode cX6_betters 11 = .ok (.iaload, 1) := by decide +kernel
theorem dX6_betters_12 : decode cX6_betters 12 = .ok (.isub, 1) := by decide +kernel
theorem dX6_betters_13 : decode cX6_betters 13 = .ok (.istore_n 3, 1) := by decide +kernel
theorem dX6_betters_14 : decode cX6_betters 14 = .ok (.aload_n 0, 1) := by decide +kernel
theorem dX6_betters_15 : decode cX6_betters 15 = .ok (.getfield 68, 3) := by decide +kernel
theorem dX6_betters_18 : decode cX6_betters 18 = .ok (.iload_n 2, 1) := by decide +kernel
theorem dX6_betters_19 : decode cX6_betters 19 = .ok (.iaload, 1) := by decide +kernel
theorem dX6_betters_20 : decode cX6_betters 20 = .ok (.aload_n 0, 1) := by decide +kernel
theorem dX6_betters_21 : decode cX6_betters 21 = .ok (.getfield 68, 3) := by decide +kernel
theorem dX6_betters_24 : decode cX6_betters 24 = .ok (.iload_n 1, 1) := by decide +kernel
theorem dX6_betters_25 : decode cX6_betters 25 = .ok (.iaload, 1) := by decide +kernel
theorem dX6_betters_26 : decode cX6_betters 26 = .ok (.isub, 1) := by decide +kernel
theorem dX6_betters_27 : decode cX6_betters 27 = .ok (.istore 4, 2) := by decide +kernel
theorem dX6_betters_29 : decode cX6_betters 29 = .ok (.aload_n 0, 1) := by decide +kernel
theorem dX6_betters_30 : decode cX6_betters 30 = .ok (.getfield 71, 3) := by decide +kernel
theorem dX6_betters_33 : decode cX6_betters 33 = .ok (.iload_n 2, 1) := by decide +kernel
theorem dX6_betters_34 : decode cX6_betters 34 = .ok (.iaload, 1) := by decide +kernel
theorem dX6_betters_35 : decode cX6_betters 35 = .ok (.aload_n 0, 1) := by decide +kernel
theorem dX6_betters_36 : decode cX6_betters 36 = .ok (.getfield 71, 3) := by decide +kernel
theorem dX6_betters_39 : decode cX6_betters 39 = .ok (.iload_n 1, 1) := by decide +kernel
theorem dX6_betters_40 : decode cX6_betters 40 = .ok (.iaload, 1) := by decide +kernel
theorem dX6_betters_41 : decode cX6_betters 41 = .ok (.isub, 1) := by decide +kernel
theorem dX6_betters_42 : decode cX6_betters 42 = .ok (.istore 5, 2) := by decide +kernel
theorem dX6_betters_44 : decode cX6_betters 44 = .ok (.iload_n 3, 1) := by decide +kernel
theorem dX6_betters_45 : decode cX6_betters 45 = .ok (.ifCond .lt 27, 3) := by decide +kernel
theorem dX6_betters_48 : decode cX6_betters 48 = .ok (.iload 4, 2) := by decide +kernel
theorem dX6_betters_50 : decode cX6_betters 50 = .ok (.ifCond .lt 22, 3) := by decide +kernel
theorem dX6_betters_53 : decode cX6_betters 53 = .ok (.iload 5, 2) := by decide +kernel
theorem dX6_betters_55 : decode cX6_betters 55 = .ok (.ifCond .lt 17, 3) := by decide +kernel
theorem dX6_betters_58 : decode cX6_betters 58 = .ok (.iload_n 3, 1) := by decide +kernel
theorem dX6_betters_59 : decode cX6_betters 59 = .ok (.iload 4, 2) := by decide +kernel
theorem dX6_betters_61 : decode cX6_betters 61 = .ok (.iadd, 1) := by decide +kernel
theorem dX6_betters_62 : decode cX6_betters 62 = .ok (.iload 5, 2) := by decide +kernel
theorem dX6_betters_64 : decode cX6_betters 64 = .ok (.iadd, 1) := by decide +kernel
theorem dX6_betters_65 : decode cX6_betters 65 = .ok (.ifCond .le 7, 3) := by decide +kernel
theorem dX6_betters_68 : decode cX6_betters 68 = .ok (.iconst 1, 1) := by decide +kernel
theorem dX6_betters_69 : decode cX6_betters 69 = .ok (.goto 4, 3) := by decide +kernel
theorem dX6_betters_72 : decode cX6_betters 72 = .ok (.iconst 0, 1) := by decide +kernel
theorem dX6_betters_73 : decode cX6_betters 73 = .ok (.ireturn, 1) := by decide +kernel
theorem dX6_runWhole_0 : decode cX6_runWhole 0 = .ok (.aload_n 0, 1) := by decide +kernel
theorem dX6_runWhole_1 : decode cX6_runWhole 1 = .ok (.getfield 52, 3) := by decide +kernel
theorem dX6_runWhole_4 : decode cX6_runWhole 4 = .ok (.aload_n 0, 1) := by decide +kernel
theorem dX6_runWhole_5 : decode cX6_runWhole 5 = .ok (.getfield 28, 3) := by decide +kernel
theorem dX6_runWhole_8 : decode cX6_runWhole 8 = .ok (.iload_n 1, 1) := by decide +kernel
theorem dX6_runWhole_9 : decode cX6_runWhole 9 = .ok (.aload_n 0, 1) := by decide +kernel
theorem dX6_runWhole_10 : decode cX6_runWhole 10 = .ok (.getfield 85, 3) := by decide +kernel
theorem dX6_runWhole_13 : decode cX6_runWhole 13 = .ok (.invokevirtual 132, 3) := by decide +kernel
theorem dX6_runWhole_16 : decode cX6_runWhole 16 = .ok (.aload_n 0, 1) := by decide +kernel
theorem dX6_runWhole_17 : decode cX6_runWhole 17 = .ok (.getfield 52, 3) := by decide +kernel
theorem dX6_runWhole_20 : decode cX6_runWhole 20 = .ok (.sipush 399, 3) := by decide +kernel
theorem dX6_runWhole_23 : decode cX6_runWhole 23 = .ok (.invokevirtual 136, 3) := by decide +kernel
theorem dX6_runWhole_26 : decode cX6_runWhole 26 = .ok (.return_, 1) := by decide +kernel
theorem dX6_shutOutByCards_0 : decode cX6_shutOutByCards 0 = .ok (.aload_n 0, 1) := by decide +kernel
theorem dX6_shutOutByCards_1 : decode cX6_shutOutByCards 1 = .ok (.getfield 52, 3) := by decide +kernel
theorem dX6_shutOutByCards_4 : decode cX6_shutOutByCards 4 = .ok (.aload_n 0, 1) := by decide +kernel
theorem dX6_shutOutByCards_5 : decode cX6_shutOutByCards 5 = .ok (.getfield 28, 3) := by decide +kernel
theorem dX6_shutOutByCards_8 : decode cX6_shutOutByCards 8 = .ok (.iconst 2, 1) := by decide +kernel
theorem dX6_shutOutByCards_9 : decode cX6_shutOutByCards 9 = .ok (.aload_n 0, 1) := by decide +kernel
theorem dX6_shutOutByCards_10 : decode cX6_shutOutByCards 10 = .ok (.getfield 85, 3) := by decide +kernel
theorem dX6_shutOutByCards_13 : decode cX6_shutOutByCards 13 = .ok (.invokevirtual 132, 3) := by decide +kernel
theorem dX6_shutOutByCards_16 : decode cX6_shutOutByCards 16 = .ok (.aload_n 0, 1) := by decide +kernel
theorem dX6_shutOutByCards_17 : decode cX6_shutOutByCards 17 = .ok (.getfield 52, 3) := by decide +kernel
theorem dX6_shutOutByCards_20 : decode cX6_shutOutByCards 20 = .ok (.iload_n 1, 1) := by decide +kernel
theorem dX6_shutOutByCards_21 : decode cX6_shutOutByCards 21 = .ok (.iload_n 2, 1) := by decide +kernel
theorem dX6_shutOutByCards_22 : decode cX6_shutOutByCards 22 = .ok (.invokevirtual 223, 3) := by decide +kernel
theorem dX6_shutOutByCards_25 : decode cX6_shutOutByCards 25 = .ok (.aload_n 0, 1) := by decide +kernel
theorem dX6_shutOutByCards_26 : decode cX6_shutOutByCards 26 = .ok (.getfield 52, 3) := by decide +kernel
theorem dX6_shutOutByCards_29 : decode cX6_shutOutByCards 29 = .ok (.sipush 399, 3) := by decide +kernel
theorem dX6_shutOutByCards_32 : decode cX6_shutOutByCards 32 = .ok (.invokevirtual 136, 3) := by decide +kernel
theorem dX6_shutOutByCards_35 : decode cX6_shutOutByCards 35 = .ok (.aload_n 0, 1) := by decide +kernel
theorem dX6_shutOutByCards_36 : decode cX6_shutOutByCards 36 = .ok (.getfield 52, 3) := by decide +kernel
theorem dX6_shutOutByCards_39 : decode cX6_shutOutByCards 39 = .ok (.invokevirtual 158, 3) := by decide +kernel
theorem dX6_shutOutByCards_42 : decode cX6_shutOutByCards 42 = .ok (.invokestatic 161, 3) := by decide +kernel
theorem dX6_shutOutByCards_45 : decode cX6_shutOutByCards 45 = .ok (.ireturn, 1) := by decide +kernel
theorem dX6_shutOutByDraw_0 : decode cX6_shutOutByDraw 0 = .ok (.aload_n 0, 1) := by decide +kernel
theorem dX6_shutOutByDraw_1 : decode cX6_shutOutByDraw 1 = .ok (.getfield 52, 3) := by decide +kernel
theorem dX6_shutOutByDraw_4 : decode cX6_shutOutByDraw 4 = .ok (.aload_n 0, 1) := by decide +kernel
theorem dX6_shutOutByDraw_5 : decode cX6_shutOutByDraw 5 = .ok (.getfield 28, 3) := by decide +kernel
theorem dX6_shutOutByDraw_8 : decode cX6_shutOutByDraw 8 = .ok (.iload_n 2, 1) := by decide +kernel
theorem dX6_shutOutByDraw_9 : decode cX6_shutOutByDraw 9 = .ok (.aload_n 0, 1) := by decide +kernel
theorem dX6_shutOutByDraw_10 : decode cX6_shutOutByDraw 10 = .ok (.getfield 85, 3) := by decide +kernel
theorem dX6_shutOutByDraw_13 : decode cX6_shutOutByDraw 13 = .ok (.invokevirtual 132, 3) := by decide +kernel
theorem dX6_shutOutByDraw_16 : decode cX6_shutOutByDraw 16 = .ok (.aload_n 0, 1) := by decide +kernel
theorem dX6_shutOutByDraw_17 : decode cX6_shutOutByDraw 17 = .ok (.getfield 52, 3) := by decide +kernel
theorem dX6_shutOutByDraw_20 : decode cX6_shutOutByDraw 20 = .ok (.iload_n 1, 1) := by decide +kernel
theorem dX6_shutOutByDraw_21 : decode cX6_shutOutByDraw 21 = .ok (.invokevirtual 227, 3) := by decide +kernel
theorem dX6_shutOutByDraw_24 : decode cX6_shutOutByDraw 24 = .ok (.aload_n 0, 1) := by decide +kernel
theorem dX6_shutOutByDraw_25 : decode cX6_shutOutByDraw 25 = .ok (.getfield 52, 3) := by decide +kernel
theorem dX6_shutOutByDraw_28 : decode cX6_shutOutByDraw 28 = .ok (.sipush 399, 3) := by decide +kernel
theorem dX6_shutOutByDraw_31 : decode cX6_shutOutByDraw 31 = .ok (.invokevirtual 136, 3) := by decide +kernel
theorem dX6_shutOutByDraw_34 : decode cX6_shutOutByDraw 34 = .ok (.aload_n 0, 1) := by decide +kernel
theorem dX6_shutOutByDraw_35 : decode cX6_shutOutByDraw 35 = .ok (.getfield 52, 3) := by decide +kernel
theorem dX6_shutOutByDraw_38 : decode cX6_shutOutByDraw 38 = .ok (.invokevirtual 158, 3) := by decide +kernel
theorem dX6_shutOutByDraw_41 : decode cX6_shutOutByDraw 41 = .ok (.invokestatic 161, 3) := by decide +kernel
theorem dX6_shutOutByDraw_44 : decode cX6_shutOutByDraw 44 = .ok (.ireturn, 1) := by decide +kernel
theorem dX6_isReader_0 : decode cX6_isReader 0 = .ok (.iload_n 1, 1) := by decide +kernel
theorem dX6_isReader_1 : decode cX6_isReader 1 = .ok (.iconst 0, 1) := by decide +kernel
theorem dX6_isReader_2 : decode cX6_isReader 2 = .ok (.aload_n 0, 1) := by decide +kernel
theorem dX6_isReader_3 : decode cX6_isReader 3 = .ok (.getfield 28, 3) := by decide +kernel
theorem dX6_isReader_6 : decode cX6_isReader 6 = .ok (.invokevirtual 109, 3) := by decide +kernel
theorem dX6_isReader_9 : decode cX6_isReader 9 = .ok (.iconst 1, 1) := by decide +kernel
theorem dX6_isReader_10 : decode cX6_isReader 10 = .ok (.isub, 1) := by decide +kernel
theorem dX6_isReader_11 : decode cX6_isReader 11 = .ok (.invokestatic 88, 3) := by decide +kernel
theorem dX6_isReader_14 : decode cX6_isReader 14 = .ok (.ireturn, 1) := by decide +kernel
theorem dX6_isSeat_0 : decode cX6_isSeat 0 = .ok (.iload_n 1, 1) := by decide +kernel
theorem dX6_isSeat_1 : decode cX6_isSeat 1 = .ok (.iconst 0, 1) := by decide +kernel
theorem dX6_isSeat_2 : decode cX6_isSeat 2 = .ok (.aload_n 0, 1) := by decide +kernel
theorem dX6_isSeat_3 : decode cX6_isSeat 3 = .ok (.getfield 28, 3) := by decide +kernel
theorem dX6_isSeat_6 : decode cX6_isSeat 6 = .ok (.invokevirtual 106, 3) := by decide +kernel
theorem dX6_isSeat_9 : decode cX6_isSeat 9 = .ok (.iconst 1, 1) := by decide +kernel
theorem dX6_isSeat_10 : decode cX6_isSeat 10 = .ok (.isub, 1) := by decide +kernel
theorem dX6_isSeat_11 : decode cX6_isSeat 11 = .ok (.invokestatic 88, 3) := by decide +kernel
theorem dX6_isSeat_14 : decode cX6_isSeat 14 = .ok (.ireturn, 1) := by decide +kernel
theorem dX6_isRule_0 : decode cX6_isRule 0 = .ok (.iload_n 0, 1) := by decide +kernel
theorem dX6_isRule_1 : decode cX6_isRule 1 = .ok (.iconst 0, 1) := by decide +kernel
theorem dX6_isRule_2 : decode cX6_isRule 2 = .ok (.iconst 4, 1) := by decide +kernel
theorem dX6_isRule_3 : decode cX6_isRule 3 = .ok (.invokestatic 88, 3) := by decide +kernel
theorem dX6_isRule_6 : decode cX6_isRule 6 = .ok (.ireturn, 1) := by decide +kernel
theorem dX6_within_0 : decode cX6_within 0 = .ok (.iload_n 1, 1) := by decide +kernel
theorem dX6_within_1 : decode cX6_within 1 = .ok (.iload_n 0, 1) := by decide +kernel
theorem dX6_within_2 : decode cX6_within 2 = .ok (.if_icmp .gt 12, 3) := by decide +kernel
theorem dX6_within_5 : decode cX6_within 5 = .ok (.iload_n 0, 1) := by decide +kernel
theorem dX6_within_6 : decode cX6_within 6 = .ok (.iload_n 2, 1) := by decide +kernel
theorem dX6_within_7 : decode cX6_within 7 = .ok (.if_icmp .gt 7, 3) := by decide +kernel
theorem dX6_within_10 : decode cX6_within 10 = .ok (.iconst 1, 1) := by decide +kernel
theorem dX6_within_11 : decode cX6_within 11 = .ok (.goto 4, 3) := by decide +kernel
theorem dX6_within_14 : decode cX6_within 14 = .ok (.iconst 0, 1) := by decide +kernel
theorem dX6_within_15 : decode cX6_within 15 = .ok (.ireturn, 1) := by decide +kernel
