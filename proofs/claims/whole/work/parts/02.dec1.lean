theorem dX1_init_0 : decode cX1_init 0 = .ok (.aload_n 0, 1) := by decide +kernel
theorem dX1_init_1 : decode cX1_init 1 = .ok (.invokespecial 3, 3) := by decide +kernel
theorem dX1_init_4 : decode cX1_init 4 = .ok (.aload_n 0, 1) := by decide +kernel
theorem dX1_init_5 : decode cX1_init 5 = .ok (.aload_n 1, 1) := by decide +kernel
theorem dX1_init_6 : decode cX1_init 6 = .ok (.putfield 9, 3) := by decide +kernel
theorem dX1_init_9 : decode cX1_init 9 = .ok (.aload_n 0, 1) := by decide +kernel
theorem dX1_init_10 : decode cX1_init 10 = .ok (.sipush 256, 3) := by decide +kernel
theorem dX1_init_13 : decode cX1_init 13 = .ok (.newarray .long, 2) := by decide +kernel
theorem dX1_init_15 : decode cX1_init 15 = .ok (.putfield 15, 3) := by decide +kernel
theorem dX1_init_18 : decode cX1_init 18 = .ok (.aload_n 0, 1) := by decide +kernel
theorem dX1_init_19 : decode cX1_init 19 = .ok (.aload_n 2, 1) := by decide +kernel
theorem dX1_init_20 : decode cX1_init 20 = .ok (.putfield 19, 3) := by decide +kernel
theorem dX1_init_23 : decode cX1_init 23 = .ok (.aload_n 0, 1) := by decide +kernel
theorem dX1_init_24 : decode cX1_init 24 = .ok (.iconst (-1), 1) := by decide +kernel
theorem dX1_init_25 : decode cX1_init 25 = .ok (.putfield 23, 3) := by decide +kernel
theorem dX1_init_28 : decode cX1_init 28 = .ok (.aload_n 0, 1) := by decide +kernel
theorem dX1_init_29 : decode cX1_init 29 = .ok (.iconst 0, 1) := by decide +kernel
theorem dX1_init_30 : decode cX1_init 30 = .ok (.putfield 27, 3) := by decide +kernel
theorem dX1_init_33 : decode cX1_init 33 = .ok (.return_, 1) := by decide +kernel
theorem dX1_forget_0 : decode cX1_forget 0 = .ok (.aload_n 0, 1) := by decide +kernel
theorem dX1_forget_1 : decode cX1_forget 1 = .ok (.aload_n 1, 1) := by decide +kernel
theorem dX1_forget_2 : decode cX1_forget 2 = .ok (.putfield 19, 3) := by decide +kernel
theorem dX1_forget_5 : decode cX1_forget 5 = .ok (.aload_n 0, 1) := by decide +kernel
theorem dX1_forget_6 : decode cX1_forget 6 = .ok (.iconst (-1), 1) := by decide +kernel
theorem dX1_forget_7 : decode cX1_forget 7 = .ok (.putfield 23, 3) := by decide +kernel
theorem dX1_forget_10 : decode cX1_forget 10 = .ok (.return_, 1) := by decide +kernel
theorem dX1_playBy_0 : decode cX1_playBy 0 = .ok (.aload_n 0, 1) := by decide +kernel
theorem dX1_playBy_1 : decode cX1_playBy 1 = .ok (.getfield 23, 3) := by decide +kernel
theorem dX1_playBy_4 : decode cX1_playBy 4 = .ok (.iload_n 1, 1) := by decide +kernel
theorem dX1_playBy_5 : decode cX1_playBy 5 = .ok (.if_icmp .ne 4, 3) := by decide +kernel
theorem dX1_playBy_8 : decode cX1_playBy 8 = .ok (.return_, 1) := by decide +kernel
theorem dX1_playBy_9 : decode cX1_playBy 9 = .ok (.aload_n 0, 1) := by decide +kernel
theorem dX1_playBy_10 : decode cX1_playBy 10 = .ok (.iload_n 1, 1) := by decide +kernel
theorem dX1_playBy_11 : decode cX1_playBy 11 = .ok (.putfield 23, 3) := by decide +kernel
theorem dX1_playBy_14 : decode cX1_playBy 14 = .ok (.aload_n 0, 1) := by decide +kernel
theorem dX1_playBy_15 : decode cX1_playBy 15 = .ok (.getfield 15, 3) := by decide +kernel
theorem dX1_playBy_18 : decode cX1_playBy 18 = .ok (.ldc2_w 30, 3) := by decide +kernel
theorem dX1_playBy_21 : decode cX1_playBy 21 = .ok (.invokestatic 32, 3) := by decide +kernel
theorem dX1_playBy_24 : decode cX1_playBy 24 = .ok (.aload_n 0, 1) := by decide +kernel
theorem dX1_playBy_25 : decode cX1_playBy 25 = .ok (.iconst 0, 1) := by decide +kernel
theorem dX1_playBy_26 : decode cX1_playBy 26 = .ok (.putfield 27, 3) := by decide +kernel
theorem dX1_playBy_29 : decode cX1_playBy 29 = .ok (.iconst 0, 1) := by decide +kernel
theorem dX1_playBy_30 : decode cX1_playBy 30 = .ok (.istore_n 2, 1) := by decide +kernel
theorem dX1_playBy_31 : decode cX1_playBy 31 = .ok (.iload_n 2, 1) := by decide +kernel
theorem dX1_playBy_32 : decode cX1_playBy 32 = .ok (.aload_n 0, 1) := by decide +kernel
theorem dX1_playBy_33 : decode cX1_playBy 33 = .ok (.getfield 19, 3) := by decide +kernel
theorem dX1_playBy_36 : decode cX1_playBy 36 = .ok (.invokevirtual 38, 3) := by decide +kernel
theorem dX1_playBy_39 : decode cX1_playBy 39 = .ok (.if_icmp .ge 37, 3) := by decide +kernel
theorem dX1_playBy_42 : decode cX1_playBy 42 = .ok (.iload_n 1, 1) := by decide +kernel
theorem dX1_playBy_43 : decode cX1_playBy 43 = .ok (.iconst 1, 1) := by decide +kernel
theorem dX1_playBy_44 : decode cX1_playBy 44 = .ok (.if_icmp .eq 26, 3) := by decide +kernel
theorem dX1_playBy_47 : decode cX1_playBy 47 = .ok (.aload_n 0, 1) := by decide +kernel
theorem dX1_playBy_48 : decode cX1_playBy 48 = .ok (.getfield 19, 3) := by decide +kernel
theorem dX1_playBy_51 : decode cX1_playBy 51 = .ok (.iload_n 2, 1) := by decide +kernel
theorem dX1_playBy_52 : decode cX1_playBy 52 = .ok (.invokevirtual 44, 3) := by decide +kernel
theorem dX1_playBy_55 : decode cX1_playBy 55 = .ok (.ifCond .eq 15, 3) := by decide +kernel
theorem dX1_playBy_58 : decode cX1_playBy 58 = .ok (.aload_n 0, 1) := by decide +kernel
theorem dX1_playBy_59 : decode cX1_playBy 59 = .ok (.dup, 1) := by decide +kernel
theorem dX1_playBy_60 : decode cX1_playBy 60 = .ok (.getfield 27, 3) := by decide +kernel
theorem dX1_playBy_63 : decode cX1_playBy 63 = .ok (.iconst 1, 1) := by decide +kernel
theorem dX1_playBy_64 : decode cX1_playBy 64 = .ok (.iload_n 2, 1) := by decide +kernel
theorem dX1_playBy_65 : decode cX1_playBy 65 = .ok (.ishl, 1) := by decide +kernel
theorem dX1_playBy_66 : decode cX1_playBy 66 = .ok (.ior, 1) := by decide +kernel
theorem dX1_playBy_67 : decode cX1_playBy 67 = .ok (.putfield 27, 3) := by decide +kernel
theorem dX1_playBy_70 : decode cX1_playBy 70 = .ok (.iinc 2 1, 3) := by decide +kernel
theorem dX1_playBy_73 : decode cX1_playBy 73 = .ok (.goto (-42), 3) := by decide +kernel
theorem dX1_playBy_76 : decode cX1_playBy 76 = .ok (.return_, 1) := by decide +kernel
theorem dX1_isRest_0 : decode cX1_isRest 0 = .ok (.iconst 0, 1) := by decide +kernel
theorem dX1_isRest_1 : decode cX1_isRest 1 = .ok (.istore_n 2, 1) := by decide +kernel
theorem dX1_isRest_2 : decode cX1_isRest 2 = .ok (.iload_n 2, 1) := by decide +kernel
theorem dX1_isRest_3 : decode cX1_isRest 3 = .ok (.aload_n 0, 1) := by decide +kernel
theorem dX1_isRest_4 : decode cX1_isRest 4 = .ok (.getfield 19, 3) := by decide +kernel
theorem dX1_isRest_7 : decode cX1_isRest 7 = .ok (.invokevirtual 38, 3) := by decide +kernel
theorem dX1_isRest_10 : decode cX1_isRest 10 = .ok (.if_icmp .ge 30, 3) := by decide +kernel
theorem dX1_isRest_13 : decode cX1_isRest 13 = .ok (.aload_n 0, 1) := by decide +kernel
theorem dX1_isRest_14 : decode cX1_isRest 14 = .ok (.iload_n 1, 1) := by decide +kernel
theorem dX1_isRest_15 : decode cX1_isRest 15 = .ok (.iconst 1, 1) := by decide +kernel
theorem dX1_isRest_16 : decode cX1_isRest 16 = .ok (.iload_n 2, 1) := by decide +kernel
theorem dX1_isRest_17 : decode cX1_isRest 17 = .ok (.ishl, 1) := by decide +kernel
theorem dX1_isRest_18 : decode cX1_isRest 18 = .ok (.ixor, 1) := by decide +kernel
theorem dX1_isRest_19 : decode cX1_isRest 19 = .ok (.iload_n 2, 1) := by decide +kernel
theorem dX1_isRest_20 : decode cX1_isRest 20 = .ok (.invokevirtual 48, 3) := by decide +kernel
theorem dX1_isRest_23 : decode cX1_isRest 23 = .ok (.aload_n 0, 1) := by decide +kernel
theorem dX1_isRest_24 : decode cX1_isRest 24 = .ok (.iload_n 1, 1) := by decide +kernel
theorem dX1_isRest_25 : decode cX1_isRest 25 = .ok (.iload_n 2, 1) := by decide +kernel
theorem dX1_isRest_26 : decode cX1_isRest 26 = .ok (.invokevirtual 48, 3) := by decide +kernel
theorem dX1_isRest_29 : decode cX1_isRest 29 = .ok (.if_icmp .le 5, 3) := by decide +kernel
theorem dX1_isRest_32 : decode cX1_isRest 32 = .ok (.iconst 0, 1) := by decide +kernel
theorem dX1_isRest_33 : decode cX1_isRest 33 = .ok (.ireturn, 1) := by decide +kernel
theorem dX1_isRest_34 : decode cX1_isRest 34 = .ok (.iinc 2 1, 3) := by decide +kernel
theorem dX1_isRest_37 : decode cX1_isRest 37 = .ok (.goto (-35), 3) := by decide +kernel
theorem dX1_isRest_40 : decode cX1_isRest 40 = .ok (.iconst 1, 1) := by decide +kernel
theorem dX1_isRest_41 : decode cX1_isRest 41 = .ok (.ireturn, 1) := by decide +kernel
theorem dX1_minutesIn_0 : decode cX1_minutesIn 0 = .ok (.iload_n 1, 1) := by decide +kernel
theorem dX1_minutesIn_1 : decode cX1_minutesIn 1 = .ok (.aload_n 0, 1) := by decide +kernel
theorem dX1_minutesIn_2 : decode cX1_minutesIn 2 = .ok (.getfield 27, 3) := by decide +kernel
theorem dX1_minutesIn_5 : decode cX1_minutesIn 5 = .ok (.iand, 1) := by decide +kernel
theorem dX1_minutesIn_6 : decode cX1_minutesIn 6 = .ok (.istore_n 3, 1) := by decide +kernel
theorem dX1_minutesIn_7 : decode cX1_minutesIn 7 = .ok (.iload_n 3, 1) := by decide +kernel
theorem dX1_minutesIn_8 : decode cX1_minutesIn 8 = .ok (.ifCond .lt 12, 3) := by decide +kernel
theorem dX1_minutesIn_11 : decode cX1_minutesIn 11 = .ok (.iload_n 3, 1) := by decide +kernel
theorem dX1_minutesIn_12 : decode cX1_minutesIn 12 = .ok (.aload_n 0, 1) := by decide +kernel
theorem dX1_minutesIn_13 : decode cX1_minutesIn 13 = .ok (.getfield 15, 3) := by decide +kernel
theorem dX1_minutesIn_16 : decode cX1_minutesIn 16 = .ok (.arraylength, 1) := by decide +kernel
theorem dX1_minutesIn_17 : decode cX1_minutesIn 17 = .ok (.if_icmp .lt 5, 3) := by decide +kernel
theorem dX1_minutesIn_20 : decode cX1_minutesIn 20 = .ok (.iconst 0, 1) := by decide +kernel
theorem dX1_minutesIn_21 : decode cX1_minutesIn 21 = .ok (.ireturn, 1) := by decide +kernel
theorem dX1_minutesIn_22 : decode cX1_minutesIn 22 = .ok (.aload_n 0, 1) := by decide +kernel
theorem dX1_minutesIn_23 : decode cX1_minutesIn 23 = .ok (.getfield 15, 3) := by decide +kernel
theorem dX1_minutesIn_26 : decode cX1_minutesIn 26 = .ok (.iload_n 3, 1) := by decide +kernel
theorem dX1_minutesIn_27 : decode cX1_minutesIn 27 = .ok (.laload, 1) := by decide +kernel
theorem dX1_minutesIn_28 : decode cX1_minutesIn 28 = .ok (.ldc2_w 30, 3) := by decide +kernel
theorem dX1_minutesIn_31 : decode cX1_minutesIn 31 = .ok (.lcmp, 1) := by decide +kernel
theorem dX1_minutesIn_32 : decode cX1_minutesIn 32 = .ok (.ifCond .ne 42, 3) := by decide +kernel
theorem dX1_minutesIn_35 : decode cX1_minutesIn 35 = .ok (.aload_n 0, 1) := by decide +kernel
theorem dX1_minutesIn_36 : decode cX1_minutesIn 36 = .ok (.getfield 9, 3) := by decide +kernel
theorem dX1_minutesIn_39 : decode cX1_minutesIn 39 = .ok (.aload_n 0, 1) := by decide +kernel
theorem dX1_minutesIn_40 : decode cX1_minutesIn 40 = .ok (.getfield 19, 3) := by decide +kernel
theorem dX1_minutesIn_43 : decode cX1_minutesIn 43 = .ok (.aload_n 0, 1) := by decide +kernel
theorem dX1_minutesIn_44 : decode cX1_minutesIn 44 = .ok (.getfield 23, 3) := by decide +kernel
theorem dX1_minutesIn_47 : decode cX1_minutesIn 47 = .ok (.iload_n 3, 1) := by decide +kernel
theorem dX1_minutesIn_48 : decode cX1_minutesIn 48 = .ok (.invokevirtual 52, 3) := by decide +kernel
theorem dX1_minutesIn_51 : decode cX1_minutesIn 51 = .ok (.aload_n 0, 1) := by decide +kernel
theorem dX1_minutesIn_52 : decode cX1_minutesIn 52 = .ok (.getfield 9, 3) := by decide +kernel
theorem dX1_minutesIn_55 : decode cX1_minutesIn 55 = .ok (.sipush 399, 3) := by decide +kernel
theorem dX1_minutesIn_58 : decode cX1_minutesIn 58 = .ok (.invokevirtual 58, 3) := by decide +kernel
theorem dX1_minutesIn_61 : decode cX1_minutesIn 61 = .ok (.aload_n 0, 1) := by decide +kernel
theorem dX1_minutesIn_62 : decode cX1_minutesIn 62 = .ok (.getfield 15, 3) := by decide +kernel
theorem dX1_minutesIn_65 : decode cX1_minutesIn 65 = .ok (.iload_n 3, 1) := by decide +kernel
theorem dX1_minutesIn_66 : decode cX1_minutesIn 66 = .ok (.aload_n 0, 1) := by decide +kernel
theorem dX1_minutesIn_67 : decode cX1_minutesIn 67 = .ok (.getfield 9, 3) := by decide +kernel
theorem dX1_minutesIn_70 : decode cX1_minutesIn 70 = .ok (.invokevirtual 62, 3) := by decide +kernel
theorem dX1_minutesIn_73 : decode cX1_minutesIn 73 = .ok (.lastore, 1) := by decide +kernel
theorem dX1_minutesIn_74 : decode cX1_minutesIn 74 = .ok (.aload_n 0, 1) := by decide +kernel
theorem dX1_minutesIn_75 : decode cX1_minutesIn 75 = .ok (.getfield 15, 3) := by decide +kernel
theorem dX1_minutesIn_78 : decode cX1_minutesIn 78 = .ok (.iload_n 3, 1) := by decide +kernel
theorem dX1_minutesIn_79 : decode cX1_minutesIn 79 = .ok (.laload, 1) := by decide +kernel
theorem dX1_minutesIn_80 : decode cX1_minutesIn 80 = .ok (.bipush 8, 2) := by decide +kernel
theorem dX1_minutesIn_82 : decode cX1_minutesIn 82 = .ok (.iload_n 2, 1) := by decide +kernel
theorem dX1_minutesIn_83 : decode cX1_minutesIn 83 = .ok (.imul, 1) := by decide +kernel
theorem dX1_minutesIn_84 : decode cX1_minutesIn 84 = .ok (.lushr, 1) := by decide +kernel
theorem dX1_minutesIn_85 : decode cX1_minutesIn 85 = .ok (.l2i, 1) := by decide +kernel
theorem dX1_minutesIn_86 : decode cX1_minutesIn 86 = .ok (.sipush 255, 3) := by decide +kernel
theorem dX1_minutesIn_89 : decode cX1_minutesIn 89 = .ok (.iand, 1) := by decide +kernel
theorem dX1_minutesIn_90 : decode cX1_minutesIn 90 = .ok (.ireturn, 1) := by decide +kernel
theorem dX2_noMoreThan_0 : decode cX2_noMoreThan 0 = .ok (.lconst 0, 1) := by decide +kernel
theorem dX2_noMoreThan_1 : decode cX2_noMoreThan 1 = .ok (.lstore_n 3, 1) := by decide +kernel
theorem dX2_noMoreThan_2 : decode cX2_noMoreThan 2 = .ok (.lconst 1, 1) := by decide +kernel
theorem dX2_noMoreThan_3 : decode cX2_noMoreThan 3 = .ok (.lstore 5, 2) := by decide +kernel
theorem dX2_noMoreThan_5 : decode cX2_noMoreThan 5 = .ok (.iconst 0, 1) := by decide +kernel
theorem dX2_noMoreThan_6 : decode cX2_noMoreThan 6 = .ok (.istore 7, 2) := by decide +kernel
theorem dX2_noMoreThan_8 : decode cX2_noMoreThan 8 = .ok (.iload 7, 2) := by decide +kernel
theorem dX2_noMoreThan_10 : decode cX2_noMoreThan 10 = .ok (.iload_n 0, 1) := by decide +kernel
theorem dX2_noMoreThan_11 : decode cX2_noMoreThan 11 = .ok (.if_icmp .gt 55, 3) := by decide +kernel
theorem dX2_noMoreThan_14 : decode cX2_noMoreThan 14 = .ok (.iload 7, 2) := by decide +kernel
theorem dX2_noMoreThan_16 : decode cX2_noMoreThan 16 = .ok (.iload_n 1, 1) := by decide +kernel
theorem dX2_noMoreThan_17 : decode cX2_noMoreThan 17 = .ok (.if_icmp .gt 49, 3) := by decide +kernel
theorem dX2_noMoreThan_20 : decode cX2_noMoreThan 20 = .ok (.lload_n 3, 1) := by decide +kernel
theorem dX2_noMoreThan_21 : decode cX2_noMoreThan 21 = .ok (.lload 5, 2) := by decide +kernel
theorem dX2_noMoreThan_23 : decode cX2_noMoreThan 23 = .ok (.iload_n 2, 1) := by decide +kernel
theorem dX2_noMoreThan_24 : decode cX2_noMoreThan 24 = .ok (.iload 7, 2) := by decide +kernel
theorem dX2_noMoreThan_26 : decode cX2_noMoreThan 26 = .ok (.invokestatic 7, 3) := by decide +kernel
theorem dX2_noMoreThan_29 : decode cX2_noMoreThan 29 = .ok (.lmul, 1) := by decide +kernel
theorem dX2_noMoreThan_30 : decode cX2_noMoreThan 30 = .ok (.bipush 10, 2) := by decide +kernel
theorem dX2_noMoreThan_32 : decode cX2_noMoreThan 32 = .ok (.iload_n 2, 1) := by decide +kernel
theorem dX2_noMoreThan_33 : decode cX2_noMoreThan 33 = .ok (.isub, 1) := by decide +kernel
theorem dX2_noMoreThan_34 : decode cX2_noMoreThan 34 = .ok (.iload_n 0, 1) := by decide +kernel
theorem dX2_noMoreThan_35 : decode cX2_noMoreThan 35 = .ok (.iload 7, 2) := by decide +kernel
theorem dX2_noMoreThan_37 : decode cX2_noMoreThan 37 = .ok (.isub, 1) := by decide +kernel
theorem dX2_noMoreThan_38 : decode cX2_noMoreThan 38 = .ok (.invokestatic 7, 3) := by decide +kernel
theorem dX2_noMoreThan_41 : decode cX2_noMoreThan 41 = .ok (.lmul, 1) := by decide +kernel
theorem dX2_noMoreThan_42 : decode cX2_noMoreThan 42 = .ok (.ladd, 1) := by decide +kernel
theorem dX2_noMoreThan_43 : decode cX2_noMoreThan 43 = .ok (.lstore_n 3, 1) := by decide +kernel
theorem dX2_noMoreThan_44 : decode cX2_noMoreThan 44 = .ok (.lload 5, 2) := by decide +kernel
theorem dX2_noMoreThan_46 : decode cX2_noMoreThan 46 = .ok (.iload_n 0, 1) := by decide +kernel
theorem dX2_noMoreThan_47 : decode cX2_noMoreThan 47 = .ok (.iload 7, 2) := by decide +kernel
theorem dX2_noMoreThan_49 : decode cX2_noMoreThan 49 = .ok (.isub, 1) := by decide +kernel
theorem dX2_noMoreThan_50 : decode cX2_noMoreThan 50 = .ok (.i2l, 1) := by decide +kernel
theorem dX2_noMoreThan_51 : decode cX2_noMoreThan 51 = .ok (.lmul, 1) := by decide +kernel
theorem dX2_noMoreThan_52 : decode cX2_noMoreThan 52 = .ok (.iload 7, 2) := by decide +kernel
theorem dX2_noMoreThan_54 : decode cX2_noMoreThan 54 = .ok (.iconst 1, 1) := by decide +kernel
theorem dX2_noMoreThan_55 : decode cX2_noMoreThan 55 = .ok (.iadd, 1) := by decide +kernel
theorem dX2_noMoreThan_56 : decode cX2_noMoreThan 56 = .ok (.i2l, 1) := by decide +kernel
theorem dX2_noMoreThan_57 : decode cX2_noMoreThan 57 = .ok (.ldiv, 1) := by decide +kernel
theorem dX2_noMoreThan_58 : decode cX2_noMoreThan 58 = .ok (.lstore 5, 2) := by decide +kernel
theorem dX2_noMoreThan_60 : decode cX2_noMoreThan 60 = .ok (.iinc 7 1, 3) := by decide +kernel
theorem dX2_noMoreThan_63 : decode cX2_noMoreThan 63 = .ok (.goto (-55), 3) := by decide +kernel
theorem dX2_noMoreThan_66 : decode cX2_noMoreThan 66 = .ok (.lload_n 3, 1) := by decide +kernel
theorem dX2_noMoreThan_67 : decode cX2_noMoreThan 67 = .ok (.lreturn, 1) := by decide +kernel
theorem dX2_power_0 : decode cX2_power 0 = .ok (.lconst 1, 1) := by decide +kernel
theorem dX2_power_1 : decode cX2_power 1 = .ok (.lstore_n 2, 1) := by decide +kernel
theorem dX2_power_2 : decode cX2_power 2 = .ok (.iconst 0, 1) := by decide +kernel
theorem dX2_power_3 : decode cX2_power 3 = .ok (.istore 4, 2) := by decide +kernel
theorem dX2_power_5 : decode cX2_power 5 = .ok (.iload 4, 2) := by decide +kernel
theorem dX2_power_7 : decode cX2_power 7 = .ok (.iload_n 1, 1) := by decide +kernel
theorem dX2_power_8 : decode cX2_power 8 = .ok (.if_icmp .ge 14, 3) := by decide +kernel
theorem dX2_power_11 : decode cX2_power 11 = .ok (.lload_n 2, 1) := by decide +kernel
theorem dX2_power_12 : decode cX2_power 12 = .ok (.iload_n 0, 1) := by decide +kernel
theorem dX2_power_13 : decode cX2_power 13 = .ok (.i2l, 1) := by decide +kernel
theorem dX2_power_14 : decode cX2_power 14 = .ok (.lmul, 1) := by decide +kernel
theorem dX2_power_15 : decode cX2_power 15 = .ok (.lstore_n 2, 1) := by decide +kernel
theorem dX2_power_16 : decode cX2_power 16 = .ok (.iinc 4 1, 3) := by decide +kernel
theorem dX2_power_19 : decode cX2_power 19 = .ok (.goto (-14), 3) := by decide +kernel
theorem dX2_power_22 : decode cX2_power 22 = .ok (.lload_n 2, 1) := by decide +kernel
theorem dX2_power_23 : decode cX2_power 23 = .ok (.lreturn, 1) := by decide +kernel
theorem dX2_commonDivisor_0 : decode cX2_commonDivisor 0 = .ok (.lload_n 0, 1) := by decide +kernel
theorem dX2_commonDivisor_1 : decode cX2_commonDivisor 1 = .ok (.lstore 4, 2) := by decide +kernel
theorem dX2_commonDivisor_3 : decode cX2_commonDivisor 3 = .ok (.lload_n 2, 1) := by decide +kernel
theorem dX2_commonDivisor_4 : decode cX2_commonDivisor 4 = .ok (.lstore 6, 2) := by decide +kernel
theorem dX2_commonDivisor_6 : decode cX2_commonDivisor 6 = .ok (.iconst 0, 1) := by decide +kernel
theorem dX2_commonDivisor_7 : decode cX2_commonDivisor 7 = .ok (.istore 8, 2) := by decide +kernel
theorem dX2_commonDivisor_9 : decode cX2_commonDivisor 9 = .ok (.iload 8, 2) := by decide +kernel
theorem dX2_commonDivisor_11 : decode cX2_commonDivisor 11 = .ok (.sipush 1000, 3) := by decide +kernel
theorem dX2_commonDivisor_14 : decode cX2_commonDivisor 14 = .ok (.if_icmp .ge 31, 3) := by decide +kernel
theorem dX2_commonDivisor_17 : decode cX2_commonDivisor 17 = .ok (.lload 6, 2) := by decide +kernel
theorem dX2_commonDivisor_19 : decode cX2_commonDivisor 19 = .ok (.lconst 0, 1) := by decide +kernel
theorem dX2_commonDivisor_20 : decode cX2_commonDivisor 20 = .ok (.lcmp, 1) := by decide +kernel
theorem dX2_commonDivisor_21 : decode cX2_commonDivisor 21 = .ok (.ifCond .le 24, 3) := by decide +kernel
theorem dX2_commonDivisor_24 : decode cX2_commonDivisor 24 = .ok (.lload 4, 2) := by decide +kernel
theorem dX2_commonDivisor_26 : decode cX2_commonDivisor 26 = .ok (.lload 6, 2) := by decide +kernel
theorem dX2_commonDivisor_28 : decode cX2_commonDivisor 28 = .ok (.lrem, 1) := by decide +kernel
theorem dX2_commonDivisor_29 : decode cX2_commonDivisor 29 = .ok (.lstore 9, 2) := by decide +kernel
theorem dX2_commonDivisor_31 : decode cX2_commonDivisor 31 = .ok (.lload 6, 2) := by decide +kernel
theorem dX2_commonDivisor_33 : decode cX2_commonDivisor 33 = .ok (.lstore 4, 2) := by decide +kernel
theorem dX2_commonDivisor_35 : decode cX2_commonDivisor 35 = .ok (.lload 9, 2) := by decide +kernel
theorem dX2_commonDivisor_37 : decode cX2_commonDivisor 37 = .ok (.lstore 6, 2) := by decide +kernel
theorem dX2_commonDivisor_39 : decode cX2_commonDivisor 39 = .ok (.iinc 8 1, 3) := by decide +kernel
theorem dX2_commonDivisor_42 : decode cX2_commonDivisor 42 = .ok (.goto (-33), 3) := by decide +kernel
theorem dX2_commonDivisor_45 : decode cX2_commonDivisor 45 = .ok (.lload 4, 2) := by decide +kernel
theorem dX2_commonDivisor_47 : decode cX2_commonDivisor 47 = .ok (.lreturn, 1) := by decide +kernel
theorem dX3_init_0 : decode cX3_init 0 = .ok (.aload_n 0, 1) := by decide +kernel
theorem dX3_init_1 : decode cX3_init 1 = .ok (.invokespecial 3, 3) := by decide +kernel
theorem dX3_init_4 : decode cX3_init 4 = .ok (.aload_n 0, 1) := by decide +kernel
theorem dX3_init_5 : decode cX3_init 5 = .ok (.bipush 10, 2) := by decide +kernel
theorem dX3_init_7 : decode cX3_init 7 = .ok (.newarray .int, 2) := by decide +kernel
theorem dX3_init_9 : decode cX3_init 9 = .ok (.putfield 9, 3) := by decide +kernel
theorem dX3_init_12 : decode cX3_init 12 = .ok (.aload_n 0, 1) := by decide +kernel
theorem dX3_init_13 : decode cX3_init 13 = .ok (.bipush 56, 2) := by decide +kernel
theorem dX3_init_15 : decode cX3_init 15 = .ok (.newarray .int, 2) := by decide +kernel
theorem dX3_init_17 : decode cX3_init 17 = .ok (.putfield 15, 3) := by decide +kernel
theorem dX3_init_20 : decode cX3_init 20 = .ok (.aload_n 0, 1) := by decide +kernel
theorem dX3_init_21 : decode cX3_init 21 = .ok (.invokevirtual 18, 3) := by decide +kernel
theorem dX3_init_24 : decode cX3_init 24 = .ok (.return_, 1) := by decide +kernel
theorem dX3_clear_0 : decode cX3_clear 0 = .ok (.aload_n 0, 1) := by decide +kernel
theorem dX3_clear_1 : decode cX3_clear 1 = .ok (.iconst 0, 1) := by decide +kernel
theorem dX3_clear_2 : decode cX3_clear 2 = .ok (.putfield 21, 3) := by decide +kernel
theorem dX3_clear_5 : decode cX3_clear 5 = .ok (.aload_n 0, 1) := by decide +kernel
theorem dX3_clear_6 : decode cX3_clear 6 = .ok (.iconst 0, 1) := by decide +kernel
theorem dX3_clear_7 : decode cX3_clear 7 = .ok (.putfield 25, 3) := by decide +kernel
theorem dX3_clear_10 : decode cX3_clear 10 = .ok (.aload_n 0, 1) := by decide +kernel
theorem dX3_clear_11 : decode cX3_clear 11 = .ok (.bipush 30, 2) := by decide +kernel
theorem dX3_clear_13 : decode cX3_clear 13 = .ok (.putfield 28, 3) := by decide +kernel
theorem dX3_clear_16 : decode cX3_clear 16 = .ok (.aload_n 0, 1) := by decide +kernel
theorem dX3_clear_17 : decode cX3_clear 17 = .ok (.bipush 20, 2) := by decide +kernel
theorem dX3_clear_19 : decode cX3_clear 19 = .ok (.putfield 31, 3) := by decide +kernel
theorem dX3_clear_22 : decode cX3_clear 22 = .ok (.aload_n 0, 1) := by decide +kernel
theorem dX3_clear_23 : decode cX3_clear 23 = .ok (.bipush 15, 2) := by decide +kernel
theorem dX3_clear_25 : decode cX3_clear 25 = .ok (.putfield 34, 3) := by decide +kernel
theorem dX3_clear_28 : decode cX3_clear 28 = .ok (.aload_n 0, 1) := by decide +kernel
theorem dX3_clear_29 : decode cX3_clear 29 = .ok (.bipush 20, 2) := by decide +kernel
theorem dX3_clear_31 : decode cX3_clear 31 = .ok (.putfield 37, 3) := by decide +kernel
theorem dX3_clear_34 : decode cX3_clear 34 = .ok (.aload_n 0, 1) := by decide +kernel
theorem dX3_clear_35 : decode cX3_clear 35 = .ok (.iconst 0, 1) := by decide +kernel
theorem dX3_clear_36 : decode cX3_clear 36 = .ok (.putfield 40, 3) := by decide +kernel
theorem dX3_clear_39 : decode cX3_clear 39 = .ok (.return_, 1) := by decide +kernel
theorem dX3_addSeat_0 : decode cX3_addSeat 0 = .ok (.aload_n 0, 1) := by decide +kernel
theorem dX3_addSeat_1 : decode cX3_addSeat 1 = .ok (.getfield 21, 3) := by decide +kernel
theorem dX3_addSeat_4 : decode cX3_addSeat 4 = .ok (.aload_n 0, 1) := by decide +kernel
theorem dX3_addSeat_5 : decode cX3_addSeat 5 = .ok (.getfield 9, 3) := by decide +kernel
theorem dX3_addSeat_8 : decode cX3_addSeat 8 = .ok (.arraylength, 1) := by decide +kernel
theorem dX3_addSeat_9 : decode cX3_addSeat 9 = .ok (.if_icmp .lt 5, 3) := by decide +kernel
theorem dX3_addSeat_12 : decode cX3_addSeat 12 = .ok (.iconst 0, 1) := by decide +kernel
theorem dX3_addSeat_13 : decode cX3_addSeat 13 = .ok (.ireturn, 1) := by decide +kernel
theorem dX3_addSeat_14 : decode cX3_addSeat 14 = .ok (.aload_n 0, 1) := by decide +kernel
theorem dX3_addSeat_15 : decode cX3_addSeat 15 = .ok (.getfield 9, 3) := by decide +kernel
theorem dX3_addSeat_18 : decode cX3_addSeat 18 = .ok (.aload_n 0, 1) := by decide +kernel
theorem dX3_addSeat_19 : decode cX3_addSeat 19 = .ok (.getfield 21, 3) := by decide +kernel
theorem dX3_addSeat_22 : decode cX3_addSeat 22 = .ok (.iload_n 1, 1) := by decide +kernel
theorem dX3_addSeat_23 : decode cX3_addSeat 23 = .ok (.iastore, 1) := by decide +kernel
theorem dX3_addSeat_24 : decode cX3_addSeat 24 = .ok (.aload_n 0, 1) := by decide +kernel
theorem dX3_addSeat_25 : decode cX3_addSeat 25 = .ok (.dup, 1) := by decide +kernel
theorem dX3_addSeat_26 : decode cX3_addSeat 26 = .ok (.getfield 21, 3) := by decide +kernel
theorem dX3_addSeat_29 : decode cX3_addSeat 29 = .ok (.iconst 1, 1) := by decide +kernel
theorem dX3_addSeat_30 : decode cX3_addSeat 30 = .ok (.iadd, 1) := by decide +kernel
theorem dX3_addSeat_31 : decode cX3_addSeat 31 = .ok (.putfield 21, 3) := by decide +kernel
theorem dX3_addSeat_34 : decode cX3_addSeat 34 = .ok (.iconst 1, 1) := by decide +kernel
theorem dX3_addSeat_35 : decode cX3_addSeat 35 = .ok (.ireturn, 1) := by decide +kernel
theorem dX3_addReader_0 : decode cX3_addReader 0 = .ok (.aload_n 0, 1) := by decide +kernel
theorem dX3_addReader_1 : decode cX3_addReader 1 = .ok (.getfield 25, 3) := by decide +kernel
theorem dX3_addReader_4 : decode cX3_addReader 4 = .ok (.bipush 8, 2) := by decide +kernel
theorem dX3_addReader_6 : decode cX3_addReader 6 = .ok (.if_icmp .ge 10, 3) := by decide +kernel
theorem dX3_addReader_9 : decode cX3_addReader 9 = .ok (.aload_n 1, 1) := by decide +kernel
theorem dX3_addReader_10 : decode cX3_addReader 10 = .ok (.arraylength, 1) := by decide +kernel
theorem dX3_addReader_11 : decode cX3_addReader 11 = .ok (.bipush 7, 2) := by decide +kernel
theorem dX3_addReader_13 : decode cX3_addReader 13 = .ok (.if_icmp .ge 5, 3) := by decide +kernel
theorem dX3_addReader_16 : decode cX3_addReader 16 = .ok (.iconst 0, 1) := by decide +kernel
theorem dX3_addReader_17 : decode cX3_addReader 17 = .ok (.ireturn, 1) := by decide +kernel
theorem dX3_addReader_18 : decode cX3_addReader 18 = .ok (.aload_n 1, 1) := by decide +kernel
theorem dX3_addReader_19 : decode cX3_addReader 19 = .ok (.iconst 0, 1) := by decide +kernel
theorem dX3_addReader_20 : decode cX3_addReader 20 = .ok (.aload_n 0, 1) := by decide +kernel
theorem dX3_addReader_21 : decode cX3_addReader 21 = .ok (.getfield 15, 3) := by decide +kernel
theorem dX3_addReader_24 : decode cX3_addReader 24 = .ok (.aload_n 0, 1) := by decide +kernel
theorem dX3_addReader_25 : decode cX3_addReader 25 = .ok (.getfield 25, 3) := by decide +kernel
theorem dX3_addReader_28 : decode cX3_addReader 28 = .ok (.bipush 7, 2) := by decide +kernel
theorem dX3_addReader_30 : decode cX3_addReader 30 = .ok (.imul, 1) := by decide +kernel
theorem dX3_addReader_31 : decode cX3_addReader 31 = .ok (.bipush 7, 2) := by decide +kernel
theorem dX3_addReader_33 : decode cX3_addReader 33 = .ok (.invokestatic 43, 3) := by decide +kernel
theorem dX3_addReader_36 : decode cX3_addReader 36 = .ok (.aload_n 0, 1) := by decide +kernel
theorem dX3_addReader_37 : decode cX3_addReader 37 = .ok (.dup, 1) := by decide +kernel
theorem dX3_addReader_38 : decode cX3_addReader 38 = .ok (.getfield 25, 3) := by decide +kernel
theorem dX3_addReader_41 : decode cX3_addReader 41 = .ok (.iconst 1, 1) := by decide +kernel
theorem dX3_addReader_42 : decode cX3_addReader 42 = .ok (.iadd, 1) := by decide +kernel
theorem dX3_addReader_43 : decode cX3_addReader 43 = .ok (.putfield 25, 3) := by decide +kernel
theorem dX3_addReader_46 : decode cX3_addReader 46 = .ok (.iconst 1, 1) := by decide +kernel
theorem dX3_addReader_47 : decode cX3_addReader 47 = .ok (.ireturn, 1) := by decide +kernel
theorem dX3_setCards_0 : decode cX3_setCards 0 = .ok (.aload_n 0, 1) := by decide +kernel
theorem dX3_setCards_1 : decode cX3_setCards 1 = .ok (.iload_n 1, 1) := by decide +kernel
theorem dX3_setCards_2 : decode cX3_setCards 2 = .ok (.putfield 28, 3) := by decide +kernel
theorem dX3_setCards_5 : decode cX3_setCards 5 = .ok (.aload_n 0, 1) := by decide +kernel
theorem dX3_setCards_6 : decode cX3_setCards 6 = .ok (.iload_n 2, 1) := by decide +kernel
theorem dX3_setCards_7 : decode cX3_setCards 7 = .ok (.putfield 31, 3) := by decide +kernel
theorem dX3_setCards_10 : decode cX3_setCards 10 = .ok (.iconst 1, 1) := by decide +kernel
theorem dX3_setCards_11 : decode cX3_setCards 11 = .ok (.ireturn, 1) := by decide +kernel
theorem dX3_setLamps_0 : decode cX3_setLamps 0 = .ok (.aload_n 0, 1) := by decide +kernel
theorem dX3_setLamps_1 : decode cX3_setLamps 1 = .ok (.iload_n 1, 1) := by decide +kernel
theorem dX3_setLamps_2 : decode cX3_setLamps 2 = .ok (.putfield 34, 3) := by decide +kernel
theorem dX3_setLamps_5 : decode cX3_setLamps 5 = .ok (.iconst 1, 1) := by decide +kernel
theorem dX3_setLamps_6 : decode cX3_setLamps 6 = .ok (.ireturn, 1) := by decide +kernel
theorem dX3_setSeeking_0 : decode cX3_setSeeking 0 = .ok (.aload_n 0, 1) := by decide +kernel
theorem dX3_setSeeking_1 : decode cX3_setSeeking 1 = .ok (.iload_n 1, 1) := by decide +kernel
theorem dX3_setSeeking_2 : decode cX3_setSeeking 2 = .ok (.putfield 37, 3) := by decide +kernel
theorem dX3_setSeeking_5 : decode cX3_setSeeking 5 = .ok (.iconst 1, 1) := by decide +kernel
theorem dX3_setSeeking_6 : decode cX3_setSeeking 6 = .ok (.ireturn, 1) := by decide +kernel
theorem dX3_setLater_0 : decode cX3_setLater 0 = .ok (.aload_n 0, 1) := by decide +kernel
theorem dX3_setLater_1 : decode cX3_setLater 1 = .ok (.iload_n 1, 1) := by decide +kernel
theorem dX3_setLater_2 : decode cX3_setLater 2 = .ok (.putfield 40, 3) := by decide +kernel
theorem dX3_setLater_5 : decode cX3_setLater 5 = .ok (.iconst 1, 1) := by decide +kernel
theorem dX3_setLater_6 : decode cX3_setLater 6 = .ok (.ireturn, 1) := by decide +kernel
theorem dX3_seatCount_0 : decode cX3_seatCount 0 = .ok (.aload_n 0, 1) := by decide +kernel
theorem dX3_seatCount_1 : decode cX3_seatCount 1 = .ok (.getfield 21, 3) := by decide +kernel
theorem dX3_seatCount_4 : decode cX3_seatCount 4 = .ok (.ireturn, 1) := by decide +kernel
theorem dX3_readerCount_0 : decode cX3_readerCount 0 = .ok (.aload_n 0, 1) := by decide +kernel
theorem dX3_readerCount_1 : decode cX3_readerCount 1 = .ok (.getfield 25, 3) := by decide +kernel
theorem dX3_readerCount_4 : decode cX3_readerCount 4 = .ok (.ireturn, 1) := by decide +kernel
theorem dX3_cardMinutes_0 : decode cX3_cardMinutes 0 = .ok (.aload_n 0, 1) := by decide +kernel
theorem dX3_cardMinutes_1 : decode cX3_cardMinutes 1 = .ok (.getfield 28, 3) := by decide +kernel
theorem dX3_cardMinutes_4 : decode cX3_cardMinutes 4 = .ok (.ireturn, 1) := by decide +kernel
theorem dX3_porterMinutes_0 : decode cX3_porterMinutes 0 = .ok (.aload_n 0, 1) := by decide +kernel
theorem dX3_porterMinutes_1 : decode cX3_porterMinutes 1 = .ok (.getfield 31, 3) := by decide +kernel
theorem dX3_porterMinutes_4 : decode cX3_porterMinutes 4 = .ok (.ireturn, 1) := by decide +kernel
theorem dX3_lampMinutes_0 : decode cX3_lampMinutes 0 = .ok (.aload_n 0, 1) := by decide +kernel
theorem dX3_lampMinutes_1 : decode cX3_lampMinutes 1 = .ok (.getfield 34, 3) := by decide +kernel
theorem dX3_lampMinutes_4 : decode cX3_lampMinutes 4 = .ok (.ireturn, 1) := by decide +kernel
theorem dX3_seekMinutes_0 : decode cX3_seekMinutes 0 = .ok (.aload_n 0, 1) := by decide +kernel
theorem dX3_seekMinutes_1 : decode cX3_seekMinutes 1 = .ok (.getfield 37, 3) := by decide +kernel
theorem dX3_seekMinutes_4 : decode cX3_seekMinutes 4 = .ok (.ireturn, 1) := by decide +kernel
theorem dX3_laterMinutes_0 : decode cX3_laterMinutes 0 = .ok (.aload_n 0, 1) := by decide +kernel
theorem dX3_laterMinutes_1 : decode cX3_laterMinutes 1 = .ok (.getfield 40, 3) := by decide +kernel
theorem dX3_laterMinutes_4 : decode cX3_laterMinutes 4 = .ok (.ireturn, 1) := by decide +kernel
theorem dX3_everybody_0 : decode cX3_everybody 0 = .ok (.iconst 1, 1) := by decide +kernel
theorem dX3_everybody_1 : decode cX3_everybody 1 = .ok (.aload_n 0, 1) := by decide +kernel
theorem dX3_everybody_2 : decode cX3_everybody 2 = .ok (.getfield 25, 3) := by decide +kernel
theorem dX3_everybody_5 : decode cX3_everybody 5 = .ok (.ishl, 1) := by decide +kernel
theorem dX3_everybody_6 : decode cX3_everybody 6 = .ok (.iconst 1, 1) := by decide +kernel
theorem dX3_everybody_7 : decode cX3_everybody 7 = .ok (.isub, 1) := by decide +kernel
theorem dX3_everybody_8 : decode cX3_everybody 8 = .ok (.ireturn, 1) := by decide +kernel
theorem dX3_kindOf_0 : decode cX3_kindOf 0 = .ok (.iload_n 1, 1) := by decide +kernel
theorem dX3_kindOf_1 : decode cX3_kindOf 1 = .ok (.ifCond .lt 20, 3) := by decide +kernel
theorem dX3_kindOf_4 : decode cX3_kindOf 4 = .ok (.iload_n 1, 1) := by decide +kernel
theorem dX3_kindOf_5 : decode cX3_kindOf 5 = .ok (.aload_n 0, 1) := by decide +kernel
theorem dX3_kindOf_6 : decode cX3_kindOf 6 = .ok (.getfield 21, 3) := by decide +kernel
theorem dX3_kindOf_9 : decode cX3_kindOf 9 = .ok (.if_icmp .ge 12, 3) := by decide +kernel
theorem dX3_kindOf_12 : decode cX3_kindOf 12 = .ok (.aload_n 0, 1) := by decide +kernel
theorem dX3_kindOf_13 : decode cX3_kindOf 13 = .ok (.getfield 9, 3) := by decide +kernel
theorem dX3_kindOf_16 : decode cX3_kindOf 16 = .ok (.iload_n 1, 1) := by decide +kernel
theorem dX3_kindOf_17 : decode cX3_kindOf 17 = .ok (.iaload, 1) := by decide +kernel
theorem dX3_kindOf_18 : decode cX3_kindOf 18 = .ok (.goto 4, 3) := by decide +kernel
theorem dX3_kindOf_21 : decode cX3_kindOf 21 = .ok (.iconst 0, 1) := by decide +kernel
theorem dX3_kindOf_22 : decode cX3_kindOf 22 = .ok (.ireturn, 1) := by decide +kernel
theorem dX3_number_0 : decode cX3_number 0 = .ok (.iload_n 1, 1) := by decide +kernel
theorem dX3_number_1 : decode cX3_number 1 = .ok (.ifCond .lt 25, 3) := by decide +kernel
theorem dX3_number_4 : decode cX3_number 4 = .ok (.iload_n 1, 1) := by decide +kernel
theorem dX3_number_5 : decode cX3_number 5 = .ok (.aload_n 0, 1) := by decide +kernel
theorem dX3_number_6 : decode cX3_number 6 = .ok (.getfield 25, 3) := by decide +kernel
theorem dX3_number_9 : decode cX3_number 9 = .ok (.if_icmp .ge 17, 3) := by decide +kernel
theorem dX3_number_12 : decode cX3_number 12 = .ok (.iload_n 2, 1) := by decide +kernel
theorem dX3_number_13 : decode cX3_number 13 = .ok (.ifCond .lt 13, 3) := by decide +kernel
theorem dX3_number_16 : decode cX3_number 16 = .ok (.iload_n 2, 1) := by decide +kernel
theorem dX3_number_17 : decode cX3_number 17 = .ok (.bipush 7, 2) := by decide +kernel
theorem dX3_number_19 : decode cX3_number 19 = .ok (.if_icmp .ge 7, 3) := by decide +kernel
theorem dX3_number_22 : decode cX3_number 22 = .ok (.iconst 1, 1) := by decide +kernel
theorem dX3_number_23 : decode cX3_number 23 = .ok (.goto 4, 3) := by decide +kernel
theorem dX3_number_26 : decode cX3_number 26 = .ok (.iconst 0, 1) := by decide +kernel
theorem dX3_number_27 : decode cX3_number 27 = .ok (.istore_n 3, 1) := by decide +kernel
theorem dX3_number_28 : decode cX3_number 28 = .ok (.iload_n 3, 1) := by decide +kernel
theorem dX3_number_29 : decode cX3_number 29 = .ok (.ifCond .eq 17, 3) := by decide +kernel
theorem dX3_number_32 : decode cX3_number 32 = .ok (.aload_n 0, 1) := by decide +kernel
theorem dX3_number_33 : decode cX3_number 33 = .ok (.getfield 15, 3) := by decide +kernel
theorem dX3_number_36 : decode cX3_number 36 = .ok (.iload_n 1, 1) := by decide +kernel
theorem dX3_number_37 : decode cX3_number 37 = .ok (.bipush 7, 2) := by decide +kernel
theorem dX3_number_39 : decode cX3_number 39 = .ok (.imul, 1) := by decide +kernel
theorem dX3_number_40 : decode cX3_number 40 = .ok (.iload_n 2, 1) := by decide +kernel
theorem dX3_number_41 : decode cX3_number 41 = .ok (.iadd, 1) := by decide +kernel
theorem dX3_number_42 : decode cX3_number 42 = .ok (.iaload, 1) := by decide +kernel
theorem dX3_number_43 : decode cX3_number 43 = .ok (.goto 4, 3) := by decide +kernel
theorem dX3_number_46 : decode cX3_number 46 = .ok (.iconst 0, 1) := by decide +kernel
theorem dX3_number_47 : decode cX3_number 47 = .ok (.ireturn, 1) := by decide +kernel
theorem dX3_goesOff_0 : decode cX3_goesOff 0 = .ok (.aload_n 0, 1) := by decide +kernel
theorem dX3_goesOff_1 : decode cX3_goesOff 1 = .ok (.iload_n 1, 1) := by decide +kernel
theorem dX3_goesOff_2 : decode cX3_goesOff 2 = .ok (.iconst 2, 1) := by decide +kernel
theorem dX3_goesOff_3 : decode cX3_goesOff 3 = .ok (.invokevirtual 49, 3) := by decide +kernel
theorem dX3_goesOff_6 : decode cX3_goesOff 6 = .ok (.aload_n 0, 1) := by decide +kernel
theorem dX3_goesOff_7 : decode cX3_goesOff 7 = .ok (.iload_n 1, 1) := by decide +kernel
theorem dX3_goesOff_8 : decode cX3_goesOff 8 = .ok (.iconst 1, 1) := by decide +kernel
theorem dX3_goesOff_9 : decode cX3_goesOff 9 = .ok (.invokevirtual 49, 3) := by decide +kernel
theorem dX3_goesOff_12 : decode cX3_goesOff 12 = .ok (.if_icmp .ge 7, 3) := by decide +kernel
theorem dX3_goesOff_15 : decode cX3_goesOff 15 = .ok (.iconst 1, 1) := by decide +kernel
theorem dX3_goesOff_16 : decode cX3_goesOff 16 = .ok (.goto 4, 3) := by decide +kernel
theorem dX3_goesOff_19 : decode cX3_goesOff 19 = .ok (.iconst 0, 1) := by decide +kernel
theorem dX3_goesOff_20 : decode cX3_goesOff 20 = .ok (.ireturn, 1) := by decide +kernel
theorem dX4_init_0 : decode cX4_init 0 = .ok (.aload_n 0, 1) := by decide +kernel
theorem dX4_init_1 : decode cX4_init 1 = .ok (.invokespecial 3, 3) := by decide +kernel
theorem dX4_init_4 : decode cX4_init 4 = .ok (.aload_n 0, 1) := by decide +kernel
theorem dX4_init_5 : decode cX4_init 5 = .ok (.aload_n 1, 1) := by decide +kernel
theorem dX4_init_6 : decode cX4_init 6 = .ok (.putfield 9, 3) := by decide +kernel
theorem dX4_init_9 : decode cX4_init 9 = .ok (.aload_n 0, 1) := by decide +kernel
theorem dX4_init_10 : decode cX4_init 10 = .ok (.bipush 7, 2) := by decide +kernel
theorem dX4_init_12 : decode cX4_init 12 = .ok (.newarray .int, 2) := by decide +kernel
theorem dX4_init_14 : decode cX4_init 14 = .ok (.putfield 15, 3) := by decide +kernel
theorem dX4_init_17 : decode cX4_init 17 = .ok (.aload_n 0, 1) := by decide +kernel
theorem dX4_init_18 : decode cX4_init 18 = .ok (.iconst 0, 1) := by decide +kernel
theorem dX4_init_19 : decode cX4_init 19 = .ok (.putfield 19, 3) := by decide +kernel
theorem dX4_init_22 : decode cX4_init 22 = .ok (.return_, 1) := by decide +kernel
theorem dX4_readInto_0 : decode cX4_readInto 0 = .ok (.aload_n 1, 1) := by decide +kernel
theorem dX4_readInto_1 : decode cX4_readInto 1 = .ok (.invokevirtual 23, 3) := by decide +kernel
theorem dX4_readInto_4 : decode cX4_readInto 4 = .ok (.aload_n 0, 1) := by decide +kernel
theorem dX4_readInto_5 : decode cX4_readInto 5 = .ok (.iconst 0, 1) := by decide +kernel
theorem dX4_readInto_6 : decode cX4_readInto 6 = .ok (.putfield 19, 3) := by decide +kernel
theorem dX4_readInto_9 : decode cX4_readInto 9 = .ok (.iconst 0, 1) := by decide +kernel
theorem dX4_readInto_10 : decode cX4_readInto 10 = .ok (.istore_n 2, 1) := by decide +kernel
theorem dX4_readInto_11 : decode cX4_readInto 11 = .ok (.iload_n 2, 1) := by decide +kernel
theorem dX4_readInto_12 : decode cX4_readInto 12 = .ok (.sipush 400, 3) := by decide +kernel
theorem dX4_readInto_15 : decode cX4_readInto 15 = .ok (.if_icmp .ge 82, 3) := by decide +kernel
theorem dX4_readInto_18 : decode cX4_readInto 18 = .ok (.aload_n 0, 1) := by decide +kernel
theorem dX4_readInto_19 : decode cX4_readInto 19 = .ok (.getfield 19, 3) := by decide +kernel
theorem dX4_readInto_22 : decode cX4_readInto 22 = .ok (.aload_n 0, 1) := by decide +kernel
theorem dX4_readInto_23 : decode cX4_readInto 23 = .ok (.getfield 9, 3) := by decide +kernel
theorem dX4_readInto_26 : decode cX4_readInto 26 = .ok (.invokevirtual 28, 3) := by decide +kernel
theorem dX4_readInto_29 : decode cX4_readInto 29 = .ok (.if_icmp .ge 68, 3) := by decide +kernel
theorem dX4_readInto_32 : decode cX4_readInto 32 = .ok (.aload_n 0, 1) := by decide +kernel
theorem dX4_readInto_33 : decode cX4_readInto 33 = .ok (.getfield 19, 3) := by decide +kernel
theorem dX4_readInto_36 : decode cX4_readInto 36 = .ok (.istore_n 3, 1) := by decide +kernel
theorem dX4_readInto_37 : decode cX4_readInto 37 = .ok (.aload_n 0, 1) := by decide +kernel
theorem dX4_readInto_38 : decode cX4_readInto 38 = .ok (.getfield 9, 3) := by decide +kernel
theorem dX4_readInto_41 : decode cX4_readInto 41 = .ok (.aload_n 0, 1) := by decide +kernel
theorem dX4_readInto_42 : decode cX4_readInto 42 = .ok (.getfield 19, 3) := by decide +kernel
theorem dX4_readInto_45 : decode cX4_readInto 45 = .ok (.invokevirtual 34, 3) := by decide +kernel
theorem dX4_readInto_48 : decode cX4_readInto 48 = .ok (.invokestatic 38, 3) := by decide +kernel
theorem dX4_readInto_51 : decode cX4_readInto 51 = .ok (.istore 4, 2) := by decide +kernel
theorem dX4_readInto_53 : decode cX4_readInto 53 = .ok (.aload_n 0, 1) := by decide +kernel
theorem dX4_readInto_54 : decode cX4_readInto 54 = .ok (.dup, 1) := by decide +kernel
theorem dX4_readInto_55 : decode cX4_readInto 55 = .ok (.getfield 19, 3) := by decide +kernel
theorem dX4_readInto_58 : decode cX4_readInto 58 = .ok (.iconst 1, 1) := by decide +kernel
theorem dX4_readInto_59 : decode cX4_readInto 59 = .ok (.iadd, 1) := by decide +kernel
theorem dX4_readInto_60 : decode cX4_readInto 60 = .ok (.putfield 19, 3) := by decide +kernel
theorem dX4_readInto_63 : decode cX4_readInto 63 = .ok (.iload 4, 2) := by decide +kernel
theorem dX4_readInto_65 : decode cX4_readInto 65 = .ok (.bipush (-4), 2) := by decide +kernel
theorem dX4_readInto_67 : decode cX4_readInto 67 = .ok (.if_icmp .eq 22, 3) := by decide +kernel
theorem dX4_readInto_70 : decode cX4_readInto 70 = .ok (.aload_n 0, 1) := by decide +kernel
theorem dX4_readInto_71 : decode cX4_readInto 71 = .ok (.iload 4, 2) := by decide +kernel
theorem dX4_readInto_73 : decode cX4_readInto 73 = .ok (.invokevirtual 41, 3) := by decide +kernel
theorem dX4_readInto_76 : decode cX4_readInto 76 = .ok (.ifCond .eq 13, 3) := by decide +kernel
theorem dX4_readInto_79 : decode cX4_readInto 79 = .ok (.aload_n 0, 1) := by decide +kernel
theorem dX4_readInto_80 : decode cX4_readInto 80 = .ok (.iload 4, 2) := by decide +kernel
theorem dX4_readInto_82 : decode cX4_readInto 82 = .ok (.aload_n 1, 1) := by decide +kernel
theorem dX4_readInto_83 : decode cX4_readInto 83 = .ok (.invokevirtual 45, 3) := by decide +kernel
theorem dX4_readInto_86 : decode cX4_readInto 86 = .ok (.ifCond .ne 5, 3) := by decide +kernel
theorem dX4_readInto_89 : decode cX4_readInto 89 = .ok (.iload_n 3, 1) := by decide +kernel
theorem dX4_readInto_90 : decode cX4_readInto 90 = .ok (.ireturn, 1) := by decide +kernel
theorem dX4_readInto_91 : decode cX4_readInto 91 = .ok (.iinc 2 1, 3) := by decide +kernel
theorem dX4_readInto_94 : decode cX4_readInto 94 = .ok (.goto (-83), 3) := by decide +kernel
theorem dX4_readInto_97 : decode cX4_readInto 97 = .ok (.bipush (-4), 2) := by decide +kernel
theorem dX4_readInto_99 : decode cX4_readInto 99 = .ok (.ireturn, 1) := by decide +kernel
theorem dX4_itemOf_0 : decode cX4_itemOf 0 = .ok (.iload_n 0, 1) := by decide +kernel
theorem dX4_itemOf_1 : decode cX4_itemOf 1 = .ok (.lookupswitch 71 #[(99, 63), (108, 65), (114, 61), (115, 59), (118, 69), (119, 67)], 59) := by decide +kernel
theorem dX4_itemOf_60 : decode cX4_itemOf 60 = .ok (.iconst 0, 1) := by decide +kernel
theorem dX4_itemOf_61 : decode cX4_itemOf 61 = .ok (.ireturn, 1) := by decide +kernel
theorem dX4_itemOf_62 : decode cX4_itemOf 62 = .ok (.iconst 1, 1) := by decide +kernel
theorem dX4_itemOf_63 : decode cX4_itemOf 63 = .ok (.ireturn, 1) := by decide +kernel
theorem dX4_itemOf_64 : decode cX4_itemOf 64 = .ok (.iconst 2, 1) := by decide +kernel
theorem dX4_itemOf_65 : decode cX4_itemOf 65 = .ok (.ireturn, 1) := by decide +kernel
theorem dX4_itemOf_66 : decode cX4_itemOf 66 = .ok (.iconst 3, 1) := by decide +kernel
theorem dX4_itemOf_67 : decode cX4_itemOf 67 = .ok (.ireturn, 1) := by decide +kernel
theorem dX4_itemOf_68 : decode cX4_itemOf 68 = .ok (.iconst 4, 1) := by decide +kernel
theorem dX4_itemOf_69 : decode cX4_itemOf 69 = .ok (.ireturn, 1) := by decide +kernel
theorem dX4_itemOf_70 : decode cX4_itemOf 70 = .ok (.iconst 5, 1) := by decide +kernel
theorem dX4_itemOf_71 : decode cX4_itemOf 71 = .ok (.ireturn, 1) := by decide +kernel
theorem dX4_itemOf_72 : decode cX4_itemOf 72 = .ok (.bipush (-4), 2) := by decide +kernel
theorem dX4_itemOf_74 : decode cX4_itemOf 74 = .ok (.ireturn, 1) := by decide +kernel
theorem dX4_readNumbers_0 : decode cX4_readNumbers 0 = .ok (.iload_n 1, 1) := by decide +kernel
theorem dX4_readNumbers_1 : decode cX4_readNumbers 1 = .ok (.ifCond .lt 13, 3) := by decide +kernel
theorem dX4_readNumbers_4 : decode cX4_readNumbers 4 = .ok (.iload_n 1, 1) := by decide +kernel
theorem dX4_readNumbers_5 : decode cX4_readNumbers 5 = .ok (.iconst 1, 1) := by decide +kernel
theorem dX4_readNumbers_6 : decode cX4_readNumbers 6 = .ok (.iadd, 1) := by decide +kernel
theorem dX4_readNumbers_7 : decode cX4_readNumbers 7 = .ok (.getstatic 49, 3) := by decide +kernel
theorem dX4_readNumbers_10 : decode cX4_readNumbers 10 = .ok (.arraylength, 1) := by decide +kernel
theorem dX4_readNumbers_11 : decode cX4_readNumbers 11 = .ok (.if_icmp .lt 5, 3) := by decide +kernel
theorem dX4_readNumbers_14 : decode cX4_readNumbers 14 = .ok (.iconst 0, 1) := by decide +kernel
theorem dX4_readNumbers_15 : decode cX4_readNumbers 15 = .ok (.ireturn, 1) := by decide +kernel
theorem dX4_readNumbers_16 : decode cX4_readNumbers 16 = .ok (.getstatic 49, 3) := by decide +kernel
theorem dX4_readNumbers_19 : decode cX4_readNumbers 19 = .ok (.iload_n 1, 1) := by decide +kernel
theorem dX4_readNumbers_20 : decode cX4_readNumbers 20 = .ok (.iaload, 1) := by decide +kernel
theorem dX4_readNumbers_21 : decode cX4_readNumbers 21 = .ok (.istore_n 2, 1) := by decide +kernel
theorem dX4_readNumbers_22 : decode cX4_readNumbers 22 = .ok (.getstatic 49, 3) := by decide +kernel
theorem dX4_readNumbers_25 : decode cX4_readNumbers 25 = .ok (.iload_n 1, 1) := by decide +kernel
theorem dX4_readNumbers_26 : decode cX4_readNumbers 26 = .ok (.iconst 1, 1) := by decide +kernel
theorem dX4_readNumbers_27 : decode cX4_readNumbers 27 = .ok (.iadd, 1) := by decide +kernel
theorem dX4_readNumbers_28 : decode cX4_readNumbers 28 = .ok (.iaload, 1) := by decide +kernel
theorem dX4_readNumbers_29 : decode cX4_readNumbers 29 = .ok (.iload_n 2, 1) := by decide +kernel
theorem dX4_readNumbers_30 : decode cX4_readNumbers 30 = .ok (.isub, 1) := by decide +kernel
theorem dX4_readNumbers_31 : decode cX4_readNumbers 31 = .ok (.istore_n 3, 1) := by decide +kernel
theorem dX4_readNumbers_32 : decode cX4_readNumbers 32 = .ok (.iconst 0, 1) := by decide +kernel
theorem dX4_readNumbers_33 : decode cX4_readNumbers 33 = .ok (.istore 4, 2) := by decide +kernel
theorem dX4_readNumbers_35 : decode cX4_readNumbers 35 = .ok (.iload 4, 2) := by decide +kernel
theorem dX4_readNumbers_37 : decode cX4_readNumbers 37 = .ok (.iload_n 3, 1) := by decide +kernel
theorem dX4_readNumbers_38 : decode cX4_readNumbers 38 = .ok (.if_icmp .ge 103, 3) := by decide +kernel
theorem dX4_readNumbers_41 : decode cX4_readNumbers 41 = .ok (.iload 4, 2) := by decide +kernel
theorem dX4_readNumbers_43 : decode cX4_readNumbers 43 = .ok (.aload_n 0, 1) := by decide +kernel
theorem dX4_readNumbers_44 : decode cX4_readNumbers 44 = .ok (.getfield 15, 3) := by decide +kernel
theorem dX4_readNumbers_47 : decode cX4_readNumbers 47 = .ok (.arraylength, 1) := by decide +kernel
theorem dX4_readNumbers_48 : decode cX4_readNumbers 48 = .ok (.if_icmp .ge 93, 3) := by decide +kernel
theorem dX4_readNumbers_51 : decode cX4_readNumbers 51 = .ok (.aload_n 0, 1) := by decide +kernel
theorem dX4_readNumbers_52 : decode cX4_readNumbers 52 = .ok (.invokevirtual 52, 3) := by decide +kernel
theorem dX4_readNumbers_55 : decode cX4_readNumbers 55 = .ok (.istore 5, 2) := by decide +kernel
theorem dX4_readNumbers_57 : decode cX4_readNumbers 57 = .ok (.iload 5, 2) := by decide +kernel
theorem dX4_readNumbers_59 : decode cX4_readNumbers 59 = .ok (.getstatic 55, 3) := by decide +kernel
theorem dX4_readNumbers_62 : decode cX4_readNumbers 62 = .ok (.iload_n 2, 1) := by decide +kernel
theorem dX4_readNumbers_63 : decode cX4_readNumbers 63 = .ok (.iload 4, 2) := by decide +kernel
theorem dX4_readNumbers_65 : decode cX4_readNumbers 65 = .ok (.iadd, 1) := by decide +kernel
theorem dX4_readNumbers_66 : decode cX4_readNumbers 66 = .ok (.iaload, 1) := by decide +kernel
theorem dX4_readNumbers_67 : decode cX4_readNumbers 67 = .ok (.if_icmp .lt 16, 3) := by decide +kernel
theorem dX4_readNumbers_70 : decode cX4_readNumbers 70 = .ok (.iload 5, 2) := by decide +kernel
theorem dX4_readNumbers_72 : decode cX4_readNumbers 72 = .ok (.getstatic 58, 3) := by decide +kernel
theorem dX4_readNumbers_75 : decode cX4_readNumbers 75 = .ok (.iload_n 2, 1) := by decide +kernel
theorem dX4_readNumbers_76 : decode cX4_readNumbers 76 = .ok (.iload 4, 2) := by decide +kernel
theorem dX4_readNumbers_78 : decode cX4_readNumbers 78 = .ok (.iadd, 1) := by decide +kernel
theorem dX4_readNumbers_79 : decode cX4_readNumbers 79 = .ok (.iaload, 1) := by decide +kernel
theorem dX4_readNumbers_80 : decode cX4_readNumbers 80 = .ok (.if_icmp .le 5, 3) := by decide +kernel
theorem dX4_readNumbers_83 : decode cX4_readNumbers 83 = .ok (.iconst 0, 1) := by decide +kernel
theorem dX4_readNumbers_84 : decode cX4_readNumbers 84 = .ok (.ireturn, 1) := by decide +kernel
theorem dX4_readNumbers_85 : decode cX4_readNumbers 85 = .ok (.aload_n 0, 1) := by decide +kernel
theorem dX4_readNumbers_86 : decode cX4_readNumbers 86 = .ok (.getfield 15, 3) := by decide +kernel
theorem dX4_readNumbers_89 : decode cX4_readNumbers 89 = .ok (.iload 4, 2) := by decide +kernel
theorem dX4_readNumbers_91 : decode cX4_readNumbers 91 = .ok (.iload 5, 2) := by decide +kernel
theorem dX4_readNumbers_93 : decode cX4_readNumbers 93 = .ok (.iastore, 1) := by decide +kernel
theorem dX4_readNumbers_94 : decode cX4_readNumbers 94 = .ok (.aload_n 0, 1) := by decide +kernel
theorem dX4_readNumbers_95 : decode cX4_readNumbers 95 = .ok (.getfield 9, 3) := by decide +kernel
theorem dX4_readNumbers_98 : decode cX4_readNumbers 98 = .ok (.aload_n 0, 1) := by decide +kernel
theorem dX4_readNumbers_99 : decode cX4_readNumbers 99 = .ok (.getfield 19, 3) := by decide +kernel
theorem dX4_readNumbers_102 : decode cX4_readNumbers 102 = .ok (.invokevirtual 34, 3) := by decide +kernel
theorem dX4_readNumbers_105 : decode cX4_readNumbers 105 = .ok (.iload 4, 2) := by decide +kernel
theorem dX4_readNumbers_107 : decode cX4_readNumbers 107 = .ok (.iconst 1, 1) := by decide +kernel
theorem dX4_readNumbers_108 : decode cX4_readNumbers 108 = .ok (.iadd, 1) := by decide +kernel
theorem dX4_readNumbers_109 : decode cX4_readNumbers 109 = .ok (.iload_n 3, 1) := by decide +kernel
theorem dX4_readNumbers_110 : decode cX4_readNumbers 110 = .ok (.if_icmp .ge 8, 3) := by decide +kernel
theorem dX4_readNumbers_113 : decode cX4_readNumbers 113 = .ok (.bipush 44, 2) := by decide +kernel
theorem dX4_readNumbers_115 : decode cX4_readNumbers 115 = .ok (.goto 5, 3) := by decide +kernel
theorem dX4_readNumbers_118 : decode cX4_readNumbers 118 = .ok (.bipush 59, 2) := by decide +kernel
theorem dX4_readNumbers_120 : decode cX4_readNumbers 120 = .ok (.if_icmp .eq 5, 3) := by decide +kernel
theorem dX4_readNumbers_123 : decode cX4_readNumbers 123 = .ok (.iconst 0, 1) := by decide +kernel
theorem dX4_readNumbers_124 : decode cX4_readNumbers 124 = .ok (.ireturn, 1) := by decide +kernel
theorem dX4_readNumbers_125 : decode cX4_readNumbers 125 = .ok (.aload_n 0, 1) := by decide +kernel
theorem dX4_readNumbers_126 : decode cX4_readNumbers 126 = .ok (.dup, 1) := by decide +kernel
theorem dX4_readNumbers_127 : decode cX4_readNumbers 127 = .ok (.getfield 19, 3) := by decide +kernel
theorem dX4_readNumbers_130 : decode cX4_readNumbers 130 = .ok (.iconst 1, 1) := by decide +kernel
theorem dX4_readNumbers_131 : decode cX4_readNumbers 131 = .ok (.iadd, 1) := by decide +kernel
theorem dX4_readNumbers_132 : decode cX4_readNumbers 132 = .ok (.putfield 19, 3) := by decide +kernel
theorem dX4_readNumbers_135 : decode cX4_readNumbers 135 = .ok (.iinc 4 1, 3) := by decide +kernel
theorem dX4_readNumbers_138 : decode cX4_readNumbers 138 = .ok (.goto (-103), 3) := by decide +kernel
theorem dX4_readNumbers_141 : decode cX4_readNumbers 141 = .ok (.iconst 1, 1) := by decide +kernel
theorem dX4_readNumbers_142 : decode cX4_readNumbers 142 = .ok (.ireturn, 1) := by decide +kernel
theorem dX4_readFigures_0 : decode cX4_readFigures 0 = .ok (.bipush (-4), 2) := by decide +kernel
theorem dX4_readFigures_2 : decode cX4_readFigures 2 = .ok (.istore_n 1, 1) := by decide +kernel
theorem dX4_readFigures_3 : decode cX4_readFigures 3 = .ok (.iconst 0, 1) := by decide +kernel
theorem dX4_readFigures_4 : decode cX4_readFigures 4 = .ok (.istore_n 2, 1) := by decide +kernel
theorem dX4_readFigures_5 : decode cX4_readFigures 5 = .ok (.iload_n 2, 1) := by decide +kernel
theorem dX4_readFigures_6 : decode cX4_readFigures 6 = .ok (.iconst 3, 1) := by decide +kernel
theorem dX4_readFigures_7 : decode cX4_readFigures 7 = .ok (.if_icmp .ge 64, 3) := by decide +kernel
theorem dX4_readFigures_10 : decode cX4_readFigures 10 = .ok (.aload_n 0, 1) := by decide +kernel
theorem dX4_readFigures_11 : decode cX4_readFigures 11 = .ok (.getfield 9, 3) := by decide +kernel
theorem dX4_readFigures_14 : decode cX4_readFigures 14 = .ok (.aload_n 0, 1) := by decide +kernel
theorem dX4_readFigures_15 : decode cX4_readFigures 15 = .ok (.getfield 19, 3) := by decide +kernel
theorem dX4_readFigures_18 : decode cX4_readFigures 18 = .ok (.invokevirtual 34, 3) := by decide +kernel
theorem dX4_readFigures_21 : decode cX4_readFigures 21 = .ok (.istore_n 3, 1) := by decide +kernel
theorem dX4_readFigures_22 : decode cX4_readFigures 22 = .ok (.iload_n 3, 1) := by decide +kernel
theorem dX4_readFigures_23 : decode cX4_readFigures 23 = .ok (.bipush 48, 2) := by decide +kernel
theorem dX4_readFigures_25 : decode cX4_readFigures 25 = .ok (.if_icmp .lt 46, 3) := by decide +kernel
theorem dX4_readFigures_28 : decode cX4_readFigures 28 = .ok (.iload_n 3, 1) := by decide +kernel
theorem dX4_readFigures_29 : decode cX4_readFigures 29 = .ok (.bipush 57, 2) := by decide +kernel
theorem dX4_readFigures_31 : decode cX4_readFigures 31 = .ok (.if_icmp .le 6, 3) := by decide +kernel
theorem dX4_readFigures_34 : decode cX4_readFigures 34 = .ok (.goto 37, 3) := by decide +kernel
theorem dX4_readFigures_37 : decode cX4_readFigures 37 = .ok (.iload_n 2, 1) := by decide +kernel
theorem dX4_readFigures_38 : decode cX4_readFigures 38 = .ok (.ifCond .ne 7, 3) := by decide +kernel
theorem dX4_readFigures_41 : decode cX4_readFigures 41 = .ok (.iconst 0, 1) := by decide +kernel
theorem dX4_readFigures_42 : decode cX4_readFigures 42 = .ok (.goto 7, 3) := by decide +kernel
theorem dX4_readFigures_45 : decode cX4_readFigures 45 = .ok (.iload_n 1, 1) := by decide +kernel
theorem dX4_readFigures_46 : decode cX4_readFigures 46 = .ok (.bipush 10, 2) := by decide +kernel
theorem dX4_readFigures_48 : decode cX4_readFigures 48 = .ok (.imul, 1) := by decide +kernel
theorem dX4_readFigures_49 : decode cX4_readFigures 49 = .ok (.iload_n 3, 1) := by decide +kernel
theorem dX4_readFigures_50 : decode cX4_readFigures 50 = .ok (.iadd, 1) := by decide +kernel
theorem dX4_readFigures_51 : decode cX4_readFigures 51 = .ok (.bipush 48, 2) := by decide +kernel
theorem dX4_readFigures_53 : decode cX4_readFigures 53 = .ok (.isub, 1) := by decide +kernel
theorem dX4_readFigures_54 : decode cX4_readFigures 54 = .ok (.istore_n 1, 1) := by decide +kernel
theorem dX4_readFigures_55 : decode cX4_readFigures 55 = .ok (.aload_n 0, 1) := by decide +kernel
theorem dX4_readFigures_56 : decode cX4_readFigures 56 = .ok (.dup, 1) := by decide +kernel
theorem dX4_readFigures_57 : decode cX4_readFigures 57 = .ok (.getfield 19, 3) := by decide +kernel
theorem dX4_readFigures_60 : decode cX4_readFigures 60 = .ok (.iconst 1, 1) := by decide +kernel
theorem dX4_readFigures_61 : decode cX4_readFigures 61 = .ok (.iadd, 1) := by decide +kernel
theorem dX4_readFigures_62 : decode cX4_readFigures 62 = .ok (.putfield 19, 3) := by decide +kernel
theorem dX4_readFigures_65 : decode cX4_readFigures 65 = .ok (.iinc 2 1, 3) := by decide +kernel
theorem dX4_readFigures_68 : decode cX4_readFigures 68 = .ok (.goto (-63), 3) := by decide +kernel
theorem dX4_readFigures_71 : decode cX4_readFigures 71 = .ok (.iload_n 1, 1) := by decide +kernel
theorem dX4_readFigures_72 : decode cX4_readFigures 72 = .ok (.ireturn, 1) := by decide +kernel
theorem dX4_put_0 : decode cX4_put 0 = .ok (.iload_n 1, 1) := by decide +kernel
theorem dX4_put_1 : decode cX4_put 1 = .ok (.tableswitch 94 0 4 #[35, 46, 55, 72, 83], 35) := by decide +kernel
theorem dX4_put_36 : decode cX4_put 36 = .ok (.aload_n 2, 1) := by decide +kernel
theorem dX4_put_37 : decode cX4_put 37 = .ok (.aload_n 0, 1) := by decide +kernel
theorem dX4_put_38 : decode cX4_put 38 = .ok (.getfield 15, 3) := by decide +kernel
theorem dX4_put_41 : decode cX4_put 41 = .ok (.iconst 0, 1) := by decide +kernel
theorem dX4_put_42 : decode cX4_put 42 = .ok (.iaload, 1) := by decide +kernel
theorem dX4_put_43 : decode cX4_put 43 = .ok (.invokevirtual 61, 3) := by decide +kernel
theorem dX4_put_46 : decode cX4_put 46 = .ok (.ireturn, 1) := by decide +kernel
theorem dX4_put_47 : decode cX4_put 47 = .ok (.aload_n 2, 1) := by decide +kernel
theorem dX4_put_48 : decode cX4_put 48 = .ok (.aload_n 0, 1) := by decide +kernel
theorem dX4_put_49 : decode cX4_put 49 = .ok (.getfield 15, 3) := by decide +kernel
theorem dX4_put_52 : decode cX4_put 52 = .ok (.invokevirtual 64, 3) := by decide +kernel
theorem dX4_put_55 : decode cX4_put 55 = .ok (.ireturn, 1) := by decide +kernel
theorem dX4_put_56 : decode cX4_put 56 = .ok (.aload_n 2, 1) := by decide +kernel
theorem dX4_put_57 : decode cX4_put 57 = .ok (.aload_n 0, 1) := by decide +kernel
theorem dX4_put_58 : decode cX4_put 58 = .ok (.getfield 15, 3) := by decide +kernel
theorem dX4_put_61 : decode cX4_put 61 = .ok (.iconst 0, 1) := by decide +kernel
theorem dX4_put_62 : decode cX4_put 62 = .ok (.iaload, 1) := by decide +kernel
theorem dX4_put_63 : decode cX4_put 63 = .ok (.aload_n 0, 1) := by decide +kernel
theorem dX4_put_64 : decode cX4_put 64 = .ok (.getfield 15, 3) := by decide +kernel
theorem dX4_put_67 : decode cX4_put 67 = .ok (.iconst 1, 1) := by decide +kernel
theorem dX4_put_68 : decode cX4_put 68 = .ok (.iaload, 1) := by decide +kernel
theorem dX4_put_69 : decode cX4_put 69 = .ok (.invokevirtual 68, 3) := by decide +kernel
theorem dX4_put_72 : decode cX4_put 72 = .ok (.ireturn, 1) := by decide +kernel
theorem dX4_put_73 : decode cX4_put 73 = .ok (.aload_n 2, 1) := by decide +kernel
theorem dX4_put_74 : decode cX4_put 74 = .ok (.aload_n 0, 1) := by decide +kernel
theorem dX4_put_75 : decode cX4_put 75 = .ok (.getfield 15, 3) := by decide +kernel
theorem dX4_put_78 : decode cX4_put 78 = .ok (.iconst 0, 1) := by decide +kernel
theorem dX4_put_79 : decode cX4_put 79 = .ok (.iaload, 1) := by decide +kernel
theorem dX4_put_80 : decode cX4_put 80 = .ok (.invokevirtual 72, 3) := by decide +kernel
theorem dX4_put_83 : decode cX4_put 83 = .ok (.ireturn, 1) := by decide +kernel
theorem dX4_put_84 : decode cX4_put 84 = .ok (.aload_n 2, 1) := by decide +kernel
theorem dX4_put_85 : decode cX4_put 85 = .ok (.aload_n 0, 1) := by decide +kernel
theorem dX4_put_86 : decode cX4_put 86 = .ok (.getfield 15, 3) := by decide +kernel
theorem dX4_put_89 : decode cX4_put 89 = .ok (.iconst 0, 1) := by decide +kernel
theorem dX4_put_90 : decode cX4_put 90 = .ok (.iaload, 1) := by decide +kernel
theorem dX4_put_91 : decode cX4_put 91 = .ok (.invokevirtual 75, 3) := by decide +kernel
theorem dX4_put_94 : decode cX4_put 94 = .ok (.ireturn, 1) := by decide +kernel
theorem dX4_put_95 : decode cX4_put 95 = .ok (.aload_n 2, 1) := by decide +kernel
theorem dX4_put_96 : decode cX4_put 96 = .ok (.aload_n 0, 1) := by decide +kernel
theorem dX4_put_97 : decode cX4_put 97 = .ok (.getfield 15, 3) := by decide +kernel
theorem dX4_put_100 : decode cX4_put 100 = .ok (.iconst 0, 1) := by decide +kernel
theorem dX4_put_101 : decode cX4_put 101 = .ok (.iaload, 1) := by decide +kernel
theorem dX4_put_102 : decode cX4_put 102 = .ok (.invokevirtual 78, 3) := by decide +kernel
theorem dX4_put_105 : decode cX4_put 105 = .ok (.ireturn, 1) := by decide +kernel
theorem dX5_init_0 : decode cX5_init 0 = .ok (.aload_n 0, 1) := by decide +kernel
theorem dX5_init_1 : decode cX5_init 1 = .ok (.invokespecial 3, 3) := by decide +kernel
theorem dX5_init_4 : decode cX5_init 4 = .ok (.aload_n 0, 1) := by decide +kernel
theorem dX5_init_5 : decode cX5_init 5 = .ok (.sipush 400, 3) := by decide +kernel
theorem dX5_init_8 : decode cX5_init 8 = .ok (.newarray .byte, 2) := by decide +kernel
theorem dX5_init_10 : decode cX5_init 10 = .ok (.putfield 9, 3) := by decide +kernel
theorem dX5_init_13 : decode cX5_init 13 = .ok (.aload_n 0, 1) := by decide +kernel
theorem dX5_init_14 : decode cX5_init 14 = .ok (.iconst 0, 1) := by decide +kernel
theorem dX5_init_15 : decode cX5_init 15 = .ok (.putfield 15, 3) := by decide +kernel
theorem dX5_init_18 : decode cX5_init 18 = .ok (.return_, 1) := by decide +kernel
theorem dX5_length_0 : decode cX5_length 0 = .ok (.aload_n 0, 1) := by decide +kernel
theorem dX5_length_1 : decode cX5_length 1 = .ok (.getfield 15, 3) := by decide +kernel
theorem dX5_length_4 : decode cX5_length 4 = .ok (.ireturn, 1) := by decide +kernel
theorem dX5_clear_0 : decode cX5_clear 0 = .ok (.aload_n 0, 1) := by decide +kernel
theorem dX5_clear_1 : decode cX5_clear 1 = .ok (.iconst 0, 1) := by decide +kernel
theorem dX5_clear_2 : decode cX5_clear 2 = .ok (.putfield 15, 3) := by decide +kernel
theorem dX5_clear_5 : decode cX5_clear 5 = .ok (.return_, 1) := by decide +kernel
theorem dX5_append_0 : decode cX5_append 0 = .ok (.iload_n 1, 1) := by decide +kernel
theorem dX5_append_1 : decode cX5_append 1 = .ok (.ifCond .lt 17, 3) := by decide +kernel
theorem dX5_append_4 : decode cX5_append 4 = .ok (.iload_n 1, 1) := by decide +kernel
theorem dX5_append_5 : decode cX5_append 5 = .ok (.aload_n 0, 1) := by decide +kernel
theorem dX5_append_6 : decode cX5_append 6 = .ok (.getfield 9, 3) := by decide +kernel
theorem dX5_append_9 : decode cX5_append 9 = .ok (.arraylength, 1) := by decide +kernel
theorem dX5_append_10 : decode cX5_append 10 = .ok (.aload_n 0, 1) := by decide +kernel
theorem dX5_append_11 : decode cX5_append 11 = .ok (.getfield 15, 3) := by decide +kernel
theorem dX5_append_14 : decode cX5_append 14 = .ok (.isub, 1) := by decide +kernel
theorem dX5_append_15 : decode cX5_append 15 = .ok (.if_icmp .le 5, 3) := by decide +kernel
theorem dX5_append_18 : decode cX5_append 18 = .ok (.iconst 0, 1) := by decide +kernel
theorem dX5_append_19 : decode cX5_append 19 = .ok (.ireturn, 1) := by decide +kernel
theorem dX5_append_20 : decode cX5_append 20 = .ok (.iload_n 1, 1) := by decide +kernel
theorem dX5_append_21 : decode cX5_append 21 = .ok (.iconst 1, 1) := by decide +kernel
theorem dX5_append_22 : decode cX5_append 22 = .ok (.isub, 1) := by decide +kernel
theorem dX5_append_23 : decode cX5_append 23 = .ok (.istore 4, 2) := by decide +kernel
theorem dX5_append_25 : decode cX5_append 25 = .ok (.iload 4, 2) := by decide +kernel
theorem dX5_append_27 : decode cX5_append 27 = .ok (.ifCond .lt 37, 3) := by decide +kernel
theorem dX5_append_30 : decode cX5_append 30 = .ok (.aload_n 0, 1) := by decide +kernel
theorem dX5_append_31 : decode cX5_append 31 = .ok (.getfield 9, 3) := by decide +kernel
theorem dX5_append_34 : decode cX5_append 34 = .ok (.aload_n 0, 1) := by decide +kernel
theorem dX5_append_35 : decode cX5_append 35 = .ok (.getfield 15, 3) := by decide +kernel
theorem dX5_append_38 : decode cX5_append 38 = .ok (.lload_n 2, 1) := by decide +kernel
theorem dX5_append_39 : decode cX5_append 39 = .ok (.bipush 8, 2) := by decide +kernel
theorem dX5_append_41 : decode cX5_append 41 = .ok (.iload 4, 2) := by decide +kernel
theorem dX5_append_43 : decode cX5_append 43 = .ok (.imul, 1) := by decide +kernel
theorem dX5_append_44 : decode cX5_append 44 = .ok (.lushr, 1) := by decide +kernel
theorem dX5_append_45 : decode cX5_append 45 = .ok (.l2i, 1) := by decide +kernel
theorem dX5_append_46 : decode cX5_append 46 = .ok (.i2b, 1) := by decide +kernel
theorem dX5_append_47 : decode cX5_append 47 = .ok (.bastore, 1) := by decide +kernel
theorem dX5_append_48 : decode cX5_append 48 = .ok (.aload_n 0, 1) := by decide +kernel
theorem dX5_append_49 : decode cX5_append 49 = .ok (.dup, 1) := by decide +kernel
theorem dX5_append_50 : decode cX5_append 50 = .ok (.getfield 15, 3) := by decide +kernel
theorem dX5_append_53 : decode cX5_append 53 = .ok (.iconst 1, 1) := by decide +kernel
theorem dX5_append_54 : decode cX5_append 54 = .ok (.iadd, 1) := by decide +kernel
theorem dX5_append_55 : decode cX5_append 55 = .ok (.putfield 15, 3) := by decide +kernel
theorem dX5_append_58 : decode cX5_append 58 = .ok (.iinc 4 (-1), 3) := by decide +kernel
theorem dX5_append_61 : decode cX5_append 61 = .ok (.goto (-36), 3) := by decide +kernel
theorem dX5_append_64 : decode cX5_append 64 = .ok (.iconst 1, 1) := by decide +kernel
theorem dX5_append_65 : decode cX5_append 65 = .ok (.ireturn, 1) := by decide +kernel
theorem dX5_byteAt_0 : decode cX5_byteAt 0 = .ok (.iload_n 1, 1) := by decide +kernel
theorem dX5_byteAt_1 : decode cX5_byteAt 1 = .ok (.ifCond .lt 24, 3) := by decide +kernel
theorem dX5_byteAt_4 : decode cX5_byteAt 4 = .ok (.iload_n 1, 1) := by decide +kernel
theorem dX5_byteAt_5 : decode cX5_byteAt 5 = .ok (.aload_n 0, 1) := by decide +kernel
theorem dX5_byteAt_6 : decode cX5_byteAt 6 = .ok (.getfield 15, 3) := by decide +kernel
theorem dX5_byteAt_9 : decode cX5_byteAt 9 = .ok (.if_icmp .ge 16, 3) := by decide +kernel
theorem dX5_byteAt_12 : decode cX5_byteAt 12 = .ok (.aload_n 0, 1) := by decide +kernel
theorem dX5_byteAt_13 : decode cX5_byteAt 13 = .ok (.getfield 9, 3) := by decide +kernel
theorem dX5_byteAt_16 : decode cX5_byteAt 16 = .ok (.iload_n 1, 1) := by decide +kernel
theorem dX5_byteAt_17 : decode cX5_byteAt 17 = .ok (.baload, 1) := by decide +kernel
theorem dX5_byteAt_18 : decode cX5_byteAt 18 = .ok (.sipush 255, 3) := by decide +kernel
theorem dX5_byteAt_21 : decode cX5_byteAt 21 = .ok (.iand, 1) := by decide +kernel
theorem dX5_byteAt_22 : decode cX5_byteAt 22 = .ok (.goto 5, 3) := by decide +kernel
theorem dX5_byteAt_25 : decode cX5_byteAt 25 = .ok (.bipush (-4), 2) := by decide +kernel
theorem dX5_byteAt_27 : decode cX5_byteAt 27 = .ok (.ireturn, 1) := by decide +kernel
theorem dJ6_bitCount_0f7a4_0 : decode cJ6_bitCount_0f7a4 0 = .ok (.iload_n 0, 1) := by decide +kernel
theorem dJ6_bitCount_0f7a4_1 : decode cJ6_bitCount_0f7a4 1 = .ok (.iload_n 0, 1) := by decide +kernel
theorem dJ6_bitCount_0f7a4_2 : decode cJ6_bitCount_0f7a4 2 = .ok (.iconst 1, 1) := by decide +kernel
theorem dJ6_bitCount_0f7a4_3 : decode cJ6_bitCount_0f7a4 3 = .ok (.iushr, 1) := by decide +kernel
theorem dJ6_bitCount_0f7a4_4 : decode cJ6_bitCount_0f7a4 4 = .ok (.ldc_w 265, 3) := by decide +kernel
theorem dJ6_bitCount_0f7a4_7 : decode cJ6_bitCount_0f7a4 7 = .ok (.iand, 1) := by decide +kernel
theorem dJ6_bitCount_0f7a4_8 : decode cJ6_bitCount_0f7a4 8 = .ok (.isub, 1) := by decide +kernel
theorem dJ6_bitCount_0f7a4_9 : decode cJ6_bitCount_0f7a4 9 = .ok (.istore_n 0, 1) := by decide +kernel
theorem dJ6_bitCount_0f7a4_10 : decode cJ6_bitCount_0f7a4 10 = .ok (.iload_n 0, 1) := by decide +kernel
theorem dJ6_bitCount_0f7a4_11 : decode cJ6_bitCount_0f7a4 11 = .ok (.ldc_w 266, 3) := by decide +kernel
theorem dJ6_bitCount_0f7a4_14 : decode cJ6_bitCount_0f7a4 14 = .ok (.iand, 1) := by decide +kernel
theorem dJ6_bitCount_0f7a4_15 : decode cJ6_bitCount_0f7a4 15 = .ok (.iload_n 0, 1) := by decide +kernel
theorem dJ6_bitCount_0f7a4_16 : decode cJ6_bitCount_0f7a4 16 = .ok (.iconst 2, 1) := by decide +kernel
theorem dJ6_bitCount_0f7a4_17 : decode cJ6_bitCount_0f7a4 17 = .ok (.iushr, 1) := by decide +kernel
theorem dJ6_bitCount_0f7a4_18 : decode cJ6_bitCount_0f7a4 18 = .ok (.ldc_w 266, 3) := by decide +kernel
theorem dJ6_bitCount_0f7a4_21 : decode cJ6_bitCount_0f7a4 21 = .ok (.iand, 1) := by decide +kernel
theorem dJ6_bitCount_0f7a4_22 : decode cJ6_bitCount_0f7a4 22 = .ok (.iadd, 1) := by decide +kernel
theorem dJ6_bitCount_0f7a4_23 : decode cJ6_bitCount_0f7a4 23 = .ok (.istore_n 0, 1) := by decide +kernel
theorem dJ6_bitCount_0f7a4_24 : decode cJ6_bitCount_0f7a4 24 = .ok (.iload_n 0, 1) := by decide +kernel
theorem dJ6_bitCount_0f7a4_25 : decode cJ6_bitCount_0f7a4 25 = .ok (.iload_n 0, 1) := by decide +kernel
theorem dJ6_bitCount_0f7a4_26 : decode cJ6_bitCount_0f7a4 26 = .ok (.iconst 4, 1) := by decide +kernel
theorem dJ6_bitCount_0f7a4_27 : decode cJ6_bitCount_0f7a4 27 = .ok (.iushr, 1) := by decide +kernel
theorem dJ6_bitCount_0f7a4_28 : decode cJ6_bitCount_0f7a4 28 = .ok (.iadd, 1) := by decide +kernel
theorem dJ6_bitCount_0f7a4_29 : decode cJ6_bitCount_0f7a4 29 = .ok (.ldc_w 267, 3) := by decide +kernel
theorem dJ6_bitCount_0f7a4_32 : decode cJ6_bitCount_0f7a4 32 = .ok (.iand, 1) := by decide +kernel
theorem dJ6_bitCount_0f7a4_33 : decode cJ6_bitCount_0f7a4 33 = .ok (.istore_n 0, 1) := by decide +kernel
theorem dJ6_bitCount_0f7a4_34 : decode cJ6_bitCount_0f7a4 34 = .ok (.iload_n 0, 1) := by decide +kernel
theorem dJ6_bitCount_0f7a4_35 : decode cJ6_bitCount_0f7a4 35 = .ok (.iload_n 0, 1) := by decide +kernel
theorem dJ6_bitCount_0f7a4_36 : decode cJ6_bitCount_0f7a4 36 = .ok (.bipush 8, 2) := by decide +kernel
theorem dJ6_bitCount_0f7a4_38 : decode cJ6_bitCount_0f7a4 38 = .ok (.iushr, 1) := by decide +kernel
theorem dJ6_bitCount_0f7a4_39 : decode cJ6_bitCount_0f7a4 39 = .ok (.iadd, 1) := by decide +kernel
theorem dJ6_bitCount_0f7a4_40 : decode cJ6_bitCount_0f7a4 40 = .ok (.istore_n 0, 1) := by decide +kernel
theorem dJ6_bitCount_0f7a4_41 : decode cJ6_bitCount_0f7a4 41 = .ok (.iload_n 0, 1) := by decide +kernel
theorem dJ6_bitCount_0f7a4_42 : decode cJ6_bitCount_0f7a4 42 = .ok (.iload_n 0, 1) := by decide +kernel
theorem dJ6_bitCount_0f7a4_43 : decode cJ6_bitCount_0f7a4 43 = .ok (.bipush 16, 2) := by decide +kernel
theorem dJ6_bitCount_0f7a4_45 : decode cJ6_bitCount_0f7a4 45 = .ok (.iushr, 1) := by decide +kernel
theorem dJ6_bitCount_0f7a4_46 : decode cJ6_bitCount_0f7a4 46 = .ok (.iadd, 1) := by decide +kernel
theorem dJ6_bitCount_0f7a4_47 : decode cJ6_bitCount_0f7a4 47 = .ok (.istore_n 0, 1) := by decide +kernel
theorem dJ6_bitCount_0f7a4_48 : decode cJ6_bitCount_0f7a4 48 = .ok (.iload_n 0, 1) := by decide +kernel
theorem dJ6_bitCount_0f7a4_49 : decode cJ6_bitCount_0f7a4 49 = .ok (.bipush 63, 2) := by decide +kernel
theorem dJ6_bitCount_0f7a4_51 : decode cJ6_bitCount_0f7a4 51 = .ok (.iand, 1) := by decide +kernel
theorem dJ6_bitCount_0f7a4_52 : decode cJ6_bitCount_0f7a4 52 = .ok (.ireturn, 1) := by decide +kernel
theorem dJ9_abs_0f7a4_0 : decode cJ9_abs_0f7a4 0 = .ok (.iload_n 0, 1) := by decide +kernel
theorem dJ9_abs_0f7a4_1 : decode cJ9_abs_0f7a4 1 = .ok (.ifCond .ge 8, 3) := by decide +kernel
theorem dJ9_abs_0f7a4_4 : decode cJ9_abs_0f7a4 4 = .ok (.iload_n 0, 1) := by decide +kernel
theorem dJ9_abs_0f7a4_5 : decode cJ9_abs_0f7a4 5 = .ok (.ineg, 1) := by decide +kernel
theorem dJ9_abs_0f7a4_6 : decode cJ9_abs_0f7a4 6 = .ok (.goto 4, 3) := by decide +kernel
theorem dJ9_abs_0f7a4_9 : decode cJ9_abs_0f7a4 9 = .ok (.iload_n 0, 1) := by decide +kernel
theorem dJ9_abs_0f7a4_10 : decode cJ9_abs_0f7a4 10 = .ok (.ireturn, 1) := by decide +kernel
theorem dJ9_min_7cf53_0 : decode cJ9_min_7cf53 0 = .ok (.iload_n 0, 1) := by decide +kernel
theorem dJ9_min_7cf53_1 : decode cJ9_min_7cf53 1 = .ok (.iload_n 1, 1) := by decide +kernel
theorem dJ9_min_7cf53_2 : decode cJ9_min_7cf53 2 = .ok (.if_icmp .gt 7, 3) := by decide +kernel
theorem dJ9_min_7cf53_5 : decode cJ9_min_7cf53 5 = .ok (.iload_n 0, 1) := by decide +kernel
theorem dJ9_min_7cf53_6 : decode cJ9_min_7cf53 6 = .ok (.goto 4, 3) := by decide +kernel
theorem dJ9_min_7cf53_9 : decode cJ9_min_7cf53 9 = .ok (.iload_n 1, 1) := by decide +kernel
theorem dJ9_min_7cf53_10 : decode cJ9_min_7cf53 10 = .ok (.ireturn, 1) := by decide +kernel
theorem dJ7_fill_d0a16_0 : decode cJ7_fill_d0a16 0 = .ok (.iconst 0, 1) := by decide +kernel
theorem dJ7_fill_d0a16_1 : decode cJ7_fill_d0a16 1 = .ok (.istore_n 3, 1) := by decide +kernel
theorem dJ7_fill_d0a16_2 : decode cJ7_fill_d0a16 2 = .ok (.aload_n 0, 1) := by decide +kernel
theorem dJ7_fill_d0a16_3 : decode cJ7_fill_d0a16 3 = .ok (.arraylength, 1) := by decide +kernel
theorem dJ7_fill_d0a16_4 : decode cJ7_fill_d0a16 4 = .ok (.istore 4, 2) := by decide +kernel
theorem dJ7_fill_d0a16_6 : decode cJ7_fill_d0a16 6 = .ok (.iload_n 3, 1) := by decide +kernel
theorem dJ7_fill_d0a16_7 : decode cJ7_fill_d0a16 7 = .ok (.iload 4, 2) := by decide +kernel
theorem dJ7_fill_d0a16_9 : decode cJ7_fill_d0a16 9 = .ok (.if_icmp .ge 13, 3) := by decide +kernel
theorem dJ7_fill_d0a16_12 : decode cJ7_fill_d0a16 12 = .ok (.aload_n 0, 1) := by decide +kernel
theorem dJ7_fill_d0a16_13 : decode cJ7_fill_d0a16 13 = .ok (.iload_n 3, 1) := by decide +kernel
theorem dJ7_fill_d0a16_14 : decode cJ7_fill_d0a16 14 = .ok (.lload_n 1, 1) := by decide +kernel
theorem dJ7_fill_d0a16_15 : decode cJ7_fill_d0a16 15 = .ok (.lastore, 1) := by decide +kernel
theorem dJ7_fill_d0a16_16 : decode cJ7_fill_d0a16 16 = .ok (.iinc 3 1, 3) := by decide +kernel
theorem dJ7_fill_d0a16_19 : decode cJ7_fill_d0a16 19 = .ok (.goto (-13), 3) := by decide +kernel
theorem dJ7_fill_d0a16_22 : decode cJ7_fill_d0a16 22 = .ok (.return_, 1) := by decide +kernel
theorem dJ7_fill_53178_0 : decode cJ7_fill_53178 0 = .ok (.iconst 0, 1) := by decide +kernel
theorem dJ7_fill_53178_1 : decode cJ7_fill_53178 1 = .ok (.istore_n 2, 1) := by decide +kernel
theorem dJ7_fill_53178_2 : decode cJ7_fill_53178 2 = .ok (.aload_n 0, 1) := by decide +kernel
theorem dJ7_fill_53178_3 : decode cJ7_fill_53178 3 = .ok (.arraylength, 1) := by decide +kernel
theorem dJ7_fill_53178_4 : decode cJ7_fill_53178 4 = .ok (.istore_n 3, 1) := by decide +kernel
theorem dJ7_fill_53178_5 : decode cJ7_fill_53178 5 = .ok (.iload_n 2, 1) := by decide +kernel
theorem dJ7_fill_53178_6 : decode cJ7_fill_53178 6 = .ok (.iload_n 3, 1) := by decide +kernel
theorem dJ7_fill_53178_7 : decode cJ7_fill_53178 7 = .ok (.if_icmp .ge 13, 3) := by decide +kernel
theorem dJ7_fill_53178_10 : decode cJ7_fill_53178 10 = .ok (.aload_n 0, 1) := by decide +kernel
theorem dJ7_fill_53178_11 : decode cJ7_fill_53178 11 = .ok (.iload_n 2, 1) := by decide +kernel
theorem dJ7_fill_53178_12 : decode cJ7_fill_53178 12 = .ok (.iload_n 1, 1) := by decide +kernel
theorem dJ7_fill_53178_13 : decode cJ7_fill_53178 13 = .ok (.iastore, 1) := by decide +kernel
theorem dJ7_fill_53178_14 : decode cJ7_fill_53178 14 = .ok (.iinc 2 1, 3) := by decide +kernel
theorem dJ7_fill_53178_17 : decode cJ7_fill_53178 17 = .ok (.goto (-12), 3) := by decide +kernel
theorem dJ7_fill_53178_20 : decode cJ7_fill_53178 20 = .ok (.return_, 1) := by decide +kernel
