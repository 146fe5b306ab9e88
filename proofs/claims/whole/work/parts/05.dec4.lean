theorem dX4_init_0 : decode cX4_init 0 = .ok (.aload_n 0, 1) := by decide +kernel
theorem dX4_init_1 : decode cX4_init 1 = .ok (.invokespecial 1, 3) := by decide +kernel
theorem dX4_init_4 : decode cX4_init 4 = .ok (.aload_n 0, 1) := by decide +kernel
theorem dX4_init_5 : decode cX4_init 5 = .ok (.sipush 140, 3) := by decide +kernel
theorem dX4_init_8 : decode cX4_init 8 = .ok (.newarray .int, 2) := by decide +kernel
theorem dX4_init_10 : decode cX4_init 10 = .ok (.putfield 7, 3) := by decide +kernel
theorem dX4_init_13 : decode cX4_init 13 = .ok (.aload_n 0, 1) := by decide +kernel
theorem dX4_init_14 : decode cX4_init 14 = .ok (.sipush 280, 3) := by decide +kernel
theorem dX4_init_17 : decode cX4_init 17 = .ok (.newarray .int, 2) := by decide +kernel
theorem dX4_init_19 : decode cX4_init 19 = .ok (.putfield 13, 3) := by decide +kernel
theorem dX4_init_22 : decode cX4_init 22 = .ok (.aload_n 0, 1) := by decide +kernel
theorem dX4_init_23 : decode cX4_init 23 = .ok (.iconst 2, 1) := by decide +kernel
theorem dX4_init_24 : decode cX4_init 24 = .ok (.newarray .boolean, 2) := by decide +kernel
theorem dX4_init_26 : decode cX4_init 26 = .ok (.putfield 16, 3) := by decide +kernel
theorem dX4_init_29 : decode cX4_init 29 = .ok (.aload_n 0, 1) := by decide +kernel
theorem dX4_init_30 : decode cX4_init 30 = .ok (.iconst 3, 1) := by decide +kernel
theorem dX4_init_31 : decode cX4_init 31 = .ok (.newarray .int, 2) := by decide +kernel
theorem dX4_init_33 : decode cX4_init 33 = .ok (.putfield 20, 3) := by decide +kernel
theorem dX4_init_36 : decode cX4_init 36 = .ok (.aload_n 0, 1) := by decide +kernel
theorem dX4_init_37 : decode cX4_init 37 = .ok (.lconst 1, 1) := by decide +kernel
theorem dX4_init_38 : decode cX4_init 38 = .ok (.putfield 23, 3) := by decide +kernel
theorem dX4_init_41 : decode cX4_init 41 = .ok (.aload_n 0, 1) := by decide +kernel
theorem dX4_init_42 : decode cX4_init 42 = .ok (.bipush 7, 2) := by decide +kernel
theorem dX4_init_44 : decode cX4_init 44 = .ok (.newarray .int, 2) := by decide +kernel
theorem dX4_init_46 : decode cX4_init 46 = .ok (.putfield 27, 3) := by decide +kernel
theorem dX4_init_49 : decode cX4_init 49 = .ok (.aload_n 0, 1) := by decide +kernel
theorem dX4_init_50 : decode cX4_init 50 = .ok (.iconst 4, 1) := by decide +kernel
theorem dX4_init_51 : decode cX4_init 51 = .ok (.newarray .int, 2) := by decide +kernel
theorem dX4_init_53 : decode cX4_init 53 = .ok (.putfield 30, 3) := by decide +kernel
theorem dX4_init_56 : decode cX4_init 56 = .ok (.aload_n 0, 1) := by decide +kernel
theorem dX4_init_57 : decode cX4_init 57 = .ok (.iconst 4, 1) := by decide +kernel
theorem dX4_init_58 : decode cX4_init 58 = .ok (.newarray .int, 2) := by decide +kernel
theorem dX4_init_60 : decode cX4_init 60 = .ok (.putfield 33, 3) := by decide +kernel
theorem dX4_init_63 : decode cX4_init 63 = .ok (.aload_n 0, 1) := by decide +kernel
theorem dX4_init_64 : decode cX4_init 64 = .ok (.bipush 6, 2) := by decide +kernel
theorem dX4_init_66 : decode cX4_init 66 = .ok (.newarray .int, 2) := by decide +kernel
theorem dX4_init_68 : decode cX4_init 68 = .ok (.putfield 36, 3) := by decide +kernel
theorem dX4_init_71 : decode cX4_init 71 = .ok (.aload_n 0, 1) := by decide +kernel
theorem dX4_init_72 : decode cX4_init 72 = .ok (.sipush 150, 3) := by decide +kernel
theorem dX4_init_75 : decode cX4_init 75 = .ok (.newarray .int, 2) := by decide +kernel
theorem dX4_init_77 : decode cX4_init 77 = .ok (.putfield 39, 3) := by decide +kernel
theorem dX4_init_80 : decode cX4_init 80 = .ok (.aload_n 0, 1) := by decide +kernel
theorem dX4_init_81 : decode cX4_init 81 = .ok (.bipush 52, 2) := by decide +kernel
theorem dX4_init_83 : decode cX4_init 83 = .ok (.newarray .int, 2) := by decide +kernel
theorem dX4_init_85 : decode cX4_init 85 = .ok (.putfield 42, 3) := by decide +kernel
theorem dX4_init_88 : decode cX4_init 88 = .ok (.aload_n 0, 1) := by decide +kernel
theorem dX4_init_89 : decode cX4_init 89 = .ok (.iconst 2, 1) := by decide +kernel
theorem dX4_init_90 : decode cX4_init 90 = .ok (.newarray .int, 2) := by decide +kernel
theorem dX4_init_92 : decode cX4_init 92 = .ok (.putfield 45, 3) := by decide +kernel
theorem dX4_init_95 : decode cX4_init 95 = .ok (.aload_n 0, 1) := by decide +kernel
theorem dX4_init_96 : decode cX4_init 96 = .ok (.getfield 7, 3) := by decide +kernel
theorem dX4_init_99 : decode cX4_init 99 = .ok (.iconst 3, 1) := by decide +kernel
theorem dX4_init_100 : decode cX4_init 100 = .ok (.invokestatic 48, 3) := by decide +kernel
theorem dX4_init_103 : decode cX4_init 103 = .ok (.return_, 1) := by decide +kernel
theorem dX4_in_0 : decode cX4_in 0 = .ok (.lload_n 0, 1) := by decide +kernel
theorem dX4_in_1 : decode cX4_in 1 = .ok (.lload_n 2, 1) := by decide +kernel
theorem dX4_in_2 : decode cX4_in 2 = .ok (.lcmp, 1) := by decide +kernel
theorem dX4_in_3 : decode cX4_in 3 = .ok (.ifCond .lt 14, 3) := by decide +kernel
theorem dX4_in_6 : decode cX4_in 6 = .ok (.lload_n 0, 1) := by decide +kernel
theorem dX4_in_7 : decode cX4_in 7 = .ok (.lload 4, 2) := by decide +kernel
theorem dX4_in_9 : decode cX4_in 9 = .ok (.lcmp, 1) := by decide +kernel
theorem dX4_in_10 : decode cX4_in 10 = .ok (.ifCond .gt 7, 3) := by decide +kernel
theorem dX4_in_13 : decode cX4_in 13 = .ok (.iconst 1, 1) := by decide +kernel
theorem dX4_in_14 : decode cX4_in 14 = .ok (.goto 4, 3) := by decide +kernel
theorem dX4_in_17 : decode cX4_in 17 = .ok (.iconst 0, 1) := by decide +kernel
theorem dX4_in_18 : decode cX4_in 18 = .ok (.ireturn, 1) := by decide +kernel
theorem dX4_bad_0 : decode cX4_bad 0 = .ok (.aload_n 0, 1) := by decide +kernel
theorem dX4_bad_1 : decode cX4_bad 1 = .ok (.getfield 20, 3) := by decide +kernel
theorem dX4_bad_4 : decode cX4_bad 4 = .ok (.iconst 0, 1) := by decide +kernel
theorem dX4_bad_5 : decode cX4_bad 5 = .ok (.dup2, 1) := by decide +kernel
theorem dX4_bad_6 : decode cX4_bad 6 = .ok (.iaload, 1) := by decide +kernel
theorem dX4_bad_7 : decode cX4_bad 7 = .ok (.iconst 1, 1) := by decide +kernel
theorem dX4_bad_8 : decode cX4_bad 8 = .ok (.iadd, 1) := by decide +kernel
theorem dX4_bad_9 : decode cX4_bad 9 = .ok (.iastore, 1) := by decide +kernel
theorem dX4_bad_10 : decode cX4_bad 10 = .ok (.iload_n 1, 1) := by decide +kernel
theorem dX4_bad_11 : decode cX4_bad 11 = .ok (.ireturn, 1) := by decide +kernel
theorem dX4_no_0 : decode cX4_no 0 = .ok (.aload_n 0, 1) := by decide +kernel
theorem dX4_no_1 : decode cX4_no 1 = .ok (.getfield 20, 3) := by decide +kernel
theorem dX4_no_4 : decode cX4_no 4 = .ok (.iconst 1, 1) := by decide +kernel
theorem dX4_no_5 : decode cX4_no 5 = .ok (.dup2, 1) := by decide +kernel
theorem dX4_no_6 : decode cX4_no 6 = .ok (.iaload, 1) := by decide +kernel
theorem dX4_no_7 : decode cX4_no 7 = .ok (.iconst 1, 1) := by decide +kernel
theorem dX4_no_8 : decode cX4_no 8 = .ok (.iadd, 1) := by decide +kernel
theorem dX4_no_9 : decode cX4_no 9 = .ok (.iastore, 1) := by decide +kernel
theorem dX4_no_10 : decode cX4_no 10 = .ok (.bipush (-3), 2) := by decide +kernel
theorem dX4_no_12 : decode cX4_no 12 = .ok (.ireturn, 1) := by decide +kernel
theorem dX4_full_0 : decode cX4_full 0 = .ok (.aload_n 0, 1) := by decide +kernel
theorem dX4_full_1 : decode cX4_full 1 = .ok (.getfield 20, 3) := by decide +kernel
theorem dX4_full_4 : decode cX4_full 4 = .ok (.iconst 2, 1) := by decide +kernel
theorem dX4_full_5 : decode cX4_full 5 = .ok (.dup2, 1) := by decide +kernel
theorem dX4_full_6 : decode cX4_full 6 = .ok (.iaload, 1) := by decide +kernel
theorem dX4_full_7 : decode cX4_full 7 = .ok (.iconst 1, 1) := by decide +kernel
theorem dX4_full_8 : decode cX4_full 8 = .ok (.iadd, 1) := by decide +kernel
theorem dX4_full_9 : decode cX4_full 9 = .ok (.iastore, 1) := by decide +kernel
theorem dX4_full_10 : decode cX4_full 10 = .ok (.bipush (-4), 2) := by decide +kernel
theorem dX4_full_12 : decode cX4_full 12 = .ok (.ireturn, 1) := by decide +kernel
theorem dX4_bits_0 : decode cX4_bits 0 = .ok (.iconst 0, 1) := by decide +kernel
theorem dX4_bits_1 : decode cX4_bits 1 = .ok (.istore_n 1, 1) := by decide +kernel
theorem dX4_bits_2 : decode cX4_bits 2 = .ok (.iload_n 0, 1) := by decide +kernel
theorem dX4_bits_3 : decode cX4_bits 3 = .ok (.istore_n 2, 1) := by decide +kernel
theorem dX4_bits_4 : decode cX4_bits 4 = .ok (.iload_n 2, 1) := by decide +kernel
theorem dX4_bits_5 : decode cX4_bits 5 = .ok (.ifCond .le 16, 3) := by decide +kernel
theorem dX4_bits_8 : decode cX4_bits 8 = .ok (.iload_n 1, 1) := by decide +kernel
theorem dX4_bits_9 : decode cX4_bits 9 = .ok (.iload_n 2, 1) := by decide +kernel
theorem dX4_bits_10 : decode cX4_bits 10 = .ok (.iconst 1, 1) := by decide +kernel
theorem dX4_bits_11 : decode cX4_bits 11 = .ok (.iand, 1) := by decide +kernel
theorem dX4_bits_12 : decode cX4_bits 12 = .ok (.iadd, 1) := by decide +kernel
theorem dX4_bits_13 : decode cX4_bits 13 = .ok (.istore_n 1, 1) := by decide +kernel
theorem dX4_bits_14 : decode cX4_bits 14 = .ok (.iload_n 2, 1) := by decide +kernel
theorem dX4_bits_15 : decode cX4_bits 15 = .ok (.iconst 1, 1) := by decide +kernel
theorem dX4_bits_16 : decode cX4_bits 16 = .ok (.ishr, 1) := by decide +kernel
theorem dX4_bits_17 : decode cX4_bits 17 = .ok (.istore_n 2, 1) := by decide +kernel
theorem dX4_bits_18 : decode cX4_bits 18 = .ok (.goto (-14), 3) := by decide +kernel
theorem dX4_bits_21 : decode cX4_bits 21 = .ok (.iload_n 1, 1) := by decide +kernel
theorem dX4_bits_22 : decode cX4_bits 22 = .ok (.ireturn, 1) := by decide +kernel
theorem dX4_has_0 : decode cX4_has 0 = .ok (.iload_n 0, 1) := by decide +kernel
theorem dX4_has_1 : decode cX4_has 1 = .ok (.iload_n 1, 1) := by decide +kernel
theorem dX4_has_2 : decode cX4_has 2 = .ok (.ishr, 1) := by decide +kernel
theorem dX4_has_3 : decode cX4_has 3 = .ok (.iconst 1, 1) := by decide +kernel
theorem dX4_has_4 : decode cX4_has 4 = .ok (.iand, 1) := by decide +kernel
theorem dX4_has_5 : decode cX4_has 5 = .ok (.iconst 1, 1) := by decide +kernel
theorem dX4_has_6 : decode cX4_has 6 = .ok (.if_icmp .ne 7, 3) := by decide +kernel
theorem dX4_has_9 : decode cX4_has 9 = .ok (.iconst 1, 1) := by decide +kernel
theorem dX4_has_10 : decode cX4_has 10 = .ok (.goto 4, 3) := by decide +kernel
theorem dX4_has_13 : decode cX4_has 13 = .ok (.iconst 0, 1) := by decide +kernel
theorem dX4_has_14 : decode cX4_has 14 = .ok (.ireturn, 1) := by decide +kernel
theorem dX4_begin_0 : decode cX4_begin 0 = .ok (.iconst 0, 1) := by decide +kernel
theorem dX4_begin_1 : decode cX4_begin 1 = .ok (.istore_n 2, 1) := by decide +kernel
theorem dX4_begin_2 : decode cX4_begin 2 = .ok (.iload_n 2, 1) := by decide +kernel
theorem dX4_begin_3 : decode cX4_begin 3 = .ok (.bipush 52, 2) := by decide +kernel
theorem dX4_begin_5 : decode cX4_begin 5 = .ok (.if_icmp .ge 13, 3) := by decide +kernel
theorem dX4_begin_8 : decode cX4_begin 8 = .ok (.aload_n 0, 1) := by decide +kernel
theorem dX4_begin_9 : decode cX4_begin 9 = .ok (.iload_n 2, 1) := by decide +kernel
theorem dX4_begin_10 : decode cX4_begin 10 = .ok (.iconst 0, 1) := by decide +kernel
theorem dX4_begin_11 : decode cX4_begin 11 = .ok (.iastore, 1) := by decide +kernel
theorem dX4_begin_12 : decode cX4_begin 12 = .ok (.iinc 2 1, 3) := by decide +kernel
theorem dX4_begin_15 : decode cX4_begin 15 = .ok (.goto (-13), 3) := by decide +kernel
theorem dX4_begin_18 : decode cX4_begin 18 = .ok (.aload_n 0, 1) := by decide +kernel
theorem dX4_begin_19 : decode cX4_begin 19 = .ok (.iconst 1, 1) := by decide +kernel
theorem dX4_begin_20 : decode cX4_begin 20 = .ok (.iload_n 1, 1) := by decide +kernel
theorem dX4_begin_21 : decode cX4_begin 21 = .ok (.iastore, 1) := by decide +kernel
theorem dX4_begin_22 : decode cX4_begin 22 = .ok (.return_, 1) := by decide +kernel
theorem dX4_many_0 : decode cX4_many 0 = .ok (.aload_n 0, 1) := by decide +kernel
theorem dX4_many_1 : decode cX4_many 1 = .ok (.getfield 7, 3) := by decide +kernel
theorem dX4_many_4 : decode cX4_many 4 = .ok (.iconst 0, 1) := by decide +kernel
theorem dX4_many_5 : decode cX4_many 5 = .ok (.iaload, 1) := by decide +kernel
theorem dX4_many_6 : decode cX4_many 6 = .ok (.ireturn, 1) := by decide +kernel
theorem dX4_isOne_0 : decode cX4_isOne 0 = .ok (.iload_n 1, 1) := by decide +kernel
theorem dX4_isOne_1 : decode cX4_isOne 1 = .ok (.i2l, 1) := by decide +kernel
theorem dX4_isOne_2 : decode cX4_isOne 2 = .ok (.lconst 0, 1) := by decide +kernel
theorem dX4_isOne_3 : decode cX4_isOne 3 = .ok (.aload_n 0, 1) := by decide +kernel
theorem dX4_isOne_4 : decode cX4_isOne 4 = .ok (.invokevirtual 52, 3) := by decide +kernel
theorem dX4_isOne_7 : decode cX4_isOne 7 = .ok (.iconst 1, 1) := by decide +kernel
theorem dX4_isOne_8 : decode cX4_isOne 8 = .ok (.isub, 1) := by decide +kernel
theorem dX4_isOne_9 : decode cX4_isOne 9 = .ok (.i2l, 1) := by decide +kernel
theorem dX4_isOne_10 : decode cX4_isOne 10 = .ok (.invokestatic 56, 3) := by decide +kernel
theorem dX4_isOne_13 : decode cX4_isOne 13 = .ok (.ireturn, 1) := by decide +kernel
theorem dX4_town_0 : decode cX4_town 0 = .ok (.iload_n 1, 1) := by decide +kernel
theorem dX4_town_1 : decode cX4_town 1 = .ok (.i2l, 1) := by decide +kernel
theorem dX4_town_2 : decode cX4_town 2 = .ok (.lconst 1, 1) := by decide +kernel
theorem dX4_town_3 : decode cX4_town 3 = .ok (.ldc2_w 60, 3) := by decide +kernel
theorem dX4_town_6 : decode cX4_town 6 = .ok (.invokestatic 56, 3) := by decide +kernel
theorem dX4_town_9 : decode cX4_town 9 = .ok (.ifCond .ne 10, 3) := by decide +kernel
theorem dX4_town_12 : decode cX4_town 12 = .ok (.aload_n 0, 1) := by decide +kernel
theorem dX4_town_13 : decode cX4_town 13 = .ok (.bipush (-2), 2) := by decide +kernel
theorem dX4_town_15 : decode cX4_town 15 = .ok (.invokevirtual 62, 3) := by decide +kernel
theorem dX4_town_18 : decode cX4_town 18 = .ok (.ireturn, 1) := by decide +kernel
theorem dX4_town_19 : decode cX4_town 19 = .ok (.aload_n 0, 1) := by decide +kernel
theorem dX4_town_20 : decode cX4_town 20 = .ok (.invokevirtual 52, 3) := by decide +kernel
theorem dX4_town_23 : decode cX4_town 23 = .ok (.istore_n 2, 1) := by decide +kernel
theorem dX4_town_24 : decode cX4_town 24 = .ok (.aload_n 0, 1) := by decide +kernel
theorem dX4_town_25 : decode cX4_town 25 = .ok (.getfield 7, 3) := by decide +kernel
theorem dX4_town_28 : decode cX4_town 28 = .ok (.iload_n 1, 1) := by decide +kernel
theorem dX4_town_29 : decode cX4_town 29 = .ok (.invokestatic 48, 3) := by decide +kernel
theorem dX4_town_32 : decode cX4_town 32 = .ok (.iload_n 2, 1) := by decide +kernel
theorem dX4_town_33 : decode cX4_town 33 = .ok (.ireturn, 1) := by decide +kernel
theorem dX4_layOne_0 : decode cX4_layOne 0 = .ok (.aload_n 0, 1) := by decide +kernel
theorem dX4_layOne_1 : decode cX4_layOne 1 = .ok (.iconst 4, 1) := by decide +kernel
theorem dX4_layOne_2 : decode cX4_layOne 2 = .ok (.aload_n 0, 1) := by decide +kernel
theorem dX4_layOne_3 : decode cX4_layOne 3 = .ok (.iconst 0, 1) := by decide +kernel
theorem dX4_layOne_4 : decode cX4_layOne 4 = .ok (.iaload, 1) := by decide +kernel
theorem dX4_layOne_5 : decode cX4_layOne 5 = .ok (.iadd, 1) := by decide +kernel
theorem dX4_layOne_6 : decode cX4_layOne 6 = .ok (.iload_n 1, 1) := by decide +kernel
theorem dX4_layOne_7 : decode cX4_layOne 7 = .ok (.iastore, 1) := by decide +kernel
theorem dX4_layOne_8 : decode cX4_layOne 8 = .ok (.aload_n 0, 1) := by decide +kernel
theorem dX4_layOne_9 : decode cX4_layOne 9 = .ok (.bipush 11, 2) := by decide +kernel
theorem dX4_layOne_11 : decode cX4_layOne 11 = .ok (.aload_n 0, 1) := by decide +kernel
theorem dX4_layOne_12 : decode cX4_layOne 12 = .ok (.iconst 0, 1) := by decide +kernel
theorem dX4_layOne_13 : decode cX4_layOne 13 = .ok (.iaload, 1) := by decide +kernel
theorem dX4_layOne_14 : decode cX4_layOne 14 = .ok (.iadd, 1) := by decide +kernel
theorem dX4_layOne_15 : decode cX4_layOne 15 = .ok (.iload_n 2, 1) := by decide +kernel
theorem dX4_layOne_16 : decode cX4_layOne 16 = .ok (.iastore, 1) := by decide +kernel
theorem dX4_layOne_17 : decode cX4_layOne 17 = .ok (.aload_n 0, 1) := by decide +kernel
theorem dX4_layOne_18 : decode cX4_layOne 18 = .ok (.iconst 0, 1) := by decide +kernel
theorem dX4_layOne_19 : decode cX4_layOne 19 = .ok (.dup2, 1) := by decide +kernel
theorem dX4_layOne_20 : decode cX4_layOne 20 = .ok (.iaload, 1) := by decide +kernel
theorem dX4_layOne_21 : decode cX4_layOne 21 = .ok (.iconst 1, 1) := by decide +kernel
theorem dX4_layOne_22 : decode cX4_layOne 22 = .ok (.iadd, 1) := by decide +kernel
theorem dX4_layOne_23 : decode cX4_layOne 23 = .ok (.iastore, 1) := by decide +kernel
theorem dX4_layOne_24 : decode cX4_layOne 24 = .ok (.return_, 1) := by decide +kernel
theorem dX4_one_0 : decode cX4_one 0 = .ok (.iload_n 1, 1) := by decide +kernel
theorem dX4_one_1 : decode cX4_one 1 = .ok (.i2l, 1) := by decide +kernel
theorem dX4_one_2 : decode cX4_one 2 = .ok (.lconst 0, 1) := by decide +kernel
theorem dX4_one_3 : decode cX4_one 3 = .ok (.ldc2_w 60, 3) := by decide +kernel
theorem dX4_one_6 : decode cX4_one 6 = .ok (.invokestatic 56, 3) := by decide +kernel
theorem dX4_one_9 : decode cX4_one 9 = .ok (.ifCond .eq 15, 3) := by decide +kernel
theorem dX4_one_12 : decode cX4_one 12 = .ok (.iload_n 2, 1) := by decide +kernel
theorem dX4_one_13 : decode cX4_one 13 = .ok (.i2l, 1) := by decide +kernel
theorem dX4_one_14 : decode cX4_one 14 = .ok (.lconst 0, 1) := by decide +kernel
theorem dX4_one_15 : decode cX4_one 15 = .ok (.ldc2_w 66, 3) := by decide +kernel
theorem dX4_one_18 : decode cX4_one 18 = .ok (.invokestatic 56, 3) := by decide +kernel
theorem dX4_one_21 : decode cX4_one 21 = .ok (.ifCond .ne 10, 3) := by decide +kernel
theorem dX4_one_24 : decode cX4_one 24 = .ok (.aload_n 0, 1) := by decide +kernel
theorem dX4_one_25 : decode cX4_one 25 = .ok (.bipush (-2), 2) := by decide +kernel
theorem dX4_one_27 : decode cX4_one 27 = .ok (.invokevirtual 62, 3) := by decide +kernel
theorem dX4_one_30 : decode cX4_one 30 = .ok (.ireturn, 1) := by decide +kernel
theorem dX4_one_31 : decode cX4_one 31 = .ok (.aload_n 0, 1) := by decide +kernel
theorem dX4_one_32 : decode cX4_one 32 = .ok (.invokevirtual 52, 3) := by decide +kernel
theorem dX4_one_35 : decode cX4_one 35 = .ok (.bipush 7, 2) := by decide +kernel
theorem dX4_one_37 : decode cX4_one 37 = .ok (.if_icmp .ne 8, 3) := by decide +kernel
theorem dX4_one_40 : decode cX4_one 40 = .ok (.aload_n 0, 1) := by decide +kernel
theorem dX4_one_41 : decode cX4_one 41 = .ok (.invokevirtual 68, 3) := by decide +kernel
theorem dX4_one_44 : decode cX4_one 44 = .ok (.ireturn, 1) := by decide +kernel
theorem dX4_one_45 : decode cX4_one 45 = .ok (.aload_n 0, 1) := by decide +kernel
theorem dX4_one_46 : decode cX4_one 46 = .ok (.getfield 7, 3) := by decide +kernel
theorem dX4_one_49 : decode cX4_one 49 = .ok (.iload_n 1, 1) := by decide +kernel
theorem dX4_one_50 : decode cX4_one 50 = .ok (.iload_n 2, 1) := by decide +kernel
theorem dX4_one_51 : decode cX4_one 51 = .ok (.invokestatic 71, 3) := by decide +kernel
theorem dX4_one_54 : decode cX4_one 54 = .ok (.aload_n 0, 1) := by decide +kernel
theorem dX4_one_55 : decode cX4_one 55 = .ok (.getfield 7, 3) := by decide +kernel
theorem dX4_one_58 : decode cX4_one 58 = .ok (.iconst 3, 1) := by decide +kernel
theorem dX4_one_59 : decode cX4_one 59 = .ok (.iconst 0, 1) := by decide +kernel
theorem dX4_one_60 : decode cX4_one 60 = .ok (.iastore, 1) := by decide +kernel
theorem dX4_one_61 : decode cX4_one 61 = .ok (.aload_n 0, 1) := by decide +kernel
theorem dX4_one_62 : decode cX4_one 62 = .ok (.invokevirtual 52, 3) := by decide +kernel
theorem dX4_one_65 : decode cX4_one 65 = .ok (.iconst 1, 1) := by decide +kernel
theorem dX4_one_66 : decode cX4_one 66 = .ok (.isub, 1) := by decide +kernel
theorem dX4_one_67 : decode cX4_one 67 = .ok (.ireturn, 1) := by decide +kernel
theorem dX4_actAs_0 : decode cX4_actAs 0 = .ok (.iload_n 1, 1) := by decide +kernel
theorem dX4_actAs_1 : decode cX4_actAs 1 = .ok (.bipush 6, 2) := by decide +kernel
theorem dX4_actAs_3 : decode cX4_actAs 3 = .ok (.idiv, 1) := by decide +kernel
theorem dX4_actAs_4 : decode cX4_actAs 4 = .ok (.iconst 5, 1) := by decide +kernel
theorem dX4_actAs_5 : decode cX4_actAs 5 = .ok (.if_icmp .le 7, 3) := by decide +kernel
theorem dX4_actAs_8 : decode cX4_actAs 8 = .ok (.iconst 5, 1) := by decide +kernel
theorem dX4_actAs_9 : decode cX4_actAs 9 = .ok (.goto 7, 3) := by decide +kernel
theorem dX4_actAs_12 : decode cX4_actAs 12 = .ok (.iload_n 1, 1) := by decide +kernel
theorem dX4_actAs_13 : decode cX4_actAs 13 = .ok (.bipush 6, 2) := by decide +kernel
theorem dX4_actAs_15 : decode cX4_actAs 15 = .ok (.idiv, 1) := by decide +kernel
theorem dX4_actAs_16 : decode cX4_actAs 16 = .ok (.istore 4, 2) := by decide +kernel
theorem dX4_actAs_18 : decode cX4_actAs 18 = .ok (.iload 4, 2) := by decide +kernel
theorem dX4_actAs_20 : decode cX4_actAs 20 = .ok (.iconst 2, 1) := by decide +kernel
theorem dX4_actAs_21 : decode cX4_actAs 21 = .ok (.if_icmp .le 10, 3) := by decide +kernel
theorem dX4_actAs_24 : decode cX4_actAs 24 = .ok (.iload 4, 2) := by decide +kernel
theorem dX4_actAs_26 : decode cX4_actAs 26 = .ok (.iconst 2, 1) := by decide +kernel
theorem dX4_actAs_27 : decode cX4_actAs 27 = .ok (.isub, 1) := by decide +kernel
theorem dX4_actAs_28 : decode cX4_actAs 28 = .ok (.goto 4, 3) := by decide +kernel
theorem dX4_actAs_31 : decode cX4_actAs 31 = .ok (.iconst 0, 1) := by decide +kernel
theorem dX4_actAs_32 : decode cX4_actAs 32 = .ok (.istore 5, 2) := by decide +kernel
theorem dX4_actAs_34 : decode cX4_actAs 34 = .ok (.iload_n 3, 1) := by decide +kernel
theorem dX4_actAs_35 : decode cX4_actAs 35 = .ok (.ifCond .eq 16, 3) := by decide +kernel
theorem dX4_actAs_38 : decode cX4_actAs 38 = .ok (.iload 4, 2) := by decide +kernel
theorem dX4_actAs_40 : decode cX4_actAs 40 = .ok (.iconst 5, 1) := by decide +kernel
theorem dX4_actAs_41 : decode cX4_actAs 41 = .ok (.if_icmp .ge 10, 3) := by decide +kernel
theorem dX4_actAs_44 : decode cX4_actAs 44 = .ok (.iload 4, 2) := by decide +kernel
theorem dX4_actAs_46 : decode cX4_actAs 46 = .ok (.iconst 1, 1) := by decide +kernel
theorem dX4_actAs_47 : decode cX4_actAs 47 = .ok (.iadd, 1) := by decide +kernel
theorem dX4_actAs_48 : decode cX4_actAs 48 = .ok (.goto 5, 3) := by decide +kernel
theorem dX4_actAs_51 : decode cX4_actAs 51 = .ok (.iload 4, 2) := by decide +kernel
theorem dX4_actAs_53 : decode cX4_actAs 53 = .ok (.istore 6, 2) := by decide +kernel
theorem dX4_actAs_55 : decode cX4_actAs 55 = .ok (.iload_n 0, 1) := by decide +kernel
theorem dX4_actAs_56 : decode cX4_actAs 56 = .ok (.tableswitch 84 1 5 #[36, 39, 50, 53, 71], 36) := by decide +kernel
theorem dX4_actAs_92 : decode cX4_actAs 92 = .ok (.iload 5, 2) := by decide +kernel
theorem dX4_actAs_94 : decode cX4_actAs 94 = .ok (.ireturn, 1) := by decide +kernel
theorem dX4_actAs_95 : decode cX4_actAs 95 = .ok (.iload_n 3, 1) := by decide +kernel
theorem dX4_actAs_96 : decode cX4_actAs 96 = .ok (.ifCond .eq 7, 3) := by decide +kernel
theorem dX4_actAs_99 : decode cX4_actAs 99 = .ok (.iconst 0, 1) := by decide +kernel
theorem dX4_actAs_100 : decode cX4_actAs 100 = .ok (.goto 5, 3) := by decide +kernel
theorem dX4_actAs_103 : decode cX4_actAs 103 = .ok (.iload 4, 2) := by decide +kernel
theorem dX4_actAs_105 : decode cX4_actAs 105 = .ok (.ireturn, 1) := by decide +kernel
theorem dX4_actAs_106 : decode cX4_actAs 106 = .ok (.iload 6, 2) := by decide +kernel
theorem dX4_actAs_108 : decode cX4_actAs 108 = .ok (.ireturn, 1) := by decide +kernel
theorem dX4_actAs_109 : decode cX4_actAs 109 = .ok (.iload_n 2, 1) := by decide +kernel
theorem dX4_actAs_110 : decode cX4_actAs 110 = .ok (.iconst 3, 1) := by decide +kernel
theorem dX4_actAs_111 : decode cX4_actAs 111 = .ok (.irem, 1) := by decide +kernel
theorem dX4_actAs_112 : decode cX4_actAs 112 = .ok (.ifCond .ne 12, 3) := by decide +kernel
theorem dX4_actAs_115 : decode cX4_actAs 115 = .ok (.iload 5, 2) := by decide +kernel
theorem dX4_actAs_117 : decode cX4_actAs 117 = .ok (.ifCond .ne 7, 3) := by decide +kernel
theorem dX4_actAs_120 : decode cX4_actAs 120 = .ok (.iconst 1, 1) := by decide +kernel
theorem dX4_actAs_121 : decode cX4_actAs 121 = .ok (.goto 5, 3) := by decide +kernel
theorem dX4_actAs_124 : decode cX4_actAs 124 = .ok (.iload 5, 2) := by decide +kernel
theorem dX4_actAs_126 : decode cX4_actAs 126 = .ok (.ireturn, 1) := by decide +kernel
theorem dX4_actAs_127 : decode cX4_actAs 127 = .ok (.iload_n 2, 1) := by decide +kernel
theorem dX4_actAs_128 : decode cX4_actAs 128 = .ok (.iconst 2, 1) := by decide +kernel
theorem dX4_actAs_129 : decode cX4_actAs 129 = .ok (.irem, 1) := by decide +kernel
theorem dX4_actAs_130 : decode cX4_actAs 130 = .ok (.ifCond .ne 7, 3) := by decide +kernel
theorem dX4_actAs_133 : decode cX4_actAs 133 = .ok (.iconst 0, 1) := by decide +kernel
theorem dX4_actAs_134 : decode cX4_actAs 134 = .ok (.goto 5, 3) := by decide +kernel
theorem dX4_actAs_137 : decode cX4_actAs 137 = .ok (.iload 6, 2) := by decide +kernel
theorem dX4_actAs_139 : decode cX4_actAs 139 = .ok (.ireturn, 1) := by decide +kernel
theorem dX4_actAs_140 : decode cX4_actAs 140 = .ok (.iload 4, 2) := by decide +kernel
theorem dX4_actAs_142 : decode cX4_actAs 142 = .ok (.ireturn, 1) := by decide +kernel
theorem dX4_moreAs_0 : decode cX4_moreAs 0 = .ok (.iload_n 0, 1) := by decide +kernel
theorem dX4_moreAs_1 : decode cX4_moreAs 1 = .ok (.ifCond .ne 7, 3) := by decide +kernel
theorem dX4_moreAs_4 : decode cX4_moreAs 4 = .ok (.iconst 2, 1) := by decide +kernel
theorem dX4_moreAs_5 : decode cX4_moreAs 5 = .ok (.goto 27, 3) := by decide +kernel
theorem dX4_moreAs_8 : decode cX4_moreAs 8 = .ok (.iload_n 0, 1) := by decide +kernel
theorem dX4_moreAs_9 : decode cX4_moreAs 9 = .ok (.iconst 1, 1) := by decide +kernel
theorem dX4_moreAs_10 : decode cX4_moreAs 10 = .ok (.if_icmp .ne 7, 3) := by decide +kernel
theorem dX4_moreAs_13 : decode cX4_moreAs 13 = .ok (.iconst 0, 1) := by decide +kernel
theorem dX4_moreAs_14 : decode cX4_moreAs 14 = .ok (.goto 18, 3) := by decide +kernel
theorem dX4_moreAs_17 : decode cX4_moreAs 17 = .ok (.iload_n 0, 1) := by decide +kernel
theorem dX4_moreAs_18 : decode cX4_moreAs 18 = .ok (.iconst 2, 1) := by decide +kernel
theorem dX4_moreAs_19 : decode cX4_moreAs 19 = .ok (.if_icmp .eq 8, 3) := by decide +kernel
theorem dX4_moreAs_22 : decode cX4_moreAs 22 = .ok (.iload_n 0, 1) := by decide +kernel
theorem dX4_moreAs_23 : decode cX4_moreAs 23 = .ok (.iconst 4, 1) := by decide +kernel
theorem dX4_moreAs_24 : decode cX4_moreAs 24 = .ok (.if_icmp .ne 7, 3) := by decide +kernel
theorem dX4_moreAs_27 : decode cX4_moreAs 27 = .ok (.iconst 1, 1) := by decide +kernel
theorem dX4_moreAs_28 : decode cX4_moreAs 28 = .ok (.goto 4, 3) := by decide +kernel
theorem dX4_moreAs_31 : decode cX4_moreAs 31 = .ok (.iconst 4, 1) := by decide +kernel
theorem dX4_moreAs_32 : decode cX4_moreAs 32 = .ok (.ireturn, 1) := by decide +kernel
theorem dX4_temperBehind_0 : decode cX4_temperBehind 0 = .ok (.iload_n 2, 1) := by decide +kernel
theorem dX4_temperBehind_1 : decode cX4_temperBehind 1 = .ok (.ifCond .eq 12, 3) := by decide +kernel
theorem dX4_temperBehind_4 : decode cX4_temperBehind 4 = .ok (.iload_n 1, 1) := by decide +kernel
theorem dX4_temperBehind_5 : decode cX4_temperBehind 5 = .ok (.iload_n 0, 1) := by decide +kernel
theorem dX4_temperBehind_6 : decode cX4_temperBehind 6 = .ok (.invokestatic 75, 3) := by decide +kernel
theorem dX4_temperBehind_9 : decode cX4_temperBehind 9 = .ok (.iadd, 1) := by decide +kernel
theorem dX4_temperBehind_10 : decode cX4_temperBehind 10 = .ok (.goto 6, 3) := by decide +kernel
theorem dX4_temperBehind_13 : decode cX4_temperBehind 13 = .ok (.iload_n 1, 1) := by decide +kernel
theorem dX4_temperBehind_14 : decode cX4_temperBehind 14 = .ok (.iconst 1, 1) := by decide +kernel
theorem dX4_temperBehind_15 : decode cX4_temperBehind 15 = .ok (.isub, 1) := by decide +kernel
theorem dX4_temperBehind_16 : decode cX4_temperBehind 16 = .ok (.istore_n 3, 1) := by decide +kernel
theorem dX4_temperBehind_17 : decode cX4_temperBehind 17 = .ok (.iload_n 3, 1) := by decide +kernel
theorem dX4_temperBehind_18 : decode cX4_temperBehind 18 = .ok (.ifCond .ge 7, 3) := by decide +kernel
theorem dX4_temperBehind_21 : decode cX4_temperBehind 21 = .ok (.iconst 0, 1) := by decide +kernel
theorem dX4_temperBehind_22 : decode cX4_temperBehind 22 = .ok (.goto 15, 3) := by decide +kernel
theorem dX4_temperBehind_25 : decode cX4_temperBehind 25 = .ok (.iload_n 3, 1) := by decide +kernel
theorem dX4_temperBehind_26 : decode cX4_temperBehind 26 = .ok (.bipush 99, 2) := by decide +kernel
theorem dX4_temperBehind_28 : decode cX4_temperBehind 28 = .ok (.if_icmp .le 8, 3) := by decide +kernel
theorem dX4_temperBehind_31 : decode cX4_temperBehind 31 = .ok (.bipush 99, 2) := by decide +kernel
theorem dX4_temperBehind_33 : decode cX4_temperBehind 33 = .ok (.goto 4, 3) := by decide +kernel
theorem dX4_temperBehind_36 : decode cX4_temperBehind 36 = .ok (.iload_n 3, 1) := by decide +kernel
theorem dX4_temperBehind_37 : decode cX4_temperBehind 37 = .ok (.ireturn, 1) := by decide +kernel
theorem dX4_layHand_0 : decode cX4_layHand 0 = .ok (.iconst 0, 1) := by decide +kernel
theorem dX4_layHand_1 : decode cX4_layHand 1 = .ok (.istore_n 1, 1) := by decide +kernel
theorem dX4_layHand_2 : decode cX4_layHand 2 = .ok (.iload_n 1, 1) := by decide +kernel
theorem dX4_layHand_3 : decode cX4_layHand 3 = .ok (.aload_n 0, 1) := by decide +kernel
theorem dX4_layHand_4 : decode cX4_layHand 4 = .ok (.invokevirtual 52, 3) := by decide +kernel
theorem dX4_layHand_7 : decode cX4_layHand 7 = .ok (.if_icmp .ge 24, 3) := by decide +kernel
theorem dX4_layHand_10 : decode cX4_layHand 10 = .ok (.aload_n 0, 1) := by decide +kernel
theorem dX4_layHand_11 : decode cX4_layHand 11 = .ok (.getfield 27, 3) := by decide +kernel
theorem dX4_layHand_14 : decode cX4_layHand 14 = .ok (.iload_n 1, 1) := by decide +kernel
theorem dX4_layHand_15 : decode cX4_layHand 15 = .ok (.aload_n 0, 1) := by decide +kernel
theorem dX4_layHand_16 : decode cX4_layHand 16 = .ok (.getfield 7, 3) := by decide +kernel
theorem dX4_layHand_19 : decode cX4_layHand 19 = .ok (.bipush 11, 2) := by decide +kernel
theorem dX4_layHand_21 : decode cX4_layHand 21 = .ok (.iload_n 1, 1) := by decide +kernel
theorem dX4_layHand_22 : decode cX4_layHand 22 = .ok (.iadd, 1) := by decide +kernel
theorem dX4_layHand_23 : decode cX4_layHand 23 = .ok (.iaload, 1) := by decide +kernel
theorem dX4_layHand_24 : decode cX4_layHand 24 = .ok (.iastore, 1) := by decide +kernel
theorem dX4_layHand_25 : decode cX4_layHand 25 = .ok (.iinc 1 1, 3) := by decide +kernel
theorem dX4_layHand_28 : decode cX4_layHand 28 = .ok (.goto (-26), 3) := by decide +kernel
theorem dX4_layHand_31 : decode cX4_layHand 31 = .ok (.aload_n 0, 1) := by decide +kernel
theorem dX4_layHand_32 : decode cX4_layHand 32 = .ok (.aload_n 0, 1) := by decide +kernel
theorem dX4_layHand_33 : decode cX4_layHand 33 = .ok (.getfield 7, 3) := by decide +kernel
theorem dX4_layHand_36 : decode cX4_layHand 36 = .ok (.bipush 18, 2) := by decide +kernel
theorem dX4_layHand_38 : decode cX4_layHand 38 = .ok (.iaload, 1) := by decide +kernel
theorem dX4_layHand_39 : decode cX4_layHand 39 = .ok (.putfield 78, 3) := by decide +kernel
theorem dX4_layHand_42 : decode cX4_layHand 42 = .ok (.aload_n 0, 1) := by decide +kernel
theorem dX4_layHand_43 : decode cX4_layHand 43 = .ok (.aload_n 0, 1) := by decide +kernel
theorem dX4_layHand_44 : decode cX4_layHand 44 = .ok (.getfield 7, 3) := by decide +kernel
theorem dX4_layHand_47 : decode cX4_layHand 47 = .ok (.bipush 19, 2) := by decide +kernel
theorem dX4_layHand_49 : decode cX4_layHand 49 = .ok (.iaload, 1) := by decide +kernel
theorem dX4_layHand_50 : decode cX4_layHand 50 = .ok (.putfield 82, 3) := by decide +kernel
theorem dX4_layHand_53 : decode cX4_layHand 53 = .ok (.aload_n 0, 1) := by decide +kernel
theorem dX4_layHand_54 : decode cX4_layHand 54 = .ok (.aload_n 0, 1) := by decide +kernel
theorem dX4_layHand_55 : decode cX4_layHand 55 = .ok (.getfield 7, 3) := by decide +kernel
theorem dX4_layHand_58 : decode cX4_layHand 58 = .ok (.bipush 21, 2) := by decide +kernel
theorem dX4_layHand_60 : decode cX4_layHand 60 = .ok (.iaload, 1) := by decide +kernel
theorem dX4_layHand_61 : decode cX4_layHand 61 = .ok (.putfield 85, 3) := by decide +kernel
theorem dX4_layHand_64 : decode cX4_layHand 64 = .ok (.return_, 1) := by decide +kernel
theorem dX4_kindOf_0 : decode cX4_kindOf 0 = .ok (.aload_n 0, 1) := by decide +kernel
theorem dX4_kindOf_1 : decode cX4_kindOf 1 = .ok (.getfield 7, 3) := by decide +kernel
theorem dX4_kindOf_4 : decode cX4_kindOf 4 = .ok (.iconst 4, 1) := by decide +kernel
theorem dX4_kindOf_5 : decode cX4_kindOf 5 = .ok (.iload_n 1, 1) := by decide +kernel
theorem dX4_kindOf_6 : decode cX4_kindOf 6 = .ok (.iadd, 1) := by decide +kernel
theorem dX4_kindOf_7 : decode cX4_kindOf 7 = .ok (.iaload, 1) := by decide +kernel
theorem dX4_kindOf_8 : decode cX4_kindOf 8 = .ok (.ireturn, 1) := by decide +kernel
theorem dX4_actOf_0 : decode cX4_actOf 0 = .ok (.aload_n 0, 1) := by decide +kernel
theorem dX4_actOf_1 : decode cX4_actOf 1 = .ok (.iload_n 1, 1) := by decide +kernel
theorem dX4_actOf_2 : decode cX4_actOf 2 = .ok (.invokevirtual 88, 3) := by decide +kernel
theorem dX4_actOf_5 : decode cX4_actOf 5 = .ok (.aload_n 0, 1) := by decide +kernel
theorem dX4_actOf_6 : decode cX4_actOf 6 = .ok (.getfield 27, 3) := by decide +kernel
theorem dX4_actOf_9 : decode cX4_actOf 9 = .ok (.iload_n 1, 1) := by decide +kernel
theorem dX4_actOf_10 : decode cX4_actOf 10 = .ok (.iaload, 1) := by decide +kernel
theorem dX4_actOf_11 : decode cX4_actOf 11 = .ok (.aload_n 0, 1) := by decide +kernel
theorem dX4_actOf_12 : decode cX4_actOf 12 = .ok (.getfield 85, 3) := by decide +kernel
theorem dX4_actOf_15 : decode cX4_actOf 15 = .ok (.aload_n 0, 1) := by decide +kernel
theorem dX4_actOf_16 : decode cX4_actOf 16 = .ok (.getfield 82, 3) := by decide +kernel
theorem dX4_actOf_19 : decode cX4_actOf 19 = .ok (.iload_n 1, 1) := by decide +kernel
theorem dX4_actOf_20 : decode cX4_actOf 20 = .ok (.invokestatic 91, 3) := by decide +kernel
theorem dX4_actOf_23 : decode cX4_actOf 23 = .ok (.invokestatic 95, 3) := by decide +kernel
theorem dX4_actOf_26 : decode cX4_actOf 26 = .ok (.ireturn, 1) := by decide +kernel
theorem dX4_doesIt_0 : decode cX4_doesIt 0 = .ok (.aload_n 0, 1) := by decide +kernel
theorem dX4_doesIt_1 : decode cX4_doesIt 1 = .ok (.iload_n 1, 1) := by decide +kernel
theorem dX4_doesIt_2 : decode cX4_doesIt 2 = .ok (.invokevirtual 99, 3) := by decide +kernel
theorem dX4_doesIt_5 : decode cX4_doesIt 5 = .ok (.aload_n 0, 1) := by decide +kernel
theorem dX4_doesIt_6 : decode cX4_doesIt 6 = .ok (.getfield 7, 3) := by decide +kernel
theorem dX4_doesIt_9 : decode cX4_doesIt 9 = .ok (.iconst 1, 1) := by decide +kernel
theorem dX4_doesIt_10 : decode cX4_doesIt 10 = .ok (.iaload, 1) := by decide +kernel
theorem dX4_doesIt_11 : decode cX4_doesIt 11 = .ok (.if_icmp .lt 7, 3) := by decide +kernel
theorem dX4_doesIt_14 : decode cX4_doesIt 14 = .ok (.iconst 1, 1) := by decide +kernel
theorem dX4_doesIt_15 : decode cX4_doesIt 15 = .ok (.goto 4, 3) := by decide +kernel
theorem dX4_doesIt_18 : decode cX4_doesIt 18 = .ok (.iconst 0, 1) := by decide +kernel
theorem dX4_doesIt_19 : decode cX4_doesIt 19 = .ok (.ireturn, 1) := by decide +kernel
theorem dX4_goDay_0 : decode cX4_goDay 0 = .ok (.iconst 0, 1) := by decide +kernel
theorem dX4_goDay_1 : decode cX4_goDay 1 = .ok (.istore_n 1, 1) := by decide +kernel
theorem dX4_goDay_2 : decode cX4_goDay 2 = .ok (.iconst 0, 1) := by decide +kernel
theorem dX4_goDay_3 : decode cX4_goDay 3 = .ok (.istore_n 2, 1) := by decide +kernel
theorem dX4_goDay_4 : decode cX4_goDay 4 = .ok (.iload_n 2, 1) := by decide +kernel
theorem dX4_goDay_5 : decode cX4_goDay 5 = .ok (.aload_n 0, 1) := by decide +kernel
theorem dX4_goDay_6 : decode cX4_goDay 6 = .ok (.invokevirtual 52, 3) := by decide +kernel
theorem dX4_goDay_9 : decode cX4_goDay 9 = .ok (.if_icmp .ge 43, 3) := by decide +kernel
theorem dX4_goDay_12 : decode cX4_goDay 12 = .ok (.iload_n 1, 1) := by decide +kernel
theorem dX4_goDay_13 : decode cX4_goDay 13 = .ok (.aload_n 0, 1) := by decide +kernel
theorem dX4_goDay_14 : decode cX4_goDay 14 = .ok (.getfield 78, 3) := by decide +kernel
theorem dX4_goDay_17 : decode cX4_goDay 17 = .ok (.aload_n 0, 1) := by decide +kernel
theorem dX4_goDay_18 : decode cX4_goDay 18 = .ok (.getfield 82, 3) := by decide +kernel
theorem dX4_goDay_21 : decode cX4_goDay 21 = .ok (.iand, 1) := by decide +kernel
theorem dX4_goDay_22 : decode cX4_goDay 22 = .ok (.iload_n 2, 1) := by decide +kernel
theorem dX4_goDay_23 : decode cX4_goDay 23 = .ok (.invokestatic 91, 3) := by decide +kernel
theorem dX4_goDay_26 : decode cX4_goDay 26 = .ok (.ifCond .eq 17, 3) := by decide +kernel
theorem dX4_goDay_29 : decode cX4_goDay 29 = .ok (.aload_n 0, 1) := by decide +kernel
theorem dX4_goDay_30 : decode cX4_goDay 30 = .ok (.iload_n 2, 1) := by decide +kernel
theorem dX4_goDay_31 : decode cX4_goDay 31 = .ok (.invokevirtual 102, 3) := by decide +kernel
theorem dX4_goDay_34 : decode cX4_goDay 34 = .ok (.ifCond .eq 9, 3) := by decide +kernel
theorem dX4_goDay_37 : decode cX4_goDay 37 = .ok (.iconst 1, 1) := by decide +kernel
theorem dX4_goDay_38 : decode cX4_goDay 38 = .ok (.iload_n 2, 1) := by decide +kernel
theorem dX4_goDay_39 : decode cX4_goDay 39 = .ok (.ishl, 1) := by decide +kernel
theorem dX4_goDay_40 : decode cX4_goDay 40 = .ok (.goto 4, 3) := by decide +kernel
theorem dX4_goDay_43 : decode cX4_goDay 43 = .ok (.iconst 0, 1) := by decide +kernel
theorem dX4_goDay_44 : decode cX4_goDay 44 = .ok (.ior, 1) := by decide +kernel
theorem dX4_goDay_45 : decode cX4_goDay 45 = .ok (.istore_n 1, 1) := by decide +kernel
theorem dX4_goDay_46 : decode cX4_goDay 46 = .ok (.iinc 2 1, 3) := by decide +kernel
theorem dX4_goDay_49 : decode cX4_goDay 49 = .ok (.goto (-45), 3) := by decide +kernel
theorem dX4_goDay_52 : decode cX4_goDay 52 = .ok (.iconst 0, 1) := by decide +kernel
theorem dX4_goDay_53 : decode cX4_goDay 53 = .ok (.istore_n 2, 1) := by decide +kernel
theorem dX4_goDay_54 : decode cX4_goDay 54 = .ok (.iload_n 2, 1) := by decide +kernel
theorem dX4_goDay_55 : decode cX4_goDay 55 = .ok (.aload_n 0, 1) := by decide +kernel
theorem dX4_goDay_56 : decode cX4_goDay 56 = .ok (.invokevirtual 52, 3) := by decide +kernel
theorem dX4_goDay_59 : decode cX4_goDay 59 = .ok (.if_icmp .ge 37, 3) := by decide +kernel
theorem dX4_goDay_62 : decode cX4_goDay 62 = .ok (.aload_n 0, 1) := by decide +kernel
theorem dX4_goDay_63 : decode cX4_goDay 63 = .ok (.getfield 27, 3) := by decide +kernel
theorem dX4_goDay_66 : decode cX4_goDay 66 = .ok (.iload_n 2, 1) := by decide +kernel
theorem dX4_goDay_67 : decode cX4_goDay 67 = .ok (.aload_n 0, 1) := by decide +kernel
theorem dX4_goDay_68 : decode cX4_goDay 68 = .ok (.iload_n 2, 1) := by decide +kernel
theorem dX4_goDay_69 : decode cX4_goDay 69 = .ok (.invokevirtual 88, 3) := by decide +kernel
theorem dX4_goDay_72 : decode cX4_goDay 72 = .ok (.aload_n 0, 1) := by decide +kernel
theorem dX4_goDay_73 : decode cX4_goDay 73 = .ok (.getfield 27, 3) := by decide +kernel
theorem dX4_goDay_76 : decode cX4_goDay 76 = .ok (.iload_n 2, 1) := by decide +kernel
theorem dX4_goDay_77 : decode cX4_goDay 77 = .ok (.iaload, 1) := by decide +kernel
theorem dX4_goDay_78 : decode cX4_goDay 78 = .ok (.aload_n 0, 1) := by decide +kernel
theorem dX4_goDay_79 : decode cX4_goDay 79 = .ok (.getfield 82, 3) := by decide +kernel
theorem dX4_goDay_82 : decode cX4_goDay 82 = .ok (.iload_n 2, 1) := by decide +kernel
theorem dX4_goDay_83 : decode cX4_goDay 83 = .ok (.invokestatic 91, 3) := by decide +kernel
theorem dX4_goDay_86 : decode cX4_goDay 86 = .ok (.invokestatic 106, 3) := by decide +kernel
theorem dX4_goDay_89 : decode cX4_goDay 89 = .ok (.iastore, 1) := by decide +kernel
theorem dX4_goDay_90 : decode cX4_goDay 90 = .ok (.iinc 2 1, 3) := by decide +kernel
theorem dX4_goDay_93 : decode cX4_goDay 93 = .ok (.goto (-39), 3) := by decide +kernel
theorem dX4_goDay_96 : decode cX4_goDay 96 = .ok (.aload_n 0, 1) := by decide +kernel
theorem dX4_goDay_97 : decode cX4_goDay 97 = .ok (.dup, 1) := by decide +kernel
theorem dX4_goDay_98 : decode cX4_goDay 98 = .ok (.getfield 78, 3) := by decide +kernel
theorem dX4_goDay_101 : decode cX4_goDay 101 = .ok (.iload_n 1, 1) := by decide +kernel
theorem dX4_goDay_102 : decode cX4_goDay 102 = .ok (.iconst (-1), 1) := by decide +kernel
theorem dX4_goDay_103 : decode cX4_goDay 103 = .ok (.ixor, 1) := by decide +kernel
theorem dX4_goDay_104 : decode cX4_goDay 104 = .ok (.iand, 1) := by decide +kernel
theorem dX4_goDay_105 : decode cX4_goDay 105 = .ok (.putfield 78, 3) := by decide +kernel
theorem dX4_goDay_108 : decode cX4_goDay 108 = .ok (.aload_n 0, 1) := by decide +kernel
theorem dX4_goDay_109 : decode cX4_goDay 109 = .ok (.dup, 1) := by decide +kernel
theorem dX4_goDay_110 : decode cX4_goDay 110 = .ok (.getfield 82, 3) := by decide +kernel
theorem dX4_goDay_113 : decode cX4_goDay 113 = .ok (.iload_n 1, 1) := by decide +kernel
theorem dX4_goDay_114 : decode cX4_goDay 114 = .ok (.iconst (-1), 1) := by decide +kernel
theorem dX4_goDay_115 : decode cX4_goDay 115 = .ok (.ixor, 1) := by decide +kernel
theorem dX4_goDay_116 : decode cX4_goDay 116 = .ok (.iand, 1) := by decide +kernel
theorem dX4_goDay_117 : decode cX4_goDay 117 = .ok (.putfield 82, 3) := by decide +kernel
theorem dX4_goDay_120 : decode cX4_goDay 120 = .ok (.aload_n 0, 1) := by decide +kernel
theorem dX4_goDay_121 : decode cX4_goDay 121 = .ok (.dup, 1) := by decide +kernel
theorem dX4_goDay_122 : decode cX4_goDay 122 = .ok (.getfield 85, 3) := by decide +kernel
theorem dX4_goDay_125 : decode cX4_goDay 125 = .ok (.iconst 1, 1) := by decide +kernel
theorem dX4_goDay_126 : decode cX4_goDay 126 = .ok (.iadd, 1) := by decide +kernel
theorem dX4_goDay_127 : decode cX4_goDay 127 = .ok (.putfield 85, 3) := by decide +kernel
theorem dX4_goDay_130 : decode cX4_goDay 130 = .ok (.iload_n 1, 1) := by decide +kernel
theorem dX4_goDay_131 : decode cX4_goDay 131 = .ok (.ireturn, 1) := by decide +kernel
theorem dX4_keep_0 : decode cX4_keep 0 = .ok (.aload_n 0, 1) := by decide +kernel
theorem dX4_keep_1 : decode cX4_keep 1 = .ok (.getfield 7, 3) := by decide +kernel
theorem dX4_keep_4 : decode cX4_keep 4 = .ok (.iconst 3, 1) := by decide +kernel
theorem dX4_keep_5 : decode cX4_keep 5 = .ok (.iaload, 1) := by decide +kernel
theorem dX4_keep_6 : decode cX4_keep 6 = .ok (.bipush 8, 2) := by decide +kernel
theorem dX4_keep_8 : decode cX4_keep 8 = .ok (.if_icmp .ne 43, 3) := by decide +kernel
theorem dX4_keep_11 : decode cX4_keep 11 = .ok (.iconst 0, 1) := by decide +kernel
theorem dX4_keep_12 : decode cX4_keep 12 = .ok (.istore_n 1, 1) := by decide +kernel
theorem dX4_keep_13 : decode cX4_keep 13 = .ok (.iload_n 1, 1) := by decide +kernel
theorem dX4_keep_14 : decode cX4_keep 14 = .ok (.bipush 77, 2) := by decide +kernel
theorem dX4_keep_16 : decode cX4_keep 16 = .ok (.if_icmp .ge 27, 3) := by decide +kernel
theorem dX4_keep_19 : decode cX4_keep 19 = .ok (.aload_n 0, 1) := by decide +kernel
theorem dX4_keep_20 : decode cX4_keep 20 = .ok (.getfield 7, 3) := by decide +kernel
theorem dX4_keep_23 : decode cX4_keep 23 = .ok (.bipush 52, 2) := by decide +kernel
theorem dX4_keep_25 : decode cX4_keep 25 = .ok (.iload_n 1, 1) := by decide +kernel
theorem dX4_keep_26 : decode cX4_keep 26 = .ok (.iadd, 1) := by decide +kernel
theorem dX4_keep_27 : decode cX4_keep 27 = .ok (.aload_n 0, 1) := by decide +kernel
theorem dX4_keep_28 : decode cX4_keep 28 = .ok (.getfield 7, 3) := by decide +kernel
theorem dX4_keep_31 : decode cX4_keep 31 = .ok (.bipush 63, 2) := by decide +kernel
theorem dX4_keep_33 : decode cX4_keep 33 = .ok (.iload_n 1, 1) := by decide +kernel
theorem dX4_keep_34 : decode cX4_keep 34 = .ok (.iadd, 1) := by decide +kernel
theorem dX4_keep_35 : decode cX4_keep 35 = .ok (.iaload, 1) := by decide +kernel
theorem dX4_keep_36 : decode cX4_keep 36 = .ok (.iastore, 1) := by decide +kernel
theorem dX4_keep_37 : decode cX4_keep 37 = .ok (.iinc 1 1, 3) := by decide +kernel
theorem dX4_keep_40 : decode cX4_keep 40 = .ok (.goto (-27), 3) := by decide +kernel
theorem dX4_keep_43 : decode cX4_keep 43 = .ok (.aload_n 0, 1) := by decide +kernel
theorem dX4_keep_44 : decode cX4_keep 44 = .ok (.getfield 7, 3) := by decide +kernel
theorem dX4_keep_47 : decode cX4_keep 47 = .ok (.iconst 3, 1) := by decide +kernel
theorem dX4_keep_48 : decode cX4_keep 48 = .ok (.bipush 7, 2) := by decide +kernel
theorem dX4_keep_50 : decode cX4_keep 50 = .ok (.iastore, 1) := by decide +kernel
theorem dX4_keep_51 : decode cX4_keep 51 = .ok (.iconst 0, 1) := by decide +kernel
theorem dX4_keep_52 : decode cX4_keep 52 = .ok (.istore_n 1, 1) := by decide +kernel
theorem dX4_keep_53 : decode cX4_keep 53 = .ok (.iload_n 1, 1) := by decide +kernel
theorem dX4_keep_54 : decode cX4_keep 54 = .ok (.bipush 11, 2) := by decide +kernel
theorem dX4_keep_56 : decode cX4_keep 56 = .ok (.if_icmp .ge 37, 3) := by decide +kernel
theorem dX4_keep_59 : decode cX4_keep 59 = .ok (.aload_n 0, 1) := by decide +kernel
theorem dX4_keep_60 : decode cX4_keep 60 = .ok (.getfield 7, 3) := by decide +kernel
theorem dX4_keep_63 : decode cX4_keep 63 = .ok (.bipush 52, 2) := by decide +kernel
theorem dX4_keep_65 : decode cX4_keep 65 = .ok (.bipush 11, 2) := by decide +kernel
theorem dX4_keep_67 : decode cX4_keep 67 = .ok (.aload_n 0, 1) := by decide +kernel
theorem dX4_keep_68 : decode cX4_keep 68 = .ok (.getfield 7, 3) := by decide +kernel
theorem dX4_keep_71 : decode cX4_keep 71 = .ok (.iconst 3, 1) := by decide +kernel
theorem dX4_keep_72 : decode cX4_keep 72 = .ok (.iaload, 1) := by decide +kernel
theorem dX4_keep_73 : decode cX4_keep 73 = .ok (.imul, 1) := by decide +kernel
theorem dX4_keep_74 : decode cX4_keep 74 = .ok (.iadd, 1) := by decide +kernel
theorem dX4_keep_75 : decode cX4_keep 75 = .ok (.iload_n 1, 1) := by decide +kernel
theorem dX4_keep_76 : decode cX4_keep 76 = .ok (.iadd, 1) := by decide +kernel
theorem dX4_keep_77 : decode cX4_keep 77 = .ok (.aload_n 0, 1) := by decide +kernel
theorem dX4_keep_78 : decode cX4_keep 78 = .ok (.getfield 7, 3) := by decide +kernel
theorem dX4_keep_81 : decode cX4_keep 81 = .ok (.bipush 11, 2) := by decide +kernel
theorem dX4_keep_83 : decode cX4_keep 83 = .ok (.iload_n 1, 1) := by decide +kernel
theorem dX4_keep_84 : decode cX4_keep 84 = .ok (.iadd, 1) := by decide +kernel
theorem dX4_keep_85 : decode cX4_keep 85 = .ok (.iaload, 1) := by decide +kernel
theorem dX4_keep_86 : decode cX4_keep 86 = .ok (.iastore, 1) := by decide +kernel
theorem dX4_keep_87 : decode cX4_keep 87 = .ok (.iinc 1 1, 3) := by decide +kernel
theorem dX4_keep_90 : decode cX4_keep 90 = .ok (.goto (-37), 3) := by decide +kernel
theorem dX4_keep_93 : decode cX4_keep 93 = .ok (.aload_n 0, 1) := by decide +kernel
theorem dX4_keep_94 : decode cX4_keep 94 = .ok (.getfield 7, 3) := by decide +kernel
theorem dX4_keep_97 : decode cX4_keep 97 = .ok (.iconst 3, 1) := by decide +kernel
theorem dX4_keep_98 : decode cX4_keep 98 = .ok (.dup2, 1) := by decide +kernel
theorem dX4_keep_99 : decode cX4_keep 99 = .ok (.iaload, 1) := by decide +kernel
theorem dX4_keep_100 : decode cX4_keep 100 = .ok (.iconst 1, 1) := by decide +kernel
theorem dX4_keep_101 : decode cX4_keep 101 = .ok (.iadd, 1) := by decide +kernel
theorem dX4_keep_102 : decode cX4_keep 102 = .ok (.iastore, 1) := by decide +kernel
theorem dX4_keep_103 : decode cX4_keep 103 = .ok (.return_, 1) := by decide +kernel
theorem dX4_turn_0 : decode cX4_turn 0 = .ok (.aload_n 0, 1) := by decide +kernel
theorem dX4_turn_1 : decode cX4_turn 1 = .ok (.getfield 7, 3) := by decide +kernel
theorem dX4_turn_4 : decode cX4_turn 4 = .ok (.iload_n 1, 1) := by decide +kernel
theorem dX4_turn_5 : decode cX4_turn 5 = .ok (.iaload, 1) := by decide +kernel
theorem dX4_turn_6 : decode cX4_turn 6 = .ok (.iload_n 2, 1) := by decide +kernel
theorem dX4_turn_7 : decode cX4_turn 7 = .ok (.ishr, 1) := by decide +kernel
theorem dX4_turn_8 : decode cX4_turn 8 = .ok (.iconst 1, 1) := by decide +kernel
theorem dX4_turn_9 : decode cX4_turn 9 = .ok (.iand, 1) := by decide +kernel
theorem dX4_turn_10 : decode cX4_turn 10 = .ok (.istore 4, 2) := by decide +kernel
theorem dX4_turn_12 : decode cX4_turn 12 = .ok (.aload_n 0, 1) := by decide +kernel
theorem dX4_turn_13 : decode cX4_turn 13 = .ok (.invokevirtual 110, 3) := by decide +kernel
theorem dX4_turn_16 : decode cX4_turn 16 = .ok (.aload_n 0, 1) := by decide +kernel
theorem dX4_turn_17 : decode cX4_turn 17 = .ok (.getfield 7, 3) := by decide +kernel
theorem dX4_turn_20 : decode cX4_turn 20 = .ok (.iload_n 1, 1) := by decide +kernel
theorem dX4_turn_21 : decode cX4_turn 21 = .ok (.iload_n 3, 1) := by decide +kernel
theorem dX4_turn_22 : decode cX4_turn 22 = .ok (.iconst 1, 1) := by decide +kernel
theorem dX4_turn_23 : decode cX4_turn 23 = .ok (.if_icmp .ne 16, 3) := by decide +kernel
theorem dX4_turn_26 : decode cX4_turn 26 = .ok (.aload_n 0, 1) := by decide +kernel
theorem dX4_turn_27 : decode cX4_turn 27 = .ok (.getfield 7, 3) := by decide +kernel
theorem dX4_turn_30 : decode cX4_turn 30 = .ok (.iload_n 1, 1) := by decide +kernel
theorem dX4_turn_31 : decode cX4_turn 31 = .ok (.iaload, 1) := by decide +kernel
theorem dX4_turn_32 : decode cX4_turn 32 = .ok (.iconst 1, 1) := by decide +kernel
theorem dX4_turn_33 : decode cX4_turn 33 = .ok (.iload_n 2, 1) := by decide +kernel
theorem dX4_turn_34 : decode cX4_turn 34 = .ok (.ishl, 1) := by decide +kernel
theorem dX4_turn_35 : decode cX4_turn 35 = .ok (.ior, 1) := by decide +kernel
theorem dX4_turn_36 : decode cX4_turn 36 = .ok (.goto 15, 3) := by decide +kernel
theorem dX4_turn_39 : decode cX4_turn 39 = .ok (.aload_n 0, 1) := by decide +kernel
theorem dX4_turn_40 : decode cX4_turn 40 = .ok (.getfield 7, 3) := by decide +kernel
theorem dX4_turn_43 : decode cX4_turn 43 = .ok (.iload_n 1, 1) := by decide +kernel
theorem dX4_turn_44 : decode cX4_turn 44 = .ok (.iaload, 1) := by decide +kernel
theorem dX4_turn_45 : decode cX4_turn 45 = .ok (.iconst 1, 1) := by decide +kernel
theorem dX4_turn_46 : decode cX4_turn 46 = .ok (.iload_n 2, 1) := by decide +kernel
theorem dX4_turn_47 : decode cX4_turn 47 = .ok (.ishl, 1) := by decide +kernel
theorem dX4_turn_48 : decode cX4_turn 48 = .ok (.iconst (-1), 1) := by decide +kernel
theorem dX4_turn_49 : decode cX4_turn 49 = .ok (.ixor, 1) := by decide +kernel
theorem dX4_turn_50 : decode cX4_turn 50 = .ok (.iand, 1) := by decide +kernel
theorem dX4_turn_51 : decode cX4_turn 51 = .ok (.iastore, 1) := by decide +kernel
theorem dX4_turn_52 : decode cX4_turn 52 = .ok (.iload 4, 2) := by decide +kernel
theorem dX4_turn_54 : decode cX4_turn 54 = .ok (.ireturn, 1) := by decide +kernel
theorem dX4_list_0 : decode cX4_list 0 = .ok (.aload_n 0, 1) := by decide +kernel
theorem dX4_list_1 : decode cX4_list 1 = .ok (.iload_n 1, 1) := by decide +kernel
theorem dX4_list_2 : decode cX4_list 2 = .ok (.invokevirtual 113, 3) := by decide +kernel
theorem dX4_list_5 : decode cX4_list 5 = .ok (.ifCond .eq 24, 3) := by decide +kernel
theorem dX4_list_8 : decode cX4_list 8 = .ok (.iload_n 2, 1) := by decide +kernel
theorem dX4_list_9 : decode cX4_list 9 = .ok (.i2l, 1) := by decide +kernel
theorem dX4_list_10 : decode cX4_list 10 = .ok (.lconst 0, 1) := by decide +kernel
theorem dX4_list_11 : decode cX4_list 11 = .ok (.lconst 1, 1) := by decide +kernel
theorem dX4_list_12 : decode cX4_list 12 = .ok (.invokestatic 56, 3) := by decide +kernel
theorem dX4_list_15 : decode cX4_list 15 = .ok (.ifCond .eq 14, 3) := by decide +kernel
theorem dX4_list_18 : decode cX4_list 18 = .ok (.aload_n 0, 1) := by decide +kernel
theorem dX4_list_19 : decode cX4_list 19 = .ok (.bipush 18, 2) := by decide +kernel
theorem dX4_list_21 : decode cX4_list 21 = .ok (.iload_n 1, 1) := by decide +kernel
theorem dX4_list_22 : decode cX4_list 22 = .ok (.iload_n 2, 1) := by decide +kernel
theorem dX4_list_23 : decode cX4_list 23 = .ok (.invokevirtual 116, 3) := by decide +kernel
theorem dX4_list_26 : decode cX4_list 26 = .ok (.goto 9, 3) := by decide +kernel
theorem dX4_list_29 : decode cX4_list 29 = .ok (.aload_n 0, 1) := by decide +kernel
theorem dX4_list_30 : decode cX4_list 30 = .ok (.bipush (-2), 2) := by decide +kernel
theorem dX4_list_32 : decode cX4_list 32 = .ok (.invokevirtual 62, 3) := by decide +kernel
theorem dX4_list_35 : decode cX4_list 35 = .ok (.ireturn, 1) := by decide +kernel
theorem dX4_follow_0 : decode cX4_follow 0 = .ok (.aload_n 0, 1) := by decide +kernel
theorem dX4_follow_1 : decode cX4_follow 1 = .ok (.iload_n 1, 1) := by decide +kernel
theorem dX4_follow_2 : decode cX4_follow 2 = .ok (.invokevirtual 113, 3) := by decide +kernel
theorem dX4_follow_5 : decode cX4_follow 5 = .ok (.ifCond .eq 24, 3) := by decide +kernel
theorem dX4_follow_8 : decode cX4_follow 8 = .ok (.iload_n 2, 1) := by decide +kernel
theorem dX4_follow_9 : decode cX4_follow 9 = .ok (.i2l, 1) := by decide +kernel
theorem dX4_follow_10 : decode cX4_follow 10 = .ok (.lconst 0, 1) := by decide +kernel
theorem dX4_follow_11 : decode cX4_follow 11 = .ok (.lconst 1, 1) := by decide +kernel
theorem dX4_follow_12 : decode cX4_follow 12 = .ok (.invokestatic 56, 3) := by decide +kernel
theorem dX4_follow_15 : decode cX4_follow 15 = .ok (.ifCond .eq 14, 3) := by decide +kernel
theorem dX4_follow_18 : decode cX4_follow 18 = .ok (.aload_n 0, 1) := by decide +kernel
theorem dX4_follow_19 : decode cX4_follow 19 = .ok (.bipush 19, 2) := by decide +kernel
theorem dX4_follow_21 : decode cX4_follow 21 = .ok (.iload_n 1, 1) := by decide +kernel
theorem dX4_follow_22 : decode cX4_follow 22 = .ok (.iload_n 2, 1) := by decide +kernel
theorem dX4_follow_23 : decode cX4_follow 23 = .ok (.invokevirtual 116, 3) := by decide +kernel
theorem dX4_follow_26 : decode cX4_follow 26 = .ok (.goto 9, 3) := by decide +kernel
theorem dX4_follow_29 : decode cX4_follow 29 = .ok (.aload_n 0, 1) := by decide +kernel
theorem dX4_follow_30 : decode cX4_follow 30 = .ok (.bipush (-2), 2) := by decide +kernel
theorem dX4_follow_32 : decode cX4_follow 32 = .ok (.invokevirtual 62, 3) := by decide +kernel
theorem dX4_follow_35 : decode cX4_follow 35 = .ok (.ireturn, 1) := by decide +kernel
theorem dX4_day_0 : decode cX4_day 0 = .ok (.iload_n 1, 1) := by decide +kernel
theorem dX4_day_1 : decode cX4_day 1 = .ok (.i2l, 1) := by decide +kernel
theorem dX4_day_2 : decode cX4_day 2 = .ok (.lconst 1, 1) := by decide +kernel
theorem dX4_day_3 : decode cX4_day 3 = .ok (.ldc2_w 120, 3) := by decide +kernel
theorem dX4_day_6 : decode cX4_day 6 = .ok (.invokestatic 56, 3) := by decide +kernel
theorem dX4_day_9 : decode cX4_day 9 = .ok (.ifCond .ne 10, 3) := by decide +kernel
theorem dX4_day_12 : decode cX4_day 12 = .ok (.aload_n 0, 1) := by decide +kernel
theorem dX4_day_13 : decode cX4_day 13 = .ok (.bipush (-2), 2) := by decide +kernel
theorem dX4_day_15 : decode cX4_day 15 = .ok (.invokevirtual 62, 3) := by decide +kernel
theorem dX4_day_18 : decode cX4_day 18 = .ok (.ireturn, 1) := by decide +kernel
theorem dX4_day_19 : decode cX4_day 19 = .ok (.iconst 0, 1) := by decide +kernel
theorem dX4_day_20 : decode cX4_day 20 = .ok (.istore_n 2, 1) := by decide +kernel
theorem dX4_day_21 : decode cX4_day 21 = .ok (.iconst 0, 1) := by decide +kernel
theorem dX4_day_22 : decode cX4_day 22 = .ok (.istore_n 3, 1) := by decide +kernel
theorem dX4_day_23 : decode cX4_day 23 = .ok (.iload_n 3, 1) := by decide +kernel
theorem dX4_day_24 : decode cX4_day 24 = .ok (.iload_n 1, 1) := by decide +kernel
theorem dX4_day_25 : decode cX4_day 25 = .ok (.if_icmp .ge 111, 3) := by decide +kernel
theorem dX4_day_28 : decode cX4_day 28 = .ok (.aload_n 0, 1) := by decide +kernel
theorem dX4_day_29 : decode cX4_day 29 = .ok (.invokevirtual 110, 3) := by decide +kernel
theorem dX4_day_32 : decode cX4_day 32 = .ok (.aload_n 0, 1) := by decide +kernel
theorem dX4_day_33 : decode cX4_day 33 = .ok (.invokevirtual 122, 3) := by decide +kernel
theorem dX4_day_36 : decode cX4_day 36 = .ok (.aload_n 0, 1) := by decide +kernel
theorem dX4_day_37 : decode cX4_day 37 = .ok (.invokevirtual 125, 3) := by decide +kernel
theorem dX4_day_40 : decode cX4_day 40 = .ok (.istore 4, 2) := by decide +kernel
theorem dX4_day_42 : decode cX4_day 42 = .ok (.iload_n 2, 1) := by decide +kernel
theorem dX4_day_43 : decode cX4_day 43 = .ok (.iload 4, 2) := by decide +kernel
theorem dX4_day_45 : decode cX4_day 45 = .ok (.ior, 1) := by decide +kernel
theorem dX4_day_46 : decode cX4_day 46 = .ok (.istore_n 2, 1) := by decide +kernel
theorem dX4_day_47 : decode cX4_day 47 = .ok (.iconst 0, 1) := by decide +kernel
theorem dX4_day_48 : decode cX4_day 48 = .ok (.istore 5, 2) := by decide +kernel
theorem dX4_day_50 : decode cX4_day 50 = .ok (.iload 5, 2) := by decide +kernel
theorem dX4_day_52 : decode cX4_day 52 = .ok (.aload_n 0, 1) := by decide +kernel
theorem dX4_day_53 : decode cX4_day 53 = .ok (.invokevirtual 52, 3) := by decide +kernel
theorem dX4_day_56 : decode cX4_day 56 = .ok (.if_icmp .ge 26, 3) := by decide +kernel
theorem dX4_day_59 : decode cX4_day 59 = .ok (.aload_n 0, 1) := by decide +kernel
theorem dX4_day_60 : decode cX4_day 60 = .ok (.getfield 7, 3) := by decide +kernel
theorem dX4_day_63 : decode cX4_day 63 = .ok (.bipush 11, 2) := by decide +kernel
theorem dX4_day_65 : decode cX4_day 65 = .ok (.iload 5, 2) := by decide +kernel
theorem dX4_day_67 : decode cX4_day 67 = .ok (.iadd, 1) := by decide +kernel
theorem dX4_day_68 : decode cX4_day 68 = .ok (.aload_n 0, 1) := by decide +kernel
theorem dX4_day_69 : decode cX4_day 69 = .ok (.getfield 27, 3) := by decide +kernel
theorem dX4_day_72 : decode cX4_day 72 = .ok (.iload 5, 2) := by decide +kernel
theorem dX4_day_74 : decode cX4_day 74 = .ok (.iaload, 1) := by decide +kernel
theorem dX4_day_75 : decode cX4_day 75 = .ok (.iastore, 1) := by decide +kernel
theorem dX4_day_76 : decode cX4_day 76 = .ok (.iinc 5 1, 3) := by decide +kernel
theorem dX4_day_79 : decode cX4_day 79 = .ok (.goto (-29), 3) := by decide +kernel
theorem dX4_day_82 : decode cX4_day 82 = .ok (.aload_n 0, 1) := by decide +kernel
theorem dX4_day_83 : decode cX4_day 83 = .ok (.getfield 7, 3) := by decide +kernel
theorem dX4_day_86 : decode cX4_day 86 = .ok (.bipush 18, 2) := by decide +kernel
theorem dX4_day_88 : decode cX4_day 88 = .ok (.aload_n 0, 1) := by decide +kernel
theorem dX4_day_89 : decode cX4_day 89 = .ok (.getfield 78, 3) := by decide +kernel
theorem dX4_day_92 : decode cX4_day 92 = .ok (.iastore, 1) := by decide +kernel
theorem dX4_day_93 : decode cX4_day 93 = .ok (.aload_n 0, 1) := by decide +kernel
theorem dX4_day_94 : decode cX4_day 94 = .ok (.getfield 7, 3) := by decide +kernel
theorem dX4_day_97 : decode cX4_day 97 = .ok (.bipush 19, 2) := by decide +kernel
theorem dX4_day_99 : decode cX4_day 99 = .ok (.aload_n 0, 1) := by decide +kernel
theorem dX4_day_100 : decode cX4_day 100 = .ok (.getfield 82, 3) := by decide +kernel
theorem dX4_day_103 : decode cX4_day 103 = .ok (.iastore, 1) := by decide +kernel
theorem dX4_day_104 : decode cX4_day 104 = .ok (.aload_n 0, 1) := by decide +kernel
theorem dX4_day_105 : decode cX4_day 105 = .ok (.getfield 7, 3) := by decide +kernel
theorem dX4_day_108 : decode cX4_day 108 = .ok (.bipush 20, 2) := by decide +kernel
theorem dX4_day_110 : decode cX4_day 110 = .ok (.dup2, 1) := by decide +kernel
theorem dX4_day_111 : decode cX4_day 111 = .ok (.iaload, 1) := by decide +kernel
theorem dX4_day_112 : decode cX4_day 112 = .ok (.iload 4, 2) := by decide +kernel
theorem dX4_day_114 : decode cX4_day 114 = .ok (.invokestatic 128, 3) := by decide +kernel
theorem dX4_day_117 : decode cX4_day 117 = .ok (.iadd, 1) := by decide +kernel
theorem dX4_day_118 : decode cX4_day 118 = .ok (.iastore, 1) := by decide +kernel
theorem dX4_day_119 : decode cX4_day 119 = .ok (.aload_n 0, 1) := by decide +kernel
theorem dX4_day_120 : decode cX4_day 120 = .ok (.getfield 7, 3) := by decide +kernel
theorem dX4_day_123 : decode cX4_day 123 = .ok (.bipush 21, 2) := by decide +kernel
theorem dX4_day_125 : decode cX4_day 125 = .ok (.dup2, 1) := by decide +kernel
theorem dX4_day_126 : decode cX4_day 126 = .ok (.iaload, 1) := by decide +kernel
theorem dX4_day_127 : decode cX4_day 127 = .ok (.iconst 1, 1) := by decide +kernel
theorem dX4_day_128 : decode cX4_day 128 = .ok (.iadd, 1) := by decide +kernel
theorem dX4_day_129 : decode cX4_day 129 = .ok (.iastore, 1) := by decide +kernel
theorem dX4_day_130 : decode cX4_day 130 = .ok (.iinc 3 1, 3) := by decide +kernel
theorem dX4_day_133 : decode cX4_day 133 = .ok (.goto (-110), 3) := by decide +kernel
theorem dX4_day_136 : decode cX4_day 136 = .ok (.iload_n 2, 1) := by decide +kernel
theorem dX4_day_137 : decode cX4_day 137 = .ok (.ireturn, 1) := by decide +kernel
theorem dX4_undo_0 : decode cX4_undo 0 = .ok (.aload_n 0, 1) := by decide +kernel
theorem dX4_undo_1 : decode cX4_undo 1 = .ok (.getfield 7, 3) := by decide +kernel
theorem dX4_undo_4 : decode cX4_undo 4 = .ok (.iconst 3, 1) := by decide +kernel
theorem dX4_undo_5 : decode cX4_undo 5 = .ok (.iaload, 1) := by decide +kernel
theorem dX4_undo_6 : decode cX4_undo 6 = .ok (.ifCond .ne 8, 3) := by decide +kernel
theorem dX4_undo_9 : decode cX4_undo 9 = .ok (.aload_n 0, 1) := by decide +kernel
theorem dX4_undo_10 : decode cX4_undo 10 = .ok (.invokevirtual 131, 3) := by decide +kernel
theorem dX4_undo_13 : decode cX4_undo 13 = .ok (.ireturn, 1) := by decide +kernel
theorem dX4_undo_14 : decode cX4_undo 14 = .ok (.aload_n 0, 1) := by decide +kernel
theorem dX4_undo_15 : decode cX4_undo 15 = .ok (.getfield 7, 3) := by decide +kernel
theorem dX4_undo_18 : decode cX4_undo 18 = .ok (.iconst 3, 1) := by decide +kernel
theorem dX4_undo_19 : decode cX4_undo 19 = .ok (.dup2, 1) := by decide +kernel
theorem dX4_undo_20 : decode cX4_undo 20 = .ok (.iaload, 1) := by decide +kernel
theorem dX4_undo_21 : decode cX4_undo 21 = .ok (.iconst 1, 1) := by decide +kernel
theorem dX4_undo_22 : decode cX4_undo 22 = .ok (.isub, 1) := by decide +kernel
theorem dX4_undo_23 : decode cX4_undo 23 = .ok (.iastore, 1) := by decide +kernel
theorem dX4_undo_24 : decode cX4_undo 24 = .ok (.iconst 0, 1) := by decide +kernel
theorem dX4_undo_25 : decode cX4_undo 25 = .ok (.istore_n 1, 1) := by decide +kernel
theorem dX4_undo_26 : decode cX4_undo 26 = .ok (.iload_n 1, 1) := by decide +kernel
theorem dX4_undo_27 : decode cX4_undo 27 = .ok (.bipush 11, 2) := by decide +kernel
theorem dX4_undo_29 : decode cX4_undo 29 = .ok (.if_icmp .ge 37, 3) := by decide +kernel
theorem dX4_undo_32 : decode cX4_undo 32 = .ok (.aload_n 0, 1) := by decide +kernel
theorem dX4_undo_33 : decode cX4_undo 33 = .ok (.getfield 7, 3) := by decide +kernel
theorem dX4_undo_36 : decode cX4_undo 36 = .ok (.bipush 11, 2) := by decide +kernel
theorem dX4_undo_38 : decode cX4_undo 38 = .ok (.iload_n 1, 1) := by decide +kernel
theorem dX4_undo_39 : decode cX4_undo 39 = .ok (.iadd, 1) := by decide +kernel
theorem dX4_undo_40 : decode cX4_undo 40 = .ok (.aload_n 0, 1) := by decide +kernel
theorem dX4_undo_41 : decode cX4_undo 41 = .ok (.getfield 7, 3) := by decide +kernel
theorem dX4_undo_44 : decode cX4_undo 44 = .ok (.bipush 52, 2) := by decide +kernel
theorem dX4_undo_46 : decode cX4_undo 46 = .ok (.bipush 11, 2) := by decide +kernel
theorem dX4_undo_48 : decode cX4_undo 48 = .ok (.aload_n 0, 1) := by decide +kernel
theorem dX4_undo_49 : decode cX4_undo 49 = .ok (.getfield 7, 3) := by decide +kernel
theorem dX4_undo_52 : decode cX4_undo 52 = .ok (.iconst 3, 1) := by decide +kernel
theorem dX4_undo_53 : decode cX4_undo 53 = .ok (.iaload, 1) := by decide +kernel
theorem dX4_undo_54 : decode cX4_undo 54 = .ok (.imul, 1) := by decide +kernel
theorem dX4_undo_55 : decode cX4_undo 55 = .ok (.iadd, 1) := by decide +kernel
theorem dX4_undo_56 : decode cX4_undo 56 = .ok (.iload_n 1, 1) := by decide +kernel
theorem dX4_undo_57 : decode cX4_undo 57 = .ok (.iadd, 1) := by decide +kernel
theorem dX4_undo_58 : decode cX4_undo 58 = .ok (.iaload, 1) := by decide +kernel
theorem dX4_undo_59 : decode cX4_undo 59 = .ok (.iastore, 1) := by decide +kernel
theorem dX4_undo_60 : decode cX4_undo 60 = .ok (.iinc 1 1, 3) := by decide +kernel
theorem dX4_undo_63 : decode cX4_undo 63 = .ok (.goto (-37), 3) := by decide +kernel
theorem dX4_undo_66 : decode cX4_undo 66 = .ok (.aload_n 0, 1) := by decide +kernel
theorem dX4_undo_67 : decode cX4_undo 67 = .ok (.getfield 7, 3) := by decide +kernel
theorem dX4_undo_70 : decode cX4_undo 70 = .ok (.bipush 21, 2) := by decide +kernel
theorem dX4_undo_72 : decode cX4_undo 72 = .ok (.iaload, 1) := by decide +kernel
theorem dX4_undo_73 : decode cX4_undo 73 = .ok (.ireturn, 1) := by decide +kernel
theorem dX4_of_0 : decode cX4_of 0 = .ok (.aload_n 0, 1) := by decide +kernel
theorem dX4_of_1 : decode cX4_of 1 = .ok (.iload_n 1, 1) := by decide +kernel
theorem dX4_of_2 : decode cX4_of 2 = .ok (.invokevirtual 113, 3) := by decide +kernel
theorem dX4_of_5 : decode cX4_of 5 = .ok (.ifCond .eq 15, 3) := by decide +kernel
theorem dX4_of_8 : decode cX4_of 8 = .ok (.iload_n 2, 1) := by decide +kernel
theorem dX4_of_9 : decode cX4_of 9 = .ok (.i2l, 1) := by decide +kernel
theorem dX4_of_10 : decode cX4_of 10 = .ok (.lconst 0, 1) := by decide +kernel
theorem dX4_of_11 : decode cX4_of 11 = .ok (.ldc2_w 134, 3) := by decide +kernel
theorem dX4_of_14 : decode cX4_of 14 = .ok (.invokestatic 56, 3) := by decide +kernel
theorem dX4_of_17 : decode cX4_of 17 = .ok (.ifCond .ne 10, 3) := by decide +kernel
theorem dX4_of_20 : decode cX4_of 20 = .ok (.aload_n 0, 1) := by decide +kernel
theorem dX4_of_21 : decode cX4_of 21 = .ok (.bipush (-2), 2) := by decide +kernel
theorem dX4_of_23 : decode cX4_of 23 = .ok (.invokevirtual 62, 3) := by decide +kernel
theorem dX4_of_26 : decode cX4_of 26 = .ok (.ireturn, 1) := by decide +kernel
theorem dX4_of_27 : decode cX4_of 27 = .ok (.aload_n 0, 1) := by decide +kernel
theorem dX4_of_28 : decode cX4_of 28 = .ok (.invokevirtual 122, 3) := by decide +kernel
theorem dX4_of_31 : decode cX4_of 31 = .ok (.iload_n 2, 1) := by decide +kernel
theorem dX4_of_32 : decode cX4_of 32 = .ok (.tableswitch 63 0 3 #[32, 38, 45, 54], 32) := by decide +kernel
theorem dX4_of_64 : decode cX4_of 64 = .ok (.aload_n 0, 1) := by decide +kernel
theorem dX4_of_65 : decode cX4_of 65 = .ok (.iload_n 1, 1) := by decide +kernel
theorem dX4_of_66 : decode cX4_of 66 = .ok (.invokevirtual 88, 3) := by decide +kernel
theorem dX4_of_69 : decode cX4_of 69 = .ok (.ireturn, 1) := by decide +kernel
theorem dX4_of_70 : decode cX4_of 70 = .ok (.aload_n 0, 1) := by decide +kernel
theorem dX4_of_71 : decode cX4_of 71 = .ok (.getfield 27, 3) := by decide +kernel
theorem dX4_of_74 : decode cX4_of 74 = .ok (.iload_n 1, 1) := by decide +kernel
theorem dX4_of_75 : decode cX4_of 75 = .ok (.iaload, 1) := by decide +kernel
theorem dX4_of_76 : decode cX4_of 76 = .ok (.ireturn, 1) := by decide +kernel
theorem dX4_of_77 : decode cX4_of 77 = .ok (.aload_n 0, 1) := by decide +kernel
theorem dX4_of_78 : decode cX4_of 78 = .ok (.getfield 78, 3) := by decide +kernel
theorem dX4_of_81 : decode cX4_of 81 = .ok (.iload_n 1, 1) := by decide +kernel
theorem dX4_of_82 : decode cX4_of 82 = .ok (.ishr, 1) := by decide +kernel
theorem dX4_of_83 : decode cX4_of 83 = .ok (.iconst 1, 1) := by decide +kernel
theorem dX4_of_84 : decode cX4_of 84 = .ok (.iand, 1) := by decide +kernel
theorem dX4_of_85 : decode cX4_of 85 = .ok (.ireturn, 1) := by decide +kernel
theorem dX4_of_86 : decode cX4_of 86 = .ok (.aload_n 0, 1) := by decide +kernel
theorem dX4_of_87 : decode cX4_of 87 = .ok (.getfield 82, 3) := by decide +kernel
theorem dX4_of_90 : decode cX4_of 90 = .ok (.iload_n 1, 1) := by decide +kernel
theorem dX4_of_91 : decode cX4_of 91 = .ok (.ishr, 1) := by decide +kernel
theorem dX4_of_92 : decode cX4_of 92 = .ok (.iconst 1, 1) := by decide +kernel
theorem dX4_of_93 : decode cX4_of 93 = .ok (.iand, 1) := by decide +kernel
theorem dX4_of_94 : decode cX4_of 94 = .ok (.ireturn, 1) := by decide +kernel
theorem dX4_of_95 : decode cX4_of 95 = .ok (.aload_n 0, 1) := by decide +kernel
theorem dX4_of_96 : decode cX4_of 96 = .ok (.iload_n 1, 1) := by decide +kernel
theorem dX4_of_97 : decode cX4_of 97 = .ok (.invokevirtual 99, 3) := by decide +kernel
theorem dX4_of_100 : decode cX4_of 100 = .ok (.ireturn, 1) := by decide +kernel
theorem dX4_then_0 : decode cX4_then 0 = .ok (.aload_n 0, 1) := by decide +kernel
theorem dX4_then_1 : decode cX4_then 1 = .ok (.iload_n 1, 1) := by decide +kernel
theorem dX4_then_2 : decode cX4_then 2 = .ok (.invokevirtual 113, 3) := by decide +kernel
theorem dX4_then_5 : decode cX4_then 5 = .ok (.ifCond .eq 25, 3) := by decide +kernel
theorem dX4_then_8 : decode cX4_then 8 = .ok (.iload_n 2, 1) := by decide +kernel
theorem dX4_then_9 : decode cX4_then 9 = .ok (.i2l, 1) := by decide +kernel
theorem dX4_then_10 : decode cX4_then 10 = .ok (.lconst 0, 1) := by decide +kernel
theorem dX4_then_11 : decode cX4_then 11 = .ok (.ldc2_w 120, 3) := by decide +kernel
theorem dX4_then_14 : decode cX4_then 14 = .ok (.invokestatic 56, 3) := by decide +kernel
theorem dX4_then_17 : decode cX4_then 17 = .ok (.ifCond .eq 13, 3) := by decide +kernel
theorem dX4_then_20 : decode cX4_then 20 = .ok (.iload_n 3, 1) := by decide +kernel
theorem dX4_then_21 : decode cX4_then 21 = .ok (.i2l, 1) := by decide +kernel
theorem dX4_then_22 : decode cX4_then 22 = .ok (.lconst 0, 1) := by decide +kernel
theorem dX4_then_23 : decode cX4_then 23 = .ok (.lconst 1, 1) := by decide +kernel
theorem dX4_then_24 : decode cX4_then 24 = .ok (.invokestatic 56, 3) := by decide +kernel
theorem dX4_then_27 : decode cX4_then 27 = .ok (.ifCond .ne 10, 3) := by decide +kernel
theorem dX4_then_30 : decode cX4_then 30 = .ok (.aload_n 0, 1) := by decide +kernel
theorem dX4_then_31 : decode cX4_then 31 = .ok (.bipush (-2), 2) := by decide +kernel
theorem dX4_then_33 : decode cX4_then 33 = .ok (.invokevirtual 62, 3) := by decide +kernel
theorem dX4_then_36 : decode cX4_then 36 = .ok (.ireturn, 1) := by decide +kernel
theorem dX4_then_37 : decode cX4_then 37 = .ok (.aload_n 0, 1) := by decide +kernel
theorem dX4_then_38 : decode cX4_then 38 = .ok (.invokevirtual 122, 3) := by decide +kernel
theorem dX4_then_41 : decode cX4_then 41 = .ok (.iconst 0, 1) := by decide +kernel
theorem dX4_then_42 : decode cX4_then 42 = .ok (.istore 4, 2) := by decide +kernel
theorem dX4_then_44 : decode cX4_then 44 = .ok (.iload 4, 2) := by decide +kernel
theorem dX4_then_46 : decode cX4_then 46 = .ok (.iload_n 2, 1) := by decide +kernel
theorem dX4_then_47 : decode cX4_then 47 = .ok (.if_icmp .ge 15, 3) := by decide +kernel
theorem dX4_then_50 : decode cX4_then 50 = .ok (.aload_n 0, 1) := by decide +kernel
theorem dX4_then_51 : decode cX4_then 51 = .ok (.invokevirtual 125, 3) := by decide +kernel
theorem dX4_then_54 : decode cX4_then 54 = .ok (.istore 5, 2) := by decide +kernel
theorem dX4_then_56 : decode cX4_then 56 = .ok (.iinc 4 1, 3) := by decide +kernel
theorem dX4_then_59 : decode cX4_then 59 = .ok (.goto (-15), 3) := by decide +kernel
theorem dX4_then_62 : decode cX4_then 62 = .ok (.iload_n 3, 1) := by decide +kernel
theorem dX4_then_63 : decode cX4_then 63 = .ok (.ifCond .ne 11, 3) := by decide +kernel
theorem dX4_then_66 : decode cX4_then 66 = .ok (.aload_n 0, 1) := by decide +kernel
theorem dX4_then_67 : decode cX4_then 67 = .ok (.iload_n 1, 1) := by decide +kernel
theorem dX4_then_68 : decode cX4_then 68 = .ok (.invokevirtual 99, 3) := by decide +kernel
theorem dX4_then_71 : decode cX4_then 71 = .ok (.goto 9, 3) := by decide +kernel
theorem dX4_then_74 : decode cX4_then 74 = .ok (.aload_n 0, 1) := by decide +kernel
theorem dX4_then_75 : decode cX4_then 75 = .ok (.getfield 27, 3) := by decide +kernel
theorem dX4_then_78 : decode cX4_then 78 = .ok (.iload_n 1, 1) := by decide +kernel
theorem dX4_then_79 : decode cX4_then 79 = .ok (.iaload, 1) := by decide +kernel
theorem dX4_then_80 : decode cX4_then 80 = .ok (.ireturn, 1) := by decide +kernel
theorem dX4_when_0 : decode cX4_when 0 = .ok (.aload_n 0, 1) := by decide +kernel
theorem dX4_when_1 : decode cX4_when 1 = .ok (.iload_n 1, 1) := by decide +kernel
theorem dX4_when_2 : decode cX4_when 2 = .ok (.invokevirtual 113, 3) := by decide +kernel
theorem dX4_when_5 : decode cX4_when 5 = .ok (.ifCond .ne 10, 3) := by decide +kernel
theorem dX4_when_8 : decode cX4_when 8 = .ok (.aload_n 0, 1) := by decide +kernel
theorem dX4_when_9 : decode cX4_when 9 = .ok (.bipush (-2), 2) := by decide +kernel
theorem dX4_when_11 : decode cX4_when 11 = .ok (.invokevirtual 62, 3) := by decide +kernel
theorem dX4_when_14 : decode cX4_when 14 = .ok (.ireturn, 1) := by decide +kernel
theorem dX4_when_15 : decode cX4_when 15 = .ok (.aload_n 0, 1) := by decide +kernel
theorem dX4_when_16 : decode cX4_when 16 = .ok (.invokevirtual 122, 3) := by decide +kernel
theorem dX4_when_19 : decode cX4_when 19 = .ok (.iconst 1, 1) := by decide +kernel
theorem dX4_when_20 : decode cX4_when 20 = .ok (.istore_n 2, 1) := by decide +kernel
theorem dX4_when_21 : decode cX4_when 21 = .ok (.iload_n 2, 1) := by decide +kernel
theorem dX4_when_22 : decode cX4_when 22 = .ok (.bipush 60, 2) := by decide +kernel
theorem dX4_when_24 : decode cX4_when 24 = .ok (.if_icmp .gt 22, 3) := by decide +kernel
theorem dX4_when_27 : decode cX4_when 27 = .ok (.aload_n 0, 1) := by decide +kernel
theorem dX4_when_28 : decode cX4_when 28 = .ok (.invokevirtual 125, 3) := by decide +kernel
theorem dX4_when_31 : decode cX4_when 31 = .ok (.iload_n 1, 1) := by decide +kernel
theorem dX4_when_32 : decode cX4_when 32 = .ok (.invokestatic 91, 3) := by decide +kernel
theorem dX4_when_35 : decode cX4_when 35 = .ok (.ifCond .eq 5, 3) := by decide +kernel
theorem dX4_when_38 : decode cX4_when 38 = .ok (.iload_n 2, 1) := by decide +kernel
theorem dX4_when_39 : decode cX4_when 39 = .ok (.ireturn, 1) := by decide +kernel
theorem dX4_when_40 : decode cX4_when 40 = .ok (.iinc 2 1, 3) := by decide +kernel
theorem dX4_when_43 : decode cX4_when 43 = .ok (.goto (-22), 3) := by decide +kernel
theorem dX4_when_46 : decode cX4_when 46 = .ok (.iconst (-1), 1) := by decide +kernel
theorem dX4_when_47 : decode cX4_when 47 = .ok (.ireturn, 1) := by decide +kernel
theorem dX4_doesItIn_0 : decode cX4_doesItIn 0 = .ok (.iconst 0, 1) := by decide +kernel
theorem dX4_doesItIn_1 : decode cX4_doesItIn 1 = .ok (.istore 4, 2) := by decide +kernel
theorem dX4_doesItIn_3 : decode cX4_doesItIn 3 = .ok (.aload_n 0, 1) := by decide +kernel
theorem dX4_doesItIn_4 : decode cX4_doesItIn 4 = .ok (.invokevirtual 122, 3) := by decide +kernel
theorem dX4_doesItIn_7 : decode cX4_doesItIn 7 = .ok (.aload_n 0, 1) := by decide +kernel
theorem dX4_doesItIn_8 : decode cX4_doesItIn 8 = .ok (.iconst 0, 1) := by decide +kernel
theorem dX4_doesItIn_9 : decode cX4_doesItIn 9 = .ok (.putfield 78, 3) := by decide +kernel
theorem dX4_doesItIn_12 : decode cX4_doesItIn 12 = .ok (.aload_n 0, 1) := by decide +kernel
theorem dX4_doesItIn_13 : decode cX4_doesItIn 13 = .ok (.iload_n 3, 1) := by decide +kernel
theorem dX4_doesItIn_14 : decode cX4_doesItIn 14 = .ok (.ifCond .eq 9, 3) := by decide +kernel
theorem dX4_doesItIn_17 : decode cX4_doesItIn 17 = .ok (.iconst 1, 1) := by decide +kernel
theorem dX4_doesItIn_18 : decode cX4_doesItIn 18 = .ok (.iload_n 1, 1) := by decide +kernel
theorem dX4_doesItIn_19 : decode cX4_doesItIn 19 = .ok (.ishl, 1) := by decide +kernel
theorem dX4_doesItIn_20 : decode cX4_doesItIn 20 = .ok (.goto 4, 3) := by decide +kernel
theorem dX4_doesItIn_23 : decode cX4_doesItIn 23 = .ok (.iconst 0, 1) := by decide +kernel
theorem dX4_doesItIn_24 : decode cX4_doesItIn 24 = .ok (.putfield 82, 3) := by decide +kernel
theorem dX4_doesItIn_27 : decode cX4_doesItIn 27 = .ok (.iconst 0, 1) := by decide +kernel
theorem dX4_doesItIn_28 : decode cX4_doesItIn 28 = .ok (.istore 5, 2) := by decide +kernel
theorem dX4_doesItIn_30 : decode cX4_doesItIn 30 = .ok (.iload 5, 2) := by decide +kernel
theorem dX4_doesItIn_32 : decode cX4_doesItIn 32 = .ok (.iload_n 2, 1) := by decide +kernel
theorem dX4_doesItIn_33 : decode cX4_doesItIn 33 = .ok (.if_icmp .ge 35, 3) := by decide +kernel
theorem dX4_doesItIn_36 : decode cX4_doesItIn 36 = .ok (.iload 4, 2) := by decide +kernel
theorem dX4_doesItIn_38 : decode cX4_doesItIn 38 = .ok (.ifCond .ne 11, 3) := by decide +kernel
theorem dX4_doesItIn_41 : decode cX4_doesItIn 41 = .ok (.aload_n 0, 1) := by decide +kernel
theorem dX4_doesItIn_42 : decode cX4_doesItIn 42 = .ok (.iload_n 1, 1) := by decide +kernel
theorem dX4_doesItIn_43 : decode cX4_doesItIn 43 = .ok (.invokevirtual 102, 3) := by decide +kernel
theorem dX4_doesItIn_46 : decode cX4_doesItIn 46 = .ok (.ifCond .eq 7, 3) := by decide +kernel
theorem dX4_doesItIn_49 : decode cX4_doesItIn 49 = .ok (.iconst 1, 1) := by decide +kernel
theorem dX4_doesItIn_50 : decode cX4_doesItIn 50 = .ok (.goto 4, 3) := by decide +kernel
theorem dX4_doesItIn_53 : decode cX4_doesItIn 53 = .ok (.iconst 0, 1) := by decide +kernel
theorem dX4_doesItIn_54 : decode cX4_doesItIn 54 = .ok (.istore 4, 2) := by decide +kernel
theorem dX4_doesItIn_56 : decode cX4_doesItIn 56 = .ok (.aload_n 0, 1) := by decide +kernel
theorem dX4_doesItIn_57 : decode cX4_doesItIn 57 = .ok (.invokevirtual 125, 3) := by decide +kernel
theorem dX4_doesItIn_60 : decode cX4_doesItIn 60 = .ok (.istore 6, 2) := by decide +kernel
theorem dX4_doesItIn_62 : decode cX4_doesItIn 62 = .ok (.iinc 5 1, 3) := by decide +kernel
theorem dX4_doesItIn_65 : decode cX4_doesItIn 65 = .ok (.goto (-35), 3) := by decide +kernel
theorem dX4_doesItIn_68 : decode cX4_doesItIn 68 = .ok (.iload 4, 2) := by decide +kernel
theorem dX4_doesItIn_70 : decode cX4_doesItIn 70 = .ok (.ireturn, 1) := by decide +kernel
theorem dX4_lack_0 : decode cX4_lack 0 = .ok (.iconst 0, 1) := by decide +kernel
theorem dX4_lack_1 : decode cX4_lack 1 = .ok (.istore_n 1, 1) := by decide +kernel
theorem dX4_lack_2 : decode cX4_lack 2 = .ok (.iconst 0, 1) := by decide +kernel
theorem dX4_lack_3 : decode cX4_lack 3 = .ok (.istore_n 2, 1) := by decide +kernel
theorem dX4_lack_4 : decode cX4_lack 4 = .ok (.iload_n 2, 1) := by decide +kernel
theorem dX4_lack_5 : decode cX4_lack 5 = .ok (.aload_n 0, 1) := by decide +kernel
theorem dX4_lack_6 : decode cX4_lack 6 = .ok (.invokevirtual 52, 3) := by decide +kernel
theorem dX4_lack_9 : decode cX4_lack 9 = .ok (.if_icmp .ge 41, 3) := by decide +kernel
theorem dX4_lack_12 : decode cX4_lack 12 = .ok (.iload_n 1, 1) := by decide +kernel
theorem dX4_lack_13 : decode cX4_lack 13 = .ok (.aload_n 0, 1) := by decide +kernel
theorem dX4_lack_14 : decode cX4_lack 14 = .ok (.iload_n 2, 1) := by decide +kernel
theorem dX4_lack_15 : decode cX4_lack 15 = .ok (.bipush 30, 2) := by decide +kernel
theorem dX4_lack_17 : decode cX4_lack 17 = .ok (.iconst 1, 1) := by decide +kernel
theorem dX4_lack_18 : decode cX4_lack 18 = .ok (.invokevirtual 136, 3) := by decide +kernel
theorem dX4_lack_21 : decode cX4_lack 21 = .ok (.ifCond .eq 20, 3) := by decide +kernel
theorem dX4_lack_24 : decode cX4_lack 24 = .ok (.aload_n 0, 1) := by decide +kernel
theorem dX4_lack_25 : decode cX4_lack 25 = .ok (.iload_n 2, 1) := by decide +kernel
theorem dX4_lack_26 : decode cX4_lack 26 = .ok (.bipush 30, 2) := by decide +kernel
theorem dX4_lack_28 : decode cX4_lack 28 = .ok (.iconst 0, 1) := by decide +kernel
theorem dX4_lack_29 : decode cX4_lack 29 = .ok (.invokevirtual 136, 3) := by decide +kernel
theorem dX4_lack_32 : decode cX4_lack 32 = .ok (.ifCond .ne 9, 3) := by decide +kernel
theorem dX4_lack_35 : decode cX4_lack 35 = .ok (.iconst 1, 1) := by decide +kernel
theorem dX4_lack_36 : decode cX4_lack 36 = .ok (.iload_n 2, 1) := by decide +kernel
theorem dX4_lack_37 : decode cX4_lack 37 = .ok (.ishl, 1) := by decide +kernel
theorem dX4_lack_38 : decode cX4_lack 38 = .ok (.goto 4, 3) := by decide +kernel
theorem dX4_lack_41 : decode cX4_lack 41 = .ok (.iconst 0, 1) := by decide +kernel
theorem dX4_lack_42 : decode cX4_lack 42 = .ok (.ior, 1) := by decide +kernel
theorem dX4_lack_43 : decode cX4_lack 43 = .ok (.istore_n 1, 1) := by decide +kernel
theorem dX4_lack_44 : decode cX4_lack 44 = .ok (.iinc 2 1, 3) := by decide +kernel
theorem dX4_lack_47 : decode cX4_lack 47 = .ok (.goto (-43), 3) := by decide +kernel
theorem dX4_lack_50 : decode cX4_lack 50 = .ok (.iload_n 1, 1) := by decide +kernel
theorem dX4_lack_51 : decode cX4_lack 51 = .ok (.ireturn, 1) := by decide +kernel
theorem dX4_comesTrue_0 : decode cX4_comesTrue 0 = .ok (.iload_n 1, 1) := by decide +kernel
theorem dX4_comesTrue_1 : decode cX4_comesTrue 1 = .ok (.i2l, 1) := by decide +kernel
theorem dX4_comesTrue_2 : decode cX4_comesTrue 2 = .ok (.lconst 1, 1) := by decide +kernel
theorem dX4_comesTrue_3 : decode cX4_comesTrue 3 = .ok (.ldc2_w 66, 3) := by decide +kernel
theorem dX4_comesTrue_6 : decode cX4_comesTrue 6 = .ok (.invokestatic 56, 3) := by decide +kernel
theorem dX4_comesTrue_9 : decode cX4_comesTrue 9 = .ok (.ifCond .eq 13, 3) := by decide +kernel
theorem dX4_comesTrue_12 : decode cX4_comesTrue 12 = .ok (.iload_n 2, 1) := by decide +kernel
theorem dX4_comesTrue_13 : decode cX4_comesTrue 13 = .ok (.i2l, 1) := by decide +kernel
theorem dX4_comesTrue_14 : decode cX4_comesTrue 14 = .ok (.lconst 0, 1) := by decide +kernel
theorem dX4_comesTrue_15 : decode cX4_comesTrue 15 = .ok (.lconst 1, 1) := by decide +kernel
theorem dX4_comesTrue_16 : decode cX4_comesTrue 16 = .ok (.invokestatic 56, 3) := by decide +kernel
theorem dX4_comesTrue_19 : decode cX4_comesTrue 19 = .ok (.ifCond .ne 10, 3) := by decide +kernel
theorem dX4_comesTrue_22 : decode cX4_comesTrue 22 = .ok (.aload_n 0, 1) := by decide +kernel
theorem dX4_comesTrue_23 : decode cX4_comesTrue 23 = .ok (.bipush (-2), 2) := by decide +kernel
theorem dX4_comesTrue_25 : decode cX4_comesTrue 25 = .ok (.invokevirtual 62, 3) := by decide +kernel
theorem dX4_comesTrue_28 : decode cX4_comesTrue 28 = .ok (.ireturn, 1) := by decide +kernel
theorem dX4_comesTrue_29 : decode cX4_comesTrue 29 = .ok (.iconst 0, 1) := by decide +kernel
theorem dX4_comesTrue_30 : decode cX4_comesTrue 30 = .ok (.istore_n 3, 1) := by decide +kernel
theorem dX4_comesTrue_31 : decode cX4_comesTrue 31 = .ok (.iconst 0, 1) := by decide +kernel
theorem dX4_comesTrue_32 : decode cX4_comesTrue 32 = .ok (.istore 4, 2) := by decide +kernel
theorem dX4_comesTrue_34 : decode cX4_comesTrue 34 = .ok (.iconst 0, 1) := by decide +kernel
theorem dX4_comesTrue_35 : decode cX4_comesTrue 35 = .ok (.istore 5, 2) := by decide +kernel
theorem dX4_comesTrue_37 : decode cX4_comesTrue 37 = .ok (.iload 5, 2) := by decide +kernel
theorem dX4_comesTrue_39 : decode cX4_comesTrue 39 = .ok (.aload_n 0, 1) := by decide +kernel
theorem dX4_comesTrue_40 : decode cX4_comesTrue 40 = .ok (.invokevirtual 52, 3) := by decide +kernel
theorem dX4_comesTrue_43 : decode cX4_comesTrue 43 = .ok (.if_icmp .ge 55, 3) := by decide +kernel
theorem dX4_comesTrue_46 : decode cX4_comesTrue 46 = .ok (.iload_n 3, 1) := by decide +kernel
theorem dX4_comesTrue_47 : decode cX4_comesTrue 47 = .ok (.aload_n 0, 1) := by decide +kernel
theorem dX4_comesTrue_48 : decode cX4_comesTrue 48 = .ok (.iload 5, 2) := by decide +kernel
theorem dX4_comesTrue_50 : decode cX4_comesTrue 50 = .ok (.iload_n 1, 1) := by decide +kernel
theorem dX4_comesTrue_51 : decode cX4_comesTrue 51 = .ok (.iconst 1, 1) := by decide +kernel
theorem dX4_comesTrue_52 : decode cX4_comesTrue 52 = .ok (.invokevirtual 136, 3) := by decide +kernel
theorem dX4_comesTrue_55 : decode cX4_comesTrue 55 = .ok (.ifCond .eq 10, 3) := by decide +kernel
theorem dX4_comesTrue_58 : decode cX4_comesTrue 58 = .ok (.iconst 1, 1) := by decide +kernel
theorem dX4_comesTrue_59 : decode cX4_comesTrue 59 = .ok (.iload 5, 2) := by decide +kernel
theorem dX4_comesTrue_61 : decode cX4_comesTrue 61 = .ok (.ishl, 1) := by decide +kernel
theorem dX4_comesTrue_62 : decode cX4_comesTrue 62 = .ok (.goto 4, 3) := by decide +kernel
theorem dX4_comesTrue_65 : decode cX4_comesTrue 65 = .ok (.iconst 0, 1) := by decide +kernel
theorem dX4_comesTrue_66 : decode cX4_comesTrue 66 = .ok (.ior, 1) := by decide +kernel
theorem dX4_comesTrue_67 : decode cX4_comesTrue 67 = .ok (.istore_n 3, 1) := by decide +kernel
theorem dX4_comesTrue_68 : decode cX4_comesTrue 68 = .ok (.iload 4, 2) := by decide +kernel
theorem dX4_comesTrue_70 : decode cX4_comesTrue 70 = .ok (.aload_n 0, 1) := by decide +kernel
theorem dX4_comesTrue_71 : decode cX4_comesTrue 71 = .ok (.iload 5, 2) := by decide +kernel
theorem dX4_comesTrue_73 : decode cX4_comesTrue 73 = .ok (.iload_n 1, 1) := by decide +kernel
theorem dX4_comesTrue_74 : decode cX4_comesTrue 74 = .ok (.iconst 0, 1) := by decide +kernel
theorem dX4_comesTrue_75 : decode cX4_comesTrue 75 = .ok (.invokevirtual 136, 3) := by decide +kernel
theorem dX4_comesTrue_78 : decode cX4_comesTrue 78 = .ok (.ifCond .eq 10, 3) := by decide +kernel
theorem dX4_comesTrue_81 : decode cX4_comesTrue 81 = .ok (.iconst 1, 1) := by decide +kernel
theorem dX4_comesTrue_82 : decode cX4_comesTrue 82 = .ok (.iload 5, 2) := by decide +kernel
theorem dX4_comesTrue_84 : decode cX4_comesTrue 84 = .ok (.ishl, 1) := by decide +kernel
theorem dX4_comesTrue_85 : decode cX4_comesTrue 85 = .ok (.goto 4, 3) := by decide +kernel
theorem dX4_comesTrue_88 : decode cX4_comesTrue 88 = .ok (.iconst 0, 1) := by decide +kernel
theorem dX4_comesTrue_89 : decode cX4_comesTrue 89 = .ok (.ior, 1) := by decide +kernel
theorem dX4_comesTrue_90 : decode cX4_comesTrue 90 = .ok (.istore 4, 2) := by decide +kernel
theorem dX4_comesTrue_92 : decode cX4_comesTrue 92 = .ok (.iinc 5 1, 3) := by decide +kernel
theorem dX4_comesTrue_95 : decode cX4_comesTrue 95 = .ok (.goto (-58), 3) := by decide +kernel
theorem dX4_comesTrue_98 : decode cX4_comesTrue 98 = .ok (.iconst 0, 1) := by decide +kernel
theorem dX4_comesTrue_99 : decode cX4_comesTrue 99 = .ok (.istore 5, 2) := by decide +kernel
theorem dX4_comesTrue_101 : decode cX4_comesTrue 101 = .ok (.iconst (-1), 1) := by decide +kernel
theorem dX4_comesTrue_102 : decode cX4_comesTrue 102 = .ok (.istore 6, 2) := by decide +kernel
theorem dX4_comesTrue_104 : decode cX4_comesTrue 104 = .ok (.iconst 0, 1) := by decide +kernel
theorem dX4_comesTrue_105 : decode cX4_comesTrue 105 = .ok (.istore 7, 2) := by decide +kernel
theorem dX4_comesTrue_107 : decode cX4_comesTrue 107 = .ok (.iload 7, 2) := by decide +kernel
theorem dX4_comesTrue_109 : decode cX4_comesTrue 109 = .ok (.iconst 1, 1) := by decide +kernel
theorem dX4_comesTrue_110 : decode cX4_comesTrue 110 = .ok (.aload_n 0, 1) := by decide +kernel
theorem dX4_comesTrue_111 : decode cX4_comesTrue 111 = .ok (.invokevirtual 52, 3) := by decide +kernel
theorem dX4_comesTrue_114 : decode cX4_comesTrue 114 = .ok (.ishl, 1) := by decide +kernel
theorem dX4_comesTrue_115 : decode cX4_comesTrue 115 = .ok (.if_icmp .ge 69, 3) := by decide +kernel
theorem dX4_comesTrue_118 : decode cX4_comesTrue 118 = .ok (.iload 7, 2) := by decide +kernel
theorem dX4_comesTrue_120 : decode cX4_comesTrue 120 = .ok (.iload_n 3, 1) := by decide +kernel
theorem dX4_comesTrue_121 : decode cX4_comesTrue 121 = .ok (.iconst (-1), 1) := by decide +kernel
theorem dX4_comesTrue_122 : decode cX4_comesTrue 122 = .ok (.ixor, 1) := by decide +kernel
theorem dX4_comesTrue_123 : decode cX4_comesTrue 123 = .ok (.iand, 1) := by decide +kernel
theorem dX4_comesTrue_124 : decode cX4_comesTrue 124 = .ok (.ifCond .ne 17, 3) := by decide +kernel
theorem dX4_comesTrue_127 : decode cX4_comesTrue 127 = .ok (.iload 4, 2) := by decide +kernel
theorem dX4_comesTrue_129 : decode cX4_comesTrue 129 = .ok (.iload 7, 2) := by decide +kernel
theorem dX4_comesTrue_131 : decode cX4_comesTrue 131 = .ok (.iconst (-1), 1) := by decide +kernel
theorem dX4_comesTrue_132 : decode cX4_comesTrue 132 = .ok (.ixor, 1) := by decide +kernel
theorem dX4_comesTrue_133 : decode cX4_comesTrue 133 = .ok (.iand, 1) := by decide +kernel
theorem dX4_comesTrue_134 : decode cX4_comesTrue 134 = .ok (.ifCond .ne 7, 3) := by decide +kernel
theorem dX4_comesTrue_137 : decode cX4_comesTrue 137 = .ok (.iconst 1, 1) := by decide +kernel
theorem dX4_comesTrue_138 : decode cX4_comesTrue 138 = .ok (.goto 4, 3) := by decide +kernel
theorem dX4_comesTrue_141 : decode cX4_comesTrue 141 = .ok (.iconst 0, 1) := by decide +kernel
theorem dX4_comesTrue_142 : decode cX4_comesTrue 142 = .ok (.istore 8, 2) := by decide +kernel
theorem dX4_comesTrue_144 : decode cX4_comesTrue 144 = .ok (.iload 8, 2) := by decide +kernel
theorem dX4_comesTrue_146 : decode cX4_comesTrue 146 = .ok (.ifCond .eq 13, 3) := by decide +kernel
theorem dX4_comesTrue_149 : decode cX4_comesTrue 149 = .ok (.iload 5, 2) := by decide +kernel
theorem dX4_comesTrue_151 : decode cX4_comesTrue 151 = .ok (.ifCond .ne 8, 3) := by decide +kernel
theorem dX4_comesTrue_154 : decode cX4_comesTrue 154 = .ok (.iload 7, 2) := by decide +kernel
theorem dX4_comesTrue_156 : decode cX4_comesTrue 156 = .ok (.goto 5, 3) := by decide +kernel
theorem dX4_comesTrue_159 : decode cX4_comesTrue 159 = .ok (.iload 6, 2) := by decide +kernel
theorem dX4_comesTrue_161 : decode cX4_comesTrue 161 = .ok (.istore 6, 2) := by decide +kernel
theorem dX4_comesTrue_163 : decode cX4_comesTrue 163 = .ok (.iload 5, 2) := by decide +kernel
theorem dX4_comesTrue_165 : decode cX4_comesTrue 165 = .ok (.iload 8, 2) := by decide +kernel
theorem dX4_comesTrue_167 : decode cX4_comesTrue 167 = .ok (.ifCond .eq 7, 3) := by decide +kernel
theorem dX4_comesTrue_170 : decode cX4_comesTrue 170 = .ok (.iconst 1, 1) := by decide +kernel
theorem dX4_comesTrue_171 : decode cX4_comesTrue 171 = .ok (.goto 4, 3) := by decide +kernel
theorem dX4_comesTrue_174 : decode cX4_comesTrue 174 = .ok (.iconst 0, 1) := by decide +kernel
theorem dX4_comesTrue_175 : decode cX4_comesTrue 175 = .ok (.iadd, 1) := by decide +kernel
theorem dX4_comesTrue_176 : decode cX4_comesTrue 176 = .ok (.istore 5, 2) := by decide +kernel
theorem dX4_comesTrue_178 : decode cX4_comesTrue 178 = .ok (.iinc 7 1, 3) := by decide +kernel
theorem dX4_comesTrue_181 : decode cX4_comesTrue 181 = .ok (.goto (-74), 3) := by decide +kernel
theorem dX4_comesTrue_184 : decode cX4_comesTrue 184 = .ok (.iload_n 2, 1) := by decide +kernel
theorem dX4_comesTrue_185 : decode cX4_comesTrue 185 = .ok (.ifCond .ne 8, 3) := by decide +kernel
theorem dX4_comesTrue_188 : decode cX4_comesTrue 188 = .ok (.iload 5, 2) := by decide +kernel
theorem dX4_comesTrue_190 : decode cX4_comesTrue 190 = .ok (.goto 5, 3) := by decide +kernel
theorem dX4_comesTrue_193 : decode cX4_comesTrue 193 = .ok (.iload 6, 2) := by decide +kernel
theorem dX4_comesTrue_195 : decode cX4_comesTrue 195 = .ok (.ireturn, 1) := by decide +kernel
theorem dX4_readings_0 : decode cX4_readings 0 = .ok (.iconst 0, 1) := by decide +kernel
theorem dX4_readings_1 : decode cX4_readings 1 = .ok (.istore_n 1, 1) := by decide +kernel
theorem dX4_readings_2 : decode cX4_readings 2 = .ok (.aload_n 0, 1) := by decide +kernel
theorem dX4_readings_3 : decode cX4_readings 3 = .ok (.invokevirtual 122, 3) := by decide +kernel
theorem dX4_readings_6 : decode cX4_readings 6 = .ok (.iconst 1, 1) := by decide +kernel
theorem dX4_readings_7 : decode cX4_readings 7 = .ok (.istore_n 2, 1) := by decide +kernel
theorem dX4_readings_8 : decode cX4_readings 8 = .ok (.iload_n 2, 1) := by decide +kernel
theorem dX4_readings_9 : decode cX4_readings 9 = .ok (.bipush 6, 2) := by decide +kernel
theorem dX4_readings_11 : decode cX4_readings 11 = .ok (.if_icmp .ge 80, 3) := by decide +kernel
theorem dX4_readings_14 : decode cX4_readings 14 = .ok (.iconst 1, 1) := by decide +kernel
theorem dX4_readings_15 : decode cX4_readings 15 = .ok (.istore_n 3, 1) := by decide +kernel
theorem dX4_readings_16 : decode cX4_readings 16 = .ok (.iconst 0, 1) := by decide +kernel
theorem dX4_readings_17 : decode cX4_readings 17 = .ok (.istore 4, 2) := by decide +kernel
theorem dX4_readings_19 : decode cX4_readings 19 = .ok (.iload 4, 2) := by decide +kernel
theorem dX4_readings_21 : decode cX4_readings 21 = .ok (.aload_n 0, 1) := by decide +kernel
theorem dX4_readings_22 : decode cX4_readings 22 = .ok (.invokevirtual 52, 3) := by decide +kernel
theorem dX4_readings_25 : decode cX4_readings 25 = .ok (.if_icmp .ge 46, 3) := by decide +kernel
theorem dX4_readings_28 : decode cX4_readings 28 = .ok (.iload_n 3, 1) := by decide +kernel
theorem dX4_readings_29 : decode cX4_readings 29 = .ok (.ifCond .eq 34, 3) := by decide +kernel
theorem dX4_readings_32 : decode cX4_readings 32 = .ok (.aload_n 0, 1) := by decide +kernel
theorem dX4_readings_33 : decode cX4_readings 33 = .ok (.iload 4, 2) := by decide +kernel
theorem dX4_readings_35 : decode cX4_readings 35 = .ok (.invokevirtual 99, 3) := by decide +kernel
theorem dX4_readings_38 : decode cX4_readings 38 = .ok (.iload_n 2, 1) := by decide +kernel
theorem dX4_readings_39 : decode cX4_readings 39 = .ok (.if_icmp .lt 7, 3) := by decide +kernel
theorem dX4_readings_42 : decode cX4_readings 42 = .ok (.iconst 1, 1) := by decide +kernel
theorem dX4_readings_43 : decode cX4_readings 43 = .ok (.goto 4, 3) := by decide +kernel
theorem dX4_readings_46 : decode cX4_readings 46 = .ok (.iconst 0, 1) := by decide +kernel
theorem dX4_readings_47 : decode cX4_readings 47 = .ok (.aload_n 0, 1) := by decide +kernel
theorem dX4_readings_48 : decode cX4_readings 48 = .ok (.getfield 78, 3) := by decide +kernel
theorem dX4_readings_51 : decode cX4_readings 51 = .ok (.iload 4, 2) := by decide +kernel
theorem dX4_readings_53 : decode cX4_readings 53 = .ok (.invokestatic 91, 3) := by decide +kernel
theorem dX4_readings_56 : decode cX4_readings 56 = .ok (.if_icmp .ne 7, 3) := by decide +kernel
theorem dX4_readings_59 : decode cX4_readings 59 = .ok (.iconst 1, 1) := by decide +kernel
theorem dX4_readings_60 : decode cX4_readings 60 = .ok (.goto 4, 3) := by decide +kernel
theorem dX4_readings_63 : decode cX4_readings 63 = .ok (.iconst 0, 1) := by decide +kernel
theorem dX4_readings_64 : decode cX4_readings 64 = .ok (.istore_n 3, 1) := by decide +kernel
theorem dX4_readings_65 : decode cX4_readings 65 = .ok (.iinc 4 1, 3) := by decide +kernel
theorem dX4_readings_68 : decode cX4_readings 68 = .ok (.goto (-49), 3) := by decide +kernel
theorem dX4_readings_71 : decode cX4_readings 71 = .ok (.iload_n 1, 1) := by decide +kernel
theorem dX4_readings_72 : decode cX4_readings 72 = .ok (.iload_n 3, 1) := by decide +kernel
theorem dX4_readings_73 : decode cX4_readings 73 = .ok (.ifCond .eq 9, 3) := by decide +kernel
theorem dX4_readings_76 : decode cX4_readings 76 = .ok (.iconst 1, 1) := by decide +kernel
theorem dX4_readings_77 : decode cX4_readings 77 = .ok (.iload_n 2, 1) := by decide +kernel
theorem dX4_readings_78 : decode cX4_readings 78 = .ok (.ishl, 1) := by decide +kernel
theorem dX4_readings_79 : decode cX4_readings 79 = .ok (.goto 4, 3) := by decide +kernel
theorem dX4_readings_82 : decode cX4_readings 82 = .ok (.iconst 0, 1) := by decide +kernel
theorem dX4_readings_83 : decode cX4_readings 83 = .ok (.ior, 1) := by decide +kernel
theorem dX4_readings_84 : decode cX4_readings 84 = .ok (.istore_n 1, 1) := by decide +kernel
theorem dX4_readings_85 : decode cX4_readings 85 = .ok (.iinc 2 1, 3) := by decide +kernel
theorem dX4_readings_88 : decode cX4_readings 88 = .ok (.goto (-80), 3) := by decide +kernel
theorem dX4_readings_91 : decode cX4_readings 91 = .ok (.iload_n 1, 1) := by decide +kernel
theorem dX4_readings_92 : decode cX4_readings 92 = .ok (.ireturn, 1) := by decide +kernel
theorem dX4_roster_0 : decode cX4_roster 0 = .ok (.iload_n 1, 1) := by decide +kernel
theorem dX4_roster_1 : decode cX4_roster 1 = .ok (.i2l, 1) := by decide +kernel
theorem dX4_roster_2 : decode cX4_roster 2 = .ok (.lconst 1, 1) := by decide +kernel
theorem dX4_roster_3 : decode cX4_roster 3 = .ok (.ldc2_w 140, 3) := by decide +kernel
theorem dX4_roster_6 : decode cX4_roster 6 = .ok (.invokestatic 56, 3) := by decide +kernel
theorem dX4_roster_9 : decode cX4_roster 9 = .ok (.ifCond .eq 15, 3) := by decide +kernel
theorem dX4_roster_12 : decode cX4_roster 12 = .ok (.iload_n 2, 1) := by decide +kernel
theorem dX4_roster_13 : decode cX4_roster 13 = .ok (.i2l, 1) := by decide +kernel
theorem dX4_roster_14 : decode cX4_roster 14 = .ok (.lconst 0, 1) := by decide +kernel
theorem dX4_roster_15 : decode cX4_roster 15 = .ok (.ldc2_w 140, 3) := by decide +kernel
theorem dX4_roster_18 : decode cX4_roster 18 = .ok (.invokestatic 56, 3) := by decide +kernel
theorem dX4_roster_21 : decode cX4_roster 21 = .ok (.ifCond .ne 10, 3) := by decide +kernel
theorem dX4_roster_24 : decode cX4_roster 24 = .ok (.aload_n 0, 1) := by decide +kernel
theorem dX4_roster_25 : decode cX4_roster 25 = .ok (.bipush (-2), 2) := by decide +kernel
theorem dX4_roster_27 : decode cX4_roster 27 = .ok (.invokevirtual 62, 3) := by decide +kernel
theorem dX4_roster_30 : decode cX4_roster 30 = .ok (.ireturn, 1) := by decide +kernel
theorem dX4_roster_31 : decode cX4_roster 31 = .ok (.iload_n 2, 1) := by decide +kernel
theorem dX4_roster_32 : decode cX4_roster 32 = .ok (.iload_n 1, 1) := by decide +kernel
theorem dX4_roster_33 : decode cX4_roster 33 = .ok (.if_icmp .le 7, 3) := by decide +kernel
theorem dX4_roster_36 : decode cX4_roster 36 = .ok (.iconst (-1), 1) := by decide +kernel
theorem dX4_roster_37 : decode cX4_roster 37 = .ok (.goto 21, 3) := by decide +kernel
theorem dX4_roster_40 : decode cX4_roster 40 = .ok (.aload_n 0, 1) := by decide +kernel
theorem dX4_roster_41 : decode cX4_roster 41 = .ok (.getfield 7, 3) := by decide +kernel
theorem dX4_roster_44 : decode cX4_roster 44 = .ok (.bipush 18, 2) := by decide +kernel
theorem dX4_roster_46 : decode cX4_roster 46 = .ok (.iaload, 1) := by decide +kernel
theorem dX4_roster_47 : decode cX4_roster 47 = .ok (.invokestatic 128, 3) := by decide +kernel
theorem dX4_roster_50 : decode cX4_roster 50 = .ok (.iload_n 2, 1) := by decide +kernel
theorem dX4_roster_51 : decode cX4_roster 51 = .ok (.imul, 1) := by decide +kernel
theorem dX4_roster_52 : decode cX4_roster 52 = .ok (.iload_n 1, 1) := by decide +kernel
theorem dX4_roster_53 : decode cX4_roster 53 = .ok (.iadd, 1) := by decide +kernel
theorem dX4_roster_54 : decode cX4_roster 54 = .ok (.iconst 1, 1) := by decide +kernel
theorem dX4_roster_55 : decode cX4_roster 55 = .ok (.isub, 1) := by decide +kernel
theorem dX4_roster_56 : decode cX4_roster 56 = .ok (.iload_n 1, 1) := by decide +kernel
theorem dX4_roster_57 : decode cX4_roster 57 = .ok (.idiv, 1) := by decide +kernel
theorem dX4_roster_58 : decode cX4_roster 58 = .ok (.ireturn, 1) := by decide +kernel
theorem dX4_isStruck_0 : decode cX4_isStruck 0 = .ok (.iconst 0, 1) := by decide +kernel
theorem dX4_isStruck_1 : decode cX4_isStruck 1 = .ok (.istore 4, 2) := by decide +kernel
theorem dX4_isStruck_3 : decode cX4_isStruck 3 = .ok (.aload_n 0, 1) := by decide +kernel
theorem dX4_isStruck_4 : decode cX4_isStruck 4 = .ok (.invokevirtual 122, 3) := by decide +kernel
theorem dX4_isStruck_7 : decode cX4_isStruck 7 = .ok (.aload_n 0, 1) := by decide +kernel
theorem dX4_isStruck_8 : decode cX4_isStruck 8 = .ok (.iconst 1, 1) := by decide +kernel
theorem dX4_isStruck_9 : decode cX4_isStruck 9 = .ok (.iload_n 1, 1) := by decide +kernel
theorem dX4_isStruck_10 : decode cX4_isStruck 10 = .ok (.ishl, 1) := by decide +kernel
theorem dX4_isStruck_11 : decode cX4_isStruck 11 = .ok (.putfield 78, 3) := by decide +kernel
theorem dX4_isStruck_14 : decode cX4_isStruck 14 = .ok (.iconst 0, 1) := by decide +kernel
theorem dX4_isStruck_15 : decode cX4_isStruck 15 = .ok (.istore 5, 2) := by decide +kernel
theorem dX4_isStruck_17 : decode cX4_isStruck 17 = .ok (.iload 5, 2) := by decide +kernel
theorem dX4_isStruck_19 : decode cX4_isStruck 19 = .ok (.iload_n 2, 1) := by decide +kernel
theorem dX4_isStruck_20 : decode cX4_isStruck 20 = .ok (.if_icmp .ge 48, 3) := by decide +kernel
theorem dX4_isStruck_23 : decode cX4_isStruck 23 = .ok (.aload_n 0, 1) := by decide +kernel
theorem dX4_isStruck_24 : decode cX4_isStruck 24 = .ok (.iload_n 3, 1) := by decide +kernel
theorem dX4_isStruck_25 : decode cX4_isStruck 25 = .ok (.iload 5, 2) := by decide +kernel
theorem dX4_isStruck_27 : decode cX4_isStruck 27 = .ok (.invokestatic 91, 3) := by decide +kernel
theorem dX4_isStruck_30 : decode cX4_isStruck 30 = .ok (.ifCond .eq 9, 3) := by decide +kernel
theorem dX4_isStruck_33 : decode cX4_isStruck 33 = .ok (.iconst 1, 1) := by decide +kernel
theorem dX4_isStruck_34 : decode cX4_isStruck 34 = .ok (.iload_n 1, 1) := by decide +kernel
theorem dX4_isStruck_35 : decode cX4_isStruck 35 = .ok (.ishl, 1) := by decide +kernel
theorem dX4_isStruck_36 : decode cX4_isStruck 36 = .ok (.goto 4, 3) := by decide +kernel
theorem dX4_isStruck_39 : decode cX4_isStruck 39 = .ok (.iconst 0, 1) := by decide +kernel
theorem dX4_isStruck_40 : decode cX4_isStruck 40 = .ok (.putfield 82, 3) := by decide +kernel
theorem dX4_isStruck_43 : decode cX4_isStruck 43 = .ok (.iload 4, 2) := by decide +kernel
theorem dX4_isStruck_45 : decode cX4_isStruck 45 = .ok (.ifCond .ne 10, 3) := by decide +kernel
theorem dX4_isStruck_48 : decode cX4_isStruck 48 = .ok (.aload_n 0, 1) := by decide +kernel
theorem dX4_isStruck_49 : decode cX4_isStruck 49 = .ok (.invokevirtual 125, 3) := by decide +kernel
theorem dX4_isStruck_52 : decode cX4_isStruck 52 = .ok (.ifCond .eq 7, 3) := by decide +kernel
theorem dX4_isStruck_55 : decode cX4_isStruck 55 = .ok (.iconst 1, 1) := by decide +kernel
theorem dX4_isStruck_56 : decode cX4_isStruck 56 = .ok (.goto 4, 3) := by decide +kernel
theorem dX4_isStruck_59 : decode cX4_isStruck 59 = .ok (.iconst 0, 1) := by decide +kernel
theorem dX4_isStruck_60 : decode cX4_isStruck 60 = .ok (.istore 4, 2) := by decide +kernel
theorem dX4_isStruck_62 : decode cX4_isStruck 62 = .ok (.iinc 5 1, 3) := by decide +kernel
theorem dX4_isStruck_65 : decode cX4_isStruck 65 = .ok (.goto (-48), 3) := by decide +kernel
theorem dX4_isStruck_68 : decode cX4_isStruck 68 = .ok (.iload 4, 2) := by decide +kernel
theorem dX4_isStruck_70 : decode cX4_isStruck 70 = .ok (.ireturn, 1) := by decide +kernel
theorem dX4_off_0 : decode cX4_off 0 = .ok (.aload_n 0, 1) := by decide +kernel
theorem dX4_off_1 : decode cX4_off 1 = .ok (.iload_n 1, 1) := by decide +kernel
theorem dX4_off_2 : decode cX4_off 2 = .ok (.invokevirtual 113, 3) := by decide +kernel
theorem dX4_off_5 : decode cX4_off 5 = .ok (.ifCond .eq 25, 3) := by decide +kernel
theorem dX4_off_8 : decode cX4_off 8 = .ok (.iload_n 2, 1) := by decide +kernel
theorem dX4_off_9 : decode cX4_off 9 = .ok (.i2l, 1) := by decide +kernel
theorem dX4_off_10 : decode cX4_off 10 = .ok (.lconst 1, 1) := by decide +kernel
theorem dX4_off_11 : decode cX4_off 11 = .ok (.ldc2_w 142, 3) := by decide +kernel
theorem dX4_off_14 : decode cX4_off 14 = .ok (.invokestatic 56, 3) := by decide +kernel
theorem dX4_off_17 : decode cX4_off 17 = .ok (.ifCond .eq 13, 3) := by decide +kernel
theorem dX4_off_20 : decode cX4_off 20 = .ok (.iload_n 3, 1) := by decide +kernel
theorem dX4_off_21 : decode cX4_off 21 = .ok (.i2l, 1) := by decide +kernel
theorem dX4_off_22 : decode cX4_off 22 = .ok (.lconst 0, 1) := by decide +kernel
theorem dX4_off_23 : decode cX4_off 23 = .ok (.lconst 1, 1) := by decide +kernel
theorem dX4_off_24 : decode cX4_off 24 = .ok (.invokestatic 56, 3) := by decide +kernel
theorem dX4_off_27 : decode cX4_off 27 = .ok (.ifCond .ne 10, 3) := by decide +kernel
theorem dX4_off_30 : decode cX4_off 30 = .ok (.aload_n 0, 1) := by decide +kernel
theorem dX4_off_31 : decode cX4_off 31 = .ok (.bipush (-2), 2) := by decide +kernel
theorem dX4_off_33 : decode cX4_off 33 = .ok (.invokevirtual 62, 3) := by decide +kernel
theorem dX4_off_36 : decode cX4_off 36 = .ok (.ireturn, 1) := by decide +kernel
theorem dX4_off_37 : decode cX4_off 37 = .ok (.aload_n 0, 1) := by decide +kernel
theorem dX4_off_38 : decode cX4_off 38 = .ok (.getfield 7, 3) := by decide +kernel
theorem dX4_off_41 : decode cX4_off 41 = .ok (.bipush 18, 2) := by decide +kernel
theorem dX4_off_43 : decode cX4_off 43 = .ok (.iaload, 1) := by decide +kernel
theorem dX4_off_44 : decode cX4_off 44 = .ok (.iload_n 1, 1) := by decide +kernel
theorem dX4_off_45 : decode cX4_off 45 = .ok (.invokestatic 91, 3) := by decide +kernel
theorem dX4_off_48 : decode cX4_off 48 = .ok (.ifCond .ne 8, 3) := by decide +kernel
theorem dX4_off_51 : decode cX4_off 51 = .ok (.aload_n 0, 1) := by decide +kernel
theorem dX4_off_52 : decode cX4_off 52 = .ok (.invokevirtual 131, 3) := by decide +kernel
theorem dX4_off_55 : decode cX4_off 55 = .ok (.ireturn, 1) := by decide +kernel
theorem dX4_off_56 : decode cX4_off 56 = .ok (.iconst (-1), 1) := by decide +kernel
theorem dX4_off_57 : decode cX4_off 57 = .ok (.istore 4, 2) := by decide +kernel
theorem dX4_off_59 : decode cX4_off 59 = .ok (.iconst 0, 1) := by decide +kernel
theorem dX4_off_60 : decode cX4_off 60 = .ok (.istore 5, 2) := by decide +kernel
theorem dX4_off_62 : decode cX4_off 62 = .ok (.iload 5, 2) := by decide +kernel
theorem dX4_off_64 : decode cX4_off 64 = .ok (.iconst 1, 1) := by decide +kernel
theorem dX4_off_65 : decode cX4_off 65 = .ok (.iload_n 2, 1) := by decide +kernel
theorem dX4_off_66 : decode cX4_off 66 = .ok (.ishl, 1) := by decide +kernel
theorem dX4_off_67 : decode cX4_off 67 = .ok (.if_icmp .ge 60, 3) := by decide +kernel
theorem dX4_off_70 : decode cX4_off 70 = .ok (.iload 4, 2) := by decide +kernel
theorem dX4_off_72 : decode cX4_off 72 = .ok (.iconst (-1), 1) := by decide +kernel
theorem dX4_off_73 : decode cX4_off 73 = .ok (.if_icmp .eq 16, 3) := by decide +kernel
theorem dX4_off_76 : decode cX4_off 76 = .ok (.iload 5, 2) := by decide +kernel
theorem dX4_off_78 : decode cX4_off 78 = .ok (.invokestatic 128, 3) := by decide +kernel
theorem dX4_off_81 : decode cX4_off 81 = .ok (.iload 4, 2) := by decide +kernel
theorem dX4_off_83 : decode cX4_off 83 = .ok (.invokestatic 128, 3) := by decide +kernel
theorem dX4_off_86 : decode cX4_off 86 = .ok (.if_icmp .ge 7, 3) := by decide +kernel
theorem dX4_off_89 : decode cX4_off 89 = .ok (.iconst 1, 1) := by decide +kernel
theorem dX4_off_90 : decode cX4_off 90 = .ok (.goto 4, 3) := by decide +kernel
theorem dX4_off_93 : decode cX4_off 93 = .ok (.iconst 0, 1) := by decide +kernel
theorem dX4_off_94 : decode cX4_off 94 = .ok (.istore 6, 2) := by decide +kernel
theorem dX4_off_96 : decode cX4_off 96 = .ok (.iload 6, 2) := by decide +kernel
theorem dX4_off_98 : decode cX4_off 98 = .ok (.ifCond .eq 19, 3) := by decide +kernel
theorem dX4_off_101 : decode cX4_off 101 = .ok (.aload_n 0, 1) := by decide +kernel
theorem dX4_off_102 : decode cX4_off 102 = .ok (.iload_n 1, 1) := by decide +kernel
theorem dX4_off_103 : decode cX4_off 103 = .ok (.iload_n 2, 1) := by decide +kernel
theorem dX4_off_104 : decode cX4_off 104 = .ok (.iload 5, 2) := by decide +kernel
theorem dX4_off_106 : decode cX4_off 106 = .ok (.invokevirtual 144, 3) := by decide +kernel
theorem dX4_off_109 : decode cX4_off 109 = .ok (.ifCond .eq 8, 3) := by decide +kernel
theorem dX4_off_112 : decode cX4_off 112 = .ok (.iload 5, 2) := by decide +kernel
theorem dX4_off_114 : decode cX4_off 114 = .ok (.goto 5, 3) := by decide +kernel
theorem dX4_off_117 : decode cX4_off 117 = .ok (.iload 4, 2) := by decide +kernel
theorem dX4_off_119 : decode cX4_off 119 = .ok (.istore 4, 2) := by decide +kernel
theorem dX4_off_121 : decode cX4_off 121 = .ok (.iinc 5 1, 3) := by decide +kernel
theorem dX4_off_124 : decode cX4_off 124 = .ok (.goto (-62), 3) := by decide +kernel
theorem dX4_off_127 : decode cX4_off 127 = .ok (.iload_n 3, 1) := by decide +kernel
theorem dX4_off_128 : decode cX4_off 128 = .ok (.ifCond .ne 17, 3) := by decide +kernel
theorem dX4_off_131 : decode cX4_off 131 = .ok (.iload 4, 2) := by decide +kernel
theorem dX4_off_133 : decode cX4_off 133 = .ok (.iconst (-1), 1) := by decide +kernel
theorem dX4_off_134 : decode cX4_off 134 = .ok (.if_icmp .eq 11, 3) := by decide +kernel
theorem dX4_off_137 : decode cX4_off 137 = .ok (.iload 4, 2) := by decide +kernel
theorem dX4_off_139 : decode cX4_off 139 = .ok (.invokestatic 128, 3) := by decide +kernel
theorem dX4_off_142 : decode cX4_off 142 = .ok (.goto 5, 3) := by decide +kernel
theorem dX4_off_145 : decode cX4_off 145 = .ok (.iload 4, 2) := by decide +kernel
theorem dX4_off_147 : decode cX4_off 147 = .ok (.ireturn, 1) := by decide +kernel
theorem dX4_rests_0 : decode cX4_rests 0 = .ok (.aload_n 0, 1) := by decide +kernel
theorem dX4_rests_1 : decode cX4_rests 1 = .ok (.iload_n 1, 1) := by decide +kernel
theorem dX4_rests_2 : decode cX4_rests 2 = .ok (.invokevirtual 113, 3) := by decide +kernel
theorem dX4_rests_5 : decode cX4_rests 5 = .ok (.ifCond .ne 10, 3) := by decide +kernel
theorem dX4_rests_8 : decode cX4_rests 8 = .ok (.aload_n 0, 1) := by decide +kernel
theorem dX4_rests_9 : decode cX4_rests 9 = .ok (.bipush (-2), 2) := by decide +kernel
theorem dX4_rests_11 : decode cX4_rests 11 = .ok (.invokevirtual 62, 3) := by decide +kernel
theorem dX4_rests_14 : decode cX4_rests 14 = .ok (.ireturn, 1) := by decide +kernel
theorem dX4_rests_15 : decode cX4_rests 15 = .ok (.aload_n 0, 1) := by decide +kernel
theorem dX4_rests_16 : decode cX4_rests 16 = .ok (.getfield 7, 3) := by decide +kernel
theorem dX4_rests_19 : decode cX4_rests 19 = .ok (.bipush 11, 2) := by decide +kernel
theorem dX4_rests_21 : decode cX4_rests 21 = .ok (.iload_n 1, 1) := by decide +kernel
theorem dX4_rests_22 : decode cX4_rests 22 = .ok (.iadd, 1) := by decide +kernel
theorem dX4_rests_23 : decode cX4_rests 23 = .ok (.iaload, 1) := by decide +kernel
theorem dX4_rests_24 : decode cX4_rests 24 = .ok (.istore_n 2, 1) := by decide +kernel
theorem dX4_rests_25 : decode cX4_rests 25 = .ok (.aload_n 0, 1) := by decide +kernel
theorem dX4_rests_26 : decode cX4_rests 26 = .ok (.iload_n 1, 1) := by decide +kernel
theorem dX4_rests_27 : decode cX4_rests 27 = .ok (.invokevirtual 88, 3) := by decide +kernel
theorem dX4_rests_30 : decode cX4_rests 30 = .ok (.iload_n 2, 1) := by decide +kernel
theorem dX4_rests_31 : decode cX4_rests 31 = .ok (.aload_n 0, 1) := by decide +kernel
theorem dX4_rests_32 : decode cX4_rests 32 = .ok (.getfield 7, 3) := by decide +kernel
theorem dX4_rests_35 : decode cX4_rests 35 = .ok (.bipush 21, 2) := by decide +kernel
theorem dX4_rests_37 : decode cX4_rests 37 = .ok (.iaload, 1) := by decide +kernel
theorem dX4_rests_38 : decode cX4_rests 38 = .ok (.iconst 1, 1) := by decide +kernel
theorem dX4_rests_39 : decode cX4_rests 39 = .ok (.invokestatic 95, 3) := by decide +kernel
theorem dX4_rests_42 : decode cX4_rests 42 = .ok (.aload_n 0, 1) := by decide +kernel
theorem dX4_rests_43 : decode cX4_rests 43 = .ok (.getfield 7, 3) := by decide +kernel
theorem dX4_rests_46 : decode cX4_rests 46 = .ok (.iconst 1, 1) := by decide +kernel
theorem dX4_rests_47 : decode cX4_rests 47 = .ok (.iaload, 1) := by decide +kernel
theorem dX4_rests_48 : decode cX4_rests 48 = .ok (.if_icmp .lt 7, 3) := by decide +kernel
theorem dX4_rests_51 : decode cX4_rests 51 = .ok (.iconst 1, 1) := by decide +kernel
theorem dX4_rests_52 : decode cX4_rests 52 = .ok (.goto 4, 3) := by decide +kernel
theorem dX4_rests_55 : decode cX4_rests 55 = .ok (.iconst 0, 1) := by decide +kernel
theorem dX4_rests_56 : decode cX4_rests 56 = .ok (.istore_n 3, 1) := by decide +kernel
theorem dX4_rests_57 : decode cX4_rests 57 = .ok (.aload_n 0, 1) := by decide +kernel
theorem dX4_rests_58 : decode cX4_rests 58 = .ok (.iload_n 1, 1) := by decide +kernel
theorem dX4_rests_59 : decode cX4_rests 59 = .ok (.invokevirtual 88, 3) := by decide +kernel
theorem dX4_rests_62 : decode cX4_rests 62 = .ok (.iload_n 2, 1) := by decide +kernel
theorem dX4_rests_63 : decode cX4_rests 63 = .ok (.aload_n 0, 1) := by decide +kernel
theorem dX4_rests_64 : decode cX4_rests 64 = .ok (.getfield 7, 3) := by decide +kernel
theorem dX4_rests_67 : decode cX4_rests 67 = .ok (.bipush 21, 2) := by decide +kernel
theorem dX4_rests_69 : decode cX4_rests 69 = .ok (.iaload, 1) := by decide +kernel
theorem dX4_rests_70 : decode cX4_rests 70 = .ok (.iconst 0, 1) := by decide +kernel
theorem dX4_rests_71 : decode cX4_rests 71 = .ok (.invokestatic 95, 3) := by decide +kernel
theorem dX4_rests_74 : decode cX4_rests 74 = .ok (.aload_n 0, 1) := by decide +kernel
theorem dX4_rests_75 : decode cX4_rests 75 = .ok (.getfield 7, 3) := by decide +kernel
theorem dX4_rests_78 : decode cX4_rests 78 = .ok (.iconst 1, 1) := by decide +kernel
theorem dX4_rests_79 : decode cX4_rests 79 = .ok (.iaload, 1) := by decide +kernel
theorem dX4_rests_80 : decode cX4_rests 80 = .ok (.if_icmp .lt 7, 3) := by decide +kernel
theorem dX4_rests_83 : decode cX4_rests 83 = .ok (.iconst 1, 1) := by decide +kernel
theorem dX4_rests_84 : decode cX4_rests 84 = .ok (.goto 4, 3) := by decide +kernel
theorem dX4_rests_87 : decode cX4_rests 87 = .ok (.iconst 0, 1) := by decide +kernel
theorem dX4_rests_88 : decode cX4_rests 88 = .ok (.istore 4, 2) := by decide +kernel
theorem dX4_rests_90 : decode cX4_rests 90 = .ok (.iconst 0, 1) := by decide +kernel
theorem dX4_rests_91 : decode cX4_rests 91 = .ok (.istore 5, 2) := by decide +kernel
theorem dX4_rests_93 : decode cX4_rests 93 = .ok (.iload 5, 2) := by decide +kernel
theorem dX4_rests_95 : decode cX4_rests 95 = .ok (.iconst 4, 1) := by decide +kernel
theorem dX4_rests_96 : decode cX4_rests 96 = .ok (.if_icmp .ge 73, 3) := by decide +kernel
theorem dX4_rests_99 : decode cX4_rests 99 = .ok (.aload_n 0, 1) := by decide +kernel
theorem dX4_rests_100 : decode cX4_rests 100 = .ok (.getfield 30, 3) := by decide +kernel
theorem dX4_rests_103 : decode cX4_rests 103 = .ok (.iload 5, 2) := by decide +kernel
theorem dX4_rests_105 : decode cX4_rests 105 = .ok (.iload 5, 2) := by decide +kernel
theorem dX4_rests_107 : decode cX4_rests 107 = .ok (.iconst 1, 1) := by decide +kernel
theorem dX4_rests_108 : decode cX4_rests 108 = .ok (.if_icmp .le 7, 3) := by decide +kernel
theorem dX4_rests_111 : decode cX4_rests 111 = .ok (.iconst 1, 1) := by decide +kernel
theorem dX4_rests_112 : decode cX4_rests 112 = .ok (.goto 17, 3) := by decide +kernel
theorem dX4_rests_115 : decode cX4_rests 115 = .ok (.iload 5, 2) := by decide +kernel
theorem dX4_rests_117 : decode cX4_rests 117 = .ok (.ifCond .ne 11, 3) := by decide +kernel
theorem dX4_rests_120 : decode cX4_rests 120 = .ok (.iload_n 3, 1) := by decide +kernel
theorem dX4_rests_121 : decode cX4_rests 121 = .ok (.ifCond .eq 7, 3) := by decide +kernel
theorem dX4_rests_124 : decode cX4_rests 124 = .ok (.iconst 2, 1) := by decide +kernel
theorem dX4_rests_125 : decode cX4_rests 125 = .ok (.goto 4, 3) := by decide +kernel
theorem dX4_rests_128 : decode cX4_rests 128 = .ok (.iconst 0, 1) := by decide +kernel
theorem dX4_rests_129 : decode cX4_rests 129 = .ok (.iastore, 1) := by decide +kernel
theorem dX4_rests_130 : decode cX4_rests 130 = .ok (.aload_n 0, 1) := by decide +kernel
theorem dX4_rests_131 : decode cX4_rests 131 = .ok (.getfield 33, 3) := by decide +kernel
theorem dX4_rests_134 : decode cX4_rests 134 = .ok (.iload 5, 2) := by decide +kernel
theorem dX4_rests_136 : decode cX4_rests 136 = .ok (.iload 5, 2) := by decide +kernel
theorem dX4_rests_138 : decode cX4_rests 138 = .ok (.iconst 2, 1) := by decide +kernel
theorem dX4_rests_139 : decode cX4_rests 139 = .ok (.if_icmp .ge 7, 3) := by decide +kernel
theorem dX4_rests_142 : decode cX4_rests 142 = .ok (.iconst 0, 1) := by decide +kernel
theorem dX4_rests_143 : decode cX4_rests 143 = .ok (.goto 19, 3) := by decide +kernel
theorem dX4_rests_146 : decode cX4_rests 146 = .ok (.iload 5, 2) := by decide +kernel
theorem dX4_rests_148 : decode cX4_rests 148 = .ok (.iconst 2, 1) := by decide +kernel
theorem dX4_rests_149 : decode cX4_rests 149 = .ok (.if_icmp .ne 12, 3) := by decide +kernel
theorem dX4_rests_152 : decode cX4_rests 152 = .ok (.iload 4, 2) := by decide +kernel
theorem dX4_rests_154 : decode cX4_rests 154 = .ok (.ifCond .eq 7, 3) := by decide +kernel
theorem dX4_rests_157 : decode cX4_rests 157 = .ok (.iconst (-1), 1) := by decide +kernel
theorem dX4_rests_158 : decode cX4_rests 158 = .ok (.goto 4, 3) := by decide +kernel
theorem dX4_rests_161 : decode cX4_rests 161 = .ok (.iconst 1, 1) := by decide +kernel
theorem dX4_rests_162 : decode cX4_rests 162 = .ok (.iastore, 1) := by decide +kernel
theorem dX4_rests_163 : decode cX4_rests 163 = .ok (.iinc 5 1, 3) := by decide +kernel
theorem dX4_rests_166 : decode cX4_rests 166 = .ok (.goto (-73), 3) := by decide +kernel
theorem dX4_rests_169 : decode cX4_rests 169 = .ok (.iconst 0, 1) := by decide +kernel
theorem dX4_rests_170 : decode cX4_rests 170 = .ok (.istore 5, 2) := by decide +kernel
theorem dX4_rests_172 : decode cX4_rests 172 = .ok (.iconst 0, 1) := by decide +kernel
theorem dX4_rests_173 : decode cX4_rests 173 = .ok (.istore 6, 2) := by decide +kernel
theorem dX4_rests_175 : decode cX4_rests 175 = .ok (.iload 6, 2) := by decide +kernel
theorem dX4_rests_177 : decode cX4_rests 177 = .ok (.iconst 4, 1) := by decide +kernel
theorem dX4_rests_178 : decode cX4_rests 178 = .ok (.if_icmp .ge 72, 3) := by decide +kernel
theorem dX4_rests_181 : decode cX4_rests 181 = .ok (.aload_n 0, 1) := by decide +kernel
theorem dX4_rests_182 : decode cX4_rests 182 = .ok (.getfield 30, 3) := by decide +kernel
theorem dX4_rests_185 : decode cX4_rests 185 = .ok (.iload 6, 2) := by decide +kernel
theorem dX4_rests_187 : decode cX4_rests 187 = .ok (.iaload, 1) := by decide +kernel
theorem dX4_rests_188 : decode cX4_rests 188 = .ok (.aload_n 0, 1) := by decide +kernel
theorem dX4_rests_189 : decode cX4_rests 189 = .ok (.getfield 30, 3) := by decide +kernel
theorem dX4_rests_192 : decode cX4_rests 192 = .ok (.iload 6, 2) := by decide +kernel
theorem dX4_rests_194 : decode cX4_rests 194 = .ok (.iconst 1, 1) := by decide +kernel
theorem dX4_rests_195 : decode cX4_rests 195 = .ok (.ixor, 1) := by decide +kernel
theorem dX4_rests_196 : decode cX4_rests 196 = .ok (.iaload, 1) := by decide +kernel
theorem dX4_rests_197 : decode cX4_rests 197 = .ok (.if_icmp .lt 26, 3) := by decide +kernel
theorem dX4_rests_200 : decode cX4_rests 200 = .ok (.aload_n 0, 1) := by decide +kernel
theorem dX4_rests_201 : decode cX4_rests 201 = .ok (.getfield 33, 3) := by decide +kernel
theorem dX4_rests_204 : decode cX4_rests 204 = .ok (.iload 6, 2) := by decide +kernel
theorem dX4_rests_206 : decode cX4_rests 206 = .ok (.iaload, 1) := by decide +kernel
theorem dX4_rests_207 : decode cX4_rests 207 = .ok (.aload_n 0, 1) := by decide +kernel
theorem dX4_rests_208 : decode cX4_rests 208 = .ok (.getfield 33, 3) := by decide +kernel
theorem dX4_rests_211 : decode cX4_rests 211 = .ok (.iload 6, 2) := by decide +kernel
theorem dX4_rests_213 : decode cX4_rests 213 = .ok (.iconst 2, 1) := by decide +kernel
theorem dX4_rests_214 : decode cX4_rests 214 = .ok (.ixor, 1) := by decide +kernel
theorem dX4_rests_215 : decode cX4_rests 215 = .ok (.iaload, 1) := by decide +kernel
theorem dX4_rests_216 : decode cX4_rests 216 = .ok (.if_icmp .lt 7, 3) := by decide +kernel
theorem dX4_rests_219 : decode cX4_rests 219 = .ok (.iconst 1, 1) := by decide +kernel
theorem dX4_rests_220 : decode cX4_rests 220 = .ok (.goto 4, 3) := by decide +kernel
theorem dX4_rests_223 : decode cX4_rests 223 = .ok (.iconst 0, 1) := by decide +kernel
theorem dX4_rests_224 : decode cX4_rests 224 = .ok (.istore 7, 2) := by decide +kernel
theorem dX4_rests_226 : decode cX4_rests 226 = .ok (.iload 5, 2) := by decide +kernel
theorem dX4_rests_228 : decode cX4_rests 228 = .ok (.iload 7, 2) := by decide +kernel
theorem dX4_rests_230 : decode cX4_rests 230 = .ok (.ifCond .eq 10, 3) := by decide +kernel
theorem dX4_rests_233 : decode cX4_rests 233 = .ok (.iconst 1, 1) := by decide +kernel
theorem dX4_rests_234 : decode cX4_rests 234 = .ok (.iload 6, 2) := by decide +kernel
theorem dX4_rests_236 : decode cX4_rests 236 = .ok (.ishl, 1) := by decide +kernel
theorem dX4_rests_237 : decode cX4_rests 237 = .ok (.goto 4, 3) := by decide +kernel
theorem dX4_rests_240 : decode cX4_rests 240 = .ok (.iconst 0, 1) := by decide +kernel
theorem dX4_rests_241 : decode cX4_rests 241 = .ok (.ior, 1) := by decide +kernel
theorem dX4_rests_242 : decode cX4_rests 242 = .ok (.istore 5, 2) := by decide +kernel
theorem dX4_rests_244 : decode cX4_rests 244 = .ok (.iinc 6 1, 3) := by decide +kernel
theorem dX4_rests_247 : decode cX4_rests 247 = .ok (.goto (-72), 3) := by decide +kernel
theorem dX4_rests_250 : decode cX4_rests 250 = .ok (.iload 5, 2) := by decide +kernel
theorem dX4_rests_252 : decode cX4_rests 252 = .ok (.ireturn, 1) := by decide +kernel
theorem dX4_note_0 : decode cX4_note 0 = .ok (.aload_n 0, 1) := by decide +kernel
theorem dX4_note_1 : decode cX4_note 1 = .ok (.iload_n 1, 1) := by decide +kernel
theorem dX4_note_2 : decode cX4_note 2 = .ok (.invokevirtual 113, 3) := by decide +kernel
theorem dX4_note_5 : decode cX4_note 5 = .ok (.ifCond .eq 51, 3) := by decide +kernel
theorem dX4_note_8 : decode cX4_note 8 = .ok (.iload_n 2, 1) := by decide +kernel
theorem dX4_note_9 : decode cX4_note 9 = .ok (.i2l, 1) := by decide +kernel
theorem dX4_note_10 : decode cX4_note 10 = .ok (.lconst 0, 1) := by decide +kernel
theorem dX4_note_11 : decode cX4_note 11 = .ok (.ldc2_w 148, 3) := by decide +kernel
theorem dX4_note_14 : decode cX4_note 14 = .ok (.invokestatic 56, 3) := by decide +kernel
theorem dX4_note_17 : decode cX4_note 17 = .ok (.ifCond .eq 39, 3) := by decide +kernel
theorem dX4_note_20 : decode cX4_note 20 = .ok (.iload_n 3, 1) := by decide +kernel
theorem dX4_note_21 : decode cX4_note 21 = .ok (.i2l, 1) := by decide +kernel
theorem dX4_note_22 : decode cX4_note 22 = .ok (.lconst 0, 1) := by decide +kernel
theorem dX4_note_23 : decode cX4_note 23 = .ok (.lconst 1, 1) := by decide +kernel
theorem dX4_note_24 : decode cX4_note 24 = .ok (.invokestatic 56, 3) := by decide +kernel
theorem dX4_note_27 : decode cX4_note 27 = .ok (.ifCond .eq 29, 3) := by decide +kernel
theorem dX4_note_30 : decode cX4_note 30 = .ok (.iload 4, 2) := by decide +kernel
theorem dX4_note_32 : decode cX4_note 32 = .ok (.i2l, 1) := by decide +kernel
theorem dX4_note_33 : decode cX4_note 33 = .ok (.lconst 0, 1) := by decide +kernel
theorem dX4_note_34 : decode cX4_note 34 = .ok (.ldc2_w 148, 3) := by decide +kernel
theorem dX4_note_37 : decode cX4_note 37 = .ok (.invokestatic 56, 3) := by decide +kernel
theorem dX4_note_40 : decode cX4_note 40 = .ok (.ifCond .eq 16, 3) := by decide +kernel
theorem dX4_note_43 : decode cX4_note 43 = .ok (.iload 5, 2) := by decide +kernel
theorem dX4_note_45 : decode cX4_note 45 = .ok (.i2l, 1) := by decide +kernel
theorem dX4_note_46 : decode cX4_note 46 = .ok (.lconst 0, 1) := by decide +kernel
theorem dX4_note_47 : decode cX4_note 47 = .ok (.ldc2_w 60, 3) := by decide +kernel
theorem dX4_note_50 : decode cX4_note 50 = .ok (.invokestatic 56, 3) := by decide +kernel
theorem dX4_note_53 : decode cX4_note 53 = .ok (.ifCond .ne 10, 3) := by decide +kernel
theorem dX4_note_56 : decode cX4_note 56 = .ok (.aload_n 0, 1) := by decide +kernel
theorem dX4_note_57 : decode cX4_note 57 = .ok (.bipush (-2), 2) := by decide +kernel
theorem dX4_note_59 : decode cX4_note 59 = .ok (.invokevirtual 62, 3) := by decide +kernel
theorem dX4_note_62 : decode cX4_note 62 = .ok (.ireturn, 1) := by decide +kernel
theorem dX4_note_63 : decode cX4_note 63 = .ok (.aload_n 0, 1) := by decide +kernel
theorem dX4_note_64 : decode cX4_note 64 = .ok (.getfield 7, 3) := by decide +kernel
theorem dX4_note_67 : decode cX4_note 67 = .ok (.iconst 2, 1) := by decide +kernel
theorem dX4_note_68 : decode cX4_note 68 = .ok (.iaload, 1) := by decide +kernel
theorem dX4_note_69 : decode cX4_note 69 = .ok (.bipush 6, 2) := by decide +kernel
theorem dX4_note_71 : decode cX4_note 71 = .ok (.if_icmp .ne 8, 3) := by decide +kernel
theorem dX4_note_74 : decode cX4_note 74 = .ok (.aload_n 0, 1) := by decide +kernel
theorem dX4_note_75 : decode cX4_note 75 = .ok (.invokevirtual 68, 3) := by decide +kernel
theorem dX4_note_78 : decode cX4_note 78 = .ok (.ireturn, 1) := by decide +kernel
theorem dX4_note_79 : decode cX4_note 79 = .ok (.bipush 22, 2) := by decide +kernel
theorem dX4_note_81 : decode cX4_note 81 = .ok (.iconst 5, 1) := by decide +kernel
theorem dX4_note_82 : decode cX4_note 82 = .ok (.aload_n 0, 1) := by decide +kernel
theorem dX4_note_83 : decode cX4_note 83 = .ok (.getfield 7, 3) := by decide +kernel
theorem dX4_note_86 : decode cX4_note 86 = .ok (.iconst 2, 1) := by decide +kernel
theorem dX4_note_87 : decode cX4_note 87 = .ok (.iaload, 1) := by decide +kernel
theorem dX4_note_88 : decode cX4_note 88 = .ok (.imul, 1) := by decide +kernel
theorem dX4_note_89 : decode cX4_note 89 = .ok (.iadd, 1) := by decide +kernel
theorem dX4_note_90 : decode cX4_note 90 = .ok (.istore 6, 2) := by decide +kernel
theorem dX4_note_92 : decode cX4_note 92 = .ok (.aload_n 0, 1) := by decide +kernel
theorem dX4_note_93 : decode cX4_note 93 = .ok (.getfield 7, 3) := by decide +kernel
theorem dX4_note_96 : decode cX4_note 96 = .ok (.iload 6, 2) := by decide +kernel
theorem dX4_note_98 : decode cX4_note 98 = .ok (.iload_n 1, 1) := by decide +kernel
theorem dX4_note_99 : decode cX4_note 99 = .ok (.iastore, 1) := by decide +kernel
theorem dX4_note_100 : decode cX4_note 100 = .ok (.aload_n 0, 1) := by decide +kernel
theorem dX4_note_101 : decode cX4_note 101 = .ok (.getfield 7, 3) := by decide +kernel
theorem dX4_note_104 : decode cX4_note 104 = .ok (.iload 6, 2) := by decide +kernel
theorem dX4_note_106 : decode cX4_note 106 = .ok (.iconst 1, 1) := by decide +kernel
theorem dX4_note_107 : decode cX4_note 107 = .ok (.iadd, 1) := by decide +kernel
theorem dX4_note_108 : decode cX4_note 108 = .ok (.iload_n 2, 1) := by decide +kernel
theorem dX4_note_109 : decode cX4_note 109 = .ok (.iastore, 1) := by decide +kernel
theorem dX4_note_110 : decode cX4_note 110 = .ok (.aload_n 0, 1) := by decide +kernel
theorem dX4_note_111 : decode cX4_note 111 = .ok (.getfield 7, 3) := by decide +kernel
theorem dX4_note_114 : decode cX4_note 114 = .ok (.iload 6, 2) := by decide +kernel
theorem dX4_note_116 : decode cX4_note 116 = .ok (.iconst 2, 1) := by decide +kernel
theorem dX4_note_117 : decode cX4_note 117 = .ok (.iadd, 1) := by decide +kernel
theorem dX4_note_118 : decode cX4_note 118 = .ok (.iload_n 3, 1) := by decide +kernel
theorem dX4_note_119 : decode cX4_note 119 = .ok (.iastore, 1) := by decide +kernel
theorem dX4_note_120 : decode cX4_note 120 = .ok (.aload_n 0, 1) := by decide +kernel
theorem dX4_note_121 : decode cX4_note 121 = .ok (.getfield 7, 3) := by decide +kernel
theorem dX4_note_124 : decode cX4_note 124 = .ok (.iload 6, 2) := by decide +kernel
theorem dX4_note_126 : decode cX4_note 126 = .ok (.iconst 3, 1) := by decide +kernel
theorem dX4_note_127 : decode cX4_note 127 = .ok (.iadd, 1) := by decide +kernel
theorem dX4_note_128 : decode cX4_note 128 = .ok (.iload 4, 2) := by decide +kernel
theorem dX4_note_130 : decode cX4_note 130 = .ok (.iastore, 1) := by decide +kernel
theorem dX4_note_131 : decode cX4_note 131 = .ok (.aload_n 0, 1) := by decide +kernel
theorem dX4_note_132 : decode cX4_note 132 = .ok (.getfield 7, 3) := by decide +kernel
theorem dX4_note_135 : decode cX4_note 135 = .ok (.iload 6, 2) := by decide +kernel
theorem dX4_note_137 : decode cX4_note 137 = .ok (.iconst 4, 1) := by decide +kernel
theorem dX4_note_138 : decode cX4_note 138 = .ok (.iadd, 1) := by decide +kernel
theorem dX4_note_139 : decode cX4_note 139 = .ok (.iload 5, 2) := by decide +kernel
theorem dX4_note_141 : decode cX4_note 141 = .ok (.iastore, 1) := by decide +kernel
theorem dX4_note_142 : decode cX4_note 142 = .ok (.aload_n 0, 1) := by decide +kernel
theorem dX4_note_143 : decode cX4_note 143 = .ok (.getfield 7, 3) := by decide +kernel
theorem dX4_note_146 : decode cX4_note 146 = .ok (.iconst 2, 1) := by decide +kernel
theorem dX4_note_147 : decode cX4_note 147 = .ok (.dup2, 1) := by decide +kernel
theorem dX4_note_148 : decode cX4_note 148 = .ok (.iaload, 1) := by decide +kernel
theorem dX4_note_149 : decode cX4_note 149 = .ok (.iconst 1, 1) := by decide +kernel
theorem dX4_note_150 : decode cX4_note 150 = .ok (.iadd, 1) := by decide +kernel
theorem dX4_note_151 : decode cX4_note 151 = .ok (.iastore, 1) := by decide +kernel
theorem dX4_note_152 : decode cX4_note 152 = .ok (.aload_n 0, 1) := by decide +kernel
theorem dX4_note_153 : decode cX4_note 153 = .ok (.getfield 7, 3) := by decide +kernel
theorem dX4_note_156 : decode cX4_note 156 = .ok (.iconst 2, 1) := by decide +kernel
theorem dX4_note_157 : decode cX4_note 157 = .ok (.iaload, 1) := by decide +kernel
theorem dX4_note_158 : decode cX4_note 158 = .ok (.ireturn, 1) := by decide +kernel
theorem dX4_forget_0 : decode cX4_forget 0 = .ok (.aload_n 0, 1) := by decide +kernel
theorem dX4_forget_1 : decode cX4_forget 1 = .ok (.getfield 7, 3) := by decide +kernel
theorem dX4_forget_4 : decode cX4_forget 4 = .ok (.iconst 2, 1) := by decide +kernel
theorem dX4_forget_5 : decode cX4_forget 5 = .ok (.iaload, 1) := by decide +kernel
theorem dX4_forget_6 : decode cX4_forget 6 = .ok (.istore_n 1, 1) := by decide +kernel
theorem dX4_forget_7 : decode cX4_forget 7 = .ok (.aload_n 0, 1) := by decide +kernel
theorem dX4_forget_8 : decode cX4_forget 8 = .ok (.getfield 7, 3) := by decide +kernel
theorem dX4_forget_11 : decode cX4_forget 11 = .ok (.iconst 2, 1) := by decide +kernel
theorem dX4_forget_12 : decode cX4_forget 12 = .ok (.iconst 0, 1) := by decide +kernel
theorem dX4_forget_13 : decode cX4_forget 13 = .ok (.iastore, 1) := by decide +kernel
theorem dX4_forget_14 : decode cX4_forget 14 = .ok (.iload_n 1, 1) := by decide +kernel
theorem dX4_forget_15 : decode cX4_forget 15 = .ok (.ireturn, 1) := by decide +kernel
theorem dX4_kindsOf_0 : decode cX4_kindsOf 0 = .ok (.iconst 0, 1) := by decide +kernel
theorem dX4_kindsOf_1 : decode cX4_kindsOf 1 = .ok (.istore_n 2, 1) := by decide +kernel
theorem dX4_kindsOf_2 : decode cX4_kindsOf 2 = .ok (.iconst 0, 1) := by decide +kernel
theorem dX4_kindsOf_3 : decode cX4_kindsOf 3 = .ok (.istore_n 3, 1) := by decide +kernel
theorem dX4_kindsOf_4 : decode cX4_kindsOf 4 = .ok (.iload_n 3, 1) := by decide +kernel
theorem dX4_kindsOf_5 : decode cX4_kindsOf 5 = .ok (.bipush 6, 2) := by decide +kernel
theorem dX4_kindsOf_7 : decode cX4_kindsOf 7 = .ok (.if_icmp .ge 131, 3) := by decide +kernel
theorem dX4_kindsOf_10 : decode cX4_kindsOf 10 = .ok (.iconst 1, 1) := by decide +kernel
theorem dX4_kindsOf_11 : decode cX4_kindsOf 11 = .ok (.istore 4, 2) := by decide +kernel
theorem dX4_kindsOf_13 : decode cX4_kindsOf 13 = .ok (.iconst 0, 1) := by decide +kernel
theorem dX4_kindsOf_14 : decode cX4_kindsOf 14 = .ok (.istore 5, 2) := by decide +kernel
theorem dX4_kindsOf_16 : decode cX4_kindsOf 16 = .ok (.iload 5, 2) := by decide +kernel
theorem dX4_kindsOf_18 : decode cX4_kindsOf 18 = .ok (.aload_n 0, 1) := by decide +kernel
theorem dX4_kindsOf_19 : decode cX4_kindsOf 19 = .ok (.getfield 7, 3) := by decide +kernel
theorem dX4_kindsOf_22 : decode cX4_kindsOf 22 = .ok (.iconst 2, 1) := by decide +kernel
theorem dX4_kindsOf_23 : decode cX4_kindsOf 23 = .ok (.iaload, 1) := by decide +kernel
theorem dX4_kindsOf_24 : decode cX4_kindsOf 24 = .ok (.if_icmp .ge 93, 3) := by decide +kernel
theorem dX4_kindsOf_27 : decode cX4_kindsOf 27 = .ok (.bipush 22, 2) := by decide +kernel
theorem dX4_kindsOf_29 : decode cX4_kindsOf 29 = .ok (.iconst 5, 1) := by decide +kernel
theorem dX4_kindsOf_30 : decode cX4_kindsOf 30 = .ok (.iload 5, 2) := by decide +kernel
theorem dX4_kindsOf_32 : decode cX4_kindsOf 32 = .ok (.imul, 1) := by decide +kernel
theorem dX4_kindsOf_33 : decode cX4_kindsOf 33 = .ok (.iadd, 1) := by decide +kernel
theorem dX4_kindsOf_34 : decode cX4_kindsOf 34 = .ok (.istore 6, 2) := by decide +kernel
theorem dX4_kindsOf_36 : decode cX4_kindsOf 36 = .ok (.iload 4, 2) := by decide +kernel
theorem dX4_kindsOf_38 : decode cX4_kindsOf 38 = .ok (.ifCond .eq 70, 3) := by decide +kernel
theorem dX4_kindsOf_41 : decode cX4_kindsOf 41 = .ok (.aload_n 0, 1) := by decide +kernel
theorem dX4_kindsOf_42 : decode cX4_kindsOf 42 = .ok (.getfield 7, 3) := by decide +kernel
theorem dX4_kindsOf_45 : decode cX4_kindsOf 45 = .ok (.iload 6, 2) := by decide +kernel
theorem dX4_kindsOf_47 : decode cX4_kindsOf 47 = .ok (.iaload, 1) := by decide +kernel
theorem dX4_kindsOf_48 : decode cX4_kindsOf 48 = .ok (.iload_n 1, 1) := by decide +kernel
theorem dX4_kindsOf_49 : decode cX4_kindsOf 49 = .ok (.if_icmp .ne 55, 3) := by decide +kernel
theorem dX4_kindsOf_52 : decode cX4_kindsOf 52 = .ok (.iload_n 3, 1) := by decide +kernel
theorem dX4_kindsOf_53 : decode cX4_kindsOf 53 = .ok (.aload_n 0, 1) := by decide +kernel
theorem dX4_kindsOf_54 : decode cX4_kindsOf 54 = .ok (.getfield 7, 3) := by decide +kernel
theorem dX4_kindsOf_57 : decode cX4_kindsOf 57 = .ok (.iload 6, 2) := by decide +kernel
theorem dX4_kindsOf_59 : decode cX4_kindsOf 59 = .ok (.iconst 3, 1) := by decide +kernel
theorem dX4_kindsOf_60 : decode cX4_kindsOf 60 = .ok (.iadd, 1) := by decide +kernel
theorem dX4_kindsOf_61 : decode cX4_kindsOf 61 = .ok (.iaload, 1) := by decide +kernel
theorem dX4_kindsOf_62 : decode cX4_kindsOf 62 = .ok (.aload_n 0, 1) := by decide +kernel
theorem dX4_kindsOf_63 : decode cX4_kindsOf 63 = .ok (.getfield 7, 3) := by decide +kernel
theorem dX4_kindsOf_66 : decode cX4_kindsOf 66 = .ok (.iload 6, 2) := by decide +kernel
theorem dX4_kindsOf_68 : decode cX4_kindsOf 68 = .ok (.iconst 1, 1) := by decide +kernel
theorem dX4_kindsOf_69 : decode cX4_kindsOf 69 = .ok (.iadd, 1) := by decide +kernel
theorem dX4_kindsOf_70 : decode cX4_kindsOf 70 = .ok (.iaload, 1) := by decide +kernel
theorem dX4_kindsOf_71 : decode cX4_kindsOf 71 = .ok (.aload_n 0, 1) := by decide +kernel
theorem dX4_kindsOf_72 : decode cX4_kindsOf 72 = .ok (.getfield 7, 3) := by decide +kernel
theorem dX4_kindsOf_75 : decode cX4_kindsOf 75 = .ok (.iload 6, 2) := by decide +kernel
theorem dX4_kindsOf_77 : decode cX4_kindsOf 77 = .ok (.iconst 2, 1) := by decide +kernel
theorem dX4_kindsOf_78 : decode cX4_kindsOf 78 = .ok (.iadd, 1) := by decide +kernel
theorem dX4_kindsOf_79 : decode cX4_kindsOf 79 = .ok (.iaload, 1) := by decide +kernel
theorem dX4_kindsOf_80 : decode cX4_kindsOf 80 = .ok (.iconst 1, 1) := by decide +kernel
theorem dX4_kindsOf_81 : decode cX4_kindsOf 81 = .ok (.if_icmp .ne 7, 3) := by decide +kernel
theorem dX4_kindsOf_84 : decode cX4_kindsOf 84 = .ok (.iconst 1, 1) := by decide +kernel
theorem dX4_kindsOf_85 : decode cX4_kindsOf 85 = .ok (.goto 4, 3) := by decide +kernel
theorem dX4_kindsOf_88 : decode cX4_kindsOf 88 = .ok (.iconst 0, 1) := by decide +kernel
theorem dX4_kindsOf_89 : decode cX4_kindsOf 89 = .ok (.invokestatic 95, 3) := by decide +kernel
theorem dX4_kindsOf_92 : decode cX4_kindsOf 92 = .ok (.aload_n 0, 1) := by decide +kernel
theorem dX4_kindsOf_93 : decode cX4_kindsOf 93 = .ok (.getfield 7, 3) := by decide +kernel
theorem dX4_kindsOf_96 : decode cX4_kindsOf 96 = .ok (.iload 6, 2) := by decide +kernel
theorem dX4_kindsOf_98 : decode cX4_kindsOf 98 = .ok (.iconst 4, 1) := by decide +kernel
theorem dX4_kindsOf_99 : decode cX4_kindsOf 99 = .ok (.iadd, 1) := by decide +kernel
theorem dX4_kindsOf_100 : decode cX4_kindsOf 100 = .ok (.iaload, 1) := by decide +kernel
theorem dX4_kindsOf_101 : decode cX4_kindsOf 101 = .ok (.if_icmp .ne 7, 3) := by decide +kernel
theorem dX4_kindsOf_104 : decode cX4_kindsOf 104 = .ok (.iconst 1, 1) := by decide +kernel
theorem dX4_kindsOf_105 : decode cX4_kindsOf 105 = .ok (.goto 4, 3) := by decide +kernel
theorem dX4_kindsOf_108 : decode cX4_kindsOf 108 = .ok (.iconst 0, 1) := by decide +kernel
theorem dX4_kindsOf_109 : decode cX4_kindsOf 109 = .ok (.istore 4, 2) := by decide +kernel
theorem dX4_kindsOf_111 : decode cX4_kindsOf 111 = .ok (.iinc 5 1, 3) := by decide +kernel
theorem dX4_kindsOf_114 : decode cX4_kindsOf 114 = .ok (.goto (-98), 3) := by decide +kernel
theorem dX4_kindsOf_117 : decode cX4_kindsOf 117 = .ok (.iload_n 2, 1) := by decide +kernel
theorem dX4_kindsOf_118 : decode cX4_kindsOf 118 = .ok (.iload 4, 2) := by decide +kernel
theorem dX4_kindsOf_120 : decode cX4_kindsOf 120 = .ok (.ifCond .eq 9, 3) := by decide +kernel
theorem dX4_kindsOf_123 : decode cX4_kindsOf 123 = .ok (.iconst 1, 1) := by decide +kernel
theorem dX4_kindsOf_124 : decode cX4_kindsOf 124 = .ok (.iload_n 3, 1) := by decide +kernel
theorem dX4_kindsOf_125 : decode cX4_kindsOf 125 = .ok (.ishl, 1) := by decide +kernel
theorem dX4_kindsOf_126 : decode cX4_kindsOf 126 = .ok (.goto 4, 3) := by decide +kernel
theorem dX4_kindsOf_129 : decode cX4_kindsOf 129 = .ok (.iconst 0, 1) := by decide +kernel
theorem dX4_kindsOf_130 : decode cX4_kindsOf 130 = .ok (.ior, 1) := by decide +kernel
theorem dX4_kindsOf_131 : decode cX4_kindsOf 131 = .ok (.istore_n 2, 1) := by decide +kernel
theorem dX4_kindsOf_132 : decode cX4_kindsOf 132 = .ok (.iinc 3 1, 3) := by decide +kernel
theorem dX4_kindsOf_135 : decode cX4_kindsOf 135 = .ok (.goto (-131), 3) := by decide +kernel
theorem dX4_kindsOf_138 : decode cX4_kindsOf 138 = .ok (.iload_n 2, 1) := by decide +kernel
theorem dX4_kindsOf_139 : decode cX4_kindsOf 139 = .ok (.ireturn, 1) := by decide +kernel
theorem dX4_is_0 : decode cX4_is 0 = .ok (.aload_n 0, 1) := by decide +kernel
theorem dX4_is_1 : decode cX4_is 1 = .ok (.iload_n 1, 1) := by decide +kernel
theorem dX4_is_2 : decode cX4_is 2 = .ok (.invokevirtual 113, 3) := by decide +kernel
theorem dX4_is_5 : decode cX4_is 5 = .ok (.ifCond .eq 11, 3) := by decide +kernel
theorem dX4_is_8 : decode cX4_is 8 = .ok (.aload_n 0, 1) := by decide +kernel
theorem dX4_is_9 : decode cX4_is 9 = .ok (.iload_n 1, 1) := by decide +kernel
theorem dX4_is_10 : decode cX4_is 10 = .ok (.invokevirtual 150, 3) := by decide +kernel
theorem dX4_is_13 : decode cX4_is 13 = .ok (.goto 9, 3) := by decide +kernel
theorem dX4_is_16 : decode cX4_is 16 = .ok (.aload_n 0, 1) := by decide +kernel
theorem dX4_is_17 : decode cX4_is 17 = .ok (.bipush (-2), 2) := by decide +kernel
theorem dX4_is_19 : decode cX4_is 19 = .ok (.invokevirtual 62, 3) := by decide +kernel
theorem dX4_is_22 : decode cX4_is 22 = .ok (.ireturn, 1) := by decide +kernel
theorem dX4_look_0 : decode cX4_look 0 = .ok (.aload_n 0, 1) := by decide +kernel
theorem dX4_look_1 : decode cX4_look 1 = .ok (.iload_n 1, 1) := by decide +kernel
theorem dX4_look_2 : decode cX4_look 2 = .ok (.invokevirtual 113, 3) := by decide +kernel
theorem dX4_look_5 : decode cX4_look 5 = .ok (.ifCond .eq 15, 3) := by decide +kernel
theorem dX4_look_8 : decode cX4_look 8 = .ok (.iload_n 2, 1) := by decide +kernel
theorem dX4_look_9 : decode cX4_look 9 = .ok (.i2l, 1) := by decide +kernel
theorem dX4_look_10 : decode cX4_look 10 = .ok (.lconst 0, 1) := by decide +kernel
theorem dX4_look_11 : decode cX4_look 11 = .ok (.ldc2_w 148, 3) := by decide +kernel
theorem dX4_look_14 : decode cX4_look 14 = .ok (.invokestatic 56, 3) := by decide +kernel
theorem dX4_look_17 : decode cX4_look 17 = .ok (.ifCond .ne 10, 3) := by decide +kernel
theorem dX4_look_20 : decode cX4_look 20 = .ok (.aload_n 0, 1) := by decide +kernel
theorem dX4_look_21 : decode cX4_look 21 = .ok (.bipush (-2), 2) := by decide +kernel
theorem dX4_look_23 : decode cX4_look 23 = .ok (.invokevirtual 62, 3) := by decide +kernel
theorem dX4_look_26 : decode cX4_look 26 = .ok (.ireturn, 1) := by decide +kernel
theorem dX4_look_27 : decode cX4_look 27 = .ok (.aload_n 0, 1) := by decide +kernel
theorem dX4_look_28 : decode cX4_look 28 = .ok (.iload_n 1, 1) := by decide +kernel
theorem dX4_look_29 : decode cX4_look 29 = .ok (.invokevirtual 150, 3) := by decide +kernel
theorem dX4_look_32 : decode cX4_look 32 = .ok (.istore_n 3, 1) := by decide +kernel
theorem dX4_look_33 : decode cX4_look 33 = .ok (.iconst (-1), 1) := by decide +kernel
theorem dX4_look_34 : decode cX4_look 34 = .ok (.istore 4, 2) := by decide +kernel
theorem dX4_look_36 : decode cX4_look 36 = .ok (.ldc 153, 2) := by decide +kernel
theorem dX4_look_38 : decode cX4_look 38 = .ok (.istore 5, 2) := by decide +kernel
theorem dX4_look_40 : decode cX4_look 40 = .ok (.iconst 0, 1) := by decide +kernel
theorem dX4_look_41 : decode cX4_look 41 = .ok (.istore 6, 2) := by decide +kernel
theorem dX4_look_43 : decode cX4_look 43 = .ok (.iload 6, 2) := by decide +kernel
theorem dX4_look_45 : decode cX4_look 45 = .ok (.bipush 12, 2) := by decide +kernel
theorem dX4_look_47 : decode cX4_look 47 = .ok (.if_icmp .ge 158, 3) := by decide +kernel
theorem dX4_look_50 : decode cX4_look 50 = .ok (.iload_n 3, 1) := by decide +kernel
theorem dX4_look_51 : decode cX4_look 51 = .ok (.ifCond .le 154, 3) := by decide +kernel
theorem dX4_look_54 : decode cX4_look 54 = .ok (.iconst 0, 1) := by decide +kernel
theorem dX4_look_55 : decode cX4_look 55 = .ok (.istore 7, 2) := by decide +kernel
theorem dX4_look_57 : decode cX4_look 57 = .ok (.iconst 0, 1) := by decide +kernel
theorem dX4_look_58 : decode cX4_look 58 = .ok (.istore 8, 2) := by decide +kernel
theorem dX4_look_60 : decode cX4_look 60 = .ok (.iload 8, 2) := by decide +kernel
theorem dX4_look_62 : decode cX4_look 62 = .ok (.bipush 6, 2) := by decide +kernel
theorem dX4_look_64 : decode cX4_look 64 = .ok (.if_icmp .ge 17, 3) := by decide +kernel
theorem dX4_look_67 : decode cX4_look 67 = .ok (.aload_n 0, 1) := by decide +kernel
theorem dX4_look_68 : decode cX4_look 68 = .ok (.getfield 36, 3) := by decide +kernel
theorem dX4_look_71 : decode cX4_look 71 = .ok (.iload 8, 2) := by decide +kernel
theorem dX4_look_73 : decode cX4_look 73 = .ok (.iconst 0, 1) := by decide +kernel
theorem dX4_look_74 : decode cX4_look 74 = .ok (.iastore, 1) := by decide +kernel
theorem dX4_look_75 : decode cX4_look 75 = .ok (.iinc 8 1, 3) := by decide +kernel
theorem dX4_look_78 : decode cX4_look 78 = .ok (.goto (-18), 3) := by decide +kernel
theorem dX4_look_81 : decode cX4_look 81 = .ok (.iconst 0, 1) := by decide +kernel
theorem dX4_look_82 : decode cX4_look 82 = .ok (.istore 8, 2) := by decide +kernel
theorem dX4_look_84 : decode cX4_look 84 = .ok (.iload 8, 2) := by decide +kernel
theorem dX4_look_86 : decode cX4_look 86 = .ok (.bipush 6, 2) := by decide +kernel
theorem dX4_look_88 : decode cX4_look 88 = .ok (.if_icmp .ge 79, 3) := by decide +kernel
theorem dX4_look_91 : decode cX4_look 91 = .ok (.iload_n 3, 1) := by decide +kernel
theorem dX4_look_92 : decode cX4_look 92 = .ok (.iload 8, 2) := by decide +kernel
theorem dX4_look_94 : decode cX4_look 94 = .ok (.invokestatic 91, 3) := by decide +kernel
theorem dX4_look_97 : decode cX4_look 97 = .ok (.ifCond .eq 64, 3) := by decide +kernel
theorem dX4_look_100 : decode cX4_look 100 = .ok (.iload 8, 2) := by decide +kernel
theorem dX4_look_102 : decode cX4_look 102 = .ok (.iload_n 2, 1) := by decide +kernel
theorem dX4_look_103 : decode cX4_look 103 = .ok (.iload 6, 2) := by decide +kernel
theorem dX4_look_105 : decode cX4_look 105 = .ok (.bipush 6, 2) := by decide +kernel
theorem dX4_look_107 : decode cX4_look 107 = .ok (.irem, 1) := by decide +kernel
theorem dX4_look_108 : decode cX4_look 108 = .ok (.iload 6, 2) := by decide +kernel
theorem dX4_look_110 : decode cX4_look 110 = .ok (.iconst 5, 1) := by decide +kernel
theorem dX4_look_111 : decode cX4_look 111 = .ok (.if_icmp .le 7, 3) := by decide +kernel
theorem dX4_look_114 : decode cX4_look 114 = .ok (.iconst 1, 1) := by decide +kernel
theorem dX4_look_115 : decode cX4_look 115 = .ok (.goto 4, 3) := by decide +kernel
theorem dX4_look_118 : decode cX4_look 118 = .ok (.iconst 0, 1) := by decide +kernel
theorem dX4_look_119 : decode cX4_look 119 = .ok (.invokestatic 95, 3) := by decide +kernel
theorem dX4_look_122 : decode cX4_look 122 = .ok (.istore 9, 2) := by decide +kernel
theorem dX4_look_124 : decode cX4_look 124 = .ok (.aload_n 0, 1) := by decide +kernel
theorem dX4_look_125 : decode cX4_look 125 = .ok (.getfield 36, 3) := by decide +kernel
theorem dX4_look_128 : decode cX4_look 128 = .ok (.iload 9, 2) := by decide +kernel
theorem dX4_look_130 : decode cX4_look 130 = .ok (.dup2, 1) := by decide +kernel
theorem dX4_look_131 : decode cX4_look 131 = .ok (.iaload, 1) := by decide +kernel
theorem dX4_look_132 : decode cX4_look 132 = .ok (.iconst 1, 1) := by decide +kernel
theorem dX4_look_133 : decode cX4_look 133 = .ok (.iadd, 1) := by decide +kernel
theorem dX4_look_134 : decode cX4_look 134 = .ok (.iastore, 1) := by decide +kernel
theorem dX4_look_135 : decode cX4_look 135 = .ok (.aload_n 0, 1) := by decide +kernel
theorem dX4_look_136 : decode cX4_look 136 = .ok (.getfield 36, 3) := by decide +kernel
theorem dX4_look_139 : decode cX4_look 139 = .ok (.iload 9, 2) := by decide +kernel
theorem dX4_look_141 : decode cX4_look 141 = .ok (.iaload, 1) := by decide +kernel
theorem dX4_look_142 : decode cX4_look 142 = .ok (.iload 7, 2) := by decide +kernel
theorem dX4_look_144 : decode cX4_look 144 = .ok (.if_icmp .le 13, 3) := by decide +kernel
theorem dX4_look_147 : decode cX4_look 147 = .ok (.aload_n 0, 1) := by decide +kernel
theorem dX4_look_148 : decode cX4_look 148 = .ok (.getfield 36, 3) := by decide +kernel
theorem dX4_look_151 : decode cX4_look 151 = .ok (.iload 9, 2) := by decide +kernel
theorem dX4_look_153 : decode cX4_look 153 = .ok (.iaload, 1) := by decide +kernel
theorem dX4_look_154 : decode cX4_look 154 = .ok (.goto 5, 3) := by decide +kernel
theorem dX4_look_157 : decode cX4_look 157 = .ok (.iload 7, 2) := by decide +kernel
theorem dX4_look_159 : decode cX4_look 159 = .ok (.istore 7, 2) := by decide +kernel
theorem dX4_look_161 : decode cX4_look 161 = .ok (.iinc 8 1, 3) := by decide +kernel
theorem dX4_look_164 : decode cX4_look 164 = .ok (.goto (-80), 3) := by decide +kernel
theorem dX4_look_167 : decode cX4_look 167 = .ok (.iload 7, 2) := by decide +kernel
theorem dX4_look_169 : decode cX4_look 169 = .ok (.iload 5, 2) := by decide +kernel
theorem dX4_look_171 : decode cX4_look 171 = .ok (.if_icmp .ge 8, 3) := by decide +kernel
theorem dX4_look_174 : decode cX4_look 174 = .ok (.iload 6, 2) := by decide +kernel
theorem dX4_look_176 : decode cX4_look 176 = .ok (.goto 5, 3) := by decide +kernel
theorem dX4_look_179 : decode cX4_look 179 = .ok (.iload 4, 2) := by decide +kernel
theorem dX4_look_181 : decode cX4_look 181 = .ok (.istore 4, 2) := by decide +kernel
theorem dX4_look_183 : decode cX4_look 183 = .ok (.iload 7, 2) := by decide +kernel
theorem dX4_look_185 : decode cX4_look 185 = .ok (.iload 5, 2) := by decide +kernel
theorem dX4_look_187 : decode cX4_look 187 = .ok (.if_icmp .ge 8, 3) := by decide +kernel
theorem dX4_look_190 : decode cX4_look 190 = .ok (.iload 7, 2) := by decide +kernel
theorem dX4_look_192 : decode cX4_look 192 = .ok (.goto 5, 3) := by decide +kernel
theorem dX4_look_195 : decode cX4_look 195 = .ok (.iload 5, 2) := by decide +kernel
theorem dX4_look_197 : decode cX4_look 197 = .ok (.istore 5, 2) := by decide +kernel
theorem dX4_look_199 : decode cX4_look 199 = .ok (.iinc 6 1, 3) := by decide +kernel
theorem dX4_look_202 : decode cX4_look 202 = .ok (.goto (-159), 3) := by decide +kernel
theorem dX4_look_205 : decode cX4_look 205 = .ok (.iload 4, 2) := by decide +kernel
theorem dX4_look_207 : decode cX4_look 207 = .ok (.ireturn, 1) := by decide +kernel
theorem dX4_manySources_0 : decode cX4_manySources 0 = .ok (.iconst 0, 1) := by decide +kernel
theorem dX4_manySources_1 : decode cX4_manySources 1 = .ok (.istore_n 1, 1) := by decide +kernel
theorem dX4_manySources_2 : decode cX4_manySources 2 = .ok (.iconst 0, 1) := by decide +kernel
theorem dX4_manySources_3 : decode cX4_manySources 3 = .ok (.istore_n 2, 1) := by decide +kernel
theorem dX4_manySources_4 : decode cX4_manySources 4 = .ok (.iload_n 2, 1) := by decide +kernel
theorem dX4_manySources_5 : decode cX4_manySources 5 = .ok (.bipush 100, 2) := by decide +kernel
theorem dX4_manySources_7 : decode cX4_manySources 7 = .ok (.if_icmp .gt 85, 3) := by decide +kernel
theorem dX4_manySources_10 : decode cX4_manySources 10 = .ok (.iconst 1, 1) := by decide +kernel
theorem dX4_manySources_11 : decode cX4_manySources 11 = .ok (.istore_n 3, 1) := by decide +kernel
theorem dX4_manySources_12 : decode cX4_manySources 12 = .ok (.iconst 0, 1) := by decide +kernel
theorem dX4_manySources_13 : decode cX4_manySources 13 = .ok (.istore 4, 2) := by decide +kernel
theorem dX4_manySources_15 : decode cX4_manySources 15 = .ok (.iload 4, 2) := by decide +kernel
theorem dX4_manySources_17 : decode cX4_manySources 17 = .ok (.aload_n 0, 1) := by decide +kernel
theorem dX4_manySources_18 : decode cX4_manySources 18 = .ok (.invokevirtual 52, 3) := by decide +kernel
theorem dX4_manySources_21 : decode cX4_manySources 21 = .ok (.if_icmp .ge 53, 3) := by decide +kernel
theorem dX4_manySources_24 : decode cX4_manySources 24 = .ok (.iload_n 3, 1) := by decide +kernel
theorem dX4_manySources_25 : decode cX4_manySources 25 = .ok (.ifCond .eq 41, 3) := by decide +kernel
theorem dX4_manySources_28 : decode cX4_manySources 28 = .ok (.aload_n 0, 1) := by decide +kernel
theorem dX4_manySources_29 : decode cX4_manySources 29 = .ok (.getfield 7, 3) := by decide +kernel
theorem dX4_manySources_32 : decode cX4_manySources 32 = .ok (.bipush 11, 2) := by decide +kernel
theorem dX4_manySources_34 : decode cX4_manySources 34 = .ok (.iload 4, 2) := by decide +kernel
theorem dX4_manySources_36 : decode cX4_manySources 36 = .ok (.iadd, 1) := by decide +kernel
theorem dX4_manySources_37 : decode cX4_manySources 37 = .ok (.iaload, 1) := by decide +kernel
theorem dX4_manySources_38 : decode cX4_manySources 38 = .ok (.iload_n 2, 1) := by decide +kernel
theorem dX4_manySources_39 : decode cX4_manySources 39 = .ok (.if_icmp .lt 7, 3) := by decide +kernel
theorem dX4_manySources_42 : decode cX4_manySources 42 = .ok (.iconst 1, 1) := by decide +kernel
theorem dX4_manySources_43 : decode cX4_manySources 43 = .ok (.goto 4, 3) := by decide +kernel
theorem dX4_manySources_46 : decode cX4_manySources 46 = .ok (.iconst 0, 1) := by decide +kernel
theorem dX4_manySources_47 : decode cX4_manySources 47 = .ok (.aload_n 0, 1) := by decide +kernel
theorem dX4_manySources_48 : decode cX4_manySources 48 = .ok (.getfield 7, 3) := by decide +kernel
theorem dX4_manySources_51 : decode cX4_manySources 51 = .ok (.bipush 18, 2) := by decide +kernel
theorem dX4_manySources_53 : decode cX4_manySources 53 = .ok (.iaload, 1) := by decide +kernel
theorem dX4_manySources_54 : decode cX4_manySources 54 = .ok (.iload 4, 2) := by decide +kernel
theorem dX4_manySources_56 : decode cX4_manySources 56 = .ok (.invokestatic 91, 3) := by decide +kernel
theorem dX4_manySources_59 : decode cX4_manySources 59 = .ok (.if_icmp .ne 7, 3) := by decide +kernel
theorem dX4_manySources_62 : decode cX4_manySources 62 = .ok (.iconst 1, 1) := by decide +kernel
theorem dX4_manySources_63 : decode cX4_manySources 63 = .ok (.goto 4, 3) := by decide +kernel
theorem dX4_manySources_66 : decode cX4_manySources 66 = .ok (.iconst 0, 1) := by decide +kernel
theorem dX4_manySources_67 : decode cX4_manySources 67 = .ok (.istore_n 3, 1) := by decide +kernel
theorem dX4_manySources_68 : decode cX4_manySources 68 = .ok (.iinc 4 1, 3) := by decide +kernel
theorem dX4_manySources_71 : decode cX4_manySources 71 = .ok (.goto (-56), 3) := by decide +kernel
theorem dX4_manySources_74 : decode cX4_manySources 74 = .ok (.iload_n 1, 1) := by decide +kernel
theorem dX4_manySources_75 : decode cX4_manySources 75 = .ok (.iload_n 3, 1) := by decide +kernel
theorem dX4_manySources_76 : decode cX4_manySources 76 = .ok (.ifCond .eq 7, 3) := by decide +kernel
theorem dX4_manySources_79 : decode cX4_manySources 79 = .ok (.iconst 1, 1) := by decide +kernel
theorem dX4_manySources_80 : decode cX4_manySources 80 = .ok (.goto 4, 3) := by decide +kernel
theorem dX4_manySources_83 : decode cX4_manySources 83 = .ok (.iconst 0, 1) := by decide +kernel
theorem dX4_manySources_84 : decode cX4_manySources 84 = .ok (.iadd, 1) := by decide +kernel
theorem dX4_manySources_85 : decode cX4_manySources 85 = .ok (.istore_n 1, 1) := by decide +kernel
theorem dX4_manySources_86 : decode cX4_manySources 86 = .ok (.iinc 2 1, 3) := by decide +kernel
theorem dX4_manySources_89 : decode cX4_manySources 89 = .ok (.goto (-85), 3) := by decide +kernel
theorem dX4_manySources_92 : decode cX4_manySources 92 = .ok (.iload_n 1, 1) := by decide +kernel
theorem dX4_manySources_93 : decode cX4_manySources 93 = .ok (.ireturn, 1) := by decide +kernel
theorem dX4_areKindsEven_0 : decode cX4_areKindsEven 0 = .ok (.iconst 1, 1) := by decide +kernel
theorem dX4_areKindsEven_1 : decode cX4_areKindsEven 1 = .ok (.istore_n 1, 1) := by decide +kernel
theorem dX4_areKindsEven_2 : decode cX4_areKindsEven 2 = .ok (.iconst 0, 1) := by decide +kernel
theorem dX4_areKindsEven_3 : decode cX4_areKindsEven 3 = .ok (.istore_n 2, 1) := by decide +kernel
theorem dX4_areKindsEven_4 : decode cX4_areKindsEven 4 = .ok (.iload_n 2, 1) := by decide +kernel
theorem dX4_areKindsEven_5 : decode cX4_areKindsEven 5 = .ok (.bipush 6, 2) := by decide +kernel
theorem dX4_areKindsEven_7 : decode cX4_areKindsEven 7 = .ok (.if_icmp .ge 123, 3) := by decide +kernel
theorem dX4_areKindsEven_10 : decode cX4_areKindsEven 10 = .ok (.iconst 1, 1) := by decide +kernel
theorem dX4_areKindsEven_11 : decode cX4_areKindsEven 11 = .ok (.istore_n 3, 1) := by decide +kernel
theorem dX4_areKindsEven_12 : decode cX4_areKindsEven 12 = .ok (.iconst 1, 1) := by decide +kernel
theorem dX4_areKindsEven_13 : decode cX4_areKindsEven 13 = .ok (.istore 4, 2) := by decide +kernel
theorem dX4_areKindsEven_15 : decode cX4_areKindsEven 15 = .ok (.iconst 0, 1) := by decide +kernel
theorem dX4_areKindsEven_16 : decode cX4_areKindsEven 16 = .ok (.istore 5, 2) := by decide +kernel
theorem dX4_areKindsEven_18 : decode cX4_areKindsEven 18 = .ok (.iload 5, 2) := by decide +kernel
theorem dX4_areKindsEven_20 : decode cX4_areKindsEven 20 = .ok (.aload_n 0, 1) := by decide +kernel
theorem dX4_areKindsEven_21 : decode cX4_areKindsEven 21 = .ok (.invokevirtual 52, 3) := by decide +kernel
theorem dX4_areKindsEven_24 : decode cX4_areKindsEven 24 = .ok (.if_icmp .ge 81, 3) := by decide +kernel
theorem dX4_areKindsEven_27 : decode cX4_areKindsEven 27 = .ok (.iload_n 3, 1) := by decide +kernel
theorem dX4_areKindsEven_28 : decode cX4_areKindsEven 28 = .ok (.ifCond .eq 32, 3) := by decide +kernel
theorem dX4_areKindsEven_31 : decode cX4_areKindsEven 31 = .ok (.aload_n 0, 1) := by decide +kernel
theorem dX4_areKindsEven_32 : decode cX4_areKindsEven 32 = .ok (.iload 5, 2) := by decide +kernel
theorem dX4_areKindsEven_34 : decode cX4_areKindsEven 34 = .ok (.invokevirtual 88, 3) := by decide +kernel
theorem dX4_areKindsEven_37 : decode cX4_areKindsEven 37 = .ok (.iload_n 2, 1) := by decide +kernel
theorem dX4_areKindsEven_38 : decode cX4_areKindsEven 38 = .ok (.if_icmp .ne 18, 3) := by decide +kernel
theorem dX4_areKindsEven_41 : decode cX4_areKindsEven 41 = .ok (.aload_n 0, 1) := by decide +kernel
theorem dX4_areKindsEven_42 : decode cX4_areKindsEven 42 = .ok (.getfield 7, 3) := by decide +kernel
theorem dX4_areKindsEven_45 : decode cX4_areKindsEven 45 = .ok (.bipush 18, 2) := by decide +kernel
theorem dX4_areKindsEven_47 : decode cX4_areKindsEven 47 = .ok (.iaload, 1) := by decide +kernel
theorem dX4_areKindsEven_48 : decode cX4_areKindsEven 48 = .ok (.iload 5, 2) := by decide +kernel
theorem dX4_areKindsEven_50 : decode cX4_areKindsEven 50 = .ok (.invokestatic 91, 3) := by decide +kernel
theorem dX4_areKindsEven_53 : decode cX4_areKindsEven 53 = .ok (.ifCond .eq 7, 3) := by decide +kernel
theorem dX4_areKindsEven_56 : decode cX4_areKindsEven 56 = .ok (.iconst 1, 1) := by decide +kernel
theorem dX4_areKindsEven_57 : decode cX4_areKindsEven 57 = .ok (.goto 4, 3) := by decide +kernel
theorem dX4_areKindsEven_60 : decode cX4_areKindsEven 60 = .ok (.iconst 0, 1) := by decide +kernel
theorem dX4_areKindsEven_61 : decode cX4_areKindsEven 61 = .ok (.istore_n 3, 1) := by decide +kernel
theorem dX4_areKindsEven_62 : decode cX4_areKindsEven 62 = .ok (.iload 4, 2) := by decide +kernel
theorem dX4_areKindsEven_64 : decode cX4_areKindsEven 64 = .ok (.ifCond .eq 32, 3) := by decide +kernel
theorem dX4_areKindsEven_67 : decode cX4_areKindsEven 67 = .ok (.aload_n 0, 1) := by decide +kernel
theorem dX4_areKindsEven_68 : decode cX4_areKindsEven 68 = .ok (.iload 5, 2) := by decide +kernel
theorem dX4_areKindsEven_70 : decode cX4_areKindsEven 70 = .ok (.invokevirtual 88, 3) := by decide +kernel
theorem dX4_areKindsEven_73 : decode cX4_areKindsEven 73 = .ok (.iload_n 2, 1) := by decide +kernel
theorem dX4_areKindsEven_74 : decode cX4_areKindsEven 74 = .ok (.if_icmp .ne 18, 3) := by decide +kernel
theorem dX4_areKindsEven_77 : decode cX4_areKindsEven 77 = .ok (.aload_n 0, 1) := by decide +kernel
theorem dX4_areKindsEven_78 : decode cX4_areKindsEven 78 = .ok (.getfield 7, 3) := by decide +kernel
theorem dX4_areKindsEven_81 : decode cX4_areKindsEven 81 = .ok (.bipush 18, 2) := by decide +kernel
theorem dX4_areKindsEven_83 : decode cX4_areKindsEven 83 = .ok (.iaload, 1) := by decide +kernel
theorem dX4_areKindsEven_84 : decode cX4_areKindsEven 84 = .ok (.iload 5, 2) := by decide +kernel
theorem dX4_areKindsEven_86 : decode cX4_areKindsEven 86 = .ok (.invokestatic 91, 3) := by decide +kernel
theorem dX4_areKindsEven_89 : decode cX4_areKindsEven 89 = .ok (.ifCond .ne 7, 3) := by decide +kernel
theorem dX4_areKindsEven_92 : decode cX4_areKindsEven 92 = .ok (.iconst 1, 1) := by decide +kernel
theorem dX4_areKindsEven_93 : decode cX4_areKindsEven 93 = .ok (.goto 4, 3) := by decide +kernel
theorem dX4_areKindsEven_96 : decode cX4_areKindsEven 96 = .ok (.iconst 0, 1) := by decide +kernel
theorem dX4_areKindsEven_97 : decode cX4_areKindsEven 97 = .ok (.istore 4, 2) := by decide +kernel
theorem dX4_areKindsEven_99 : decode cX4_areKindsEven 99 = .ok (.iinc 5 1, 3) := by decide +kernel
theorem dX4_areKindsEven_102 : decode cX4_areKindsEven 102 = .ok (.goto (-84), 3) := by decide +kernel
theorem dX4_areKindsEven_105 : decode cX4_areKindsEven 105 = .ok (.iload_n 1, 1) := by decide +kernel
theorem dX4_areKindsEven_106 : decode cX4_areKindsEven 106 = .ok (.ifCond .eq 16, 3) := by decide +kernel
theorem dX4_areKindsEven_109 : decode cX4_areKindsEven 109 = .ok (.iload_n 3, 1) := by decide +kernel
theorem dX4_areKindsEven_110 : decode cX4_areKindsEven 110 = .ok (.ifCond .ne 8, 3) := by decide +kernel
theorem dX4_areKindsEven_113 : decode cX4_areKindsEven 113 = .ok (.iload 4, 2) := by decide +kernel
theorem dX4_areKindsEven_115 : decode cX4_areKindsEven 115 = .ok (.ifCond .eq 7, 3) := by decide +kernel
theorem dX4_areKindsEven_118 : decode cX4_areKindsEven 118 = .ok (.iconst 1, 1) := by decide +kernel
theorem dX4_areKindsEven_119 : decode cX4_areKindsEven 119 = .ok (.goto 4, 3) := by decide +kernel
theorem dX4_areKindsEven_122 : decode cX4_areKindsEven 122 = .ok (.iconst 0, 1) := by decide +kernel
theorem dX4_areKindsEven_123 : decode cX4_areKindsEven 123 = .ok (.istore_n 1, 1) := by decide +kernel
theorem dX4_areKindsEven_124 : decode cX4_areKindsEven 124 = .ok (.iinc 2 1, 3) := by decide +kernel
theorem dX4_areKindsEven_127 : decode cX4_areKindsEven 127 = .ok (.goto (-123), 3) := by decide +kernel
theorem dX4_areKindsEven_130 : decode cX4_areKindsEven 130 = .ok (.iload_n 1, 1) := by decide +kernel
theorem dX4_areKindsEven_131 : decode cX4_areKindsEven 131 = .ok (.ireturn, 1) := by decide +kernel
theorem dX4_source_0 : decode cX4_source 0 = .ok (.iload_n 1, 1) := by decide +kernel
theorem dX4_source_1 : decode cX4_source 1 = .ok (.ifCond .ne 10, 3) := by decide +kernel
theorem dX4_source_4 : decode cX4_source 4 = .ok (.aload_n 0, 1) := by decide +kernel
theorem dX4_source_5 : decode cX4_source 5 = .ok (.invokevirtual 154, 3) := by decide +kernel
theorem dX4_source_8 : decode cX4_source 8 = .ok (.goto 29, 3) := by decide +kernel
theorem dX4_source_11 : decode cX4_source 11 = .ok (.iload_n 1, 1) := by decide +kernel
theorem dX4_source_12 : decode cX4_source 12 = .ok (.iconst 1, 1) := by decide +kernel
theorem dX4_source_13 : decode cX4_source 13 = .ok (.if_icmp .ne 18, 3) := by decide +kernel
theorem dX4_source_16 : decode cX4_source 16 = .ok (.aload_n 0, 1) := by decide +kernel
theorem dX4_source_17 : decode cX4_source 17 = .ok (.invokevirtual 157, 3) := by decide +kernel
theorem dX4_source_20 : decode cX4_source 20 = .ok (.ifCond .eq 7, 3) := by decide +kernel
theorem dX4_source_23 : decode cX4_source 23 = .ok (.iconst 1, 1) := by decide +kernel
theorem dX4_source_24 : decode cX4_source 24 = .ok (.goto 13, 3) := by decide +kernel
theorem dX4_source_27 : decode cX4_source 27 = .ok (.iconst 0, 1) := by decide +kernel
theorem dX4_source_28 : decode cX4_source 28 = .ok (.goto 9, 3) := by decide +kernel
theorem dX4_source_31 : decode cX4_source 31 = .ok (.aload_n 0, 1) := by decide +kernel
theorem dX4_source_32 : decode cX4_source 32 = .ok (.bipush (-2), 2) := by decide +kernel
theorem dX4_source_34 : decode cX4_source 34 = .ok (.invokevirtual 62, 3) := by decide +kernel
theorem dX4_source_37 : decode cX4_source 37 = .ok (.ireturn, 1) := by decide +kernel
theorem dX4_fraction_0 : decode cX4_fraction 0 = .ok (.lload_n 1, 1) := by decide +kernel
theorem dX4_fraction_1 : decode cX4_fraction 1 = .ok (.lstore 5, 2) := by decide +kernel
theorem dX4_fraction_3 : decode cX4_fraction 3 = .ok (.lload_n 3, 1) := by decide +kernel
theorem dX4_fraction_4 : decode cX4_fraction 4 = .ok (.lstore 7, 2) := by decide +kernel
theorem dX4_fraction_6 : decode cX4_fraction 6 = .ok (.lload 7, 2) := by decide +kernel
theorem dX4_fraction_8 : decode cX4_fraction 8 = .ok (.lconst 0, 1) := by decide +kernel
theorem dX4_fraction_9 : decode cX4_fraction 9 = .ok (.lcmp, 1) := by decide +kernel
theorem dX4_fraction_10 : decode cX4_fraction 10 = .ok (.ifCond .eq 21, 3) := by decide +kernel
theorem dX4_fraction_13 : decode cX4_fraction 13 = .ok (.lload 5, 2) := by decide +kernel
theorem dX4_fraction_15 : decode cX4_fraction 15 = .ok (.lload 7, 2) := by decide +kernel
theorem dX4_fraction_17 : decode cX4_fraction 17 = .ok (.lrem, 1) := by decide +kernel
theorem dX4_fraction_18 : decode cX4_fraction 18 = .ok (.lstore 9, 2) := by decide +kernel
theorem dX4_fraction_20 : decode cX4_fraction 20 = .ok (.lload 7, 2) := by decide +kernel
theorem dX4_fraction_22 : decode cX4_fraction 22 = .ok (.lstore 5, 2) := by decide +kernel
theorem dX4_fraction_24 : decode cX4_fraction 24 = .ok (.lload 9, 2) := by decide +kernel
theorem dX4_fraction_26 : decode cX4_fraction 26 = .ok (.lstore 7, 2) := by decide +kernel
theorem dX4_fraction_28 : decode cX4_fraction 28 = .ok (.goto (-22), 3) := by decide +kernel
theorem dX4_fraction_31 : decode cX4_fraction 31 = .ok (.aload_n 0, 1) := by decide +kernel
theorem dX4_fraction_32 : decode cX4_fraction 32 = .ok (.lload_n 1, 1) := by decide +kernel
theorem dX4_fraction_33 : decode cX4_fraction 33 = .ok (.lload 5, 2) := by decide +kernel
theorem dX4_fraction_35 : decode cX4_fraction 35 = .ok (.ldiv, 1) := by decide +kernel
theorem dX4_fraction_36 : decode cX4_fraction 36 = .ok (.putfield 161, 3) := by decide +kernel
theorem dX4_fraction_39 : decode cX4_fraction 39 = .ok (.aload_n 0, 1) := by decide +kernel
theorem dX4_fraction_40 : decode cX4_fraction 40 = .ok (.lload_n 3, 1) := by decide +kernel
theorem dX4_fraction_41 : decode cX4_fraction 41 = .ok (.lload 5, 2) := by decide +kernel
theorem dX4_fraction_43 : decode cX4_fraction 43 = .ok (.ldiv, 1) := by decide +kernel
theorem dX4_fraction_44 : decode cX4_fraction 44 = .ok (.putfield 23, 3) := by decide +kernel
theorem dX4_fraction_47 : decode cX4_fraction 47 = .ok (.return_, 1) := by decide +kernel
theorem dX4_odds_0 : decode cX4_odds 0 = .ok (.aload_n 0, 1) := by decide +kernel
theorem dX4_odds_1 : decode cX4_odds 1 = .ok (.iload_n 1, 1) := by decide +kernel
theorem dX4_odds_2 : decode cX4_odds 2 = .ok (.invokevirtual 113, 3) := by decide +kernel
theorem dX4_odds_5 : decode cX4_odds 5 = .ok (.ifCond .eq 27, 3) := by decide +kernel
theorem dX4_odds_8 : decode cX4_odds 8 = .ok (.iload_n 2, 1) := by decide +kernel
theorem dX4_odds_9 : decode cX4_odds 9 = .ok (.i2l, 1) := by decide +kernel
theorem dX4_odds_10 : decode cX4_odds 10 = .ok (.lconst 0, 1) := by decide +kernel
theorem dX4_odds_11 : decode cX4_odds 11 = .ok (.ldc2_w 142, 3) := by decide +kernel
theorem dX4_odds_14 : decode cX4_odds 14 = .ok (.invokestatic 56, 3) := by decide +kernel
theorem dX4_odds_17 : decode cX4_odds 17 = .ok (.ifCond .eq 15, 3) := by decide +kernel
theorem dX4_odds_20 : decode cX4_odds 20 = .ok (.iload_n 3, 1) := by decide +kernel
theorem dX4_odds_21 : decode cX4_odds 21 = .ok (.i2l, 1) := by decide +kernel
theorem dX4_odds_22 : decode cX4_odds 22 = .ok (.lconst 0, 1) := by decide +kernel
theorem dX4_odds_23 : decode cX4_odds 23 = .ok (.ldc2_w 164, 3) := by decide +kernel
theorem dX4_odds_26 : decode cX4_odds 26 = .ok (.invokestatic 56, 3) := by decide +kernel
theorem dX4_odds_29 : decode cX4_odds 29 = .ok (.ifCond .ne 10, 3) := by decide +kernel
theorem dX4_odds_32 : decode cX4_odds 32 = .ok (.aload_n 0, 1) := by decide +kernel
theorem dX4_odds_33 : decode cX4_odds 33 = .ok (.bipush (-2), 2) := by decide +kernel
theorem dX4_odds_35 : decode cX4_odds 35 = .ok (.invokevirtual 62, 3) := by decide +kernel
theorem dX4_odds_38 : decode cX4_odds 38 = .ok (.ireturn, 1) := by decide +kernel
theorem dX4_odds_39 : decode cX4_odds 39 = .ok (.aload_n 0, 1) := by decide +kernel
theorem dX4_odds_40 : decode cX4_odds 40 = .ok (.getfield 7, 3) := by decide +kernel
theorem dX4_odds_43 : decode cX4_odds 43 = .ok (.bipush 18, 2) := by decide +kernel
theorem dX4_odds_45 : decode cX4_odds 45 = .ok (.iaload, 1) := by decide +kernel
theorem dX4_odds_46 : decode cX4_odds 46 = .ok (.iload_n 1, 1) := by decide +kernel
theorem dX4_odds_47 : decode cX4_odds 47 = .ok (.invokestatic 91, 3) := by decide +kernel
theorem dX4_odds_50 : decode cX4_odds 50 = .ok (.ifCond .ne 8, 3) := by decide +kernel
theorem dX4_odds_53 : decode cX4_odds 53 = .ok (.aload_n 0, 1) := by decide +kernel
theorem dX4_odds_54 : decode cX4_odds 54 = .ok (.invokevirtual 131, 3) := by decide +kernel
theorem dX4_odds_57 : decode cX4_odds 57 = .ok (.ireturn, 1) := by decide +kernel
theorem dX4_odds_58 : decode cX4_odds 58 = .ok (.lconst 0, 1) := by decide +kernel
theorem dX4_odds_59 : decode cX4_odds 59 = .ok (.lstore 4, 2) := by decide +kernel
theorem dX4_odds_61 : decode cX4_odds 61 = .ok (.lconst 1, 1) := by decide +kernel
theorem dX4_odds_62 : decode cX4_odds 62 = .ok (.lstore 6, 2) := by decide +kernel
theorem dX4_odds_64 : decode cX4_odds 64 = .ok (.iconst 0, 1) := by decide +kernel
theorem dX4_odds_65 : decode cX4_odds 65 = .ok (.istore 8, 2) := by decide +kernel
theorem dX4_odds_67 : decode cX4_odds 67 = .ok (.iload 8, 2) := by decide +kernel
theorem dX4_odds_69 : decode cX4_odds 69 = .ok (.iconst 1, 1) := by decide +kernel
theorem dX4_odds_70 : decode cX4_odds 70 = .ok (.iload_n 2, 1) := by decide +kernel
theorem dX4_odds_71 : decode cX4_odds 71 = .ok (.ishl, 1) := by decide +kernel
theorem dX4_odds_72 : decode cX4_odds 72 = .ok (.if_icmp .ge 81, 3) := by decide +kernel
theorem dX4_odds_75 : decode cX4_odds 75 = .ok (.lconst 1, 1) := by decide +kernel
theorem dX4_odds_76 : decode cX4_odds 76 = .ok (.lstore 9, 2) := by decide +kernel
theorem dX4_odds_78 : decode cX4_odds 78 = .ok (.iconst 0, 1) := by decide +kernel
theorem dX4_odds_79 : decode cX4_odds 79 = .ok (.istore 11, 2) := by decide +kernel
theorem dX4_odds_81 : decode cX4_odds 81 = .ok (.iload 11, 2) := by decide +kernel
theorem dX4_odds_83 : decode cX4_odds 83 = .ok (.iload_n 2, 1) := by decide +kernel
theorem dX4_odds_84 : decode cX4_odds 84 = .ok (.if_icmp .ge 34, 3) := by decide +kernel
theorem dX4_odds_87 : decode cX4_odds 87 = .ok (.lload 9, 2) := by decide +kernel
theorem dX4_odds_89 : decode cX4_odds 89 = .ok (.iload 8, 2) := by decide +kernel
theorem dX4_odds_91 : decode cX4_odds 91 = .ok (.iload 11, 2) := by decide +kernel
theorem dX4_odds_93 : decode cX4_odds 93 = .ok (.invokestatic 91, 3) := by decide +kernel
theorem dX4_odds_96 : decode cX4_odds 96 = .ok (.ifCond .eq 8, 3) := by decide +kernel
theorem dX4_odds_99 : decode cX4_odds 99 = .ok (.iload_n 3, 1) := by decide +kernel
theorem dX4_odds_100 : decode cX4_odds 100 = .ok (.i2l, 1) := by decide +kernel
theorem dX4_odds_101 : decode cX4_odds 101 = .ok (.goto 8, 3) := by decide +kernel
theorem dX4_odds_104 : decode cX4_odds 104 = .ok (.bipush 10, 2) := by decide +kernel
theorem dX4_odds_106 : decode cX4_odds 106 = .ok (.iload_n 3, 1) := by decide +kernel
theorem dX4_odds_107 : decode cX4_odds 107 = .ok (.isub, 1) := by decide +kernel
theorem dX4_odds_108 : decode cX4_odds 108 = .ok (.i2l, 1) := by decide +kernel
theorem dX4_odds_109 : decode cX4_odds 109 = .ok (.lmul, 1) := by decide +kernel
theorem dX4_odds_110 : decode cX4_odds 110 = .ok (.lstore 9, 2) := by decide +kernel
theorem dX4_odds_112 : decode cX4_odds 112 = .ok (.iinc 11 1, 3) := by decide +kernel
theorem dX4_odds_115 : decode cX4_odds 115 = .ok (.goto (-34), 3) := by decide +kernel
theorem dX4_odds_118 : decode cX4_odds 118 = .ok (.lload 4, 2) := by decide +kernel
theorem dX4_odds_120 : decode cX4_odds 120 = .ok (.lload 9, 2) := by decide +kernel
theorem dX4_odds_122 : decode cX4_odds 122 = .ok (.lconst 0, 1) := by decide +kernel
theorem dX4_odds_123 : decode cX4_odds 123 = .ok (.lcmp, 1) := by decide +kernel
theorem dX4_odds_124 : decode cX4_odds 124 = .ok (.ifCond .le 19, 3) := by decide +kernel
theorem dX4_odds_127 : decode cX4_odds 127 = .ok (.aload_n 0, 1) := by decide +kernel
theorem dX4_odds_128 : decode cX4_odds 128 = .ok (.iload_n 1, 1) := by decide +kernel
theorem dX4_odds_129 : decode cX4_odds 129 = .ok (.iload_n 2, 1) := by decide +kernel
theorem dX4_odds_130 : decode cX4_odds 130 = .ok (.iload 8, 2) := by decide +kernel
theorem dX4_odds_132 : decode cX4_odds 132 = .ok (.invokevirtual 144, 3) := by decide +kernel
theorem dX4_odds_135 : decode cX4_odds 135 = .ok (.ifCond .eq 8, 3) := by decide +kernel
theorem dX4_odds_138 : decode cX4_odds 138 = .ok (.lload 9, 2) := by decide +kernel
theorem dX4_odds_140 : decode cX4_odds 140 = .ok (.goto 4, 3) := by decide +kernel
theorem dX4_odds_143 : decode cX4_odds 143 = .ok (.lconst 0, 1) := by decide +kernel
theorem dX4_odds_144 : decode cX4_odds 144 = .ok (.ladd, 1) := by decide +kernel
theorem dX4_odds_145 : decode cX4_odds 145 = .ok (.lstore 4, 2) := by decide +kernel
theorem dX4_odds_147 : decode cX4_odds 147 = .ok (.iinc 8 1, 3) := by decide +kernel
theorem dX4_odds_150 : decode cX4_odds 150 = .ok (.goto (-83), 3) := by decide +kernel
theorem dX4_odds_153 : decode cX4_odds 153 = .ok (.iconst 0, 1) := by decide +kernel
theorem dX4_odds_154 : decode cX4_odds 154 = .ok (.istore 8, 2) := by decide +kernel
theorem dX4_odds_156 : decode cX4_odds 156 = .ok (.iload 8, 2) := by decide +kernel
theorem dX4_odds_158 : decode cX4_odds 158 = .ok (.iload_n 2, 1) := by decide +kernel
theorem dX4_odds_159 : decode cX4_odds 159 = .ok (.if_icmp .ge 17, 3) := by decide +kernel
theorem dX4_odds_162 : decode cX4_odds 162 = .ok (.lload 6, 2) := by decide +kernel
theorem dX4_odds_164 : decode cX4_odds 164 = .ok (.ldc2_w 164, 3) := by decide +kernel
theorem dX4_odds_167 : decode cX4_odds 167 = .ok (.lmul, 1) := by decide +kernel
theorem dX4_odds_168 : decode cX4_odds 168 = .ok (.lstore 6, 2) := by decide +kernel
theorem dX4_odds_170 : decode cX4_odds 170 = .ok (.iinc 8 1, 3) := by decide +kernel
theorem dX4_odds_173 : decode cX4_odds 173 = .ok (.goto (-17), 3) := by decide +kernel
theorem dX4_odds_176 : decode cX4_odds 176 = .ok (.aload_n 0, 1) := by decide +kernel
theorem dX4_odds_177 : decode cX4_odds 177 = .ok (.lload 4, 2) := by decide +kernel
theorem dX4_odds_179 : decode cX4_odds 179 = .ok (.lload 6, 2) := by decide +kernel
theorem dX4_odds_181 : decode cX4_odds 181 = .ok (.invokevirtual 166, 3) := by decide +kernel
theorem dX4_odds_184 : decode cX4_odds 184 = .ok (.iconst 1, 1) := by decide +kernel
theorem dX4_odds_185 : decode cX4_odds 185 = .ok (.ireturn, 1) := by decide +kernel
theorem dX4_years_0 : decode cX4_years 0 = .ok (.iload_n 1, 1) := by decide +kernel
theorem dX4_years_1 : decode cX4_years 1 = .ok (.i2l, 1) := by decide +kernel
theorem dX4_years_2 : decode cX4_years 2 = .ok (.lconst 0, 1) := by decide +kernel
theorem dX4_years_3 : decode cX4_years 3 = .ok (.ldc2_w 170, 3) := by decide +kernel
theorem dX4_years_6 : decode cX4_years 6 = .ok (.invokestatic 56, 3) := by decide +kernel
theorem dX4_years_9 : decode cX4_years 9 = .ok (.ifCond .eq 15, 3) := by decide +kernel
theorem dX4_years_12 : decode cX4_years 12 = .ok (.iload_n 2, 1) := by decide +kernel
theorem dX4_years_13 : decode cX4_years 13 = .ok (.i2l, 1) := by decide +kernel
theorem dX4_years_14 : decode cX4_years 14 = .ok (.lconst 0, 1) := by decide +kernel
theorem dX4_years_15 : decode cX4_years 15 = .ok (.ldc2_w 120, 3) := by decide +kernel
theorem dX4_years_18 : decode cX4_years 18 = .ok (.invokestatic 56, 3) := by decide +kernel
theorem dX4_years_21 : decode cX4_years 21 = .ok (.ifCond .ne 10, 3) := by decide +kernel
theorem dX4_years_24 : decode cX4_years 24 = .ok (.aload_n 0, 1) := by decide +kernel
theorem dX4_years_25 : decode cX4_years 25 = .ok (.bipush (-2), 2) := by decide +kernel
theorem dX4_years_27 : decode cX4_years 27 = .ok (.invokevirtual 62, 3) := by decide +kernel
theorem dX4_years_30 : decode cX4_years 30 = .ok (.ireturn, 1) := by decide +kernel
theorem dX4_years_31 : decode cX4_years 31 = .ok (.iload_n 1, 1) := by decide +kernel
theorem dX4_years_32 : decode cX4_years 32 = .ok (.i2l, 1) := by decide +kernel
theorem dX4_years_33 : decode cX4_years 33 = .ok (.lstore_n 3, 1) := by decide +kernel
theorem dX4_years_34 : decode cX4_years 34 = .ok (.iconst 0, 1) := by decide +kernel
theorem dX4_years_35 : decode cX4_years 35 = .ok (.istore 5, 2) := by decide +kernel
theorem dX4_years_37 : decode cX4_years 37 = .ok (.aload_n 0, 1) := by decide +kernel
theorem dX4_years_38 : decode cX4_years 38 = .ok (.invokevirtual 122, 3) := by decide +kernel
theorem dX4_years_41 : decode cX4_years 41 = .ok (.iconst 0, 1) := by decide +kernel
theorem dX4_years_42 : decode cX4_years 42 = .ok (.istore 6, 2) := by decide +kernel
theorem dX4_years_44 : decode cX4_years 44 = .ok (.iload 6, 2) := by decide +kernel
theorem dX4_years_46 : decode cX4_years 46 = .ok (.iload_n 2, 1) := by decide +kernel
theorem dX4_years_47 : decode cX4_years 47 = .ok (.if_icmp .ge 89, 3) := by decide +kernel
theorem dX4_years_50 : decode cX4_years 50 = .ok (.aload_n 0, 1) := by decide +kernel
theorem dX4_years_51 : decode cX4_years 51 = .ok (.iconst 0, 1) := by decide +kernel
theorem dX4_years_52 : decode cX4_years 52 = .ok (.putfield 82, 3) := by decide +kernel
theorem dX4_years_55 : decode cX4_years 55 = .ok (.iconst 0, 1) := by decide +kernel
theorem dX4_years_56 : decode cX4_years 56 = .ok (.istore 7, 2) := by decide +kernel
theorem dX4_years_58 : decode cX4_years 58 = .ok (.iload 7, 2) := by decide +kernel
theorem dX4_years_60 : decode cX4_years 60 = .ok (.aload_n 0, 1) := by decide +kernel
theorem dX4_years_61 : decode cX4_years 61 = .ok (.invokevirtual 52, 3) := by decide +kernel
theorem dX4_years_64 : decode cX4_years 64 = .ok (.if_icmp .ge 54, 3) := by decide +kernel
theorem dX4_years_67 : decode cX4_years 67 = .ok (.lload_n 3, 1) := by decide +kernel
theorem dX4_years_68 : decode cX4_years 68 = .ok (.ldc2_w 172, 3) := by decide +kernel
theorem dX4_years_71 : decode cX4_years 71 = .ok (.lmul, 1) := by decide +kernel
theorem dX4_years_72 : decode cX4_years 72 = .ok (.ldc2_w 174, 3) := by decide +kernel
theorem dX4_years_75 : decode cX4_years 75 = .ok (.ladd, 1) := by decide +kernel
theorem dX4_years_76 : decode cX4_years 76 = .ok (.ldc2_w 176, 3) := by decide +kernel
theorem dX4_years_79 : decode cX4_years 79 = .ok (.lrem, 1) := by decide +kernel
theorem dX4_years_80 : decode cX4_years 80 = .ok (.lstore_n 3, 1) := by decide +kernel
theorem dX4_years_81 : decode cX4_years 81 = .ok (.aload_n 0, 1) := by decide +kernel
theorem dX4_years_82 : decode cX4_years 82 = .ok (.dup, 1) := by decide +kernel
theorem dX4_years_83 : decode cX4_years 83 = .ok (.getfield 82, 3) := by decide +kernel
theorem dX4_years_86 : decode cX4_years 86 = .ok (.lload_n 3, 1) := by decide +kernel
theorem dX4_years_87 : decode cX4_years 87 = .ok (.ldc2_w 178, 3) := by decide +kernel
theorem dX4_years_90 : decode cX4_years 90 = .ok (.ldiv, 1) := by decide +kernel
theorem dX4_years_91 : decode cX4_years 91 = .ok (.ldc2_w 180, 3) := by decide +kernel
theorem dX4_years_94 : decode cX4_years 94 = .ok (.lrem, 1) := by decide +kernel
theorem dX4_years_95 : decode cX4_years 95 = .ok (.lconst 1, 1) := by decide +kernel
theorem dX4_years_96 : decode cX4_years 96 = .ok (.lcmp, 1) := by decide +kernel
theorem dX4_years_97 : decode cX4_years 97 = .ok (.ifCond .ne 10, 3) := by decide +kernel
theorem dX4_years_100 : decode cX4_years 100 = .ok (.iconst 1, 1) := by decide +kernel
theorem dX4_years_101 : decode cX4_years 101 = .ok (.iload 7, 2) := by decide +kernel
theorem dX4_years_103 : decode cX4_years 103 = .ok (.ishl, 1) := by decide +kernel
theorem dX4_years_104 : decode cX4_years 104 = .ok (.goto 4, 3) := by decide +kernel
theorem dX4_years_107 : decode cX4_years 107 = .ok (.iconst 0, 1) := by decide +kernel
theorem dX4_years_108 : decode cX4_years 108 = .ok (.ior, 1) := by decide +kernel
theorem dX4_years_109 : decode cX4_years 109 = .ok (.putfield 82, 3) := by decide +kernel
theorem dX4_years_112 : decode cX4_years 112 = .ok (.iinc 7 1, 3) := by decide +kernel
theorem dX4_years_115 : decode cX4_years 115 = .ok (.goto (-57), 3) := by decide +kernel
theorem dX4_years_118 : decode cX4_years 118 = .ok (.iload 5, 2) := by decide +kernel
theorem dX4_years_120 : decode cX4_years 120 = .ok (.aload_n 0, 1) := by decide +kernel
theorem dX4_years_121 : decode cX4_years 121 = .ok (.invokevirtual 125, 3) := by decide +kernel
theorem dX4_years_124 : decode cX4_years 124 = .ok (.invokestatic 128, 3) := by decide +kernel
theorem dX4_years_127 : decode cX4_years 127 = .ok (.iadd, 1) := by decide +kernel
theorem dX4_years_128 : decode cX4_years 128 = .ok (.istore 5, 2) := by decide +kernel
theorem dX4_years_130 : decode cX4_years 130 = .ok (.iinc 6 1, 3) := by decide +kernel
theorem dX4_years_133 : decode cX4_years 133 = .ok (.goto (-89), 3) := by decide +kernel
theorem dX4_years_136 : decode cX4_years 136 = .ok (.iload 5, 2) := by decide +kernel
theorem dX4_years_138 : decode cX4_years 138 = .ok (.ireturn, 1) := by decide +kernel
theorem dX4_type_0 : decode cX4_type 0 = .ok (.iload_n 1, 1) := by decide +kernel
theorem dX4_type_1 : decode cX4_type 1 = .ok (.i2l, 1) := by decide +kernel
theorem dX4_type_2 : decode cX4_type 2 = .ok (.lconst 0, 1) := by decide +kernel
theorem dX4_type_3 : decode cX4_type 3 = .ok (.ldc2_w 182, 3) := by decide +kernel
theorem dX4_type_6 : decode cX4_type 6 = .ok (.invokestatic 56, 3) := by decide +kernel
theorem dX4_type_9 : decode cX4_type 9 = .ok (.ifCond .ne 10, 3) := by decide +kernel
theorem dX4_type_12 : decode cX4_type 12 = .ok (.aload_n 0, 1) := by decide +kernel
theorem dX4_type_13 : decode cX4_type 13 = .ok (.bipush (-2), 2) := by decide +kernel
theorem dX4_type_15 : decode cX4_type 15 = .ok (.invokevirtual 62, 3) := by decide +kernel
theorem dX4_type_18 : decode cX4_type 18 = .ok (.ireturn, 1) := by decide +kernel
theorem dX4_type_19 : decode cX4_type 19 = .ok (.aload_n 0, 1) := by decide +kernel
theorem dX4_type_20 : decode cX4_type 20 = .ok (.getfield 184, 3) := by decide +kernel
theorem dX4_type_23 : decode cX4_type 23 = .ok (.sipush 150, 3) := by decide +kernel
theorem dX4_type_26 : decode cX4_type 26 = .ok (.if_icmp .ne 8, 3) := by decide +kernel
theorem dX4_type_29 : decode cX4_type 29 = .ok (.aload_n 0, 1) := by decide +kernel
theorem dX4_type_30 : decode cX4_type 30 = .ok (.invokevirtual 68, 3) := by decide +kernel
theorem dX4_type_33 : decode cX4_type 33 = .ok (.ireturn, 1) := by decide +kernel
theorem dX4_type_34 : decode cX4_type 34 = .ok (.aload_n 0, 1) := by decide +kernel
theorem dX4_type_35 : decode cX4_type 35 = .ok (.getfield 39, 3) := by decide +kernel
theorem dX4_type_38 : decode cX4_type 38 = .ok (.aload_n 0, 1) := by decide +kernel
theorem dX4_type_39 : decode cX4_type 39 = .ok (.getfield 184, 3) := by decide +kernel
theorem dX4_type_42 : decode cX4_type 42 = .ok (.iload_n 1, 1) := by decide +kernel
theorem dX4_type_43 : decode cX4_type 43 = .ok (.iastore, 1) := by decide +kernel
theorem dX4_type_44 : decode cX4_type 44 = .ok (.aload_n 0, 1) := by decide +kernel
theorem dX4_type_45 : decode cX4_type 45 = .ok (.dup, 1) := by decide +kernel
theorem dX4_type_46 : decode cX4_type 46 = .ok (.getfield 184, 3) := by decide +kernel
theorem dX4_type_49 : decode cX4_type 49 = .ok (.iconst 1, 1) := by decide +kernel
theorem dX4_type_50 : decode cX4_type 50 = .ok (.iadd, 1) := by decide +kernel
theorem dX4_type_51 : decode cX4_type 51 = .ok (.putfield 184, 3) := by decide +kernel
theorem dX4_type_54 : decode cX4_type 54 = .ok (.aload_n 0, 1) := by decide +kernel
theorem dX4_type_55 : decode cX4_type 55 = .ok (.getfield 184, 3) := by decide +kernel
theorem dX4_type_58 : decode cX4_type 58 = .ok (.ireturn, 1) := by decide +kernel
theorem dX4_clear_0 : decode cX4_clear 0 = .ok (.aload_n 0, 1) := by decide +kernel
theorem dX4_clear_1 : decode cX4_clear 1 = .ok (.getfield 184, 3) := by decide +kernel
theorem dX4_clear_4 : decode cX4_clear 4 = .ok (.istore_n 1, 1) := by decide +kernel
theorem dX4_clear_5 : decode cX4_clear 5 = .ok (.aload_n 0, 1) := by decide +kernel
theorem dX4_clear_6 : decode cX4_clear 6 = .ok (.iconst 0, 1) := by decide +kernel
theorem dX4_clear_7 : decode cX4_clear 7 = .ok (.putfield 184, 3) := by decide +kernel
theorem dX4_clear_10 : decode cX4_clear 10 = .ok (.iload_n 1, 1) := by decide +kernel
theorem dX4_clear_11 : decode cX4_clear 11 = .ok (.ireturn, 1) := by decide +kernel
theorem dX4_isSmall_0 : decode cX4_isSmall 0 = .ok (.iload_n 0, 1) := by decide +kernel
theorem dX4_isSmall_1 : decode cX4_isSmall 1 = .ok (.i2l, 1) := by decide +kernel
theorem dX4_isSmall_2 : decode cX4_isSmall 2 = .ok (.ldc2_w 187, 3) := by decide +kernel
theorem dX4_isSmall_5 : decode cX4_isSmall 5 = .ok (.ldc2_w 189, 3) := by decide +kernel
theorem dX4_isSmall_8 : decode cX4_isSmall 8 = .ok (.invokestatic 56, 3) := by decide +kernel
theorem dX4_isSmall_11 : decode cX4_isSmall 11 = .ok (.ireturn, 1) := by decide +kernel
theorem dX4_isFigure_0 : decode cX4_isFigure 0 = .ok (.iload_n 0, 1) := by decide +kernel
theorem dX4_isFigure_1 : decode cX4_isFigure 1 = .ok (.i2l, 1) := by decide +kernel
theorem dX4_isFigure_2 : decode cX4_isFigure 2 = .ok (.ldc2_w 191, 3) := by decide +kernel
theorem dX4_isFigure_5 : decode cX4_isFigure 5 = .ok (.ldc2_w 193, 3) := by decide +kernel
theorem dX4_isFigure_8 : decode cX4_isFigure 8 = .ok (.invokestatic 56, 3) := by decide +kernel
theorem dX4_isFigure_11 : decode cX4_isFigure 11 = .ok (.ireturn, 1) := by decide +kernel
theorem dX4_lookAt_0 : decode cX4_lookAt 0 = .ok (.aload_n 0, 1) := by decide +kernel
theorem dX4_lookAt_1 : decode cX4_lookAt 1 = .ok (.iload_n 1, 1) := by decide +kernel
theorem dX4_lookAt_2 : decode cX4_lookAt 2 = .ok (.putfield 195, 3) := by decide +kernel
theorem dX4_lookAt_5 : decode cX4_lookAt 5 = .ok (.aload_n 0, 1) := by decide +kernel
theorem dX4_lookAt_6 : decode cX4_lookAt 6 = .ok (.getfield 195, 3) := by decide +kernel
theorem dX4_lookAt_9 : decode cX4_lookAt 9 = .ok (.aload_n 0, 1) := by decide +kernel
theorem dX4_lookAt_10 : decode cX4_lookAt 10 = .ok (.getfield 184, 3) := by decide +kernel
theorem dX4_lookAt_13 : decode cX4_lookAt 13 = .ok (.if_icmp .ge 30, 3) := by decide +kernel
theorem dX4_lookAt_16 : decode cX4_lookAt 16 = .ok (.aload_n 0, 1) := by decide +kernel
theorem dX4_lookAt_17 : decode cX4_lookAt 17 = .ok (.getfield 39, 3) := by decide +kernel
theorem dX4_lookAt_20 : decode cX4_lookAt 20 = .ok (.aload_n 0, 1) := by decide +kernel
theorem dX4_lookAt_21 : decode cX4_lookAt 21 = .ok (.getfield 195, 3) := by decide +kernel
theorem dX4_lookAt_24 : decode cX4_lookAt 24 = .ok (.iaload, 1) := by decide +kernel
theorem dX4_lookAt_25 : decode cX4_lookAt 25 = .ok (.bipush 32, 2) := by decide +kernel
theorem dX4_lookAt_27 : decode cX4_lookAt 27 = .ok (.if_icmp .ne 16, 3) := by decide +kernel
theorem dX4_lookAt_30 : decode cX4_lookAt 30 = .ok (.aload_n 0, 1) := by decide +kernel
theorem dX4_lookAt_31 : decode cX4_lookAt 31 = .ok (.dup, 1) := by decide +kernel
theorem dX4_lookAt_32 : decode cX4_lookAt 32 = .ok (.getfield 195, 3) := by decide +kernel
theorem dX4_lookAt_35 : decode cX4_lookAt 35 = .ok (.iconst 1, 1) := by decide +kernel
theorem dX4_lookAt_36 : decode cX4_lookAt 36 = .ok (.iadd, 1) := by decide +kernel
theorem dX4_lookAt_37 : decode cX4_lookAt 37 = .ok (.putfield 195, 3) := by decide +kernel
theorem dX4_lookAt_40 : decode cX4_lookAt 40 = .ok (.goto (-35), 3) := by decide +kernel
theorem dX4_lookAt_43 : decode cX4_lookAt 43 = .ok (.aload_n 0, 1) := by decide +kernel
theorem dX4_lookAt_44 : decode cX4_lookAt 44 = .ok (.iconst 0, 1) := by decide +kernel
theorem dX4_lookAt_45 : decode cX4_lookAt 45 = .ok (.putfield 198, 3) := by decide +kernel
theorem dX4_lookAt_48 : decode cX4_lookAt 48 = .ok (.aload_n 0, 1) := by decide +kernel
theorem dX4_lookAt_49 : decode cX4_lookAt 49 = .ok (.iconst 0, 1) := by decide +kernel
theorem dX4_lookAt_50 : decode cX4_lookAt 50 = .ok (.putfield 201, 3) := by decide +kernel
theorem dX4_lookAt_53 : decode cX4_lookAt 53 = .ok (.aload_n 0, 1) := by decide +kernel
theorem dX4_lookAt_54 : decode cX4_lookAt 54 = .ok (.iconst 0, 1) := by decide +kernel
theorem dX4_lookAt_55 : decode cX4_lookAt 55 = .ok (.putfield 204, 3) := by decide +kernel
theorem dX4_lookAt_58 : decode cX4_lookAt 58 = .ok (.aload_n 0, 1) := by decide +kernel
theorem dX4_lookAt_59 : decode cX4_lookAt 59 = .ok (.getfield 195, 3) := by decide +kernel
theorem dX4_lookAt_62 : decode cX4_lookAt 62 = .ok (.aload_n 0, 1) := by decide +kernel
theorem dX4_lookAt_63 : decode cX4_lookAt 63 = .ok (.getfield 184, 3) := by decide +kernel
theorem dX4_lookAt_66 : decode cX4_lookAt 66 = .ok (.if_icmp .ne 4, 3) := by decide +kernel
theorem dX4_lookAt_69 : decode cX4_lookAt 69 = .ok (.return_, 1) := by decide +kernel
theorem dX4_lookAt_70 : decode cX4_lookAt 70 = .ok (.aload_n 0, 1) := by decide +kernel
theorem dX4_lookAt_71 : decode cX4_lookAt 71 = .ok (.getfield 39, 3) := by decide +kernel
theorem dX4_lookAt_74 : decode cX4_lookAt 74 = .ok (.aload_n 0, 1) := by decide +kernel
theorem dX4_lookAt_75 : decode cX4_lookAt 75 = .ok (.getfield 195, 3) := by decide +kernel
theorem dX4_lookAt_78 : decode cX4_lookAt 78 = .ok (.iaload, 1) := by decide +kernel
theorem dX4_lookAt_79 : decode cX4_lookAt 79 = .ok (.istore_n 2, 1) := by decide +kernel
theorem dX4_lookAt_80 : decode cX4_lookAt 80 = .ok (.aload_n 0, 1) := by decide +kernel
theorem dX4_lookAt_81 : decode cX4_lookAt 81 = .ok (.iload_n 2, 1) := by decide +kernel
theorem dX4_lookAt_82 : decode cX4_lookAt 82 = .ok (.invokestatic 207, 3) := by decide +kernel
theorem dX4_lookAt_85 : decode cX4_lookAt 85 = .ok (.ifCond .eq 7, 3) := by decide +kernel
theorem dX4_lookAt_88 : decode cX4_lookAt 88 = .ok (.iconst 1, 1) := by decide +kernel
theorem dX4_lookAt_89 : decode cX4_lookAt 89 = .ok (.goto 25, 3) := by decide +kernel
theorem dX4_lookAt_92 : decode cX4_lookAt 92 = .ok (.iload_n 2, 1) := by decide +kernel
theorem dX4_lookAt_93 : decode cX4_lookAt 93 = .ok (.invokestatic 210, 3) := by decide +kernel
theorem dX4_lookAt_96 : decode cX4_lookAt 96 = .ok (.ifCond .eq 7, 3) := by decide +kernel
theorem dX4_lookAt_99 : decode cX4_lookAt 99 = .ok (.iconst 2, 1) := by decide +kernel
theorem dX4_lookAt_100 : decode cX4_lookAt 100 = .ok (.goto 14, 3) := by decide +kernel
theorem dX4_lookAt_103 : decode cX4_lookAt 103 = .ok (.iload_n 2, 1) := by decide +kernel
theorem dX4_lookAt_104 : decode cX4_lookAt 104 = .ok (.bipush 59, 2) := by decide +kernel
theorem dX4_lookAt_106 : decode cX4_lookAt 106 = .ok (.if_icmp .ne 7, 3) := by decide +kernel
theorem dX4_lookAt_109 : decode cX4_lookAt 109 = .ok (.iconst 3, 1) := by decide +kernel
theorem dX4_lookAt_110 : decode cX4_lookAt 110 = .ok (.goto 4, 3) := by decide +kernel
theorem dX4_lookAt_113 : decode cX4_lookAt 113 = .ok (.iconst 4, 1) := by decide +kernel
theorem dX4_lookAt_114 : decode cX4_lookAt 114 = .ok (.putfield 201, 3) := by decide +kernel
theorem dX4_lookAt_117 : decode cX4_lookAt 117 = .ok (.aload_n 0, 1) := by decide +kernel
theorem dX4_lookAt_118 : decode cX4_lookAt 118 = .ok (.iconst 1, 1) := by decide +kernel
theorem dX4_lookAt_119 : decode cX4_lookAt 119 = .ok (.putfield 198, 3) := by decide +kernel
theorem dX4_lookAt_122 : decode cX4_lookAt 122 = .ok (.aload_n 0, 1) := by decide +kernel
theorem dX4_lookAt_123 : decode cX4_lookAt 123 = .ok (.getfield 201, 3) := by decide +kernel
theorem dX4_lookAt_126 : decode cX4_lookAt 126 = .ok (.iconst 3, 1) := by decide +kernel
theorem dX4_lookAt_127 : decode cX4_lookAt 127 = .ok (.if_icmp .ge 7, 3) := by decide +kernel
theorem dX4_lookAt_130 : decode cX4_lookAt 130 = .ok (.iconst 1, 1) := by decide +kernel
theorem dX4_lookAt_131 : decode cX4_lookAt 131 = .ok (.goto 4, 3) := by decide +kernel
theorem dX4_lookAt_134 : decode cX4_lookAt 134 = .ok (.iconst 0, 1) := by decide +kernel
theorem dX4_lookAt_135 : decode cX4_lookAt 135 = .ok (.istore_n 3, 1) := by decide +kernel
theorem dX4_lookAt_136 : decode cX4_lookAt 136 = .ok (.iload_n 3, 1) := by decide +kernel
theorem dX4_lookAt_137 : decode cX4_lookAt 137 = .ok (.ifCond .eq 78, 3) := by decide +kernel
theorem dX4_lookAt_140 : decode cX4_lookAt 140 = .ok (.aload_n 0, 1) := by decide +kernel
theorem dX4_lookAt_141 : decode cX4_lookAt 141 = .ok (.getfield 195, 3) := by decide +kernel
theorem dX4_lookAt_144 : decode cX4_lookAt 144 = .ok (.aload_n 0, 1) := by decide +kernel
theorem dX4_lookAt_145 : decode cX4_lookAt 145 = .ok (.getfield 198, 3) := by decide +kernel
theorem dX4_lookAt_148 : decode cX4_lookAt 148 = .ok (.iadd, 1) := by decide +kernel
theorem dX4_lookAt_149 : decode cX4_lookAt 149 = .ok (.aload_n 0, 1) := by decide +kernel
theorem dX4_lookAt_150 : decode cX4_lookAt 150 = .ok (.getfield 184, 3) := by decide +kernel
theorem dX4_lookAt_153 : decode cX4_lookAt 153 = .ok (.if_icmp .ge 62, 3) := by decide +kernel
theorem dX4_lookAt_156 : decode cX4_lookAt 156 = .ok (.aload_n 0, 1) := by decide +kernel
theorem dX4_lookAt_157 : decode cX4_lookAt 157 = .ok (.getfield 39, 3) := by decide +kernel
theorem dX4_lookAt_160 : decode cX4_lookAt 160 = .ok (.aload_n 0, 1) := by decide +kernel
theorem dX4_lookAt_161 : decode cX4_lookAt 161 = .ok (.getfield 195, 3) := by decide +kernel
theorem dX4_lookAt_164 : decode cX4_lookAt 164 = .ok (.aload_n 0, 1) := by decide +kernel
theorem dX4_lookAt_165 : decode cX4_lookAt 165 = .ok (.getfield 198, 3) := by decide +kernel
theorem dX4_lookAt_168 : decode cX4_lookAt 168 = .ok (.iadd, 1) := by decide +kernel
theorem dX4_lookAt_169 : decode cX4_lookAt 169 = .ok (.iaload, 1) := by decide +kernel
theorem dX4_lookAt_170 : decode cX4_lookAt 170 = .ok (.istore 4, 2) := by decide +kernel
theorem dX4_lookAt_172 : decode cX4_lookAt 172 = .ok (.aload_n 0, 1) := by decide +kernel
theorem dX4_lookAt_173 : decode cX4_lookAt 173 = .ok (.getfield 201, 3) := by decide +kernel
theorem dX4_lookAt_176 : decode cX4_lookAt 176 = .ok (.iconst 1, 1) := by decide +kernel
theorem dX4_lookAt_177 : decode cX4_lookAt 177 = .ok (.if_icmp .ne 11, 3) := by decide +kernel
theorem dX4_lookAt_180 : decode cX4_lookAt 180 = .ok (.iload 4, 2) := by decide +kernel
theorem dX4_lookAt_182 : decode cX4_lookAt 182 = .ok (.invokestatic 207, 3) := by decide +kernel
theorem dX4_lookAt_185 : decode cX4_lookAt 185 = .ok (.goto 8, 3) := by decide +kernel
theorem dX4_lookAt_188 : decode cX4_lookAt 188 = .ok (.iload 4, 2) := by decide +kernel
theorem dX4_lookAt_190 : decode cX4_lookAt 190 = .ok (.invokestatic 210, 3) := by decide +kernel
theorem dX4_lookAt_193 : decode cX4_lookAt 193 = .ok (.istore_n 3, 1) := by decide +kernel
theorem dX4_lookAt_194 : decode cX4_lookAt 194 = .ok (.aload_n 0, 1) := by decide +kernel
theorem dX4_lookAt_195 : decode cX4_lookAt 195 = .ok (.dup, 1) := by decide +kernel
theorem dX4_lookAt_196 : decode cX4_lookAt 196 = .ok (.getfield 198, 3) := by decide +kernel
theorem dX4_lookAt_199 : decode cX4_lookAt 199 = .ok (.iload_n 3, 1) := by decide +kernel
theorem dX4_lookAt_200 : decode cX4_lookAt 200 = .ok (.ifCond .eq 7, 3) := by decide +kernel
theorem dX4_lookAt_203 : decode cX4_lookAt 203 = .ok (.iconst 1, 1) := by decide +kernel
theorem dX4_lookAt_204 : decode cX4_lookAt 204 = .ok (.goto 4, 3) := by decide +kernel
theorem dX4_lookAt_207 : decode cX4_lookAt 207 = .ok (.iconst 0, 1) := by decide +kernel
theorem dX4_lookAt_208 : decode cX4_lookAt 208 = .ok (.iadd, 1) := by decide +kernel
theorem dX4_lookAt_209 : decode cX4_lookAt 209 = .ok (.putfield 198, 3) := by decide +kernel
theorem dX4_lookAt_212 : decode cX4_lookAt 212 = .ok (.goto (-76), 3) := by decide +kernel
theorem dX4_lookAt_215 : decode cX4_lookAt 215 = .ok (.iconst 0, 1) := by decide +kernel
theorem dX4_lookAt_216 : decode cX4_lookAt 216 = .ok (.istore 4, 2) := by decide +kernel
theorem dX4_lookAt_218 : decode cX4_lookAt 218 = .ok (.iload 4, 2) := by decide +kernel
theorem dX4_lookAt_220 : decode cX4_lookAt 220 = .ok (.aload_n 0, 1) := by decide +kernel
theorem dX4_lookAt_221 : decode cX4_lookAt 221 = .ok (.getfield 198, 3) := by decide +kernel
theorem dX4_lookAt_224 : decode cX4_lookAt 224 = .ok (.if_icmp .ge 50, 3) := by decide +kernel
theorem dX4_lookAt_227 : decode cX4_lookAt 227 = .ok (.iload 4, 2) := by decide +kernel
theorem dX4_lookAt_229 : decode cX4_lookAt 229 = .ok (.iconst 2, 1) := by decide +kernel
theorem dX4_lookAt_230 : decode cX4_lookAt 230 = .ok (.if_icmp .ge 44, 3) := by decide +kernel
theorem dX4_lookAt_233 : decode cX4_lookAt 233 = .ok (.aload_n 0, 1) := by decide +kernel
theorem dX4_lookAt_234 : decode cX4_lookAt 234 = .ok (.getfield 201, 3) := by decide +kernel
theorem dX4_lookAt_237 : decode cX4_lookAt 237 = .ok (.iconst 2, 1) := by decide +kernel
theorem dX4_lookAt_238 : decode cX4_lookAt 238 = .ok (.if_icmp .ne 36, 3) := by decide +kernel
theorem dX4_lookAt_241 : decode cX4_lookAt 241 = .ok (.aload_n 0, 1) := by decide +kernel
theorem dX4_lookAt_242 : decode cX4_lookAt 242 = .ok (.bipush 10, 2) := by decide +kernel
theorem dX4_lookAt_244 : decode cX4_lookAt 244 = .ok (.aload_n 0, 1) := by decide +kernel
theorem dX4_lookAt_245 : decode cX4_lookAt 245 = .ok (.getfield 204, 3) := by decide +kernel
theorem dX4_lookAt_248 : decode cX4_lookAt 248 = .ok (.imul, 1) := by decide +kernel
theorem dX4_lookAt_249 : decode cX4_lookAt 249 = .ok (.aload_n 0, 1) := by decide +kernel
theorem dX4_lookAt_250 : decode cX4_lookAt 250 = .ok (.getfield 39, 3) := by decide +kernel
theorem dX4_lookAt_253 : decode cX4_lookAt 253 = .ok (.aload_n 0, 1) := by decide +kernel
theorem dX4_lookAt_254 : decode cX4_lookAt 254 = .ok (.getfield 195, 3) := by decide +kernel
theorem dX4_lookAt_257 : decode cX4_lookAt 257 = .ok (.iload 4, 2) := by decide +kernel
theorem dX4_lookAt_259 : decode cX4_lookAt 259 = .ok (.iadd, 1) := by decide +kernel
theorem dX4_lookAt_260 : decode cX4_lookAt 260 = .ok (.iaload, 1) := by decide +kernel
theorem dX4_lookAt_261 : decode cX4_lookAt 261 = .ok (.iadd, 1) := by decide +kernel
theorem dX4_lookAt_262 : decode cX4_lookAt 262 = .ok (.bipush 48, 2) := by decide +kernel
theorem dX4_lookAt_264 : decode cX4_lookAt 264 = .ok (.isub, 1) := by decide +kernel
theorem dX4_lookAt_265 : decode cX4_lookAt 265 = .ok (.putfield 204, 3) := by decide +kernel
theorem dX4_lookAt_268 : decode cX4_lookAt 268 = .ok (.iinc 4 1, 3) := by decide +kernel
theorem dX4_lookAt_271 : decode cX4_lookAt 271 = .ok (.goto (-53), 3) := by decide +kernel
theorem dX4_lookAt_274 : decode cX4_lookAt 274 = .ok (.aload_n 0, 1) := by decide +kernel
theorem dX4_lookAt_275 : decode cX4_lookAt 275 = .ok (.aload_n 0, 1) := by decide +kernel
theorem dX4_lookAt_276 : decode cX4_lookAt 276 = .ok (.getfield 201, 3) := by decide +kernel
theorem dX4_lookAt_279 : decode cX4_lookAt 279 = .ok (.iconst 2, 1) := by decide +kernel
theorem dX4_lookAt_280 : decode cX4_lookAt 280 = .ok (.if_icmp .ne 15, 3) := by decide +kernel
theorem dX4_lookAt_283 : decode cX4_lookAt 283 = .ok (.aload_n 0, 1) := by decide +kernel
theorem dX4_lookAt_284 : decode cX4_lookAt 284 = .ok (.getfield 198, 3) := by decide +kernel
theorem dX4_lookAt_287 : decode cX4_lookAt 287 = .ok (.iconst 2, 1) := by decide +kernel
theorem dX4_lookAt_288 : decode cX4_lookAt 288 = .ok (.if_icmp .le 7, 3) := by decide +kernel
theorem dX4_lookAt_291 : decode cX4_lookAt 291 = .ok (.iconst 4, 1) := by decide +kernel
theorem dX4_lookAt_292 : decode cX4_lookAt 292 = .ok (.goto 7, 3) := by decide +kernel
theorem dX4_lookAt_295 : decode cX4_lookAt 295 = .ok (.aload_n 0, 1) := by decide +kernel
theorem dX4_lookAt_296 : decode cX4_lookAt 296 = .ok (.getfield 201, 3) := by decide +kernel
theorem dX4_lookAt_299 : decode cX4_lookAt 299 = .ok (.putfield 201, 3) := by decide +kernel
theorem dX4_lookAt_302 : decode cX4_lookAt 302 = .ok (.return_, 1) := by decide +kernel
theorem dX4_goBehind_0 : decode cX4_goBehind 0 = .ok (.aload_n 0, 1) := by decide +kernel
theorem dX4_goBehind_1 : decode cX4_goBehind 1 = .ok (.aload_n 0, 1) := by decide +kernel
theorem dX4_goBehind_2 : decode cX4_goBehind 2 = .ok (.getfield 195, 3) := by decide +kernel
theorem dX4_goBehind_5 : decode cX4_goBehind 5 = .ok (.aload_n 0, 1) := by decide +kernel
theorem dX4_goBehind_6 : decode cX4_goBehind 6 = .ok (.getfield 198, 3) := by decide +kernel
theorem dX4_goBehind_9 : decode cX4_goBehind 9 = .ok (.iadd, 1) := by decide +kernel
theorem dX4_goBehind_10 : decode cX4_goBehind 10 = .ok (.invokevirtual 213, 3) := by decide +kernel
theorem dX4_goBehind_13 : decode cX4_goBehind 13 = .ok (.return_, 1) := by decide +kernel
theorem dX4_spells_0 : decode cX4_spells 0 = .ok (.aload_n 0, 1) := by decide +kernel
theorem dX4_spells_1 : decode cX4_spells 1 = .ok (.getfield 201, 3) := by decide +kernel
theorem dX4_spells_4 : decode cX4_spells 4 = .ok (.iconst 1, 1) := by decide +kernel
theorem dX4_spells_5 : decode cX4_spells 5 = .ok (.if_icmp .ne 15, 3) := by decide +kernel
theorem dX4_spells_8 : decode cX4_spells 8 = .ok (.aload_n 0, 1) := by decide +kernel
theorem dX4_spells_9 : decode cX4_spells 9 = .ok (.getfield 198, 3) := by decide +kernel
theorem dX4_spells_12 : decode cX4_spells 12 = .ok (.iload_n 1, 1) := by decide +kernel
theorem dX4_spells_13 : decode cX4_spells 13 = .ok (.if_icmp .ne 7, 3) := by decide +kernel
theorem dX4_spells_16 : decode cX4_spells 16 = .ok (.iconst 1, 1) := by decide +kernel
theorem dX4_spells_17 : decode cX4_spells 17 = .ok (.goto 4, 3) := by decide +kernel
theorem dX4_spells_20 : decode cX4_spells 20 = .ok (.iconst 0, 1) := by decide +kernel
theorem dX4_spells_21 : decode cX4_spells 21 = .ok (.istore 8, 2) := by decide +kernel
theorem dX4_spells_23 : decode cX4_spells 23 = .ok (.iconst 0, 1) := by decide +kernel
theorem dX4_spells_24 : decode cX4_spells 24 = .ok (.istore 9, 2) := by decide +kernel
theorem dX4_spells_26 : decode cX4_spells 26 = .ok (.iload 9, 2) := by decide +kernel
theorem dX4_spells_28 : decode cX4_spells 28 = .ok (.iload_n 1, 1) := by decide +kernel
theorem dX4_spells_29 : decode cX4_spells 29 = .ok (.if_icmp .ge 90, 3) := by decide +kernel
theorem dX4_spells_32 : decode cX4_spells 32 = .ok (.iload 8, 2) := by decide +kernel
theorem dX4_spells_34 : decode cX4_spells 34 = .ok (.ifCond .eq 85, 3) := by decide +kernel
theorem dX4_spells_37 : decode cX4_spells 37 = .ok (.aload_n 0, 1) := by decide +kernel
theorem dX4_spells_38 : decode cX4_spells 38 = .ok (.getfield 39, 3) := by decide +kernel
theorem dX4_spells_41 : decode cX4_spells 41 = .ok (.aload_n 0, 1) := by decide +kernel
theorem dX4_spells_42 : decode cX4_spells 42 = .ok (.getfield 195, 3) := by decide +kernel
theorem dX4_spells_45 : decode cX4_spells 45 = .ok (.iload 9, 2) := by decide +kernel
theorem dX4_spells_47 : decode cX4_spells 47 = .ok (.iadd, 1) := by decide +kernel
theorem dX4_spells_48 : decode cX4_spells 48 = .ok (.iaload, 1) := by decide +kernel
theorem dX4_spells_49 : decode cX4_spells 49 = .ok (.iload 9, 2) := by decide +kernel
theorem dX4_spells_51 : decode cX4_spells 51 = .ok (.ifCond .ne 7, 3) := by decide +kernel
theorem dX4_spells_54 : decode cX4_spells 54 = .ok (.iload_n 2, 1) := by decide +kernel
theorem dX4_spells_55 : decode cX4_spells 55 = .ok (.goto 48, 3) := by decide +kernel
theorem dX4_spells_58 : decode cX4_spells 58 = .ok (.iload 9, 2) := by decide +kernel
theorem dX4_spells_60 : decode cX4_spells 60 = .ok (.iconst 1, 1) := by decide +kernel
theorem dX4_spells_61 : decode cX4_spells 61 = .ok (.if_icmp .ne 7, 3) := by decide +kernel
theorem dX4_spells_64 : decode cX4_spells 64 = .ok (.iload_n 3, 1) := by decide +kernel
theorem dX4_spells_65 : decode cX4_spells 65 = .ok (.goto 38, 3) := by decide +kernel
theorem dX4_spells_68 : decode cX4_spells 68 = .ok (.iload 9, 2) := by decide +kernel
theorem dX4_spells_70 : decode cX4_spells 70 = .ok (.iconst 2, 1) := by decide +kernel
theorem dX4_spells_71 : decode cX4_spells 71 = .ok (.if_icmp .ne 8, 3) := by decide +kernel
theorem dX4_spells_74 : decode cX4_spells 74 = .ok (.iload 4, 2) := by decide +kernel
theorem dX4_spells_76 : decode cX4_spells 76 = .ok (.goto 27, 3) := by decide +kernel
theorem dX4_spells_79 : decode cX4_spells 79 = .ok (.iload 9, 2) := by decide +kernel
theorem dX4_spells_81 : decode cX4_spells 81 = .ok (.iconst 3, 1) := by decide +kernel
theorem dX4_spells_82 : decode cX4_spells 82 = .ok (.if_icmp .ne 8, 3) := by decide +kernel
theorem dX4_spells_85 : decode cX4_spells 85 = .ok (.iload 5, 2) := by decide +kernel
theorem dX4_spells_87 : decode cX4_spells 87 = .ok (.goto 16, 3) := by decide +kernel
theorem dX4_spells_90 : decode cX4_spells 90 = .ok (.iload 9, 2) := by decide +kernel
theorem dX4_spells_92 : decode cX4_spells 92 = .ok (.iconst 4, 1) := by decide +kernel
theorem dX4_spells_93 : decode cX4_spells 93 = .ok (.if_icmp .ne 8, 3) := by decide +kernel
theorem dX4_spells_96 : decode cX4_spells 96 = .ok (.iload 6, 2) := by decide +kernel
theorem dX4_spells_98 : decode cX4_spells 98 = .ok (.goto 5, 3) := by decide +kernel
theorem dX4_spells_101 : decode cX4_spells 101 = .ok (.iload 7, 2) := by decide +kernel
theorem dX4_spells_103 : decode cX4_spells 103 = .ok (.if_icmp .ne 7, 3) := by decide +kernel
theorem dX4_spells_106 : decode cX4_spells 106 = .ok (.iconst 1, 1) := by decide +kernel
theorem dX4_spells_107 : decode cX4_spells 107 = .ok (.goto 4, 3) := by decide +kernel
theorem dX4_spells_110 : decode cX4_spells 110 = .ok (.iconst 0, 1) := by decide +kernel
theorem dX4_spells_111 : decode cX4_spells 111 = .ok (.istore 8, 2) := by decide +kernel
theorem dX4_spells_113 : decode cX4_spells 113 = .ok (.iinc 9 1, 3) := by decide +kernel
theorem dX4_spells_116 : decode cX4_spells 116 = .ok (.goto (-90), 3) := by decide +kernel
theorem dX4_spells_119 : decode cX4_spells 119 = .ok (.iload 8, 2) := by decide +kernel
theorem dX4_spells_121 : decode cX4_spells 121 = .ok (.ireturn, 1) := by decide +kernel
theorem dX4_takes_0 : decode cX4_takes 0 = .ok (.aload_n 0, 1) := by decide +kernel
theorem dX4_takes_1 : decode cX4_takes 1 = .ok (.getfield 201, 3) := by decide +kernel
theorem dX4_takes_4 : decode cX4_takes 4 = .ok (.iconst 2, 1) := by decide +kernel
theorem dX4_takes_5 : decode cX4_takes 5 = .ok (.if_icmp .ne 18, 3) := by decide +kernel
theorem dX4_takes_8 : decode cX4_takes 8 = .ok (.aload_n 0, 1) := by decide +kernel
theorem dX4_takes_9 : decode cX4_takes 9 = .ok (.getfield 204, 3) := by decide +kernel
theorem dX4_takes_12 : decode cX4_takes 12 = .ok (.i2l, 1) := by decide +kernel
theorem dX4_takes_13 : decode cX4_takes 13 = .ok (.iload_n 2, 1) := by decide +kernel
theorem dX4_takes_14 : decode cX4_takes 14 = .ok (.i2l, 1) := by decide +kernel
theorem dX4_takes_15 : decode cX4_takes 15 = .ok (.iload_n 3, 1) := by decide +kernel
theorem dX4_takes_16 : decode cX4_takes 16 = .ok (.i2l, 1) := by decide +kernel
theorem dX4_takes_17 : decode cX4_takes 17 = .ok (.invokestatic 56, 3) := by decide +kernel
theorem dX4_takes_20 : decode cX4_takes 20 = .ok (.ifCond .ne 5, 3) := by decide +kernel
theorem dX4_takes_23 : decode cX4_takes 23 = .ok (.iconst 0, 1) := by decide +kernel
theorem dX4_takes_24 : decode cX4_takes 24 = .ok (.ireturn, 1) := by decide +kernel
theorem dX4_takes_25 : decode cX4_takes 25 = .ok (.aload_n 0, 1) := by decide +kernel
theorem dX4_takes_26 : decode cX4_takes 26 = .ok (.getfield 45, 3) := by decide +kernel
theorem dX4_takes_29 : decode cX4_takes 29 = .ok (.iload_n 1, 1) := by decide +kernel
theorem dX4_takes_30 : decode cX4_takes 30 = .ok (.aload_n 0, 1) := by decide +kernel
theorem dX4_takes_31 : decode cX4_takes 31 = .ok (.getfield 204, 3) := by decide +kernel
theorem dX4_takes_34 : decode cX4_takes 34 = .ok (.iastore, 1) := by decide +kernel
theorem dX4_takes_35 : decode cX4_takes 35 = .ok (.aload_n 0, 1) := by decide +kernel
theorem dX4_takes_36 : decode cX4_takes 36 = .ok (.invokevirtual 217, 3) := by decide +kernel
theorem dX4_takes_39 : decode cX4_takes 39 = .ok (.iconst 1, 1) := by decide +kernel
theorem dX4_takes_40 : decode cX4_takes 40 = .ok (.ireturn, 1) := by decide +kernel
theorem dX4_takesTown_0 : decode cX4_takesTown 0 = .ok (.aload_n 0, 1) := by decide +kernel
theorem dX4_takesTown_1 : decode cX4_takesTown 1 = .ok (.iconst 4, 1) := by decide +kernel
theorem dX4_takesTown_2 : decode cX4_takesTown 2 = .ok (.bipush 116, 2) := by decide +kernel
theorem dX4_takesTown_4 : decode cX4_takesTown 4 = .ok (.bipush 111, 2) := by decide +kernel
theorem dX4_takesTown_6 : decode cX4_takesTown 6 = .ok (.bipush 119, 2) := by decide +kernel
theorem dX4_takesTown_8 : decode cX4_takesTown 8 = .ok (.bipush 110, 2) := by decide +kernel
theorem dX4_takesTown_10 : decode cX4_takesTown 10 = .ok (.iconst 0, 1) := by decide +kernel
theorem dX4_takesTown_11 : decode cX4_takesTown 11 = .ok (.iconst 0, 1) := by decide +kernel
theorem dX4_takesTown_12 : decode cX4_takesTown 12 = .ok (.invokevirtual 220, 3) := by decide +kernel
theorem dX4_takesTown_15 : decode cX4_takesTown 15 = .ok (.ifCond .ne 5, 3) := by decide +kernel
theorem dX4_takesTown_18 : decode cX4_takesTown 18 = .ok (.iconst 0, 1) := by decide +kernel
theorem dX4_takesTown_19 : decode cX4_takesTown 19 = .ok (.ireturn, 1) := by decide +kernel
theorem dX4_takesTown_20 : decode cX4_takesTown 20 = .ok (.aload_n 0, 1) := by decide +kernel
theorem dX4_takesTown_21 : decode cX4_takesTown 21 = .ok (.invokevirtual 217, 3) := by decide +kernel
theorem dX4_takesTown_24 : decode cX4_takesTown 24 = .ok (.aload_n 0, 1) := by decide +kernel
theorem dX4_takesTown_25 : decode cX4_takesTown 25 = .ok (.iconst 0, 1) := by decide +kernel
theorem dX4_takesTown_26 : decode cX4_takesTown 26 = .ok (.iconst 1, 1) := by decide +kernel
theorem dX4_takesTown_27 : decode cX4_takesTown 27 = .ok (.iconst 5, 1) := by decide +kernel
theorem dX4_takesTown_28 : decode cX4_takesTown 28 = .ok (.invokevirtual 224, 3) := by decide +kernel
theorem dX4_takesTown_31 : decode cX4_takesTown 31 = .ok (.ifCond .ne 5, 3) := by decide +kernel
theorem dX4_takesTown_34 : decode cX4_takesTown 34 = .ok (.iconst 0, 1) := by decide +kernel
theorem dX4_takesTown_35 : decode cX4_takesTown 35 = .ok (.ireturn, 1) := by decide +kernel
theorem dX4_takesTown_36 : decode cX4_takesTown 36 = .ok (.aload_n 0, 1) := by decide +kernel
theorem dX4_takesTown_37 : decode cX4_takesTown 37 = .ok (.getfield 42, 3) := by decide +kernel
theorem dX4_takesTown_40 : decode cX4_takesTown 40 = .ok (.aload_n 0, 1) := by decide +kernel
theorem dX4_takesTown_41 : decode cX4_takesTown 41 = .ok (.getfield 45, 3) := by decide +kernel
theorem dX4_takesTown_44 : decode cX4_takesTown 44 = .ok (.iconst 0, 1) := by decide +kernel
theorem dX4_takesTown_45 : decode cX4_takesTown 45 = .ok (.iaload, 1) := by decide +kernel
theorem dX4_takesTown_46 : decode cX4_takesTown 46 = .ok (.invokestatic 48, 3) := by decide +kernel
theorem dX4_takesTown_49 : decode cX4_takesTown 49 = .ok (.aload_n 0, 1) := by decide +kernel
theorem dX4_takesTown_50 : decode cX4_takesTown 50 = .ok (.getfield 201, 3) := by decide +kernel
theorem dX4_takesTown_53 : decode cX4_takesTown 53 = .ok (.iconst 3, 1) := by decide +kernel
theorem dX4_takesTown_54 : decode cX4_takesTown 54 = .ok (.if_icmp .ne 7, 3) := by decide +kernel
theorem dX4_takesTown_57 : decode cX4_takesTown 57 = .ok (.iconst 1, 1) := by decide +kernel
theorem dX4_takesTown_58 : decode cX4_takesTown 58 = .ok (.goto 4, 3) := by decide +kernel
theorem dX4_takesTown_61 : decode cX4_takesTown 61 = .ok (.iconst 0, 1) := by decide +kernel
theorem dX4_takesTown_62 : decode cX4_takesTown 62 = .ok (.ireturn, 1) := by decide +kernel
theorem dX4_takesOne_0 : decode cX4_takesOne 0 = .ok (.aload_n 0, 1) := by decide +kernel
theorem dX4_takesOne_1 : decode cX4_takesOne 1 = .ok (.getfield 42, 3) := by decide +kernel
theorem dX4_takesOne_4 : decode cX4_takesOne 4 = .ok (.iconst 0, 1) := by decide +kernel
theorem dX4_takesOne_5 : decode cX4_takesOne 5 = .ok (.iaload, 1) := by decide +kernel
theorem dX4_takesOne_6 : decode cX4_takesOne 6 = .ok (.bipush 7, 2) := by decide +kernel
theorem dX4_takesOne_8 : decode cX4_takesOne 8 = .ok (.if_icmp .ne 5, 3) := by decide +kernel
theorem dX4_takesOne_11 : decode cX4_takesOne 11 = .ok (.iconst 0, 1) := by decide +kernel
theorem dX4_takesOne_12 : decode cX4_takesOne 12 = .ok (.ireturn, 1) := by decide +kernel
theorem dX4_takesOne_13 : decode cX4_takesOne 13 = .ok (.aload_n 0, 1) := by decide +kernel
theorem dX4_takesOne_14 : decode cX4_takesOne 14 = .ok (.invokevirtual 217, 3) := by decide +kernel
theorem dX4_takesOne_17 : decode cX4_takesOne 17 = .ok (.aload_n 0, 1) := by decide +kernel
theorem dX4_takesOne_18 : decode cX4_takesOne 18 = .ok (.iconst 0, 1) := by decide +kernel
theorem dX4_takesOne_19 : decode cX4_takesOne 19 = .ok (.iconst 0, 1) := by decide +kernel
theorem dX4_takesOne_20 : decode cX4_takesOne 20 = .ok (.iconst 5, 1) := by decide +kernel
theorem dX4_takesOne_21 : decode cX4_takesOne 21 = .ok (.invokevirtual 224, 3) := by decide +kernel
theorem dX4_takesOne_24 : decode cX4_takesOne 24 = .ok (.ifCond .eq 14, 3) := by decide +kernel
theorem dX4_takesOne_27 : decode cX4_takesOne 27 = .ok (.aload_n 0, 1) := by decide +kernel
theorem dX4_takesOne_28 : decode cX4_takesOne 28 = .ok (.iconst 1, 1) := by decide +kernel
theorem dX4_takesOne_29 : decode cX4_takesOne 29 = .ok (.iconst 0, 1) := by decide +kernel
theorem dX4_takesOne_30 : decode cX4_takesOne 30 = .ok (.bipush 30, 2) := by decide +kernel
theorem dX4_takesOne_32 : decode cX4_takesOne 32 = .ok (.invokevirtual 224, 3) := by decide +kernel
theorem dX4_takesOne_35 : decode cX4_takesOne 35 = .ok (.ifCond .ne 5, 3) := by decide +kernel
theorem dX4_takesOne_38 : decode cX4_takesOne 38 = .ok (.iconst 0, 1) := by decide +kernel
theorem dX4_takesOne_39 : decode cX4_takesOne 39 = .ok (.ireturn, 1) := by decide +kernel
theorem dX4_takesOne_40 : decode cX4_takesOne 40 = .ok (.aload_n 0, 1) := by decide +kernel
theorem dX4_takesOne_41 : decode cX4_takesOne 41 = .ok (.getfield 42, 3) := by decide +kernel
theorem dX4_takesOne_44 : decode cX4_takesOne 44 = .ok (.aload_n 0, 1) := by decide +kernel
theorem dX4_takesOne_45 : decode cX4_takesOne 45 = .ok (.getfield 45, 3) := by decide +kernel
theorem dX4_takesOne_48 : decode cX4_takesOne 48 = .ok (.iconst 0, 1) := by decide +kernel
theorem dX4_takesOne_49 : decode cX4_takesOne 49 = .ok (.iaload, 1) := by decide +kernel
theorem dX4_takesOne_50 : decode cX4_takesOne 50 = .ok (.aload_n 0, 1) := by decide +kernel
theorem dX4_takesOne_51 : decode cX4_takesOne 51 = .ok (.getfield 45, 3) := by decide +kernel
theorem dX4_takesOne_54 : decode cX4_takesOne 54 = .ok (.iconst 1, 1) := by decide +kernel
theorem dX4_takesOne_55 : decode cX4_takesOne 55 = .ok (.iaload, 1) := by decide +kernel
theorem dX4_takesOne_56 : decode cX4_takesOne 56 = .ok (.invokestatic 71, 3) := by decide +kernel
theorem dX4_takesOne_59 : decode cX4_takesOne 59 = .ok (.iconst 1, 1) := by decide +kernel
theorem dX4_takesOne_60 : decode cX4_takesOne 60 = .ok (.ireturn, 1) := by decide +kernel
theorem dX4_takesBit_0 : decode cX4_takesBit 0 = .ok (.aload_n 0, 1) := by decide +kernel
theorem dX4_takesBit_1 : decode cX4_takesBit 1 = .ok (.invokevirtual 217, 3) := by decide +kernel
theorem dX4_takesBit_4 : decode cX4_takesBit 4 = .ok (.aload_n 0, 1) := by decide +kernel
theorem dX4_takesBit_5 : decode cX4_takesBit 5 = .ok (.iconst 0, 1) := by decide +kernel
theorem dX4_takesBit_6 : decode cX4_takesBit 6 = .ok (.iconst 0, 1) := by decide +kernel
theorem dX4_takesBit_7 : decode cX4_takesBit 7 = .ok (.aload_n 0, 1) := by decide +kernel
theorem dX4_takesBit_8 : decode cX4_takesBit 8 = .ok (.getfield 42, 3) := by decide +kernel
theorem dX4_takesBit_11 : decode cX4_takesBit 11 = .ok (.iconst 0, 1) := by decide +kernel
theorem dX4_takesBit_12 : decode cX4_takesBit 12 = .ok (.iaload, 1) := by decide +kernel
theorem dX4_takesBit_13 : decode cX4_takesBit 13 = .ok (.iconst 1, 1) := by decide +kernel
theorem dX4_takesBit_14 : decode cX4_takesBit 14 = .ok (.isub, 1) := by decide +kernel
theorem dX4_takesBit_15 : decode cX4_takesBit 15 = .ok (.invokevirtual 224, 3) := by decide +kernel
theorem dX4_takesBit_18 : decode cX4_takesBit 18 = .ok (.ifCond .ne 5, 3) := by decide +kernel
theorem dX4_takesBit_21 : decode cX4_takesBit 21 = .ok (.iconst 0, 1) := by decide +kernel
theorem dX4_takesBit_22 : decode cX4_takesBit 22 = .ok (.ireturn, 1) := by decide +kernel
theorem dX4_takesBit_23 : decode cX4_takesBit 23 = .ok (.aload_n 0, 1) := by decide +kernel
theorem dX4_takesBit_24 : decode cX4_takesBit 24 = .ok (.getfield 42, 3) := by decide +kernel
theorem dX4_takesBit_27 : decode cX4_takesBit 27 = .ok (.iload_n 1, 1) := by decide +kernel
theorem dX4_takesBit_28 : decode cX4_takesBit 28 = .ok (.dup2, 1) := by decide +kernel
theorem dX4_takesBit_29 : decode cX4_takesBit 29 = .ok (.iaload, 1) := by decide +kernel
theorem dX4_takesBit_30 : decode cX4_takesBit 30 = .ok (.iconst 1, 1) := by decide +kernel
theorem dX4_takesBit_31 : decode cX4_takesBit 31 = .ok (.aload_n 0, 1) := by decide +kernel
theorem dX4_takesBit_32 : decode cX4_takesBit 32 = .ok (.getfield 45, 3) := by decide +kernel
theorem dX4_takesBit_35 : decode cX4_takesBit 35 = .ok (.iconst 0, 1) := by decide +kernel
theorem dX4_takesBit_36 : decode cX4_takesBit 36 = .ok (.iaload, 1) := by decide +kernel
theorem dX4_takesBit_37 : decode cX4_takesBit 37 = .ok (.ishl, 1) := by decide +kernel
theorem dX4_takesBit_38 : decode cX4_takesBit 38 = .ok (.ior, 1) := by decide +kernel
theorem dX4_takesBit_39 : decode cX4_takesBit 39 = .ok (.iastore, 1) := by decide +kernel
theorem dX4_takesBit_40 : decode cX4_takesBit 40 = .ok (.iconst 1, 1) := by decide +kernel
theorem dX4_takesBit_41 : decode cX4_takesBit 41 = .ok (.ireturn, 1) := by decide +kernel
theorem dX4_takesItem_0 : decode cX4_takesItem 0 = .ok (.aload_n 0, 1) := by decide +kernel
theorem dX4_takesItem_1 : decode cX4_takesItem 1 = .ok (.iconst 3, 1) := by decide +kernel
theorem dX4_takesItem_2 : decode cX4_takesItem 2 = .ok (.bipush 111, 2) := by decide +kernel
theorem dX4_takesItem_4 : decode cX4_takesItem 4 = .ok (.bipush 110, 2) := by decide +kernel
theorem dX4_takesItem_6 : decode cX4_takesItem 6 = .ok (.bipush 101, 2) := by decide +kernel
theorem dX4_takesItem_8 : decode cX4_takesItem 8 = .ok (.iconst 0, 1) := by decide +kernel
theorem dX4_takesItem_9 : decode cX4_takesItem 9 = .ok (.iconst 0, 1) := by decide +kernel
theorem dX4_takesItem_10 : decode cX4_takesItem 10 = .ok (.iconst 0, 1) := by decide +kernel
theorem dX4_takesItem_11 : decode cX4_takesItem 11 = .ok (.invokevirtual 220, 3) := by decide +kernel
theorem dX4_takesItem_14 : decode cX4_takesItem 14 = .ok (.ifCond .eq 8, 3) := by decide +kernel
theorem dX4_takesItem_17 : decode cX4_takesItem 17 = .ok (.aload_n 0, 1) := by decide +kernel
theorem dX4_takesItem_18 : decode cX4_takesItem 18 = .ok (.invokevirtual 227, 3) := by decide +kernel
theorem dX4_takesItem_21 : decode cX4_takesItem 21 = .ok (.ireturn, 1) := by decide +kernel
theorem dX4_takesItem_22 : decode cX4_takesItem 22 = .ok (.aload_n 0, 1) := by decide +kernel
theorem dX4_takesItem_23 : decode cX4_takesItem 23 = .ok (.iconst 4, 1) := by decide +kernel
theorem dX4_takesItem_24 : decode cX4_takesItem 24 = .ok (.bipush 108, 2) := by decide +kernel
theorem dX4_takesItem_26 : decode cX4_takesItem 26 = .ok (.bipush 105, 2) := by decide +kernel
theorem dX4_takesItem_28 : decode cX4_takesItem 28 = .ok (.bipush 115, 2) := by decide +kernel
theorem dX4_takesItem_30 : decode cX4_takesItem 30 = .ok (.bipush 116, 2) := by decide +kernel
theorem dX4_takesItem_32 : decode cX4_takesItem 32 = .ok (.iconst 0, 1) := by decide +kernel
theorem dX4_takesItem_33 : decode cX4_takesItem 33 = .ok (.iconst 0, 1) := by decide +kernel
theorem dX4_takesItem_34 : decode cX4_takesItem 34 = .ok (.invokevirtual 220, 3) := by decide +kernel
theorem dX4_takesItem_37 : decode cX4_takesItem 37 = .ok (.ifCond .eq 10, 3) := by decide +kernel
theorem dX4_takesItem_40 : decode cX4_takesItem 40 = .ok (.aload_n 0, 1) := by decide +kernel
theorem dX4_takesItem_41 : decode cX4_takesItem 41 = .ok (.bipush 18, 2) := by decide +kernel
theorem dX4_takesItem_43 : decode cX4_takesItem 43 = .ok (.invokevirtual 230, 3) := by decide +kernel
theorem dX4_takesItem_46 : decode cX4_takesItem 46 = .ok (.ireturn, 1) := by decide +kernel
theorem dX4_takesItem_47 : decode cX4_takesItem 47 = .ok (.aload_n 0, 1) := by decide +kernel
theorem dX4_takesItem_48 : decode cX4_takesItem 48 = .ok (.bipush 6, 2) := by decide +kernel
theorem dX4_takesItem_50 : decode cX4_takesItem 50 = .ok (.bipush 102, 2) := by decide +kernel
theorem dX4_takesItem_52 : decode cX4_takesItem 52 = .ok (.bipush 111, 2) := by decide +kernel
theorem dX4_takesItem_54 : decode cX4_takesItem 54 = .ok (.bipush 108, 2) := by decide +kernel
theorem dX4_takesItem_56 : decode cX4_takesItem 56 = .ok (.bipush 108, 2) := by decide +kernel
theorem dX4_takesItem_58 : decode cX4_takesItem 58 = .ok (.bipush 111, 2) := by decide +kernel
theorem dX4_takesItem_60 : decode cX4_takesItem 60 = .ok (.bipush 119, 2) := by decide +kernel
theorem dX4_takesItem_62 : decode cX4_takesItem 62 = .ok (.invokevirtual 220, 3) := by decide +kernel
theorem dX4_takesItem_65 : decode cX4_takesItem 65 = .ok (.ifCond .eq 16, 3) := by decide +kernel
theorem dX4_takesItem_68 : decode cX4_takesItem 68 = .ok (.aload_n 0, 1) := by decide +kernel
theorem dX4_takesItem_69 : decode cX4_takesItem 69 = .ok (.bipush 19, 2) := by decide +kernel
theorem dX4_takesItem_71 : decode cX4_takesItem 71 = .ok (.invokevirtual 230, 3) := by decide +kernel
theorem dX4_takesItem_74 : decode cX4_takesItem 74 = .ok (.ifCond .eq 7, 3) := by decide +kernel
theorem dX4_takesItem_77 : decode cX4_takesItem 77 = .ok (.iconst 1, 1) := by decide +kernel
theorem dX4_takesItem_78 : decode cX4_takesItem 78 = .ok (.goto 4, 3) := by decide +kernel
theorem dX4_takesItem_81 : decode cX4_takesItem 81 = .ok (.iconst 0, 1) := by decide +kernel
theorem dX4_takesItem_82 : decode cX4_takesItem 82 = .ok (.ireturn, 1) := by decide +kernel
theorem dX4_read_0 : decode cX4_read 0 = .ok (.aload_n 0, 1) := by decide +kernel
theorem dX4_read_1 : decode cX4_read 1 = .ok (.iconst 0, 1) := by decide +kernel
theorem dX4_read_2 : decode cX4_read 2 = .ok (.invokevirtual 213, 3) := by decide +kernel
theorem dX4_read_5 : decode cX4_read 5 = .ok (.aload_n 0, 1) := by decide +kernel
theorem dX4_read_6 : decode cX4_read 6 = .ok (.invokevirtual 233, 3) := by decide +kernel
theorem dX4_read_9 : decode cX4_read 9 = .ok (.ifCond .ne 11, 3) := by decide +kernel
theorem dX4_read_12 : decode cX4_read 12 = .ok (.bipush (-10), 2) := by decide +kernel
theorem dX4_read_14 : decode cX4_read 14 = .ok (.aload_n 0, 1) := by decide +kernel
theorem dX4_read_15 : decode cX4_read 15 = .ok (.getfield 195, 3) := by decide +kernel
theorem dX4_read_18 : decode cX4_read 18 = .ok (.isub, 1) := by decide +kernel
theorem dX4_read_19 : decode cX4_read 19 = .ok (.ireturn, 1) := by decide +kernel
theorem dX4_read_20 : decode cX4_read 20 = .ok (.aload_n 0, 1) := by decide +kernel
theorem dX4_read_21 : decode cX4_read 21 = .ok (.invokevirtual 217, 3) := by decide +kernel
theorem dX4_read_24 : decode cX4_read 24 = .ok (.iconst 1, 1) := by decide +kernel
theorem dX4_read_25 : decode cX4_read 25 = .ok (.istore_n 1, 1) := by decide +kernel
theorem dX4_read_26 : decode cX4_read 26 = .ok (.aload_n 0, 1) := by decide +kernel
theorem dX4_read_27 : decode cX4_read 27 = .ok (.getfield 201, 3) := by decide +kernel
theorem dX4_read_30 : decode cX4_read 30 = .ok (.ifCond .eq 36, 3) := by decide +kernel
theorem dX4_read_33 : decode cX4_read 33 = .ok (.aload_n 0, 1) := by decide +kernel
theorem dX4_read_34 : decode cX4_read 34 = .ok (.invokevirtual 236, 3) := by decide +kernel
theorem dX4_read_37 : decode cX4_read 37 = .ok (.ifCond .eq 11, 3) := by decide +kernel
theorem dX4_read_40 : decode cX4_read 40 = .ok (.aload_n 0, 1) := by decide +kernel
theorem dX4_read_41 : decode cX4_read 41 = .ok (.getfield 201, 3) := by decide +kernel
theorem dX4_read_44 : decode cX4_read 44 = .ok (.iconst 3, 1) := by decide +kernel
theorem dX4_read_45 : decode cX4_read 45 = .ok (.if_icmp .eq 11, 3) := by decide +kernel
theorem dX4_read_48 : decode cX4_read 48 = .ok (.bipush (-10), 2) := by decide +kernel
theorem dX4_read_50 : decode cX4_read 50 = .ok (.aload_n 0, 1) := by decide +kernel
theorem dX4_read_51 : decode cX4_read 51 = .ok (.getfield 195, 3) := by decide +kernel
theorem dX4_read_54 : decode cX4_read 54 = .ok (.isub, 1) := by decide +kernel
theorem dX4_read_55 : decode cX4_read 55 = .ok (.ireturn, 1) := by decide +kernel
theorem dX4_read_56 : decode cX4_read 56 = .ok (.aload_n 0, 1) := by decide +kernel
theorem dX4_read_57 : decode cX4_read 57 = .ok (.invokevirtual 217, 3) := by decide +kernel
theorem dX4_read_60 : decode cX4_read 60 = .ok (.iinc 1 1, 3) := by decide +kernel
theorem dX4_read_63 : decode cX4_read 63 = .ok (.goto (-37), 3) := by decide +kernel
theorem dX4_read_66 : decode cX4_read 66 = .ok (.iconst 0, 1) := by decide +kernel
theorem dX4_read_67 : decode cX4_read 67 = .ok (.istore_n 2, 1) := by decide +kernel
theorem dX4_read_68 : decode cX4_read 68 = .ok (.iload_n 2, 1) := by decide +kernel
theorem dX4_read_69 : decode cX4_read 69 = .ok (.bipush 52, 2) := by decide +kernel
theorem dX4_read_71 : decode cX4_read 71 = .ok (.if_icmp .ge 21, 3) := by decide +kernel
theorem dX4_read_74 : decode cX4_read 74 = .ok (.aload_n 0, 1) := by decide +kernel
theorem dX4_read_75 : decode cX4_read 75 = .ok (.getfield 7, 3) := by decide +kernel
theorem dX4_read_78 : decode cX4_read 78 = .ok (.iload_n 2, 1) := by decide +kernel
theorem dX4_read_79 : decode cX4_read 79 = .ok (.aload_n 0, 1) := by decide +kernel
theorem dX4_read_80 : decode cX4_read 80 = .ok (.getfield 42, 3) := by decide +kernel
theorem dX4_read_83 : decode cX4_read 83 = .ok (.iload_n 2, 1) := by decide +kernel
theorem dX4_read_84 : decode cX4_read 84 = .ok (.iaload, 1) := by decide +kernel
theorem dX4_read_85 : decode cX4_read 85 = .ok (.iastore, 1) := by decide +kernel
theorem dX4_read_86 : decode cX4_read 86 = .ok (.iinc 2 1, 3) := by decide +kernel
theorem dX4_read_89 : decode cX4_read 89 = .ok (.goto (-21), 3) := by decide +kernel
theorem dX4_read_92 : decode cX4_read 92 = .ok (.iload_n 1, 1) := by decide +kernel
theorem dX4_read_93 : decode cX4_read 93 = .ok (.ireturn, 1) := by decide +kernel
theorem dX4_part_0 : decode cX4_part 0 = .ok (.iload_n 1, 1) := by decide +kernel
theorem dX4_part_1 : decode cX4_part 1 = .ok (.ifCond .ne 10, 3) := by decide +kernel
theorem dX4_part_4 : decode cX4_part 4 = .ok (.aload_n 0, 1) := by decide +kernel
theorem dX4_part_5 : decode cX4_part 5 = .ok (.getfield 161, 3) := by decide +kernel
theorem dX4_part_8 : decode cX4_part 8 = .ok (.goto 22, 3) := by decide +kernel
theorem dX4_part_11 : decode cX4_part 11 = .ok (.iload_n 1, 1) := by decide +kernel
theorem dX4_part_12 : decode cX4_part 12 = .ok (.iconst 1, 1) := by decide +kernel
theorem dX4_part_13 : decode cX4_part 13 = .ok (.if_icmp .ne 10, 3) := by decide +kernel
theorem dX4_part_16 : decode cX4_part 16 = .ok (.aload_n 0, 1) := by decide +kernel
theorem dX4_part_17 : decode cX4_part 17 = .ok (.getfield 23, 3) := by decide +kernel
theorem dX4_part_20 : decode cX4_part 20 = .ok (.goto 10, 3) := by decide +kernel
theorem dX4_part_23 : decode cX4_part 23 = .ok (.aload_n 0, 1) := by decide +kernel
theorem dX4_part_24 : decode cX4_part 24 = .ok (.bipush (-2), 2) := by decide +kernel
theorem dX4_part_26 : decode cX4_part 26 = .ok (.invokevirtual 62, 3) := by decide +kernel
theorem dX4_part_29 : decode cX4_part 29 = .ok (.i2l, 1) := by decide +kernel
theorem dX4_part_30 : decode cX4_part 30 = .ok (.lreturn, 1) := by decide +kernel
theorem dX4_image_0 : decode cX4_image 0 = .ok (.iload_n 1, 1) := by decide +kernel
theorem dX4_image_1 : decode cX4_image 1 = .ok (.i2l, 1) := by decide +kernel
theorem dX4_image_2 : decode cX4_image 2 = .ok (.lconst 0, 1) := by decide +kernel
theorem dX4_image_3 : decode cX4_image 3 = .ok (.lconst 1, 1) := by decide +kernel
theorem dX4_image_4 : decode cX4_image 4 = .ok (.invokestatic 56, 3) := by decide +kernel
theorem dX4_image_7 : decode cX4_image 7 = .ok (.ifCond .ne 10, 3) := by decide +kernel
theorem dX4_image_10 : decode cX4_image 10 = .ok (.aload_n 0, 1) := by decide +kernel
theorem dX4_image_11 : decode cX4_image 11 = .ok (.bipush (-2), 2) := by decide +kernel
theorem dX4_image_13 : decode cX4_image 13 = .ok (.invokevirtual 62, 3) := by decide +kernel
theorem dX4_image_16 : decode cX4_image 16 = .ok (.ireturn, 1) := by decide +kernel
theorem dX4_image_17 : decode cX4_image 17 = .ok (.iconst 0, 1) := by decide +kernel
theorem dX4_image_18 : decode cX4_image 18 = .ok (.istore_n 2, 1) := by decide +kernel
theorem dX4_image_19 : decode cX4_image 19 = .ok (.iload_n 2, 1) := by decide +kernel
theorem dX4_image_20 : decode cX4_image 20 = .ok (.sipush 140, 3) := by decide +kernel
theorem dX4_image_23 : decode cX4_image 23 = .ok (.if_icmp .ge 27, 3) := by decide +kernel
theorem dX4_image_26 : decode cX4_image 26 = .ok (.aload_n 0, 1) := by decide +kernel
theorem dX4_image_27 : decode cX4_image 27 = .ok (.getfield 13, 3) := by decide +kernel
theorem dX4_image_30 : decode cX4_image 30 = .ok (.sipush 140, 3) := by decide +kernel
theorem dX4_image_33 : decode cX4_image 33 = .ok (.iload_n 1, 1) := by decide +kernel
theorem dX4_image_34 : decode cX4_image 34 = .ok (.imul, 1) := by decide +kernel
theorem dX4_image_35 : decode cX4_image 35 = .ok (.iload_n 2, 1) := by decide +kernel
theorem dX4_image_36 : decode cX4_image 36 = .ok (.iadd, 1) := by decide +kernel
theorem dX4_image_37 : decode cX4_image 37 = .ok (.aload_n 0, 1) := by decide +kernel
theorem dX4_image_38 : decode cX4_image 38 = .ok (.getfield 7, 3) := by decide +kernel
theorem dX4_image_41 : decode cX4_image 41 = .ok (.iload_n 2, 1) := by decide +kernel
theorem dX4_image_42 : decode cX4_image 42 = .ok (.iaload, 1) := by decide +kernel
theorem dX4_image_43 : decode cX4_image 43 = .ok (.iastore, 1) := by decide +kernel
theorem dX4_image_44 : decode cX4_image 44 = .ok (.iinc 2 1, 3) := by decide +kernel
theorem dX4_image_47 : decode cX4_image 47 = .ok (.goto (-28), 3) := by decide +kernel
theorem dX4_image_50 : decode cX4_image 50 = .ok (.aload_n 0, 1) := by decide +kernel
theorem dX4_image_51 : decode cX4_image 51 = .ok (.getfield 16, 3) := by decide +kernel
theorem dX4_image_54 : decode cX4_image 54 = .ok (.iload_n 1, 1) := by decide +kernel
theorem dX4_image_55 : decode cX4_image 55 = .ok (.iconst 1, 1) := by decide +kernel
theorem dX4_image_56 : decode cX4_image 56 = .ok (.bastore, 1) := by decide +kernel
theorem dX4_image_57 : decode cX4_image 57 = .ok (.iconst 1, 1) := by decide +kernel
theorem dX4_image_58 : decode cX4_image 58 = .ok (.ireturn, 1) := by decide +kernel
theorem dX4_from_0 : decode cX4_from 0 = .ok (.iload_n 1, 1) := by decide +kernel
theorem dX4_from_1 : decode cX4_from 1 = .ok (.i2l, 1) := by decide +kernel
theorem dX4_from_2 : decode cX4_from 2 = .ok (.lconst 0, 1) := by decide +kernel
theorem dX4_from_3 : decode cX4_from 3 = .ok (.lconst 1, 1) := by decide +kernel
theorem dX4_from_4 : decode cX4_from 4 = .ok (.invokestatic 56, 3) := by decide +kernel
theorem dX4_from_7 : decode cX4_from 7 = .ok (.ifCond .ne 10, 3) := by decide +kernel
theorem dX4_from_10 : decode cX4_from 10 = .ok (.aload_n 0, 1) := by decide +kernel
theorem dX4_from_11 : decode cX4_from 11 = .ok (.bipush (-2), 2) := by decide +kernel
theorem dX4_from_13 : decode cX4_from 13 = .ok (.invokevirtual 62, 3) := by decide +kernel
theorem dX4_from_16 : decode cX4_from 16 = .ok (.ireturn, 1) := by decide +kernel
theorem dX4_from_17 : decode cX4_from 17 = .ok (.aload_n 0, 1) := by decide +kernel
theorem dX4_from_18 : decode cX4_from 18 = .ok (.getfield 16, 3) := by decide +kernel
theorem dX4_from_21 : decode cX4_from 21 = .ok (.iload_n 1, 1) := by decide +kernel
theorem dX4_from_22 : decode cX4_from 22 = .ok (.baload, 1) := by decide +kernel
theorem dX4_from_23 : decode cX4_from 23 = .ok (.ifCond .ne 8, 3) := by decide +kernel
theorem dX4_from_26 : decode cX4_from 26 = .ok (.aload_n 0, 1) := by decide +kernel
theorem dX4_from_27 : decode cX4_from 27 = .ok (.invokevirtual 131, 3) := by decide +kernel
theorem dX4_from_30 : decode cX4_from 30 = .ok (.ireturn, 1) := by decide +kernel
theorem dX4_from_31 : decode cX4_from 31 = .ok (.iconst 0, 1) := by decide +kernel
theorem dX4_from_32 : decode cX4_from 32 = .ok (.istore_n 2, 1) := by decide +kernel
theorem dX4_from_33 : decode cX4_from 33 = .ok (.iload_n 2, 1) := by decide +kernel
theorem dX4_from_34 : decode cX4_from 34 = .ok (.sipush 140, 3) := by decide +kernel
theorem dX4_from_37 : decode cX4_from 37 = .ok (.if_icmp .ge 27, 3) := by decide +kernel
theorem dX4_from_40 : decode cX4_from 40 = .ok (.aload_n 0, 1) := by decide +kernel
theorem dX4_from_41 : decode cX4_from 41 = .ok (.getfield 7, 3) := by decide +kernel
theorem dX4_from_44 : decode cX4_from 44 = .ok (.iload_n 2, 1) := by decide +kernel
theorem dX4_from_45 : decode cX4_from 45 = .ok (.aload_n 0, 1) := by decide +kernel
theorem dX4_from_46 : decode cX4_from 46 = .ok (.getfield 13, 3) := by decide +kernel
theorem dX4_from_49 : decode cX4_from 49 = .ok (.sipush 140, 3) := by decide +kernel
theorem dX4_from_52 : decode cX4_from 52 = .ok (.iload_n 1, 1) := by decide +kernel
theorem dX4_from_53 : decode cX4_from 53 = .ok (.imul, 1) := by decide +kernel
theorem dX4_from_54 : decode cX4_from 54 = .ok (.iload_n 2, 1) := by decide +kernel
theorem dX4_from_55 : decode cX4_from 55 = .ok (.iadd, 1) := by decide +kernel
theorem dX4_from_56 : decode cX4_from 56 = .ok (.iaload, 1) := by decide +kernel
theorem dX4_from_57 : decode cX4_from 57 = .ok (.iastore, 1) := by decide +kernel
theorem dX4_from_58 : decode cX4_from 58 = .ok (.iinc 2 1, 3) := by decide +kernel
theorem dX4_from_61 : decode cX4_from 61 = .ok (.goto (-28), 3) := by decide +kernel
theorem dX4_from_64 : decode cX4_from 64 = .ok (.iconst 1, 1) := by decide +kernel
theorem dX4_from_65 : decode cX4_from 65 = .ok (.ireturn, 1) := by decide +kernel
theorem dX4_status_0 : decode cX4_status 0 = .ok (.iload_n 1, 1) := by decide +kernel
theorem dX4_status_1 : decode cX4_status 1 = .ok (.i2l, 1) := by decide +kernel
theorem dX4_status_2 : decode cX4_status 2 = .ok (.lconst 0, 1) := by decide +kernel
theorem dX4_status_3 : decode cX4_status 3 = .ok (.ldc2_w 180, 3) := by decide +kernel
theorem dX4_status_6 : decode cX4_status 6 = .ok (.invokestatic 56, 3) := by decide +kernel
theorem dX4_status_9 : decode cX4_status 9 = .ok (.ifCond .eq 12, 3) := by decide +kernel
theorem dX4_status_12 : decode cX4_status 12 = .ok (.aload_n 0, 1) := by decide +kernel
theorem dX4_status_13 : decode cX4_status 13 = .ok (.getfield 20, 3) := by decide +kernel
theorem dX4_status_16 : decode cX4_status 16 = .ok (.iload_n 1, 1) := by decide +kernel
theorem dX4_status_17 : decode cX4_status 17 = .ok (.iaload, 1) := by decide +kernel
theorem dX4_status_18 : decode cX4_status 18 = .ok (.goto 8, 3) := by decide +kernel
theorem dX4_status_21 : decode cX4_status 21 = .ok (.aload_n 0, 1) := by decide +kernel
theorem dX4_status_22 : decode cX4_status 22 = .ok (.iconst (-1), 1) := by decide +kernel
theorem dX4_status_23 : decode cX4_status 23 = .ok (.invokevirtual 62, 3) := by decide +kernel
theorem dX4_status_26 : decode cX4_status 26 = .ok (.ireturn, 1) := by decide +kernel
theorem dX4_counted_0 : decode cX4_counted 0 = .ok (.iload_n 1, 1) := by decide +kernel
theorem dX4_counted_1 : decode cX4_counted 1 = .ok (.tableswitch 100 0 6 #[43, 48, 56, 67, 78, 86, 93], 43) := by decide +kernel
theorem dX4_counted_44 : decode cX4_counted 44 = .ok (.aload_n 0, 1) := by decide +kernel
theorem dX4_counted_45 : decode cX4_counted 45 = .ok (.invokevirtual 52, 3) := by decide +kernel
theorem dX4_counted_48 : decode cX4_counted 48 = .ok (.ireturn, 1) := by decide +kernel
theorem dX4_counted_49 : decode cX4_counted 49 = .ok (.aload_n 0, 1) := by decide +kernel
theorem dX4_counted_50 : decode cX4_counted 50 = .ok (.getfield 7, 3) := by decide +kernel
theorem dX4_counted_53 : decode cX4_counted 53 = .ok (.bipush 21, 2) := by decide +kernel
theorem dX4_counted_55 : decode cX4_counted 55 = .ok (.iaload, 1) := by decide +kernel
theorem dX4_counted_56 : decode cX4_counted 56 = .ok (.ireturn, 1) := by decide +kernel
theorem dX4_counted_57 : decode cX4_counted 57 = .ok (.aload_n 0, 1) := by decide +kernel
theorem dX4_counted_58 : decode cX4_counted 58 = .ok (.getfield 7, 3) := by decide +kernel
theorem dX4_counted_61 : decode cX4_counted 61 = .ok (.bipush 18, 2) := by decide +kernel
theorem dX4_counted_63 : decode cX4_counted 63 = .ok (.iaload, 1) := by decide +kernel
theorem dX4_counted_64 : decode cX4_counted 64 = .ok (.invokestatic 128, 3) := by decide +kernel
theorem dX4_counted_67 : decode cX4_counted 67 = .ok (.ireturn, 1) := by decide +kernel
theorem dX4_counted_68 : decode cX4_counted 68 = .ok (.aload_n 0, 1) := by decide +kernel
theorem dX4_counted_69 : decode cX4_counted 69 = .ok (.getfield 7, 3) := by decide +kernel
theorem dX4_counted_72 : decode cX4_counted 72 = .ok (.bipush 19, 2) := by decide +kernel
theorem dX4_counted_74 : decode cX4_counted 74 = .ok (.iaload, 1) := by decide +kernel
theorem dX4_counted_75 : decode cX4_counted 75 = .ok (.invokestatic 128, 3) := by decide +kernel
theorem dX4_counted_78 : decode cX4_counted 78 = .ok (.ireturn, 1) := by decide +kernel
theorem dX4_counted_79 : decode cX4_counted 79 = .ok (.aload_n 0, 1) := by decide +kernel
theorem dX4_counted_80 : decode cX4_counted 80 = .ok (.getfield 7, 3) := by decide +kernel
theorem dX4_counted_83 : decode cX4_counted 83 = .ok (.bipush 20, 2) := by decide +kernel
theorem dX4_counted_85 : decode cX4_counted 85 = .ok (.iaload, 1) := by decide +kernel
theorem dX4_counted_86 : decode cX4_counted 86 = .ok (.ireturn, 1) := by decide +kernel
theorem dX4_counted_87 : decode cX4_counted 87 = .ok (.aload_n 0, 1) := by decide +kernel
theorem dX4_counted_88 : decode cX4_counted 88 = .ok (.getfield 7, 3) := by decide +kernel
theorem dX4_counted_91 : decode cX4_counted 91 = .ok (.iconst 2, 1) := by decide +kernel
theorem dX4_counted_92 : decode cX4_counted 92 = .ok (.iaload, 1) := by decide +kernel
theorem dX4_counted_93 : decode cX4_counted 93 = .ok (.ireturn, 1) := by decide +kernel
theorem dX4_counted_94 : decode cX4_counted 94 = .ok (.aload_n 0, 1) := by decide +kernel
theorem dX4_counted_95 : decode cX4_counted 95 = .ok (.getfield 7, 3) := by decide +kernel
theorem dX4_counted_98 : decode cX4_counted 98 = .ok (.iconst 3, 1) := by decide +kernel
theorem dX4_counted_99 : decode cX4_counted 99 = .ok (.iaload, 1) := by decide +kernel
theorem dX4_counted_100 : decode cX4_counted 100 = .ok (.ireturn, 1) := by decide +kernel
theorem dX4_counted_101 : decode cX4_counted 101 = .ok (.aload_n 0, 1) := by decide +kernel
theorem dX4_counted_102 : decode cX4_counted 102 = .ok (.getfield 184, 3) := by decide +kernel
theorem dX4_counted_105 : decode cX4_counted 105 = .ok (.ireturn, 1) := by decide +kernel
theorem dX4_count_0 : decode cX4_count 0 = .ok (.iload_n 1, 1) := by decide +kernel
theorem dX4_count_1 : decode cX4_count 1 = .ok (.i2l, 1) := by decide +kernel
theorem dX4_count_2 : decode cX4_count 2 = .ok (.lconst 0, 1) := by decide +kernel
theorem dX4_count_3 : decode cX4_count 3 = .ok (.ldc2_w 239, 3) := by decide +kernel
theorem dX4_count_6 : decode cX4_count 6 = .ok (.invokestatic 56, 3) := by decide +kernel
theorem dX4_count_9 : decode cX4_count 9 = .ok (.ifCond .eq 11, 3) := by decide +kernel
theorem dX4_count_12 : decode cX4_count 12 = .ok (.aload_n 0, 1) := by decide +kernel
theorem dX4_count_13 : decode cX4_count 13 = .ok (.iload_n 1, 1) := by decide +kernel
theorem dX4_count_14 : decode cX4_count 14 = .ok (.invokevirtual 241, 3) := by decide +kernel
theorem dX4_count_17 : decode cX4_count 17 = .ok (.goto 9, 3) := by decide +kernel
theorem dX4_count_20 : decode cX4_count 20 = .ok (.aload_n 0, 1) := by decide +kernel
theorem dX4_count_21 : decode cX4_count 21 = .ok (.bipush (-2), 2) := by decide +kernel
theorem dX4_count_23 : decode cX4_count 23 = .ok (.invokevirtual 62, 3) := by decide +kernel
theorem dX4_count_26 : decode cX4_count 26 = .ok (.ireturn, 1) := by decide +kernel
theorem dX4_sums_0 : decode cX4_sums 0 = .ok (.lload_n 1, 1) := by decide +kernel
theorem dX4_sums_1 : decode cX4_sums 1 = .ok (.lstore 5, 2) := by decide +kernel
theorem dX4_sums_3 : decode cX4_sums 3 = .ok (.iconst 0, 1) := by decide +kernel
theorem dX4_sums_4 : decode cX4_sums 4 = .ok (.istore 7, 2) := by decide +kernel
theorem dX4_sums_6 : decode cX4_sums 6 = .ok (.iload 7, 2) := by decide +kernel
theorem dX4_sums_8 : decode cX4_sums 8 = .ok (.iload 4, 2) := by decide +kernel
theorem dX4_sums_10 : decode cX4_sums 10 = .ok (.if_icmp .ge 28, 3) := by decide +kernel
theorem dX4_sums_13 : decode cX4_sums 13 = .ok (.ldc2_w 244, 3) := by decide +kernel
theorem dX4_sums_16 : decode cX4_sums 16 = .ok (.lload 5, 2) := by decide +kernel
theorem dX4_sums_18 : decode cX4_sums 18 = .ok (.lmul, 1) := by decide +kernel
theorem dX4_sums_19 : decode cX4_sums 19 = .ok (.aload_n 0, 1) := by decide +kernel
theorem dX4_sums_20 : decode cX4_sums 20 = .ok (.getfield 7, 3) := by decide +kernel
theorem dX4_sums_23 : decode cX4_sums 23 = .ok (.iload_n 3, 1) := by decide +kernel
theorem dX4_sums_24 : decode cX4_sums 24 = .ok (.iload 7, 2) := by decide +kernel
theorem dX4_sums_26 : decode cX4_sums 26 = .ok (.iadd, 1) := by decide +kernel
theorem dX4_sums_27 : decode cX4_sums 27 = .ok (.iaload, 1) := by decide +kernel
theorem dX4_sums_28 : decode cX4_sums 28 = .ok (.i2l, 1) := by decide +kernel
theorem dX4_sums_29 : decode cX4_sums 29 = .ok (.ladd, 1) := by decide +kernel
theorem dX4_sums_30 : decode cX4_sums 30 = .ok (.lstore 5, 2) := by decide +kernel
theorem dX4_sums_32 : decode cX4_sums 32 = .ok (.iinc 7 1, 3) := by decide +kernel
theorem dX4_sums_35 : decode cX4_sums 35 = .ok (.goto (-29), 3) := by decide +kernel
theorem dX4_sums_38 : decode cX4_sums 38 = .ok (.lload 5, 2) := by decide +kernel
theorem dX4_sums_40 : decode cX4_sums 40 = .ok (.lreturn, 1) := by decide +kernel
theorem dX4_digest_0 : decode cX4_digest 0 = .ok (.ldc2_w 246, 3) := by decide +kernel
theorem dX4_digest_3 : decode cX4_digest 3 = .ok (.lstore_n 1, 1) := by decide +kernel
theorem dX4_digest_4 : decode cX4_digest 4 = .ok (.iconst 0, 1) := by decide +kernel
theorem dX4_digest_5 : decode cX4_digest 5 = .ok (.istore_n 3, 1) := by decide +kernel
theorem dX4_digest_6 : decode cX4_digest 6 = .ok (.iload_n 3, 1) := by decide +kernel
theorem dX4_digest_7 : decode cX4_digest 7 = .ok (.bipush 8, 2) := by decide +kernel
theorem dX4_digest_9 : decode cX4_digest 9 = .ok (.if_icmp .ge 22, 3) := by decide +kernel
theorem dX4_digest_12 : decode cX4_digest 12 = .ok (.ldc2_w 244, 3) := by decide +kernel
theorem dX4_digest_15 : decode cX4_digest 15 = .ok (.lload_n 1, 1) := by decide +kernel
theorem dX4_digest_16 : decode cX4_digest 16 = .ok (.lmul, 1) := by decide +kernel
theorem dX4_digest_17 : decode cX4_digest 17 = .ok (.aload_n 0, 1) := by decide +kernel
theorem dX4_digest_18 : decode cX4_digest 18 = .ok (.iload_n 3, 1) := by decide +kernel
theorem dX4_digest_19 : decode cX4_digest 19 = .ok (.invokevirtual 241, 3) := by decide +kernel
theorem dX4_digest_22 : decode cX4_digest 22 = .ok (.i2l, 1) := by decide +kernel
theorem dX4_digest_23 : decode cX4_digest 23 = .ok (.ladd, 1) := by decide +kernel
theorem dX4_digest_24 : decode cX4_digest 24 = .ok (.lstore_n 1, 1) := by decide +kernel
theorem dX4_digest_25 : decode cX4_digest 25 = .ok (.iinc 3 1, 3) := by decide +kernel
theorem dX4_digest_28 : decode cX4_digest 28 = .ok (.goto (-22), 3) := by decide +kernel
theorem dX4_digest_31 : decode cX4_digest 31 = .ok (.ldc2_w 244, 3) := by decide +kernel
theorem dX4_digest_34 : decode cX4_digest 34 = .ok (.lload_n 1, 1) := by decide +kernel
theorem dX4_digest_35 : decode cX4_digest 35 = .ok (.lmul, 1) := by decide +kernel
theorem dX4_digest_36 : decode cX4_digest 36 = .ok (.aload_n 0, 1) := by decide +kernel
theorem dX4_digest_37 : decode cX4_digest 37 = .ok (.getfield 7, 3) := by decide +kernel
theorem dX4_digest_40 : decode cX4_digest 40 = .ok (.iconst 1, 1) := by decide +kernel
theorem dX4_digest_41 : decode cX4_digest 41 = .ok (.iaload, 1) := by decide +kernel
theorem dX4_digest_42 : decode cX4_digest 42 = .ok (.i2l, 1) := by decide +kernel
theorem dX4_digest_43 : decode cX4_digest 43 = .ok (.ladd, 1) := by decide +kernel
theorem dX4_digest_44 : decode cX4_digest 44 = .ok (.lstore_n 1, 1) := by decide +kernel
theorem dX4_digest_45 : decode cX4_digest 45 = .ok (.iconst 0, 1) := by decide +kernel
theorem dX4_digest_46 : decode cX4_digest 46 = .ok (.istore_n 3, 1) := by decide +kernel
theorem dX4_digest_47 : decode cX4_digest 47 = .ok (.iload_n 3, 1) := by decide +kernel
theorem dX4_digest_48 : decode cX4_digest 48 = .ok (.aload_n 0, 1) := by decide +kernel
theorem dX4_digest_49 : decode cX4_digest 49 = .ok (.invokevirtual 52, 3) := by decide +kernel
theorem dX4_digest_52 : decode cX4_digest 52 = .ok (.if_icmp .ge 76, 3) := by decide +kernel
theorem dX4_digest_55 : decode cX4_digest 55 = .ok (.ldc2_w 244, 3) := by decide +kernel
theorem dX4_digest_58 : decode cX4_digest 58 = .ok (.ldc2_w 244, 3) := by decide +kernel
theorem dX4_digest_61 : decode cX4_digest 61 = .ok (.lload_n 1, 1) := by decide +kernel
theorem dX4_digest_62 : decode cX4_digest 62 = .ok (.lmul, 1) := by decide +kernel
theorem dX4_digest_63 : decode cX4_digest 63 = .ok (.aload_n 0, 1) := by decide +kernel
theorem dX4_digest_64 : decode cX4_digest 64 = .ok (.getfield 7, 3) := by decide +kernel
theorem dX4_digest_67 : decode cX4_digest 67 = .ok (.iconst 4, 1) := by decide +kernel
theorem dX4_digest_68 : decode cX4_digest 68 = .ok (.iload_n 3, 1) := by decide +kernel
theorem dX4_digest_69 : decode cX4_digest 69 = .ok (.iadd, 1) := by decide +kernel
theorem dX4_digest_70 : decode cX4_digest 70 = .ok (.iaload, 1) := by decide +kernel
theorem dX4_digest_71 : decode cX4_digest 71 = .ok (.i2l, 1) := by decide +kernel
theorem dX4_digest_72 : decode cX4_digest 72 = .ok (.ladd, 1) := by decide +kernel
theorem dX4_digest_73 : decode cX4_digest 73 = .ok (.lmul, 1) := by decide +kernel
theorem dX4_digest_74 : decode cX4_digest 74 = .ok (.aload_n 0, 1) := by decide +kernel
theorem dX4_digest_75 : decode cX4_digest 75 = .ok (.getfield 7, 3) := by decide +kernel
theorem dX4_digest_78 : decode cX4_digest 78 = .ok (.bipush 11, 2) := by decide +kernel
theorem dX4_digest_80 : decode cX4_digest 80 = .ok (.iload_n 3, 1) := by decide +kernel
theorem dX4_digest_81 : decode cX4_digest 81 = .ok (.iadd, 1) := by decide +kernel
theorem dX4_digest_82 : decode cX4_digest 82 = .ok (.iaload, 1) := by decide +kernel
theorem dX4_digest_83 : decode cX4_digest 83 = .ok (.i2l, 1) := by decide +kernel
theorem dX4_digest_84 : decode cX4_digest 84 = .ok (.ladd, 1) := by decide +kernel
theorem dX4_digest_85 : decode cX4_digest 85 = .ok (.lstore_n 1, 1) := by decide +kernel
theorem dX4_digest_86 : decode cX4_digest 86 = .ok (.ldc2_w 244, 3) := by decide +kernel
theorem dX4_digest_89 : decode cX4_digest 89 = .ok (.ldc2_w 244, 3) := by decide +kernel
theorem dX4_digest_92 : decode cX4_digest 92 = .ok (.lload_n 1, 1) := by decide +kernel
theorem dX4_digest_93 : decode cX4_digest 93 = .ok (.lmul, 1) := by decide +kernel
theorem dX4_digest_94 : decode cX4_digest 94 = .ok (.aload_n 0, 1) := by decide +kernel
theorem dX4_digest_95 : decode cX4_digest 95 = .ok (.getfield 7, 3) := by decide +kernel
theorem dX4_digest_98 : decode cX4_digest 98 = .ok (.bipush 18, 2) := by decide +kernel
theorem dX4_digest_100 : decode cX4_digest 100 = .ok (.iaload, 1) := by decide +kernel
theorem dX4_digest_101 : decode cX4_digest 101 = .ok (.iload_n 3, 1) := by decide +kernel
theorem dX4_digest_102 : decode cX4_digest 102 = .ok (.ishr, 1) := by decide +kernel
theorem dX4_digest_103 : decode cX4_digest 103 = .ok (.iconst 1, 1) := by decide +kernel
theorem dX4_digest_104 : decode cX4_digest 104 = .ok (.iand, 1) := by decide +kernel
theorem dX4_digest_105 : decode cX4_digest 105 = .ok (.i2l, 1) := by decide +kernel
theorem dX4_digest_106 : decode cX4_digest 106 = .ok (.ladd, 1) := by decide +kernel
theorem dX4_digest_107 : decode cX4_digest 107 = .ok (.lmul, 1) := by decide +kernel
theorem dX4_digest_108 : decode cX4_digest 108 = .ok (.aload_n 0, 1) := by decide +kernel
theorem dX4_digest_109 : decode cX4_digest 109 = .ok (.getfield 7, 3) := by decide +kernel
theorem dX4_digest_112 : decode cX4_digest 112 = .ok (.bipush 19, 2) := by decide +kernel
theorem dX4_digest_114 : decode cX4_digest 114 = .ok (.iaload, 1) := by decide +kernel
theorem dX4_digest_115 : decode cX4_digest 115 = .ok (.iload_n 3, 1) := by decide +kernel
theorem dX4_digest_116 : decode cX4_digest 116 = .ok (.ishr, 1) := by decide +kernel
theorem dX4_digest_117 : decode cX4_digest 117 = .ok (.iconst 1, 1) := by decide +kernel
theorem dX4_digest_118 : decode cX4_digest 118 = .ok (.iand, 1) := by decide +kernel
theorem dX4_digest_119 : decode cX4_digest 119 = .ok (.i2l, 1) := by decide +kernel
theorem dX4_digest_120 : decode cX4_digest 120 = .ok (.ladd, 1) := by decide +kernel
theorem dX4_digest_121 : decode cX4_digest 121 = .ok (.lstore_n 1, 1) := by decide +kernel
theorem dX4_digest_122 : decode cX4_digest 122 = .ok (.iinc 3 1, 3) := by decide +kernel
theorem dX4_digest_125 : decode cX4_digest 125 = .ok (.goto (-78), 3) := by decide +kernel
theorem dX4_digest_128 : decode cX4_digest 128 = .ok (.aload_n 0, 1) := by decide +kernel
theorem dX4_digest_129 : decode cX4_digest 129 = .ok (.lload_n 1, 1) := by decide +kernel
theorem dX4_digest_130 : decode cX4_digest 130 = .ok (.bipush 22, 2) := by decide +kernel
theorem dX4_digest_132 : decode cX4_digest 132 = .ok (.iconst 5, 1) := by decide +kernel
theorem dX4_digest_133 : decode cX4_digest 133 = .ok (.aload_n 0, 1) := by decide +kernel
theorem dX4_digest_134 : decode cX4_digest 134 = .ok (.getfield 7, 3) := by decide +kernel
theorem dX4_digest_137 : decode cX4_digest 137 = .ok (.iconst 2, 1) := by decide +kernel
theorem dX4_digest_138 : decode cX4_digest 138 = .ok (.iaload, 1) := by decide +kernel
theorem dX4_digest_139 : decode cX4_digest 139 = .ok (.imul, 1) := by decide +kernel
theorem dX4_digest_140 : decode cX4_digest 140 = .ok (.invokevirtual 248, 3) := by decide +kernel
theorem dX4_digest_143 : decode cX4_digest 143 = .ok (.lstore_n 1, 1) := by decide +kernel
theorem dX4_digest_144 : decode cX4_digest 144 = .ok (.ldc2_w 244, 3) := by decide +kernel
theorem dX4_digest_147 : decode cX4_digest 147 = .ok (.ldc2_w 244, 3) := by decide +kernel
theorem dX4_digest_150 : decode cX4_digest 150 = .ok (.lload_n 1, 1) := by decide +kernel
theorem dX4_digest_151 : decode cX4_digest 151 = .ok (.lmul, 1) := by decide +kernel
theorem dX4_digest_152 : decode cX4_digest 152 = .ok (.aload_n 0, 1) := by decide +kernel
theorem dX4_digest_153 : decode cX4_digest 153 = .ok (.getfield 161, 3) := by decide +kernel
theorem dX4_digest_156 : decode cX4_digest 156 = .ok (.ladd, 1) := by decide +kernel
theorem dX4_digest_157 : decode cX4_digest 157 = .ok (.lmul, 1) := by decide +kernel
theorem dX4_digest_158 : decode cX4_digest 158 = .ok (.aload_n 0, 1) := by decide +kernel
theorem dX4_digest_159 : decode cX4_digest 159 = .ok (.getfield 23, 3) := by decide +kernel
theorem dX4_digest_162 : decode cX4_digest 162 = .ok (.ladd, 1) := by decide +kernel
theorem dX4_digest_163 : decode cX4_digest 163 = .ok (.lreturn, 1) := by decide +kernel
