theorem dX3_init_0 : decode cX3_init 0 = .ok (.aload_n 0, 1) := by decide +kernel
theorem dX3_init_1 : decode cX3_init 1 = .ok (.invokespecial 3, 3) := by decide +kernel
theorem dX3_init_4 : decode cX3_init 4 = .ok (.aload_n 0, 1) := by decide +kernel
theorem dX3_init_5 : decode cX3_init 5 = .ok (.new 9, 3) := by decide +kernel
theorem dX3_init_8 : decode cX3_init 8 = .ok (.dup, 1) := by decide +kernel
theorem dX3_init_9 : decode cX3_init 9 = .ok (.invokespecial 11, 3) := by decide +kernel
theorem dX3_init_12 : decode cX3_init 12 = .ok (.putfield 12, 3) := by decide +kernel
theorem dX3_init_15 : decode cX3_init 15 = .ok (.aload_n 0, 1) := by decide +kernel
theorem dX3_init_16 : decode cX3_init 16 = .ok (.new 9, 3) := by decide +kernel
theorem dX3_init_19 : decode cX3_init 19 = .ok (.dup, 1) := by decide +kernel
theorem dX3_init_20 : decode cX3_init 20 = .ok (.invokespecial 11, 3) := by decide +kernel
theorem dX3_init_23 : decode cX3_init 23 = .ok (.putfield 16, 3) := by decide +kernel
theorem dX3_init_26 : decode cX3_init 26 = .ok (.aload_n 0, 1) := by decide +kernel
theorem dX3_init_27 : decode cX3_init 27 = .ok (.iconst 2, 1) := by decide +kernel
theorem dX3_init_28 : decode cX3_init 28 = .ok (.anewarray 9, 3) := by decide +kernel
theorem dX3_init_31 : decode cX3_init 31 = .ok (.putfield 19, 3) := by decide +kernel
theorem dX3_init_34 : decode cX3_init 34 = .ok (.iconst 0, 1) := by decide +kernel
theorem dX3_init_35 : decode cX3_init 35 = .ok (.istore_n 1, 1) := by decide +kernel
theorem dX3_init_36 : decode cX3_init 36 = .ok (.iload_n 1, 1) := by decide +kernel
theorem dX3_init_37 : decode cX3_init 37 = .ok (.iconst 2, 1) := by decide +kernel
theorem dX3_init_38 : decode cX3_init 38 = .ok (.if_icmp .ge 22, 3) := by decide +kernel
theorem dX3_init_41 : decode cX3_init 41 = .ok (.aload_n 0, 1) := by decide +kernel
theorem dX3_init_42 : decode cX3_init 42 = .ok (.getfield 19, 3) := by decide +kernel
theorem dX3_init_45 : decode cX3_init 45 = .ok (.iload_n 1, 1) := by decide +kernel
theorem dX3_init_46 : decode cX3_init 46 = .ok (.new 9, 3) := by decide +kernel
theorem dX3_init_49 : decode cX3_init 49 = .ok (.dup, 1) := by decide +kernel
theorem dX3_init_50 : decode cX3_init 50 = .ok (.invokespecial 11, 3) := by decide +kernel
theorem dX3_init_53 : decode cX3_init 53 = .ok (.aastore, 1) := by decide +kernel
theorem dX3_init_54 : decode cX3_init 54 = .ok (.iinc 1 1, 3) := by decide +kernel
theorem dX3_init_57 : decode cX3_init 57 = .ok (.goto (-21), 3) := by decide +kernel
theorem dX3_init_60 : decode cX3_init 60 = .ok (.aload_n 0, 1) := by decide +kernel
theorem dX3_init_61 : decode cX3_init 61 = .ok (.iconst 2, 1) := by decide +kernel
theorem dX3_init_62 : decode cX3_init 62 = .ok (.newarray .boolean, 2) := by decide +kernel
theorem dX3_init_64 : decode cX3_init 64 = .ok (.putfield 23, 3) := by decide +kernel
theorem dX3_init_67 : decode cX3_init 67 = .ok (.aload_n 0, 1) := by decide +kernel
theorem dX3_init_68 : decode cX3_init 68 = .ok (.new 27, 3) := by decide +kernel
theorem dX3_init_71 : decode cX3_init 71 = .ok (.dup, 1) := by decide +kernel
theorem dX3_init_72 : decode cX3_init 72 = .ok (.invokespecial 29, 3) := by decide +kernel
theorem dX3_init_75 : decode cX3_init 75 = .ok (.putfield 30, 3) := by decide +kernel
theorem dX3_init_78 : decode cX3_init 78 = .ok (.aload_n 0, 1) := by decide +kernel
theorem dX3_init_79 : decode cX3_init 79 = .ok (.new 34, 3) := by decide +kernel
theorem dX3_init_82 : decode cX3_init 82 = .ok (.dup, 1) := by decide +kernel
theorem dX3_init_83 : decode cX3_init 83 = .ok (.invokespecial 36, 3) := by decide +kernel
theorem dX3_init_86 : decode cX3_init 86 = .ok (.putfield 37, 3) := by decide +kernel
theorem dX3_init_89 : decode cX3_init 89 = .ok (.aload_n 0, 1) := by decide +kernel
theorem dX3_init_90 : decode cX3_init 90 = .ok (.lconst 0, 1) := by decide +kernel
theorem dX3_init_91 : decode cX3_init 91 = .ok (.putfield 41, 3) := by decide +kernel
theorem dX3_init_94 : decode cX3_init 94 = .ok (.aload_n 0, 1) := by decide +kernel
theorem dX3_init_95 : decode cX3_init 95 = .ok (.lconst 1, 1) := by decide +kernel
theorem dX3_init_96 : decode cX3_init 96 = .ok (.putfield 45, 3) := by decide +kernel
theorem dX3_init_99 : decode cX3_init 99 = .ok (.return_, 1) := by decide +kernel
theorem dX3_town_0 : decode cX3_town 0 = .ok (.iload_n 1, 1) := by decide +kernel
theorem dX3_town_1 : decode cX3_town 1 = .ok (.iconst 1, 1) := by decide +kernel
theorem dX3_town_2 : decode cX3_town 2 = .ok (.iconst 5, 1) := by decide +kernel
theorem dX3_town_3 : decode cX3_town 3 = .ok (.invokestatic 48, 3) := by decide +kernel
theorem dX3_town_6 : decode cX3_town 6 = .ok (.ifCond .ne 8, 3) := by decide +kernel
theorem dX3_town_9 : decode cX3_town 9 = .ok (.aload_n 0, 1) := by decide +kernel
theorem dX3_town_10 : decode cX3_town 10 = .ok (.invokevirtual 52, 3) := by decide +kernel
theorem dX3_town_13 : decode cX3_town 13 = .ok (.ireturn, 1) := by decide +kernel
theorem dX3_town_14 : decode cX3_town 14 = .ok (.aload_n 0, 1) := by decide +kernel
theorem dX3_town_15 : decode cX3_town 15 = .ok (.getfield 12, 3) := by decide +kernel
theorem dX3_town_18 : decode cX3_town 18 = .ok (.getfield 56, 3) := by decide +kernel
theorem dX3_town_21 : decode cX3_town 21 = .ok (.istore_n 2, 1) := by decide +kernel
theorem dX3_town_22 : decode cX3_town 22 = .ok (.aload_n 0, 1) := by decide +kernel
theorem dX3_town_23 : decode cX3_town 23 = .ok (.getfield 12, 3) := by decide +kernel
theorem dX3_town_26 : decode cX3_town 26 = .ok (.iload_n 1, 1) := by decide +kernel
theorem dX3_town_27 : decode cX3_town 27 = .ok (.invokevirtual 60, 3) := by decide +kernel
theorem dX3_town_30 : decode cX3_town 30 = .ok (.iload_n 2, 1) := by decide +kernel
theorem dX3_town_31 : decode cX3_town 31 = .ok (.ireturn, 1) := by decide +kernel
theorem dX3_one_0 : decode cX3_one 0 = .ok (.iload_n 1, 1) := by decide +kernel
theorem dX3_one_1 : decode cX3_one 1 = .ok (.iconst 0, 1) := by decide +kernel
theorem dX3_one_2 : decode cX3_one 2 = .ok (.iconst 5, 1) := by decide +kernel
theorem dX3_one_3 : decode cX3_one 3 = .ok (.invokestatic 48, 3) := by decide +kernel
theorem dX3_one_6 : decode cX3_one 6 = .ok (.ifCond .eq 13, 3) := by decide +kernel
theorem dX3_one_9 : decode cX3_one 9 = .ok (.iload_n 2, 1) := by decide +kernel
theorem dX3_one_10 : decode cX3_one 10 = .ok (.iconst 0, 1) := by decide +kernel
theorem dX3_one_11 : decode cX3_one 11 = .ok (.bipush 30, 2) := by decide +kernel
theorem dX3_one_13 : decode cX3_one 13 = .ok (.invokestatic 48, 3) := by decide +kernel
theorem dX3_one_16 : decode cX3_one 16 = .ok (.ifCond .ne 8, 3) := by decide +kernel
theorem dX3_one_19 : decode cX3_one 19 = .ok (.aload_n 0, 1) := by decide +kernel
theorem dX3_one_20 : decode cX3_one 20 = .ok (.invokevirtual 52, 3) := by decide +kernel
theorem dX3_one_23 : decode cX3_one 23 = .ok (.ireturn, 1) := by decide +kernel
theorem dX3_one_24 : decode cX3_one 24 = .ok (.aload_n 0, 1) := by decide +kernel
theorem dX3_one_25 : decode cX3_one 25 = .ok (.getfield 12, 3) := by decide +kernel
theorem dX3_one_28 : decode cX3_one 28 = .ok (.getfield 56, 3) := by decide +kernel
theorem dX3_one_31 : decode cX3_one 31 = .ok (.bipush 7, 2) := by decide +kernel
theorem dX3_one_33 : decode cX3_one 33 = .ok (.if_icmp .lt 8, 3) := by decide +kernel
theorem dX3_one_36 : decode cX3_one 36 = .ok (.aload_n 0, 1) := by decide +kernel
theorem dX3_one_37 : decode cX3_one 37 = .ok (.invokevirtual 64, 3) := by decide +kernel
theorem dX3_one_40 : decode cX3_one 40 = .ok (.ireturn, 1) := by decide +kernel
theorem dX3_one_41 : decode cX3_one 41 = .ok (.aload_n 0, 1) := by decide +kernel
theorem dX3_one_42 : decode cX3_one 42 = .ok (.getfield 12, 3) := by decide +kernel
theorem dX3_one_45 : decode cX3_one 45 = .ok (.iload_n 1, 1) := by decide +kernel
theorem dX3_one_46 : decode cX3_one 46 = .ok (.iload_n 2, 1) := by decide +kernel
theorem dX3_one_47 : decode cX3_one 47 = .ok (.invokevirtual 67, 3) := by decide +kernel
theorem dX3_one_50 : decode cX3_one 50 = .ok (.ireturn, 1) := by decide +kernel
theorem dX3_type_0 : decode cX3_type 0 = .ok (.iload_n 1, 1) := by decide +kernel
theorem dX3_type_1 : decode cX3_type 1 = .ok (.iconst 0, 1) := by decide +kernel
theorem dX3_type_2 : decode cX3_type 2 = .ok (.bipush 127, 2) := by decide +kernel
theorem dX3_type_4 : decode cX3_type 4 = .ok (.invokestatic 48, 3) := by decide +kernel
theorem dX3_type_7 : decode cX3_type 7 = .ok (.ifCond .ne 8, 3) := by decide +kernel
theorem dX3_type_10 : decode cX3_type 10 = .ok (.aload_n 0, 1) := by decide +kernel
theorem dX3_type_11 : decode cX3_type 11 = .ok (.invokevirtual 52, 3) := by decide +kernel
theorem dX3_type_14 : decode cX3_type 14 = .ok (.ireturn, 1) := by decide +kernel
theorem dX3_type_15 : decode cX3_type 15 = .ok (.aload_n 0, 1) := by decide +kernel
theorem dX3_type_16 : decode cX3_type 16 = .ok (.getfield 37, 3) := by decide +kernel
theorem dX3_type_19 : decode cX3_type 19 = .ok (.getfield 71, 3) := by decide +kernel
theorem dX3_type_22 : decode cX3_type 22 = .ok (.sipush 150, 3) := by decide +kernel
theorem dX3_type_25 : decode cX3_type 25 = .ok (.if_icmp .lt 8, 3) := by decide +kernel
theorem dX3_type_28 : decode cX3_type 28 = .ok (.aload_n 0, 1) := by decide +kernel
theorem dX3_type_29 : decode cX3_type 29 = .ok (.invokevirtual 64, 3) := by decide +kernel
theorem dX3_type_32 : decode cX3_type 32 = .ok (.ireturn, 1) := by decide +kernel
theorem dX3_type_33 : decode cX3_type 33 = .ok (.aload_n 0, 1) := by decide +kernel
theorem dX3_type_34 : decode cX3_type 34 = .ok (.getfield 37, 3) := by decide +kernel
theorem dX3_type_37 : decode cX3_type 37 = .ok (.iload_n 1, 1) := by decide +kernel
theorem dX3_type_38 : decode cX3_type 38 = .ok (.invokevirtual 74, 3) := by decide +kernel
theorem dX3_type_41 : decode cX3_type 41 = .ok (.ireturn, 1) := by decide +kernel
theorem dX3_clear_0 : decode cX3_clear 0 = .ok (.aload_n 0, 1) := by decide +kernel
theorem dX3_clear_1 : decode cX3_clear 1 = .ok (.getfield 37, 3) := by decide +kernel
theorem dX3_clear_4 : decode cX3_clear 4 = .ok (.getfield 71, 3) := by decide +kernel
theorem dX3_clear_7 : decode cX3_clear 7 = .ok (.istore_n 1, 1) := by decide +kernel
theorem dX3_clear_8 : decode cX3_clear 8 = .ok (.aload_n 0, 1) := by decide +kernel
theorem dX3_clear_9 : decode cX3_clear 9 = .ok (.getfield 37, 3) := by decide +kernel
theorem dX3_clear_12 : decode cX3_clear 12 = .ok (.iconst 0, 1) := by decide +kernel
theorem dX3_clear_13 : decode cX3_clear 13 = .ok (.putfield 71, 3) := by decide +kernel
theorem dX3_clear_16 : decode cX3_clear 16 = .ok (.iload_n 1, 1) := by decide +kernel
theorem dX3_clear_17 : decode cX3_clear 17 = .ok (.ireturn, 1) := by decide +kernel
theorem dX3_read_0 : decode cX3_read 0 = .ok (.aload_n 0, 1) := by decide +kernel
theorem dX3_read_1 : decode cX3_read 1 = .ok (.getfield 37, 3) := by decide +kernel
theorem dX3_read_4 : decode cX3_read 4 = .ok (.aload_n 0, 1) := by decide +kernel
theorem dX3_read_5 : decode cX3_read 5 = .ok (.getfield 16, 3) := by decide +kernel
theorem dX3_read_8 : decode cX3_read 8 = .ok (.invokevirtual 78, 3) := by decide +kernel
theorem dX3_read_11 : decode cX3_read 11 = .ok (.istore_n 1, 1) := by decide +kernel
theorem dX3_read_12 : decode cX3_read 12 = .ok (.iload_n 1, 1) := by decide +kernel
theorem dX3_read_13 : decode cX3_read 13 = .ok (.ifCond .lt 14, 3) := by decide +kernel
theorem dX3_read_16 : decode cX3_read 16 = .ok (.aload_n 0, 1) := by decide +kernel
theorem dX3_read_17 : decode cX3_read 17 = .ok (.getfield 12, 3) := by decide +kernel
theorem dX3_read_20 : decode cX3_read 20 = .ok (.aload_n 0, 1) := by decide +kernel
theorem dX3_read_21 : decode cX3_read 21 = .ok (.getfield 16, 3) := by decide +kernel
theorem dX3_read_24 : decode cX3_read 24 = .ok (.invokevirtual 82, 3) := by decide +kernel
theorem dX3_read_27 : decode cX3_read 27 = .ok (.iload_n 1, 1) := by decide +kernel
theorem dX3_read_28 : decode cX3_read 28 = .ok (.ireturn, 1) := by decide +kernel
theorem dX3_list_0 : decode cX3_list 0 = .ok (.aload_n 0, 1) := by decide +kernel
theorem dX3_list_1 : decode cX3_list 1 = .ok (.iload_n 1, 1) := by decide +kernel
theorem dX3_list_2 : decode cX3_list 2 = .ok (.invokevirtual 86, 3) := by decide +kernel
theorem dX3_list_5 : decode cX3_list 5 = .ok (.ifCond .eq 12, 3) := by decide +kernel
theorem dX3_list_8 : decode cX3_list 8 = .ok (.iload_n 2, 1) := by decide +kernel
theorem dX3_list_9 : decode cX3_list 9 = .ok (.iconst 0, 1) := by decide +kernel
theorem dX3_list_10 : decode cX3_list 10 = .ok (.iconst 1, 1) := by decide +kernel
theorem dX3_list_11 : decode cX3_list 11 = .ok (.invokestatic 48, 3) := by decide +kernel
theorem dX3_list_14 : decode cX3_list 14 = .ok (.ifCond .ne 8, 3) := by decide +kernel
theorem dX3_list_17 : decode cX3_list 17 = .ok (.aload_n 0, 1) := by decide +kernel
theorem dX3_list_18 : decode cX3_list 18 = .ok (.invokevirtual 52, 3) := by decide +kernel
theorem dX3_list_21 : decode cX3_list 21 = .ok (.ireturn, 1) := by decide +kernel
theorem dX3_list_22 : decode cX3_list 22 = .ok (.aload_n 0, 1) := by decide +kernel
theorem dX3_list_23 : decode cX3_list 23 = .ok (.getfield 12, 3) := by decide +kernel
theorem dX3_list_26 : decode cX3_list 26 = .ok (.getfield 90, 3) := by decide +kernel
theorem dX3_list_29 : decode cX3_list 29 = .ok (.iload_n 1, 1) := by decide +kernel
theorem dX3_list_30 : decode cX3_list 30 = .ok (.invokestatic 93, 3) := by decide +kernel
theorem dX3_list_33 : decode cX3_list 33 = .ok (.istore_n 3, 1) := by decide +kernel
theorem dX3_list_34 : decode cX3_list 34 = .ok (.aload_n 0, 1) := by decide +kernel
theorem dX3_list_35 : decode cX3_list 35 = .ok (.getfield 12, 3) := by decide +kernel
theorem dX3_list_38 : decode cX3_list 38 = .ok (.invokevirtual 96, 3) := by decide +kernel
theorem dX3_list_41 : decode cX3_list 41 = .ok (.aload_n 0, 1) := by decide +kernel
theorem dX3_list_42 : decode cX3_list 42 = .ok (.getfield 12, 3) := by decide +kernel
theorem dX3_list_45 : decode cX3_list 45 = .ok (.aload_n 0, 1) := by decide +kernel
theorem dX3_list_46 : decode cX3_list 46 = .ok (.getfield 12, 3) := by decide +kernel
theorem dX3_list_49 : decode cX3_list 49 = .ok (.getfield 90, 3) := by decide +kernel
theorem dX3_list_52 : decode cX3_list 52 = .ok (.iload_n 1, 1) := by decide +kernel
theorem dX3_list_53 : decode cX3_list 53 = .ok (.iload_n 2, 1) := by decide +kernel
theorem dX3_list_54 : decode cX3_list 54 = .ok (.invokestatic 99, 3) := by decide +kernel
theorem dX3_list_57 : decode cX3_list 57 = .ok (.putfield 90, 3) := by decide +kernel
theorem dX3_list_60 : decode cX3_list 60 = .ok (.iload_n 3, 1) := by decide +kernel
theorem dX3_list_61 : decode cX3_list 61 = .ok (.ireturn, 1) := by decide +kernel
theorem dX3_follow_0 : decode cX3_follow 0 = .ok (.aload_n 0, 1) := by decide +kernel
theorem dX3_follow_1 : decode cX3_follow 1 = .ok (.iload_n 1, 1) := by decide +kernel
theorem dX3_follow_2 : decode cX3_follow 2 = .ok (.invokevirtual 86, 3) := by decide +kernel
theorem dX3_follow_5 : decode cX3_follow 5 = .ok (.ifCond .eq 12, 3) := by decide +kernel
theorem dX3_follow_8 : decode cX3_follow 8 = .ok (.iload_n 2, 1) := by decide +kernel
theorem dX3_follow_9 : decode cX3_follow 9 = .ok (.iconst 0, 1) := by decide +kernel
theorem dX3_follow_10 : decode cX3_follow 10 = .ok (.iconst 1, 1) := by decide +kernel
theorem dX3_follow_11 : decode cX3_follow 11 = .ok (.invokestatic 48, 3) := by decide +kernel
theorem dX3_follow_14 : decode cX3_follow 14 = .ok (.ifCond .ne 8, 3) := by decide +kernel
theorem dX3_follow_17 : decode cX3_follow 17 = .ok (.aload_n 0, 1) := by decide +kernel
theorem dX3_follow_18 : decode cX3_follow 18 = .ok (.invokevirtual 52, 3) := by decide +kernel
theorem dX3_follow_21 : decode cX3_follow 21 = .ok (.ireturn, 1) := by decide +kernel
theorem dX3_follow_22 : decode cX3_follow 22 = .ok (.aload_n 0, 1) := by decide +kernel
theorem dX3_follow_23 : decode cX3_follow 23 = .ok (.getfield 12, 3) := by decide +kernel
theorem dX3_follow_26 : decode cX3_follow 26 = .ok (.getfield 103, 3) := by decide +kernel
theorem dX3_follow_29 : decode cX3_follow 29 = .ok (.iload_n 1, 1) := by decide +kernel
theorem dX3_follow_30 : decode cX3_follow 30 = .ok (.invokestatic 93, 3) := by decide +kernel
theorem dX3_follow_33 : decode cX3_follow 33 = .ok (.istore_n 3, 1) := by decide +kernel
theorem dX3_follow_34 : decode cX3_follow 34 = .ok (.aload_n 0, 1) := by decide +kernel
theorem dX3_follow_35 : decode cX3_follow 35 = .ok (.getfield 12, 3) := by decide +kernel
theorem dX3_follow_38 : decode cX3_follow 38 = .ok (.invokevirtual 96, 3) := by decide +kernel
theorem dX3_follow_41 : decode cX3_follow 41 = .ok (.aload_n 0, 1) := by decide +kernel
theorem dX3_follow_42 : decode cX3_follow 42 = .ok (.getfield 12, 3) := by decide +kernel
theorem dX3_follow_45 : decode cX3_follow 45 = .ok (.aload_n 0, 1) := by decide +kernel
theorem dX3_follow_46 : decode cX3_follow 46 = .ok (.getfield 12, 3) := by decide +kernel
theorem dX3_follow_49 : decode cX3_follow 49 = .ok (.getfield 103, 3) := by decide +kernel
theorem dX3_follow_52 : decode cX3_follow 52 = .ok (.iload_n 1, 1) := by decide +kernel
theorem dX3_follow_53 : decode cX3_follow 53 = .ok (.iload_n 2, 1) := by decide +kernel
theorem dX3_follow_54 : decode cX3_follow 54 = .ok (.invokestatic 99, 3) := by decide +kernel
theorem dX3_follow_57 : decode cX3_follow 57 = .ok (.putfield 103, 3) := by decide +kernel
theorem dX3_follow_60 : decode cX3_follow 60 = .ok (.iload_n 3, 1) := by decide +kernel
theorem dX3_follow_61 : decode cX3_follow 61 = .ok (.ireturn, 1) := by decide +kernel
theorem dX3_day_0 : decode cX3_day 0 = .ok (.iload_n 1, 1) := by decide +kernel
theorem dX3_day_1 : decode cX3_day 1 = .ok (.iconst 1, 1) := by decide +kernel
theorem dX3_day_2 : decode cX3_day 2 = .ok (.bipush 60, 2) := by decide +kernel
theorem dX3_day_4 : decode cX3_day 4 = .ok (.invokestatic 48, 3) := by decide +kernel
theorem dX3_day_7 : decode cX3_day 7 = .ok (.ifCond .ne 8, 3) := by decide +kernel
theorem dX3_day_10 : decode cX3_day 10 = .ok (.aload_n 0, 1) := by decide +kernel
theorem dX3_day_11 : decode cX3_day 11 = .ok (.invokevirtual 52, 3) := by decide +kernel
theorem dX3_day_14 : decode cX3_day 14 = .ok (.ireturn, 1) := by decide +kernel
theorem dX3_day_15 : decode cX3_day 15 = .ok (.iconst 0, 1) := by decide +kernel
theorem dX3_day_16 : decode cX3_day 16 = .ok (.istore_n 2, 1) := by decide +kernel
theorem dX3_day_17 : decode cX3_day 17 = .ok (.iconst 0, 1) := by decide +kernel
theorem dX3_day_18 : decode cX3_day 18 = .ok (.istore_n 3, 1) := by decide +kernel
theorem dX3_day_19 : decode cX3_day 19 = .ok (.iload_n 3, 1) := by decide +kernel
theorem dX3_day_20 : decode cX3_day 20 = .ok (.iload_n 1, 1) := by decide +kernel
theorem dX3_day_21 : decode cX3_day 21 = .ok (.if_icmp .ge 30, 3) := by decide +kernel
theorem dX3_day_24 : decode cX3_day 24 = .ok (.aload_n 0, 1) := by decide +kernel
theorem dX3_day_25 : decode cX3_day 25 = .ok (.getfield 12, 3) := by decide +kernel
theorem dX3_day_28 : decode cX3_day 28 = .ok (.invokevirtual 96, 3) := by decide +kernel
theorem dX3_day_31 : decode cX3_day 31 = .ok (.iload_n 2, 1) := by decide +kernel
theorem dX3_day_32 : decode cX3_day 32 = .ok (.aload_n 0, 1) := by decide +kernel
theorem dX3_day_33 : decode cX3_day 33 = .ok (.getfield 12, 3) := by decide +kernel
theorem dX3_day_36 : decode cX3_day 36 = .ok (.aload_n 0, 1) := by decide +kernel
theorem dX3_day_37 : decode cX3_day 37 = .ok (.getfield 30, 3) := by decide +kernel
theorem dX3_day_40 : decode cX3_day 40 = .ok (.invokevirtual 106, 3) := by decide +kernel
theorem dX3_day_43 : decode cX3_day 43 = .ok (.ior, 1) := by decide +kernel
theorem dX3_day_44 : decode cX3_day 44 = .ok (.istore_n 2, 1) := by decide +kernel
theorem dX3_day_45 : decode cX3_day 45 = .ok (.iinc 3 1, 3) := by decide +kernel
theorem dX3_day_48 : decode cX3_day 48 = .ok (.goto (-29), 3) := by decide +kernel
theorem dX3_day_51 : decode cX3_day 51 = .ok (.iload_n 2, 1) := by decide +kernel
theorem dX3_day_52 : decode cX3_day 52 = .ok (.ireturn, 1) := by decide +kernel
theorem dX3_undo_0 : decode cX3_undo 0 = .ok (.aload_n 0, 1) := by decide +kernel
theorem dX3_undo_1 : decode cX3_undo 1 = .ok (.getfield 12, 3) := by decide +kernel
theorem dX3_undo_4 : decode cX3_undo 4 = .ok (.getfield 110, 3) := by decide +kernel
theorem dX3_undo_7 : decode cX3_undo 7 = .ok (.ifCond .gt 8, 3) := by decide +kernel
theorem dX3_undo_10 : decode cX3_undo 10 = .ok (.aload_n 0, 1) := by decide +kernel
theorem dX3_undo_11 : decode cX3_undo 11 = .ok (.invokevirtual 113, 3) := by decide +kernel
theorem dX3_undo_14 : decode cX3_undo 14 = .ok (.ireturn, 1) := by decide +kernel
theorem dX3_undo_15 : decode cX3_undo 15 = .ok (.aload_n 0, 1) := by decide +kernel
theorem dX3_undo_16 : decode cX3_undo 16 = .ok (.getfield 12, 3) := by decide +kernel
theorem dX3_undo_19 : decode cX3_undo 19 = .ok (.invokevirtual 116, 3) := by decide +kernel
theorem dX3_undo_22 : decode cX3_undo 22 = .ok (.aload_n 0, 1) := by decide +kernel
theorem dX3_undo_23 : decode cX3_undo 23 = .ok (.getfield 12, 3) := by decide +kernel
theorem dX3_undo_26 : decode cX3_undo 26 = .ok (.getfield 119, 3) := by decide +kernel
theorem dX3_undo_29 : decode cX3_undo 29 = .ok (.ireturn, 1) := by decide +kernel
theorem dX3_of_0 : decode cX3_of 0 = .ok (.aload_n 0, 1) := by decide +kernel
theorem dX3_of_1 : decode cX3_of 1 = .ok (.iload_n 1, 1) := by decide +kernel
theorem dX3_of_2 : decode cX3_of 2 = .ok (.invokevirtual 86, 3) := by decide +kernel
theorem dX3_of_5 : decode cX3_of 5 = .ok (.ifCond .eq 12, 3) := by decide +kernel
theorem dX3_of_8 : decode cX3_of 8 = .ok (.iload_n 2, 1) := by decide +kernel
theorem dX3_of_9 : decode cX3_of 9 = .ok (.iconst 0, 1) := by decide +kernel
theorem dX3_of_10 : decode cX3_of 10 = .ok (.iconst 4, 1) := by decide +kernel
theorem dX3_of_11 : decode cX3_of 11 = .ok (.invokestatic 48, 3) := by decide +kernel
theorem dX3_of_14 : decode cX3_of 14 = .ok (.ifCond .ne 8, 3) := by decide +kernel
theorem dX3_of_17 : decode cX3_of 17 = .ok (.aload_n 0, 1) := by decide +kernel
theorem dX3_of_18 : decode cX3_of 18 = .ok (.invokevirtual 52, 3) := by decide +kernel
theorem dX3_of_21 : decode cX3_of 21 = .ok (.ireturn, 1) := by decide +kernel
theorem dX3_of_22 : decode cX3_of 22 = .ok (.iload_n 2, 1) := by decide +kernel
theorem dX3_of_23 : decode cX3_of 23 = .ok (.tableswitch 73 0 3 #[29, 39, 49, 61], 29) := by decide +kernel
theorem dX3_of_52 : decode cX3_of 52 = .ok (.aload_n 0, 1) := by decide +kernel
theorem dX3_of_53 : decode cX3_of 53 = .ok (.getfield 12, 3) := by decide +kernel
theorem dX3_of_56 : decode cX3_of 56 = .ok (.getfield 122, 3) := by decide +kernel
theorem dX3_of_59 : decode cX3_of 59 = .ok (.iload_n 1, 1) := by decide +kernel
theorem dX3_of_60 : decode cX3_of 60 = .ok (.iaload, 1) := by decide +kernel
theorem dX3_of_61 : decode cX3_of 61 = .ok (.ireturn, 1) := by decide +kernel
theorem dX3_of_62 : decode cX3_of 62 = .ok (.aload_n 0, 1) := by decide +kernel
theorem dX3_of_63 : decode cX3_of 63 = .ok (.getfield 12, 3) := by decide +kernel
theorem dX3_of_66 : decode cX3_of 66 = .ok (.getfield 126, 3) := by decide +kernel
theorem dX3_of_69 : decode cX3_of 69 = .ok (.iload_n 1, 1) := by decide +kernel
theorem dX3_of_70 : decode cX3_of 70 = .ok (.iaload, 1) := by decide +kernel
theorem dX3_of_71 : decode cX3_of 71 = .ok (.ireturn, 1) := by decide +kernel
theorem dX3_of_72 : decode cX3_of 72 = .ok (.aload_n 0, 1) := by decide +kernel
theorem dX3_of_73 : decode cX3_of 73 = .ok (.getfield 12, 3) := by decide +kernel
theorem dX3_of_76 : decode cX3_of 76 = .ok (.getfield 90, 3) := by decide +kernel
theorem dX3_of_79 : decode cX3_of 79 = .ok (.iload_n 1, 1) := by decide +kernel
theorem dX3_of_80 : decode cX3_of 80 = .ok (.invokestatic 93, 3) := by decide +kernel
theorem dX3_of_83 : decode cX3_of 83 = .ok (.ireturn, 1) := by decide +kernel
theorem dX3_of_84 : decode cX3_of 84 = .ok (.aload_n 0, 1) := by decide +kernel
theorem dX3_of_85 : decode cX3_of 85 = .ok (.getfield 12, 3) := by decide +kernel
theorem dX3_of_88 : decode cX3_of 88 = .ok (.getfield 103, 3) := by decide +kernel
theorem dX3_of_91 : decode cX3_of 91 = .ok (.iload_n 1, 1) := by decide +kernel
theorem dX3_of_92 : decode cX3_of 92 = .ok (.invokestatic 93, 3) := by decide +kernel
theorem dX3_of_95 : decode cX3_of 95 = .ok (.ireturn, 1) := by decide +kernel
theorem dX3_of_96 : decode cX3_of 96 = .ok (.aload_n 0, 1) := by decide +kernel
theorem dX3_of_97 : decode cX3_of 97 = .ok (.iload_n 1, 1) := by decide +kernel
theorem dX3_of_98 : decode cX3_of 98 = .ok (.invokevirtual 129, 3) := by decide +kernel
theorem dX3_of_101 : decode cX3_of 101 = .ok (.ireturn, 1) := by decide +kernel
theorem dX3_then_0 : decode cX3_then 0 = .ok (.aload_n 0, 1) := by decide +kernel
theorem dX3_then_1 : decode cX3_then 1 = .ok (.iload_n 1, 1) := by decide +kernel
theorem dX3_then_2 : decode cX3_then 2 = .ok (.invokevirtual 86, 3) := by decide +kernel
theorem dX3_then_5 : decode cX3_then 5 = .ok (.ifCond .eq 22, 3) := by decide +kernel
theorem dX3_then_8 : decode cX3_then 8 = .ok (.iload_n 2, 1) := by decide +kernel
theorem dX3_then_9 : decode cX3_then 9 = .ok (.iconst 0, 1) := by decide +kernel
theorem dX3_then_10 : decode cX3_then 10 = .ok (.bipush 60, 2) := by decide +kernel
theorem dX3_then_12 : decode cX3_then 12 = .ok (.invokestatic 48, 3) := by decide +kernel
theorem dX3_then_15 : decode cX3_then 15 = .ok (.ifCond .eq 12, 3) := by decide +kernel
theorem dX3_then_18 : decode cX3_then 18 = .ok (.iload_n 3, 1) := by decide +kernel
theorem dX3_then_19 : decode cX3_then 19 = .ok (.iconst 0, 1) := by decide +kernel
theorem dX3_then_20 : decode cX3_then 20 = .ok (.iconst 1, 1) := by decide +kernel
theorem dX3_then_21 : decode cX3_then 21 = .ok (.invokestatic 48, 3) := by decide +kernel
theorem dX3_then_24 : decode cX3_then 24 = .ok (.ifCond .ne 8, 3) := by decide +kernel
theorem dX3_then_27 : decode cX3_then 27 = .ok (.aload_n 0, 1) := by decide +kernel
theorem dX3_then_28 : decode cX3_then 28 = .ok (.invokevirtual 52, 3) := by decide +kernel
theorem dX3_then_31 : decode cX3_then 31 = .ok (.ireturn, 1) := by decide +kernel
theorem dX3_then_32 : decode cX3_then 32 = .ok (.aload_n 0, 1) := by decide +kernel
theorem dX3_then_33 : decode cX3_then 33 = .ok (.getfield 12, 3) := by decide +kernel
theorem dX3_then_36 : decode cX3_then 36 = .ok (.aload_n 0, 1) := by decide +kernel
theorem dX3_then_37 : decode cX3_then 37 = .ok (.getfield 30, 3) := by decide +kernel
theorem dX3_then_40 : decode cX3_then 40 = .ok (.iload_n 1, 1) := by decide +kernel
theorem dX3_then_41 : decode cX3_then 41 = .ok (.invokevirtual 132, 3) := by decide +kernel
theorem dX3_then_44 : decode cX3_then 44 = .ok (.iconst 0, 1) := by decide +kernel
theorem dX3_then_45 : decode cX3_then 45 = .ok (.istore 4, 2) := by decide +kernel
theorem dX3_then_47 : decode cX3_then 47 = .ok (.iload 4, 2) := by decide +kernel
theorem dX3_then_49 : decode cX3_then 49 = .ok (.iload_n 2, 1) := by decide +kernel
theorem dX3_then_50 : decode cX3_then 50 = .ok (.if_icmp .ge 17, 3) := by decide +kernel
theorem dX3_then_53 : decode cX3_then 53 = .ok (.aload_n 0, 1) := by decide +kernel
theorem dX3_then_54 : decode cX3_then 54 = .ok (.getfield 30, 3) := by decide +kernel
theorem dX3_then_57 : decode cX3_then 57 = .ok (.invokevirtual 136, 3) := by decide +kernel
theorem dX3_then_60 : decode cX3_then 60 = .ok (.pop, 1) := by decide +kernel
theorem dX3_then_61 : decode cX3_then 61 = .ok (.iinc 4 1, 3) := by decide +kernel
theorem dX3_then_64 : decode cX3_then 64 = .ok (.goto (-17), 3) := by decide +kernel
theorem dX3_then_67 : decode cX3_then 67 = .ok (.iload_n 3, 1) := by decide +kernel
theorem dX3_then_68 : decode cX3_then 68 = .ok (.ifCond .ne 13, 3) := by decide +kernel
theorem dX3_then_71 : decode cX3_then 71 = .ok (.aload_n 0, 1) := by decide +kernel
theorem dX3_then_72 : decode cX3_then 72 = .ok (.getfield 30, 3) := by decide +kernel
theorem dX3_then_75 : decode cX3_then 75 = .ok (.invokevirtual 139, 3) := by decide +kernel
theorem dX3_then_78 : decode cX3_then 78 = .ok (.goto 10, 3) := by decide +kernel
theorem dX3_then_81 : decode cX3_then 81 = .ok (.aload_n 0, 1) := by decide +kernel
theorem dX3_then_82 : decode cX3_then 82 = .ok (.getfield 30, 3) := by decide +kernel
theorem dX3_then_85 : decode cX3_then 85 = .ok (.getfield 142, 3) := by decide +kernel
theorem dX3_then_88 : decode cX3_then 88 = .ok (.ireturn, 1) := by decide +kernel
theorem dX3_when_0 : decode cX3_when 0 = .ok (.aload_n 0, 1) := by decide +kernel
theorem dX3_when_1 : decode cX3_when 1 = .ok (.iload_n 1, 1) := by decide +kernel
theorem dX3_when_2 : decode cX3_when 2 = .ok (.invokevirtual 86, 3) := by decide +kernel
theorem dX3_when_5 : decode cX3_when 5 = .ok (.ifCond .ne 8, 3) := by decide +kernel
theorem dX3_when_8 : decode cX3_when 8 = .ok (.aload_n 0, 1) := by decide +kernel
theorem dX3_when_9 : decode cX3_when 9 = .ok (.invokevirtual 52, 3) := by decide +kernel
theorem dX3_when_12 : decode cX3_when 12 = .ok (.ireturn, 1) := by decide +kernel
theorem dX3_when_13 : decode cX3_when 13 = .ok (.aload_n 0, 1) := by decide +kernel
theorem dX3_when_14 : decode cX3_when 14 = .ok (.getfield 12, 3) := by decide +kernel
theorem dX3_when_17 : decode cX3_when 17 = .ok (.aload_n 0, 1) := by decide +kernel
theorem dX3_when_18 : decode cX3_when 18 = .ok (.getfield 30, 3) := by decide +kernel
theorem dX3_when_21 : decode cX3_when 21 = .ok (.iload_n 1, 1) := by decide +kernel
theorem dX3_when_22 : decode cX3_when 22 = .ok (.invokevirtual 132, 3) := by decide +kernel
theorem dX3_when_25 : decode cX3_when 25 = .ok (.iconst 1, 1) := by decide +kernel
theorem dX3_when_26 : decode cX3_when 26 = .ok (.istore_n 2, 1) := by decide +kernel
theorem dX3_when_27 : decode cX3_when 27 = .ok (.iload_n 2, 1) := by decide +kernel
theorem dX3_when_28 : decode cX3_when 28 = .ok (.bipush 60, 2) := by decide +kernel
theorem dX3_when_30 : decode cX3_when 30 = .ok (.if_icmp .gt 21, 3) := by decide +kernel
theorem dX3_when_33 : decode cX3_when 33 = .ok (.aload_n 0, 1) := by decide +kernel
theorem dX3_when_34 : decode cX3_when 34 = .ok (.getfield 30, 3) := by decide +kernel
theorem dX3_when_37 : decode cX3_when 37 = .ok (.invokevirtual 136, 3) := by decide +kernel
theorem dX3_when_40 : decode cX3_when 40 = .ok (.ifCond .eq 5, 3) := by decide +kernel
theorem dX3_when_43 : decode cX3_when 43 = .ok (.iload_n 2, 1) := by decide +kernel
theorem dX3_when_44 : decode cX3_when 44 = .ok (.ireturn, 1) := by decide +kernel
theorem dX3_when_45 : decode cX3_when 45 = .ok (.iinc 2 1, 3) := by decide +kernel
theorem dX3_when_48 : decode cX3_when 48 = .ok (.goto (-21), 3) := by decide +kernel
theorem dX3_when_51 : decode cX3_when 51 = .ok (.iconst (-1), 1) := by decide +kernel
theorem dX3_when_52 : decode cX3_when 52 = .ok (.ireturn, 1) := by decide +kernel
theorem dX3_lack_0 : decode cX3_lack 0 = .ok (.aload_n 0, 1) := by decide +kernel
theorem dX3_lack_1 : decode cX3_lack 1 = .ok (.bipush 30, 2) := by decide +kernel
theorem dX3_lack_3 : decode cX3_lack 3 = .ok (.iconst 1, 1) := by decide +kernel
theorem dX3_lack_4 : decode cX3_lack 4 = .ok (.invokevirtual 145, 3) := by decide +kernel
theorem dX3_lack_7 : decode cX3_lack 7 = .ok (.aload_n 0, 1) := by decide +kernel
theorem dX3_lack_8 : decode cX3_lack 8 = .ok (.bipush 30, 2) := by decide +kernel
theorem dX3_lack_10 : decode cX3_lack 10 = .ok (.iconst 0, 1) := by decide +kernel
theorem dX3_lack_11 : decode cX3_lack 11 = .ok (.invokevirtual 145, 3) := by decide +kernel
theorem dX3_lack_14 : decode cX3_lack 14 = .ok (.iconst (-1), 1) := by decide +kernel
theorem dX3_lack_15 : decode cX3_lack 15 = .ok (.ixor, 1) := by decide +kernel
theorem dX3_lack_16 : decode cX3_lack 16 = .ok (.iand, 1) := by decide +kernel
theorem dX3_lack_17 : decode cX3_lack 17 = .ok (.ireturn, 1) := by decide +kernel
theorem dX3_comesTrue_0 : decode cX3_comesTrue 0 = .ok (.iload_n 1, 1) := by decide +kernel
theorem dX3_comesTrue_1 : decode cX3_comesTrue 1 = .ok (.iconst 1, 1) := by decide +kernel
theorem dX3_comesTrue_2 : decode cX3_comesTrue 2 = .ok (.bipush 30, 2) := by decide +kernel
theorem dX3_comesTrue_4 : decode cX3_comesTrue 4 = .ok (.invokestatic 48, 3) := by decide +kernel
theorem dX3_comesTrue_7 : decode cX3_comesTrue 7 = .ok (.ifCond .eq 12, 3) := by decide +kernel
theorem dX3_comesTrue_10 : decode cX3_comesTrue 10 = .ok (.iload_n 2, 1) := by decide +kernel
theorem dX3_comesTrue_11 : decode cX3_comesTrue 11 = .ok (.iconst 0, 1) := by decide +kernel
theorem dX3_comesTrue_12 : decode cX3_comesTrue 12 = .ok (.iconst 1, 1) := by decide +kernel
theorem dX3_comesTrue_13 : decode cX3_comesTrue 13 = .ok (.invokestatic 48, 3) := by decide +kernel
theorem dX3_comesTrue_16 : decode cX3_comesTrue 16 = .ok (.ifCond .ne 8, 3) := by decide +kernel
theorem dX3_comesTrue_19 : decode cX3_comesTrue 19 = .ok (.aload_n 0, 1) := by decide +kernel
theorem dX3_comesTrue_20 : decode cX3_comesTrue 20 = .ok (.invokevirtual 52, 3) := by decide +kernel
theorem dX3_comesTrue_23 : decode cX3_comesTrue 23 = .ok (.ireturn, 1) := by decide +kernel
theorem dX3_comesTrue_24 : decode cX3_comesTrue 24 = .ok (.aload_n 0, 1) := by decide +kernel
theorem dX3_comesTrue_25 : decode cX3_comesTrue 25 = .ok (.iload_n 1, 1) := by decide +kernel
theorem dX3_comesTrue_26 : decode cX3_comesTrue 26 = .ok (.iconst 1, 1) := by decide +kernel
theorem dX3_comesTrue_27 : decode cX3_comesTrue 27 = .ok (.invokevirtual 145, 3) := by decide +kernel
theorem dX3_comesTrue_30 : decode cX3_comesTrue 30 = .ok (.istore_n 3, 1) := by decide +kernel
theorem dX3_comesTrue_31 : decode cX3_comesTrue 31 = .ok (.aload_n 0, 1) := by decide +kernel
theorem dX3_comesTrue_32 : decode cX3_comesTrue 32 = .ok (.iload_n 1, 1) := by decide +kernel
theorem dX3_comesTrue_33 : decode cX3_comesTrue 33 = .ok (.iconst 0, 1) := by decide +kernel
theorem dX3_comesTrue_34 : decode cX3_comesTrue 34 = .ok (.invokevirtual 145, 3) := by decide +kernel
theorem dX3_comesTrue_37 : decode cX3_comesTrue 37 = .ok (.istore 4, 2) := by decide +kernel
theorem dX3_comesTrue_39 : decode cX3_comesTrue 39 = .ok (.iconst 0, 1) := by decide +kernel
theorem dX3_comesTrue_40 : decode cX3_comesTrue 40 = .ok (.istore 5, 2) := by decide +kernel
theorem dX3_comesTrue_42 : decode cX3_comesTrue 42 = .ok (.iconst (-1), 1) := by decide +kernel
theorem dX3_comesTrue_43 : decode cX3_comesTrue 43 = .ok (.istore 6, 2) := by decide +kernel
theorem dX3_comesTrue_45 : decode cX3_comesTrue 45 = .ok (.iconst 0, 1) := by decide +kernel
theorem dX3_comesTrue_46 : decode cX3_comesTrue 46 = .ok (.istore 7, 2) := by decide +kernel
theorem dX3_comesTrue_48 : decode cX3_comesTrue 48 = .ok (.iload 7, 2) := by decide +kernel
theorem dX3_comesTrue_50 : decode cX3_comesTrue 50 = .ok (.iconst 1, 1) := by decide +kernel
theorem dX3_comesTrue_51 : decode cX3_comesTrue 51 = .ok (.aload_n 0, 1) := by decide +kernel
theorem dX3_comesTrue_52 : decode cX3_comesTrue 52 = .ok (.getfield 12, 3) := by decide +kernel
theorem dX3_comesTrue_55 : decode cX3_comesTrue 55 = .ok (.getfield 56, 3) := by decide +kernel
theorem dX3_comesTrue_58 : decode cX3_comesTrue 58 = .ok (.ishl, 1) := by decide +kernel
theorem dX3_comesTrue_59 : decode cX3_comesTrue 59 = .ok (.if_icmp .ge 46, 3) := by decide +kernel
theorem dX3_comesTrue_62 : decode cX3_comesTrue 62 = .ok (.iload 7, 2) := by decide +kernel
theorem dX3_comesTrue_64 : decode cX3_comesTrue 64 = .ok (.iload_n 3, 1) := by decide +kernel
theorem dX3_comesTrue_65 : decode cX3_comesTrue 65 = .ok (.iconst (-1), 1) := by decide +kernel
theorem dX3_comesTrue_66 : decode cX3_comesTrue 66 = .ok (.ixor, 1) := by decide +kernel
theorem dX3_comesTrue_67 : decode cX3_comesTrue 67 = .ok (.iand, 1) := by decide +kernel
theorem dX3_comesTrue_68 : decode cX3_comesTrue 68 = .ok (.ifCond .ne 31, 3) := by decide +kernel
theorem dX3_comesTrue_71 : decode cX3_comesTrue 71 = .ok (.iload 4, 2) := by decide +kernel
theorem dX3_comesTrue_73 : decode cX3_comesTrue 73 = .ok (.iload 7, 2) := by decide +kernel
theorem dX3_comesTrue_75 : decode cX3_comesTrue 75 = .ok (.iconst (-1), 1) := by decide +kernel
theorem dX3_comesTrue_76 : decode cX3_comesTrue 76 = .ok (.ixor, 1) := by decide +kernel
theorem dX3_comesTrue_77 : decode cX3_comesTrue 77 = .ok (.iand, 1) := by decide +kernel
theorem dX3_comesTrue_78 : decode cX3_comesTrue 78 = .ok (.ifCond .ne 21, 3) := by decide +kernel
theorem dX3_comesTrue_81 : decode cX3_comesTrue 81 = .ok (.iinc 5 1, 3) := by decide +kernel
theorem dX3_comesTrue_84 : decode cX3_comesTrue 84 = .ok (.iload 6, 2) := by decide +kernel
theorem dX3_comesTrue_86 : decode cX3_comesTrue 86 = .ok (.iconst (-1), 1) := by decide +kernel
theorem dX3_comesTrue_87 : decode cX3_comesTrue 87 = .ok (.if_icmp .ne 8, 3) := by decide +kernel
theorem dX3_comesTrue_90 : decode cX3_comesTrue 90 = .ok (.iload 7, 2) := by decide +kernel
theorem dX3_comesTrue_92 : decode cX3_comesTrue 92 = .ok (.goto 5, 3) := by decide +kernel
theorem dX3_comesTrue_95 : decode cX3_comesTrue 95 = .ok (.iload 6, 2) := by decide +kernel
theorem dX3_comesTrue_97 : decode cX3_comesTrue 97 = .ok (.istore 6, 2) := by decide +kernel
theorem dX3_comesTrue_99 : decode cX3_comesTrue 99 = .ok (.iinc 7 1, 3) := by decide +kernel
theorem dX3_comesTrue_102 : decode cX3_comesTrue 102 = .ok (.goto (-54), 3) := by decide +kernel
theorem dX3_comesTrue_105 : decode cX3_comesTrue 105 = .ok (.iload_n 2, 1) := by decide +kernel
theorem dX3_comesTrue_106 : decode cX3_comesTrue 106 = .ok (.ifCond .ne 8, 3) := by decide +kernel
theorem dX3_comesTrue_109 : decode cX3_comesTrue 109 = .ok (.iload 5, 2) := by decide +kernel
theorem dX3_comesTrue_111 : decode cX3_comesTrue 111 = .ok (.goto 5, 3) := by decide +kernel
theorem dX3_comesTrue_114 : decode cX3_comesTrue 114 = .ok (.iload 6, 2) := by decide +kernel
theorem dX3_comesTrue_116 : decode cX3_comesTrue 116 = .ok (.ireturn, 1) := by decide +kernel
theorem dX3_readings_0 : decode cX3_readings 0 = .ok (.iconst 0, 1) := by decide +kernel
theorem dX3_readings_1 : decode cX3_readings 1 = .ok (.istore_n 1, 1) := by decide +kernel
theorem dX3_readings_2 : decode cX3_readings 2 = .ok (.iconst 1, 1) := by decide +kernel
theorem dX3_readings_3 : decode cX3_readings 3 = .ok (.istore_n 2, 1) := by decide +kernel
theorem dX3_readings_4 : decode cX3_readings 4 = .ok (.iload_n 2, 1) := by decide +kernel
theorem dX3_readings_5 : decode cX3_readings 5 = .ok (.iconst 5, 1) := by decide +kernel
theorem dX3_readings_6 : decode cX3_readings 6 = .ok (.if_icmp .gt 76, 3) := by decide +kernel
theorem dX3_readings_9 : decode cX3_readings 9 = .ok (.iconst 0, 1) := by decide +kernel
theorem dX3_readings_10 : decode cX3_readings 10 = .ok (.istore_n 3, 1) := by decide +kernel
theorem dX3_readings_11 : decode cX3_readings 11 = .ok (.iconst 0, 1) := by decide +kernel
theorem dX3_readings_12 : decode cX3_readings 12 = .ok (.istore 4, 2) := by decide +kernel
theorem dX3_readings_14 : decode cX3_readings 14 = .ok (.iload 4, 2) := by decide +kernel
theorem dX3_readings_16 : decode cX3_readings 16 = .ok (.aload_n 0, 1) := by decide +kernel
theorem dX3_readings_17 : decode cX3_readings 17 = .ok (.getfield 12, 3) := by decide +kernel
theorem dX3_readings_20 : decode cX3_readings 20 = .ok (.getfield 56, 3) := by decide +kernel
theorem dX3_readings_23 : decode cX3_readings 23 = .ok (.if_icmp .ge 31, 3) := by decide +kernel
theorem dX3_readings_26 : decode cX3_readings 26 = .ok (.iload_n 3, 1) := by decide +kernel
theorem dX3_readings_27 : decode cX3_readings 27 = .ok (.iload 4, 2) := by decide +kernel
theorem dX3_readings_29 : decode cX3_readings 29 = .ok (.aload_n 0, 1) := by decide +kernel
theorem dX3_readings_30 : decode cX3_readings 30 = .ok (.iload 4, 2) := by decide +kernel
theorem dX3_readings_32 : decode cX3_readings 32 = .ok (.invokevirtual 129, 3) := by decide +kernel
theorem dX3_readings_35 : decode cX3_readings 35 = .ok (.iload_n 2, 1) := by decide +kernel
theorem dX3_readings_36 : decode cX3_readings 36 = .ok (.if_icmp .lt 7, 3) := by decide +kernel
theorem dX3_readings_39 : decode cX3_readings 39 = .ok (.iconst 1, 1) := by decide +kernel
theorem dX3_readings_40 : decode cX3_readings 40 = .ok (.goto 4, 3) := by decide +kernel
theorem dX3_readings_43 : decode cX3_readings 43 = .ok (.iconst 0, 1) := by decide +kernel
theorem dX3_readings_44 : decode cX3_readings 44 = .ok (.invokestatic 99, 3) := by decide +kernel
theorem dX3_readings_47 : decode cX3_readings 47 = .ok (.istore_n 3, 1) := by decide +kernel
theorem dX3_readings_48 : decode cX3_readings 48 = .ok (.iinc 4 1, 3) := by decide +kernel
theorem dX3_readings_51 : decode cX3_readings 51 = .ok (.goto (-37), 3) := by decide +kernel
theorem dX3_readings_54 : decode cX3_readings 54 = .ok (.iload_n 1, 1) := by decide +kernel
theorem dX3_readings_55 : decode cX3_readings 55 = .ok (.iload_n 2, 1) := by decide +kernel
theorem dX3_readings_56 : decode cX3_readings 56 = .ok (.iload_n 3, 1) := by decide +kernel
theorem dX3_readings_57 : decode cX3_readings 57 = .ok (.aload_n 0, 1) := by decide +kernel
theorem dX3_readings_58 : decode cX3_readings 58 = .ok (.getfield 12, 3) := by decide +kernel
theorem dX3_readings_61 : decode cX3_readings 61 = .ok (.getfield 90, 3) := by decide +kernel
theorem dX3_readings_64 : decode cX3_readings 64 = .ok (.if_icmp .ne 7, 3) := by decide +kernel
theorem dX3_readings_67 : decode cX3_readings 67 = .ok (.iconst 1, 1) := by decide +kernel
theorem dX3_readings_68 : decode cX3_readings 68 = .ok (.goto 4, 3) := by decide +kernel
theorem dX3_readings_71 : decode cX3_readings 71 = .ok (.iconst 0, 1) := by decide +kernel
theorem dX3_readings_72 : decode cX3_readings 72 = .ok (.invokestatic 99, 3) := by decide +kernel
theorem dX3_readings_75 : decode cX3_readings 75 = .ok (.istore_n 1, 1) := by decide +kernel
theorem dX3_readings_76 : decode cX3_readings 76 = .ok (.iinc 2 1, 3) := by decide +kernel
theorem dX3_readings_79 : decode cX3_readings 79 = .ok (.goto (-75), 3) := by decide +kernel
theorem dX3_readings_82 : decode cX3_readings 82 = .ok (.iload_n 1, 1) := by decide +kernel
theorem dX3_readings_83 : decode cX3_readings 83 = .ok (.ireturn, 1) := by decide +kernel
theorem dX3_roster_0 : decode cX3_roster 0 = .ok (.iload_n 1, 1) := by decide +kernel
theorem dX3_roster_1 : decode cX3_roster 1 = .ok (.iconst 1, 1) := by decide +kernel
theorem dX3_roster_2 : decode cX3_roster 2 = .ok (.bipush 9, 2) := by decide +kernel
theorem dX3_roster_4 : decode cX3_roster 4 = .ok (.invokestatic 48, 3) := by decide +kernel
theorem dX3_roster_7 : decode cX3_roster 7 = .ok (.ifCond .eq 13, 3) := by decide +kernel
theorem dX3_roster_10 : decode cX3_roster 10 = .ok (.iload_n 2, 1) := by decide +kernel
theorem dX3_roster_11 : decode cX3_roster 11 = .ok (.iconst 0, 1) := by decide +kernel
theorem dX3_roster_12 : decode cX3_roster 12 = .ok (.bipush 9, 2) := by decide +kernel
theorem dX3_roster_14 : decode cX3_roster 14 = .ok (.invokestatic 48, 3) := by decide +kernel
theorem dX3_roster_17 : decode cX3_roster 17 = .ok (.ifCond .ne 8, 3) := by decide +kernel
theorem dX3_roster_20 : decode cX3_roster 20 = .ok (.aload_n 0, 1) := by decide +kernel
theorem dX3_roster_21 : decode cX3_roster 21 = .ok (.invokevirtual 52, 3) := by decide +kernel
theorem dX3_roster_24 : decode cX3_roster 24 = .ok (.ireturn, 1) := by decide +kernel
theorem dX3_roster_25 : decode cX3_roster 25 = .ok (.iload_n 2, 1) := by decide +kernel
theorem dX3_roster_26 : decode cX3_roster 26 = .ok (.iload_n 1, 1) := by decide +kernel
theorem dX3_roster_27 : decode cX3_roster 27 = .ok (.if_icmp .le 5, 3) := by decide +kernel
theorem dX3_roster_30 : decode cX3_roster 30 = .ok (.iconst (-1), 1) := by decide +kernel
theorem dX3_roster_31 : decode cX3_roster 31 = .ok (.ireturn, 1) := by decide +kernel
theorem dX3_roster_32 : decode cX3_roster 32 = .ok (.aload_n 0, 1) := by decide +kernel
theorem dX3_roster_33 : decode cX3_roster 33 = .ok (.getfield 12, 3) := by decide +kernel
theorem dX3_roster_36 : decode cX3_roster 36 = .ok (.getfield 90, 3) := by decide +kernel
theorem dX3_roster_39 : decode cX3_roster 39 = .ok (.invokestatic 149, 3) := by decide +kernel
theorem dX3_roster_42 : decode cX3_roster 42 = .ok (.iload_n 2, 1) := by decide +kernel
theorem dX3_roster_43 : decode cX3_roster 43 = .ok (.imul, 1) := by decide +kernel
theorem dX3_roster_44 : decode cX3_roster 44 = .ok (.iload_n 1, 1) := by decide +kernel
theorem dX3_roster_45 : decode cX3_roster 45 = .ok (.iadd, 1) := by decide +kernel
theorem dX3_roster_46 : decode cX3_roster 46 = .ok (.iconst 1, 1) := by decide +kernel
theorem dX3_roster_47 : decode cX3_roster 47 = .ok (.isub, 1) := by decide +kernel
theorem dX3_roster_48 : decode cX3_roster 48 = .ok (.iload_n 1, 1) := by decide +kernel
theorem dX3_roster_49 : decode cX3_roster 49 = .ok (.idiv, 1) := by decide +kernel
theorem dX3_roster_50 : decode cX3_roster 50 = .ok (.ireturn, 1) := by decide +kernel
theorem dX3_off_0 : decode cX3_off 0 = .ok (.aload_n 0, 1) := by decide +kernel
theorem dX3_off_1 : decode cX3_off 1 = .ok (.iload_n 1, 1) := by decide +kernel
theorem dX3_off_2 : decode cX3_off 2 = .ok (.invokevirtual 86, 3) := by decide +kernel
theorem dX3_off_5 : decode cX3_off 5 = .ok (.ifCond .eq 22, 3) := by decide +kernel
theorem dX3_off_8 : decode cX3_off 8 = .ok (.iload_n 2, 1) := by decide +kernel
theorem dX3_off_9 : decode cX3_off 9 = .ok (.iconst 1, 1) := by decide +kernel
theorem dX3_off_10 : decode cX3_off 10 = .ok (.bipush 8, 2) := by decide +kernel
theorem dX3_off_12 : decode cX3_off 12 = .ok (.invokestatic 48, 3) := by decide +kernel
theorem dX3_off_15 : decode cX3_off 15 = .ok (.ifCond .eq 12, 3) := by decide +kernel
theorem dX3_off_18 : decode cX3_off 18 = .ok (.iload_n 3, 1) := by decide +kernel
theorem dX3_off_19 : decode cX3_off 19 = .ok (.iconst 0, 1) := by decide +kernel
theorem dX3_off_20 : decode cX3_off 20 = .ok (.iconst 1, 1) := by decide +kernel
theorem dX3_off_21 : decode cX3_off 21 = .ok (.invokestatic 48, 3) := by decide +kernel
theorem dX3_off_24 : decode cX3_off 24 = .ok (.ifCond .ne 8, 3) := by decide +kernel
theorem dX3_off_27 : decode cX3_off 27 = .ok (.aload_n 0, 1) := by decide +kernel
theorem dX3_off_28 : decode cX3_off 28 = .ok (.invokevirtual 52, 3) := by decide +kernel
theorem dX3_off_31 : decode cX3_off 31 = .ok (.ireturn, 1) := by decide +kernel
theorem dX3_off_32 : decode cX3_off 32 = .ok (.aload_n 0, 1) := by decide +kernel
theorem dX3_off_33 : decode cX3_off 33 = .ok (.getfield 12, 3) := by decide +kernel
theorem dX3_off_36 : decode cX3_off 36 = .ok (.getfield 90, 3) := by decide +kernel
theorem dX3_off_39 : decode cX3_off 39 = .ok (.iload_n 1, 1) := by decide +kernel
theorem dX3_off_40 : decode cX3_off 40 = .ok (.invokestatic 93, 3) := by decide +kernel
theorem dX3_off_43 : decode cX3_off 43 = .ok (.ifCond .ne 8, 3) := by decide +kernel
theorem dX3_off_46 : decode cX3_off 46 = .ok (.aload_n 0, 1) := by decide +kernel
theorem dX3_off_47 : decode cX3_off 47 = .ok (.invokevirtual 113, 3) := by decide +kernel
theorem dX3_off_50 : decode cX3_off 50 = .ok (.ireturn, 1) := by decide +kernel
theorem dX3_off_51 : decode cX3_off 51 = .ok (.aload_n 0, 1) := by decide +kernel
theorem dX3_off_52 : decode cX3_off 52 = .ok (.iload_n 1, 1) := by decide +kernel
theorem dX3_off_53 : decode cX3_off 53 = .ok (.iload_n 2, 1) := by decide +kernel
theorem dX3_off_54 : decode cX3_off 54 = .ok (.invokevirtual 154, 3) := by decide +kernel
theorem dX3_off_57 : decode cX3_off 57 = .ok (.istore 4, 2) := by decide +kernel
theorem dX3_off_59 : decode cX3_off 59 = .ok (.iload_n 3, 1) := by decide +kernel
theorem dX3_off_60 : decode cX3_off 60 = .ok (.iconst 1, 1) := by decide +kernel
theorem dX3_off_61 : decode cX3_off 61 = .ok (.if_icmp .eq 9, 3) := by decide +kernel
theorem dX3_off_64 : decode cX3_off 64 = .ok (.iload 4, 2) := by decide +kernel
theorem dX3_off_66 : decode cX3_off 66 = .ok (.iconst (-1), 1) := by decide +kernel
theorem dX3_off_67 : decode cX3_off 67 = .ok (.if_icmp .ne 8, 3) := by decide +kernel
theorem dX3_off_70 : decode cX3_off 70 = .ok (.iload 4, 2) := by decide +kernel
theorem dX3_off_72 : decode cX3_off 72 = .ok (.goto 8, 3) := by decide +kernel
theorem dX3_off_75 : decode cX3_off 75 = .ok (.iload 4, 2) := by decide +kernel
theorem dX3_off_77 : decode cX3_off 77 = .ok (.invokestatic 149, 3) := by decide +kernel
theorem dX3_off_80 : decode cX3_off 80 = .ok (.ireturn, 1) := by decide +kernel
theorem dX3_rests_0 : decode cX3_rests 0 = .ok (.aload_n 0, 1) := by decide +kernel
theorem dX3_rests_1 : decode cX3_rests 1 = .ok (.iload_n 1, 1) := by decide +kernel
theorem dX3_rests_2 : decode cX3_rests 2 = .ok (.invokevirtual 86, 3) := by decide +kernel
theorem dX3_rests_5 : decode cX3_rests 5 = .ok (.ifCond .ne 8, 3) := by decide +kernel
theorem dX3_rests_8 : decode cX3_rests 8 = .ok (.aload_n 0, 1) := by decide +kernel
theorem dX3_rests_9 : decode cX3_rests 9 = .ok (.invokevirtual 52, 3) := by decide +kernel
theorem dX3_rests_12 : decode cX3_rests 12 = .ok (.ireturn, 1) := by decide +kernel
theorem dX3_rests_13 : decode cX3_rests 13 = .ok (.iconst 0, 1) := by decide +kernel
theorem dX3_rests_14 : decode cX3_rests 14 = .ok (.istore_n 2, 1) := by decide +kernel
theorem dX3_rests_15 : decode cX3_rests 15 = .ok (.iconst 0, 1) := by decide +kernel
theorem dX3_rests_16 : decode cX3_rests 16 = .ok (.istore_n 3, 1) := by decide +kernel
theorem dX3_rests_17 : decode cX3_rests 17 = .ok (.iload_n 3, 1) := by decide +kernel
theorem dX3_rests_18 : decode cX3_rests 18 = .ok (.iconst 4, 1) := by decide +kernel
theorem dX3_rests_19 : decode cX3_rests 19 = .ok (.if_icmp .ge 78, 3) := by decide +kernel
theorem dX3_rests_22 : decode cX3_rests 22 = .ok (.aload_n 0, 1) := by decide +kernel
theorem dX3_rests_23 : decode cX3_rests 23 = .ok (.iload_n 1, 1) := by decide +kernel
theorem dX3_rests_24 : decode cX3_rests 24 = .ok (.iload_n 3, 1) := by decide +kernel
theorem dX3_rests_25 : decode cX3_rests 25 = .ok (.iconst 1, 1) := by decide +kernel
theorem dX3_rests_26 : decode cX3_rests 26 = .ok (.ixor, 1) := by decide +kernel
theorem dX3_rests_27 : decode cX3_rests 27 = .ok (.invokevirtual 157, 3) := by decide +kernel
theorem dX3_rests_30 : decode cX3_rests 30 = .ok (.aload_n 0, 1) := by decide +kernel
theorem dX3_rests_31 : decode cX3_rests 31 = .ok (.iload_n 1, 1) := by decide +kernel
theorem dX3_rests_32 : decode cX3_rests 32 = .ok (.iload_n 3, 1) := by decide +kernel
theorem dX3_rests_33 : decode cX3_rests 33 = .ok (.invokevirtual 157, 3) := by decide +kernel
theorem dX3_rests_36 : decode cX3_rests 36 = .ok (.if_icmp .gt 7, 3) := by decide +kernel
theorem dX3_rests_39 : decode cX3_rests 39 = .ok (.iconst 1, 1) := by decide +kernel
theorem dX3_rests_40 : decode cX3_rests 40 = .ok (.goto 4, 3) := by decide +kernel
theorem dX3_rests_43 : decode cX3_rests 43 = .ok (.iconst 0, 1) := by decide +kernel
theorem dX3_rests_44 : decode cX3_rests 44 = .ok (.istore 4, 2) := by decide +kernel
theorem dX3_rests_46 : decode cX3_rests 46 = .ok (.aload_n 0, 1) := by decide +kernel
theorem dX3_rests_47 : decode cX3_rests 47 = .ok (.iload_n 1, 1) := by decide +kernel
theorem dX3_rests_48 : decode cX3_rests 48 = .ok (.iload_n 3, 1) := by decide +kernel
theorem dX3_rests_49 : decode cX3_rests 49 = .ok (.iconst 2, 1) := by decide +kernel
theorem dX3_rests_50 : decode cX3_rests 50 = .ok (.ixor, 1) := by decide +kernel
theorem dX3_rests_51 : decode cX3_rests 51 = .ok (.invokevirtual 160, 3) := by decide +kernel
theorem dX3_rests_54 : decode cX3_rests 54 = .ok (.aload_n 0, 1) := by decide +kernel
theorem dX3_rests_55 : decode cX3_rests 55 = .ok (.iload_n 1, 1) := by decide +kernel
theorem dX3_rests_56 : decode cX3_rests 56 = .ok (.iload_n 3, 1) := by decide +kernel
theorem dX3_rests_57 : decode cX3_rests 57 = .ok (.invokevirtual 160, 3) := by decide +kernel
theorem dX3_rests_60 : decode cX3_rests 60 = .ok (.if_icmp .gt 7, 3) := by decide +kernel
theorem dX3_rests_63 : decode cX3_rests 63 = .ok (.iconst 1, 1) := by decide +kernel
theorem dX3_rests_64 : decode cX3_rests 64 = .ok (.goto 4, 3) := by decide +kernel
theorem dX3_rests_67 : decode cX3_rests 67 = .ok (.iconst 0, 1) := by decide +kernel
theorem dX3_rests_68 : decode cX3_rests 68 = .ok (.istore 5, 2) := by decide +kernel
theorem dX3_rests_70 : decode cX3_rests 70 = .ok (.iload_n 2, 1) := by decide +kernel
theorem dX3_rests_71 : decode cX3_rests 71 = .ok (.iload_n 3, 1) := by decide +kernel
theorem dX3_rests_72 : decode cX3_rests 72 = .ok (.iload 4, 2) := by decide +kernel
theorem dX3_rests_74 : decode cX3_rests 74 = .ok (.ifCond .eq 12, 3) := by decide +kernel
theorem dX3_rests_77 : decode cX3_rests 77 = .ok (.iload 5, 2) := by decide +kernel
theorem dX3_rests_79 : decode cX3_rests 79 = .ok (.ifCond .eq 7, 3) := by decide +kernel
theorem dX3_rests_82 : decode cX3_rests 82 = .ok (.iconst 1, 1) := by decide +kernel
theorem dX3_rests_83 : decode cX3_rests 83 = .ok (.goto 4, 3) := by decide +kernel
theorem dX3_rests_86 : decode cX3_rests 86 = .ok (.iconst 0, 1) := by decide +kernel
theorem dX3_rests_87 : decode cX3_rests 87 = .ok (.invokestatic 99, 3) := by decide +kernel
theorem dX3_rests_90 : decode cX3_rests 90 = .ok (.istore_n 2, 1) := by decide +kernel
theorem dX3_rests_91 : decode cX3_rests 91 = .ok (.iinc 3 1, 3) := by decide +kernel
theorem dX3_rests_94 : decode cX3_rests 94 = .ok (.goto (-77), 3) := by decide +kernel
theorem dX3_rests_97 : decode cX3_rests 97 = .ok (.iload_n 2, 1) := by decide +kernel
theorem dX3_rests_98 : decode cX3_rests 98 = .ok (.ireturn, 1) := by decide +kernel
theorem dX3_note_0 : decode cX3_note 0 = .ok (.aload_n 0, 1) := by decide +kernel
theorem dX3_note_1 : decode cX3_note 1 = .ok (.iload_n 1, 1) := by decide +kernel
theorem dX3_note_2 : decode cX3_note 2 = .ok (.invokevirtual 86, 3) := by decide +kernel
theorem dX3_note_5 : decode cX3_note 5 = .ok (.ifCond .eq 43, 3) := by decide +kernel
theorem dX3_note_8 : decode cX3_note 8 = .ok (.iload_n 2, 1) := by decide +kernel
theorem dX3_note_9 : decode cX3_note 9 = .ok (.iconst 0, 1) := by decide +kernel
theorem dX3_note_10 : decode cX3_note 10 = .ok (.bipush 99, 2) := by decide +kernel
theorem dX3_note_12 : decode cX3_note 12 = .ok (.invokestatic 48, 3) := by decide +kernel
theorem dX3_note_15 : decode cX3_note 15 = .ok (.ifCond .eq 33, 3) := by decide +kernel
theorem dX3_note_18 : decode cX3_note 18 = .ok (.iload_n 3, 1) := by decide +kernel
theorem dX3_note_19 : decode cX3_note 19 = .ok (.iconst 0, 1) := by decide +kernel
theorem dX3_note_20 : decode cX3_note 20 = .ok (.iconst 1, 1) := by decide +kernel
theorem dX3_note_21 : decode cX3_note 21 = .ok (.invokestatic 48, 3) := by decide +kernel
theorem dX3_note_24 : decode cX3_note 24 = .ok (.ifCond .eq 24, 3) := by decide +kernel
theorem dX3_note_27 : decode cX3_note 27 = .ok (.iload 4, 2) := by decide +kernel
theorem dX3_note_29 : decode cX3_note 29 = .ok (.iconst 0, 1) := by decide +kernel
theorem dX3_note_30 : decode cX3_note 30 = .ok (.bipush 99, 2) := by decide +kernel
theorem dX3_note_32 : decode cX3_note 32 = .ok (.invokestatic 48, 3) := by decide +kernel
theorem dX3_note_35 : decode cX3_note 35 = .ok (.ifCond .eq 13, 3) := by decide +kernel
theorem dX3_note_38 : decode cX3_note 38 = .ok (.iload 5, 2) := by decide +kernel
theorem dX3_note_40 : decode cX3_note 40 = .ok (.iconst 0, 1) := by decide +kernel
theorem dX3_note_41 : decode cX3_note 41 = .ok (.iconst 5, 1) := by decide +kernel
theorem dX3_note_42 : decode cX3_note 42 = .ok (.invokestatic 48, 3) := by decide +kernel
theorem dX3_note_45 : decode cX3_note 45 = .ok (.ifCond .ne 8, 3) := by decide +kernel
theorem dX3_note_48 : decode cX3_note 48 = .ok (.aload_n 0, 1) := by decide +kernel
theorem dX3_note_49 : decode cX3_note 49 = .ok (.invokevirtual 52, 3) := by decide +kernel
theorem dX3_note_52 : decode cX3_note 52 = .ok (.ireturn, 1) := by decide +kernel
theorem dX3_note_53 : decode cX3_note 53 = .ok (.aload_n 0, 1) := by decide +kernel
theorem dX3_note_54 : decode cX3_note 54 = .ok (.getfield 12, 3) := by decide +kernel
theorem dX3_note_57 : decode cX3_note 57 = .ok (.getfield 163, 3) := by decide +kernel
theorem dX3_note_60 : decode cX3_note 60 = .ok (.bipush 6, 2) := by decide +kernel
theorem dX3_note_62 : decode cX3_note 62 = .ok (.if_icmp .lt 8, 3) := by decide +kernel
theorem dX3_note_65 : decode cX3_note 65 = .ok (.aload_n 0, 1) := by decide +kernel
theorem dX3_note_66 : decode cX3_note 66 = .ok (.invokevirtual 64, 3) := by decide +kernel
theorem dX3_note_69 : decode cX3_note 69 = .ok (.ireturn, 1) := by decide +kernel
theorem dX3_note_70 : decode cX3_note 70 = .ok (.aload_n 0, 1) := by decide +kernel
theorem dX3_note_71 : decode cX3_note 71 = .ok (.getfield 12, 3) := by decide +kernel
theorem dX3_note_74 : decode cX3_note 74 = .ok (.iload_n 1, 1) := by decide +kernel
theorem dX3_note_75 : decode cX3_note 75 = .ok (.iload_n 2, 1) := by decide +kernel
theorem dX3_note_76 : decode cX3_note 76 = .ok (.iload_n 3, 1) := by decide +kernel
theorem dX3_note_77 : decode cX3_note 77 = .ok (.iload 4, 2) := by decide +kernel
theorem dX3_note_79 : decode cX3_note 79 = .ok (.iload 5, 2) := by decide +kernel
theorem dX3_note_81 : decode cX3_note 81 = .ok (.invokevirtual 166, 3) := by decide +kernel
theorem dX3_note_84 : decode cX3_note 84 = .ok (.ireturn, 1) := by decide +kernel
theorem dX3_forget_0 : decode cX3_forget 0 = .ok (.aload_n 0, 1) := by decide +kernel
theorem dX3_forget_1 : decode cX3_forget 1 = .ok (.getfield 12, 3) := by decide +kernel
theorem dX3_forget_4 : decode cX3_forget 4 = .ok (.getfield 163, 3) := by decide +kernel
theorem dX3_forget_7 : decode cX3_forget 7 = .ok (.istore_n 1, 1) := by decide +kernel
theorem dX3_forget_8 : decode cX3_forget 8 = .ok (.aload_n 0, 1) := by decide +kernel
theorem dX3_forget_9 : decode cX3_forget 9 = .ok (.getfield 12, 3) := by decide +kernel
theorem dX3_forget_12 : decode cX3_forget 12 = .ok (.iconst 0, 1) := by decide +kernel
theorem dX3_forget_13 : decode cX3_forget 13 = .ok (.putfield 163, 3) := by decide +kernel
theorem dX3_forget_16 : decode cX3_forget 16 = .ok (.iload_n 1, 1) := by decide +kernel
theorem dX3_forget_17 : decode cX3_forget 17 = .ok (.ireturn, 1) := by decide +kernel
theorem dX3_is_0 : decode cX3_is 0 = .ok (.aload_n 0, 1) := by decide +kernel
theorem dX3_is_1 : decode cX3_is 1 = .ok (.iload_n 1, 1) := by decide +kernel
theorem dX3_is_2 : decode cX3_is 2 = .ok (.invokevirtual 86, 3) := by decide +kernel
theorem dX3_is_5 : decode cX3_is 5 = .ok (.ifCond .ne 8, 3) := by decide +kernel
theorem dX3_is_8 : decode cX3_is 8 = .ok (.aload_n 0, 1) := by decide +kernel
theorem dX3_is_9 : decode cX3_is 9 = .ok (.invokevirtual 52, 3) := by decide +kernel
theorem dX3_is_12 : decode cX3_is 12 = .ok (.ireturn, 1) := by decide +kernel
theorem dX3_is_13 : decode cX3_is 13 = .ok (.aload_n 0, 1) := by decide +kernel
theorem dX3_is_14 : decode cX3_is 14 = .ok (.getfield 12, 3) := by decide +kernel
theorem dX3_is_17 : decode cX3_is 17 = .ok (.iload_n 1, 1) := by decide +kernel
theorem dX3_is_18 : decode cX3_is 18 = .ok (.invokevirtual 170, 3) := by decide +kernel
theorem dX3_is_21 : decode cX3_is 21 = .ok (.ireturn, 1) := by decide +kernel
theorem dX3_look_0 : decode cX3_look 0 = .ok (.aload_n 0, 1) := by decide +kernel
theorem dX3_look_1 : decode cX3_look 1 = .ok (.iload_n 1, 1) := by decide +kernel
theorem dX3_look_2 : decode cX3_look 2 = .ok (.invokevirtual 86, 3) := by decide +kernel
theorem dX3_look_5 : decode cX3_look 5 = .ok (.ifCond .eq 13, 3) := by decide +kernel
theorem dX3_look_8 : decode cX3_look 8 = .ok (.iload_n 2, 1) := by decide +kernel
theorem dX3_look_9 : decode cX3_look 9 = .ok (.iconst 0, 1) := by decide +kernel
theorem dX3_look_10 : decode cX3_look 10 = .ok (.bipush 99, 2) := by decide +kernel
theorem dX3_look_12 : decode cX3_look 12 = .ok (.invokestatic 48, 3) := by decide +kernel
theorem dX3_look_15 : decode cX3_look 15 = .ok (.ifCond .ne 8, 3) := by decide +kernel
theorem dX3_look_18 : decode cX3_look 18 = .ok (.aload_n 0, 1) := by decide +kernel
theorem dX3_look_19 : decode cX3_look 19 = .ok (.invokevirtual 52, 3) := by decide +kernel
theorem dX3_look_22 : decode cX3_look 22 = .ok (.ireturn, 1) := by decide +kernel
theorem dX3_look_23 : decode cX3_look 23 = .ok (.aload_n 0, 1) := by decide +kernel
theorem dX3_look_24 : decode cX3_look 24 = .ok (.getfield 12, 3) := by decide +kernel
theorem dX3_look_27 : decode cX3_look 27 = .ok (.iload_n 1, 1) := by decide +kernel
theorem dX3_look_28 : decode cX3_look 28 = .ok (.invokevirtual 170, 3) := by decide +kernel
theorem dX3_look_31 : decode cX3_look 31 = .ok (.istore_n 3, 1) := by decide +kernel
theorem dX3_look_32 : decode cX3_look 32 = .ok (.iload_n 3, 1) := by decide +kernel
theorem dX3_look_33 : decode cX3_look 33 = .ok (.ifCond .ne 5, 3) := by decide +kernel
theorem dX3_look_36 : decode cX3_look 36 = .ok (.iconst (-1), 1) := by decide +kernel
theorem dX3_look_37 : decode cX3_look 37 = .ok (.ireturn, 1) := by decide +kernel
theorem dX3_look_38 : decode cX3_look 38 = .ok (.iconst 0, 1) := by decide +kernel
theorem dX3_look_39 : decode cX3_look 39 = .ok (.istore 4, 2) := by decide +kernel
theorem dX3_look_41 : decode cX3_look 41 = .ok (.bipush 7, 2) := by decide +kernel
theorem dX3_look_43 : decode cX3_look 43 = .ok (.istore 5, 2) := by decide +kernel
theorem dX3_look_45 : decode cX3_look 45 = .ok (.iconst 0, 1) := by decide +kernel
theorem dX3_look_46 : decode cX3_look 46 = .ok (.istore 6, 2) := by decide +kernel
theorem dX3_look_48 : decode cX3_look 48 = .ok (.iload 6, 2) := by decide +kernel
theorem dX3_look_50 : decode cX3_look 50 = .ok (.bipush 12, 2) := by decide +kernel
theorem dX3_look_52 : decode cX3_look 52 = .ok (.if_icmp .ge 48, 3) := by decide +kernel
theorem dX3_look_55 : decode cX3_look 55 = .ok (.iload_n 3, 1) := by decide +kernel
theorem dX3_look_56 : decode cX3_look 56 = .ok (.iload 6, 2) := by decide +kernel
theorem dX3_look_58 : decode cX3_look 58 = .ok (.bipush 6, 2) := by decide +kernel
theorem dX3_look_60 : decode cX3_look 60 = .ok (.irem, 1) := by decide +kernel
theorem dX3_look_61 : decode cX3_look 61 = .ok (.iload 6, 2) := by decide +kernel
theorem dX3_look_63 : decode cX3_look 63 = .ok (.bipush 6, 2) := by decide +kernel
theorem dX3_look_65 : decode cX3_look 65 = .ok (.if_icmp .lt 7, 3) := by decide +kernel
theorem dX3_look_68 : decode cX3_look 68 = .ok (.iconst 1, 1) := by decide +kernel
theorem dX3_look_69 : decode cX3_look 69 = .ok (.goto 4, 3) := by decide +kernel
theorem dX3_look_72 : decode cX3_look 72 = .ok (.iconst 0, 1) := by decide +kernel
theorem dX3_look_73 : decode cX3_look 73 = .ok (.iload_n 2, 1) := by decide +kernel
theorem dX3_look_74 : decode cX3_look 74 = .ok (.invokestatic 173, 3) := by decide +kernel
theorem dX3_look_77 : decode cX3_look 77 = .ok (.istore 7, 2) := by decide +kernel
theorem dX3_look_79 : decode cX3_look 79 = .ok (.iload 7, 2) := by decide +kernel
theorem dX3_look_81 : decode cX3_look 81 = .ok (.iload 5, 2) := by decide +kernel
theorem dX3_look_83 : decode cX3_look 83 = .ok (.if_icmp .ge 11, 3) := by decide +kernel
theorem dX3_look_86 : decode cX3_look 86 = .ok (.iload 7, 2) := by decide +kernel
theorem dX3_look_88 : decode cX3_look 88 = .ok (.istore 5, 2) := by decide +kernel
theorem dX3_look_90 : decode cX3_look 90 = .ok (.iload 6, 2) := by decide +kernel
theorem dX3_look_92 : decode cX3_look 92 = .ok (.istore 4, 2) := by decide +kernel
theorem dX3_look_94 : decode cX3_look 94 = .ok (.iinc 6 1, 3) := by decide +kernel
theorem dX3_look_97 : decode cX3_look 97 = .ok (.goto (-49), 3) := by decide +kernel
theorem dX3_look_100 : decode cX3_look 100 = .ok (.iload 4, 2) := by decide +kernel
theorem dX3_look_102 : decode cX3_look 102 = .ok (.ireturn, 1) := by decide +kernel
theorem dX3_source_0 : decode cX3_source 0 = .ok (.iload_n 1, 1) := by decide +kernel
theorem dX3_source_1 : decode cX3_source 1 = .ok (.iconst 0, 1) := by decide +kernel
theorem dX3_source_2 : decode cX3_source 2 = .ok (.iconst 1, 1) := by decide +kernel
theorem dX3_source_3 : decode cX3_source 3 = .ok (.invokestatic 48, 3) := by decide +kernel
theorem dX3_source_6 : decode cX3_source 6 = .ok (.ifCond .ne 8, 3) := by decide +kernel
theorem dX3_source_9 : decode cX3_source 9 = .ok (.aload_n 0, 1) := by decide +kernel
theorem dX3_source_10 : decode cX3_source 10 = .ok (.invokevirtual 52, 3) := by decide +kernel
theorem dX3_source_13 : decode cX3_source 13 = .ok (.ireturn, 1) := by decide +kernel
theorem dX3_source_14 : decode cX3_source 14 = .ok (.iload_n 1, 1) := by decide +kernel
theorem dX3_source_15 : decode cX3_source 15 = .ok (.ifCond .ne 10, 3) := by decide +kernel
theorem dX3_source_18 : decode cX3_source 18 = .ok (.aload_n 0, 1) := by decide +kernel
theorem dX3_source_19 : decode cX3_source 19 = .ok (.invokevirtual 177, 3) := by decide +kernel
theorem dX3_source_22 : decode cX3_source 22 = .ok (.goto 7, 3) := by decide +kernel
theorem dX3_source_25 : decode cX3_source 25 = .ok (.aload_n 0, 1) := by decide +kernel
theorem dX3_source_26 : decode cX3_source 26 = .ok (.invokevirtual 180, 3) := by decide +kernel
theorem dX3_source_29 : decode cX3_source 29 = .ok (.ireturn, 1) := by decide +kernel
theorem dX3_odds_0 : decode cX3_odds 0 = .ok (.aload_n 0, 1) := by decide +kernel
theorem dX3_odds_1 : decode cX3_odds 1 = .ok (.iload_n 1, 1) := by decide +kernel
theorem dX3_odds_2 : decode cX3_odds 2 = .ok (.invokevirtual 86, 3) := by decide +kernel
theorem dX3_odds_5 : decode cX3_odds 5 = .ok (.ifCond .eq 23, 3) := by decide +kernel
theorem dX3_odds_8 : decode cX3_odds 8 = .ok (.iload_n 2, 1) := by decide +kernel
theorem dX3_odds_9 : decode cX3_odds 9 = .ok (.iconst 0, 1) := by decide +kernel
theorem dX3_odds_10 : decode cX3_odds 10 = .ok (.bipush 8, 2) := by decide +kernel
theorem dX3_odds_12 : decode cX3_odds 12 = .ok (.invokestatic 48, 3) := by decide +kernel
theorem dX3_odds_15 : decode cX3_odds 15 = .ok (.ifCond .eq 13, 3) := by decide +kernel
theorem dX3_odds_18 : decode cX3_odds 18 = .ok (.iload_n 3, 1) := by decide +kernel
theorem dX3_odds_19 : decode cX3_odds 19 = .ok (.iconst 0, 1) := by decide +kernel
theorem dX3_odds_20 : decode cX3_odds 20 = .ok (.bipush 10, 2) := by decide +kernel
theorem dX3_odds_22 : decode cX3_odds 22 = .ok (.invokestatic 48, 3) := by decide +kernel
theorem dX3_odds_25 : decode cX3_odds 25 = .ok (.ifCond .ne 8, 3) := by decide +kernel
theorem dX3_odds_28 : decode cX3_odds 28 = .ok (.aload_n 0, 1) := by decide +kernel
theorem dX3_odds_29 : decode cX3_odds 29 = .ok (.invokevirtual 52, 3) := by decide +kernel
theorem dX3_odds_32 : decode cX3_odds 32 = .ok (.ireturn, 1) := by decide +kernel
theorem dX3_odds_33 : decode cX3_odds 33 = .ok (.aload_n 0, 1) := by decide +kernel
theorem dX3_odds_34 : decode cX3_odds 34 = .ok (.getfield 12, 3) := by decide +kernel
theorem dX3_odds_37 : decode cX3_odds 37 = .ok (.getfield 90, 3) := by decide +kernel
theorem dX3_odds_40 : decode cX3_odds 40 = .ok (.iload_n 1, 1) := by decide +kernel
theorem dX3_odds_41 : decode cX3_odds 41 = .ok (.invokestatic 93, 3) := by decide +kernel
theorem dX3_odds_44 : decode cX3_odds 44 = .ok (.ifCond .ne 8, 3) := by decide +kernel
theorem dX3_odds_47 : decode cX3_odds 47 = .ok (.aload_n 0, 1) := by decide +kernel
theorem dX3_odds_48 : decode cX3_odds 48 = .ok (.invokevirtual 113, 3) := by decide +kernel
theorem dX3_odds_51 : decode cX3_odds 51 = .ok (.ireturn, 1) := by decide +kernel
theorem dX3_odds_52 : decode cX3_odds 52 = .ok (.lconst 0, 1) := by decide +kernel
theorem dX3_odds_53 : decode cX3_odds 53 = .ok (.lstore 4, 2) := by decide +kernel
theorem dX3_odds_55 : decode cX3_odds 55 = .ok (.lconst 0, 1) := by decide +kernel
theorem dX3_odds_56 : decode cX3_odds 56 = .ok (.lstore 6, 2) := by decide +kernel
theorem dX3_odds_58 : decode cX3_odds 58 = .ok (.iconst 0, 1) := by decide +kernel
theorem dX3_odds_59 : decode cX3_odds 59 = .ok (.istore 8, 2) := by decide +kernel
theorem dX3_odds_61 : decode cX3_odds 61 = .ok (.iload 8, 2) := by decide +kernel
theorem dX3_odds_63 : decode cX3_odds 63 = .ok (.iconst 1, 1) := by decide +kernel
theorem dX3_odds_64 : decode cX3_odds 64 = .ok (.iload_n 2, 1) := by decide +kernel
theorem dX3_odds_65 : decode cX3_odds 65 = .ok (.ishl, 1) := by decide +kernel
theorem dX3_odds_66 : decode cX3_odds 66 = .ok (.if_icmp .ge 82, 3) := by decide +kernel
theorem dX3_odds_69 : decode cX3_odds 69 = .ok (.lconst 1, 1) := by decide +kernel
theorem dX3_odds_70 : decode cX3_odds 70 = .ok (.lstore 9, 2) := by decide +kernel
theorem dX3_odds_72 : decode cX3_odds 72 = .ok (.iconst 0, 1) := by decide +kernel
theorem dX3_odds_73 : decode cX3_odds 73 = .ok (.istore 11, 2) := by decide +kernel
theorem dX3_odds_75 : decode cX3_odds 75 = .ok (.iload 11, 2) := by decide +kernel
theorem dX3_odds_77 : decode cX3_odds 77 = .ok (.iload_n 2, 1) := by decide +kernel
theorem dX3_odds_78 : decode cX3_odds 78 = .ok (.if_icmp .ge 35, 3) := by decide +kernel
theorem dX3_odds_81 : decode cX3_odds 81 = .ok (.lload 9, 2) := by decide +kernel
theorem dX3_odds_83 : decode cX3_odds 83 = .ok (.iload 8, 2) := by decide +kernel
theorem dX3_odds_85 : decode cX3_odds 85 = .ok (.iload 11, 2) := by decide +kernel
theorem dX3_odds_87 : decode cX3_odds 87 = .ok (.invokestatic 93, 3) := by decide +kernel
theorem dX3_odds_90 : decode cX3_odds 90 = .ok (.iconst 1, 1) := by decide +kernel
theorem dX3_odds_91 : decode cX3_odds 91 = .ok (.if_icmp .ne 8, 3) := by decide +kernel
theorem dX3_odds_94 : decode cX3_odds 94 = .ok (.iload_n 3, 1) := by decide +kernel
theorem dX3_odds_95 : decode cX3_odds 95 = .ok (.i2l, 1) := by decide +kernel
theorem dX3_odds_96 : decode cX3_odds 96 = .ok (.goto 8, 3) := by decide +kernel
theorem dX3_odds_99 : decode cX3_odds 99 = .ok (.bipush 10, 2) := by decide +kernel
theorem dX3_odds_101 : decode cX3_odds 101 = .ok (.iload_n 3, 1) := by decide +kernel
theorem dX3_odds_102 : decode cX3_odds 102 = .ok (.isub, 1) := by decide +kernel
theorem dX3_odds_103 : decode cX3_odds 103 = .ok (.i2l, 1) := by decide +kernel
theorem dX3_odds_104 : decode cX3_odds 104 = .ok (.lmul, 1) := by decide +kernel
theorem dX3_odds_105 : decode cX3_odds 105 = .ok (.lstore 9, 2) := by decide +kernel
theorem dX3_odds_107 : decode cX3_odds 107 = .ok (.iinc 11 1, 3) := by decide +kernel
theorem dX3_odds_110 : decode cX3_odds 110 = .ok (.goto (-35), 3) := by decide +kernel
theorem dX3_odds_113 : decode cX3_odds 113 = .ok (.lload 6, 2) := by decide +kernel
theorem dX3_odds_115 : decode cX3_odds 115 = .ok (.lload 9, 2) := by decide +kernel
theorem dX3_odds_117 : decode cX3_odds 117 = .ok (.ladd, 1) := by decide +kernel
theorem dX3_odds_118 : decode cX3_odds 118 = .ok (.lstore 6, 2) := by decide +kernel
theorem dX3_odds_120 : decode cX3_odds 120 = .ok (.lload 4, 2) := by decide +kernel
theorem dX3_odds_122 : decode cX3_odds 122 = .ok (.aload_n 0, 1) := by decide +kernel
theorem dX3_odds_123 : decode cX3_odds 123 = .ok (.iload_n 1, 1) := by decide +kernel
theorem dX3_odds_124 : decode cX3_odds 124 = .ok (.iload_n 2, 1) := by decide +kernel
theorem dX3_odds_125 : decode cX3_odds 125 = .ok (.iload 8, 2) := by decide +kernel
theorem dX3_odds_127 : decode cX3_odds 127 = .ok (.invokevirtual 183, 3) := by decide +kernel
theorem dX3_odds_130 : decode cX3_odds 130 = .ok (.ifCond .eq 8, 3) := by decide +kernel
theorem dX3_odds_133 : decode cX3_odds 133 = .ok (.lload 9, 2) := by decide +kernel
theorem dX3_odds_135 : decode cX3_odds 135 = .ok (.goto 4, 3) := by decide +kernel
theorem dX3_odds_138 : decode cX3_odds 138 = .ok (.lconst 0, 1) := by decide +kernel
theorem dX3_odds_139 : decode cX3_odds 139 = .ok (.ladd, 1) := by decide +kernel
theorem dX3_odds_140 : decode cX3_odds 140 = .ok (.lstore 4, 2) := by decide +kernel
theorem dX3_odds_142 : decode cX3_odds 142 = .ok (.iinc 8 1, 3) := by decide +kernel
theorem dX3_odds_145 : decode cX3_odds 145 = .ok (.goto (-84), 3) := by decide +kernel
theorem dX3_odds_148 : decode cX3_odds 148 = .ok (.aload_n 0, 1) := by decide +kernel
theorem dX3_odds_149 : decode cX3_odds 149 = .ok (.lload 4, 2) := by decide +kernel
theorem dX3_odds_151 : decode cX3_odds 151 = .ok (.lload 6, 2) := by decide +kernel
theorem dX3_odds_153 : decode cX3_odds 153 = .ok (.invokevirtual 186, 3) := by decide +kernel
theorem dX3_odds_156 : decode cX3_odds 156 = .ok (.iconst 1, 1) := by decide +kernel
theorem dX3_odds_157 : decode cX3_odds 157 = .ok (.ireturn, 1) := by decide +kernel
theorem dX3_years_0 : decode cX3_years 0 = .ok (.iload_n 1, 1) := by decide +kernel
theorem dX3_years_1 : decode cX3_years 1 = .ok (.iconst 0, 1) := by decide +kernel
theorem dX3_years_2 : decode cX3_years 2 = .ok (.ldc 190, 2) := by decide +kernel
theorem dX3_years_4 : decode cX3_years 4 = .ok (.invokestatic 48, 3) := by decide +kernel
theorem dX3_years_7 : decode cX3_years 7 = .ok (.ifCond .eq 13, 3) := by decide +kernel
theorem dX3_years_10 : decode cX3_years 10 = .ok (.iload_n 2, 1) := by decide +kernel
theorem dX3_years_11 : decode cX3_years 11 = .ok (.iconst 0, 1) := by decide +kernel
theorem dX3_years_12 : decode cX3_years 12 = .ok (.bipush 60, 2) := by decide +kernel
theorem dX3_years_14 : decode cX3_years 14 = .ok (.invokestatic 48, 3) := by decide +kernel
theorem dX3_years_17 : decode cX3_years 17 = .ok (.ifCond .ne 8, 3) := by decide +kernel
theorem dX3_years_20 : decode cX3_years 20 = .ok (.aload_n 0, 1) := by decide +kernel
theorem dX3_years_21 : decode cX3_years 21 = .ok (.invokevirtual 52, 3) := by decide +kernel
theorem dX3_years_24 : decode cX3_years 24 = .ok (.ireturn, 1) := by decide +kernel
theorem dX3_years_25 : decode cX3_years 25 = .ok (.aload_n 0, 1) := by decide +kernel
theorem dX3_years_26 : decode cX3_years 26 = .ok (.getfield 16, 3) := by decide +kernel
theorem dX3_years_29 : decode cX3_years 29 = .ok (.aload_n 0, 1) := by decide +kernel
theorem dX3_years_30 : decode cX3_years 30 = .ok (.getfield 12, 3) := by decide +kernel
theorem dX3_years_33 : decode cX3_years 33 = .ok (.invokevirtual 82, 3) := by decide +kernel
theorem dX3_years_36 : decode cX3_years 36 = .ok (.iload_n 1, 1) := by decide +kernel
theorem dX3_years_37 : decode cX3_years 37 = .ok (.i2l, 1) := by decide +kernel
theorem dX3_years_38 : decode cX3_years 38 = .ok (.lstore_n 3, 1) := by decide +kernel
theorem dX3_years_39 : decode cX3_years 39 = .ok (.iconst 0, 1) := by decide +kernel
theorem dX3_years_40 : decode cX3_years 40 = .ok (.istore 5, 2) := by decide +kernel
theorem dX3_years_42 : decode cX3_years 42 = .ok (.iconst 0, 1) := by decide +kernel
theorem dX3_years_43 : decode cX3_years 43 = .ok (.istore 6, 2) := by decide +kernel
theorem dX3_years_45 : decode cX3_years 45 = .ok (.iload 6, 2) := by decide +kernel
theorem dX3_years_47 : decode cX3_years 47 = .ok (.iload_n 2, 1) := by decide +kernel
theorem dX3_years_48 : decode cX3_years 48 = .ok (.if_icmp .ge 92, 3) := by decide +kernel
theorem dX3_years_51 : decode cX3_years 51 = .ok (.iconst 0, 1) := by decide +kernel
theorem dX3_years_52 : decode cX3_years 52 = .ok (.istore 7, 2) := by decide +kernel
theorem dX3_years_54 : decode cX3_years 54 = .ok (.iload 7, 2) := by decide +kernel
theorem dX3_years_56 : decode cX3_years 56 = .ok (.aload_n 0, 1) := by decide +kernel
theorem dX3_years_57 : decode cX3_years 57 = .ok (.getfield 16, 3) := by decide +kernel
theorem dX3_years_60 : decode cX3_years 60 = .ok (.getfield 56, 3) := by decide +kernel
theorem dX3_years_63 : decode cX3_years 63 = .ok (.if_icmp .ge 52, 3) := by decide +kernel
theorem dX3_years_66 : decode cX3_years 66 = .ok (.lload_n 3, 1) := by decide +kernel
theorem dX3_years_67 : decode cX3_years 67 = .ok (.ldc2_w 191, 3) := by decide +kernel
theorem dX3_years_70 : decode cX3_years 70 = .ok (.lmul, 1) := by decide +kernel
theorem dX3_years_71 : decode cX3_years 71 = .ok (.ldc2_w 193, 3) := by decide +kernel
theorem dX3_years_74 : decode cX3_years 74 = .ok (.ladd, 1) := by decide +kernel
theorem dX3_years_75 : decode cX3_years 75 = .ok (.ldc2_w 195, 3) := by decide +kernel
theorem dX3_years_78 : decode cX3_years 78 = .ok (.lrem, 1) := by decide +kernel
theorem dX3_years_79 : decode cX3_years 79 = .ok (.lstore_n 3, 1) := by decide +kernel
theorem dX3_years_80 : decode cX3_years 80 = .ok (.aload_n 0, 1) := by decide +kernel
theorem dX3_years_81 : decode cX3_years 81 = .ok (.getfield 16, 3) := by decide +kernel
theorem dX3_years_84 : decode cX3_years 84 = .ok (.aload_n 0, 1) := by decide +kernel
theorem dX3_years_85 : decode cX3_years 85 = .ok (.getfield 16, 3) := by decide +kernel
theorem dX3_years_88 : decode cX3_years 88 = .ok (.getfield 103, 3) := by decide +kernel
theorem dX3_years_91 : decode cX3_years 91 = .ok (.iload 7, 2) := by decide +kernel
theorem dX3_years_93 : decode cX3_years 93 = .ok (.lload_n 3, 1) := by decide +kernel
theorem dX3_years_94 : decode cX3_years 94 = .ok (.ldc2_w 197, 3) := by decide +kernel
theorem dX3_years_97 : decode cX3_years 97 = .ok (.ldiv, 1) := by decide +kernel
theorem dX3_years_98 : decode cX3_years 98 = .ok (.ldc2_w 199, 3) := by decide +kernel
theorem dX3_years_101 : decode cX3_years 101 = .ok (.lrem, 1) := by decide +kernel
theorem dX3_years_102 : decode cX3_years 102 = .ok (.l2i, 1) := by decide +kernel
theorem dX3_years_103 : decode cX3_years 103 = .ok (.invokestatic 99, 3) := by decide +kernel
theorem dX3_years_106 : decode cX3_years 106 = .ok (.putfield 103, 3) := by decide +kernel
theorem dX3_years_109 : decode cX3_years 109 = .ok (.iinc 7 1, 3) := by decide +kernel
theorem dX3_years_112 : decode cX3_years 112 = .ok (.goto (-58), 3) := by decide +kernel
theorem dX3_years_115 : decode cX3_years 115 = .ok (.iload 5, 2) := by decide +kernel
theorem dX3_years_117 : decode cX3_years 117 = .ok (.aload_n 0, 1) := by decide +kernel
theorem dX3_years_118 : decode cX3_years 118 = .ok (.getfield 16, 3) := by decide +kernel
theorem dX3_years_121 : decode cX3_years 121 = .ok (.aload_n 0, 1) := by decide +kernel
theorem dX3_years_122 : decode cX3_years 122 = .ok (.getfield 30, 3) := by decide +kernel
theorem dX3_years_125 : decode cX3_years 125 = .ok (.invokevirtual 106, 3) := by decide +kernel
theorem dX3_years_128 : decode cX3_years 128 = .ok (.invokestatic 149, 3) := by decide +kernel
theorem dX3_years_131 : decode cX3_years 131 = .ok (.iadd, 1) := by decide +kernel
theorem dX3_years_132 : decode cX3_years 132 = .ok (.istore 5, 2) := by decide +kernel
theorem dX3_years_134 : decode cX3_years 134 = .ok (.iinc 6 1, 3) := by decide +kernel
theorem dX3_years_137 : decode cX3_years 137 = .ok (.goto (-92), 3) := by decide +kernel
theorem dX3_years_140 : decode cX3_years 140 = .ok (.iload 5, 2) := by decide +kernel
theorem dX3_years_142 : decode cX3_years 142 = .ok (.ireturn, 1) := by decide +kernel
theorem dX3_part_0 : decode cX3_part 0 = .ok (.iload_n 1, 1) := by decide +kernel
theorem dX3_part_1 : decode cX3_part 1 = .ok (.iconst 0, 1) := by decide +kernel
theorem dX3_part_2 : decode cX3_part 2 = .ok (.iconst 1, 1) := by decide +kernel
theorem dX3_part_3 : decode cX3_part 3 = .ok (.invokestatic 48, 3) := by decide +kernel
theorem dX3_part_6 : decode cX3_part 6 = .ok (.ifCond .ne 9, 3) := by decide +kernel
theorem dX3_part_9 : decode cX3_part 9 = .ok (.aload_n 0, 1) := by decide +kernel
theorem dX3_part_10 : decode cX3_part 10 = .ok (.invokevirtual 52, 3) := by decide +kernel
theorem dX3_part_13 : decode cX3_part 13 = .ok (.i2l, 1) := by decide +kernel
theorem dX3_part_14 : decode cX3_part 14 = .ok (.lreturn, 1) := by decide +kernel
theorem dX3_part_15 : decode cX3_part 15 = .ok (.iload_n 1, 1) := by decide +kernel
theorem dX3_part_16 : decode cX3_part 16 = .ok (.ifCond .ne 10, 3) := by decide +kernel
theorem dX3_part_19 : decode cX3_part 19 = .ok (.aload_n 0, 1) := by decide +kernel
theorem dX3_part_20 : decode cX3_part 20 = .ok (.getfield 41, 3) := by decide +kernel
theorem dX3_part_23 : decode cX3_part 23 = .ok (.goto 7, 3) := by decide +kernel
theorem dX3_part_26 : decode cX3_part 26 = .ok (.aload_n 0, 1) := by decide +kernel
theorem dX3_part_27 : decode cX3_part 27 = .ok (.getfield 45, 3) := by decide +kernel
theorem dX3_part_30 : decode cX3_part 30 = .ok (.lreturn, 1) := by decide +kernel
theorem dX3_image_0 : decode cX3_image 0 = .ok (.iload_n 1, 1) := by decide +kernel
theorem dX3_image_1 : decode cX3_image 1 = .ok (.iconst 0, 1) := by decide +kernel
theorem dX3_image_2 : decode cX3_image 2 = .ok (.iconst 1, 1) := by decide +kernel
theorem dX3_image_3 : decode cX3_image 3 = .ok (.invokestatic 48, 3) := by decide +kernel
theorem dX3_image_6 : decode cX3_image 6 = .ok (.ifCond .ne 8, 3) := by decide +kernel
theorem dX3_image_9 : decode cX3_image 9 = .ok (.aload_n 0, 1) := by decide +kernel
theorem dX3_image_10 : decode cX3_image 10 = .ok (.invokevirtual 52, 3) := by decide +kernel
theorem dX3_image_13 : decode cX3_image 13 = .ok (.ireturn, 1) := by decide +kernel
theorem dX3_image_14 : decode cX3_image 14 = .ok (.aload_n 0, 1) := by decide +kernel
theorem dX3_image_15 : decode cX3_image 15 = .ok (.getfield 19, 3) := by decide +kernel
theorem dX3_image_18 : decode cX3_image 18 = .ok (.iload_n 1, 1) := by decide +kernel
theorem dX3_image_19 : decode cX3_image 19 = .ok (.aaload, 1) := by decide +kernel
theorem dX3_image_20 : decode cX3_image 20 = .ok (.aload_n 0, 1) := by decide +kernel
theorem dX3_image_21 : decode cX3_image 21 = .ok (.getfield 12, 3) := by decide +kernel
theorem dX3_image_24 : decode cX3_image 24 = .ok (.invokevirtual 82, 3) := by decide +kernel
theorem dX3_image_27 : decode cX3_image 27 = .ok (.aload_n 0, 1) := by decide +kernel
theorem dX3_image_28 : decode cX3_image 28 = .ok (.getfield 23, 3) := by decide +kernel
theorem dX3_image_31 : decode cX3_image 31 = .ok (.iload_n 1, 1) := by decide +kernel
theorem dX3_image_32 : decode cX3_image 32 = .ok (.iconst 1, 1) := by decide +kernel
theorem dX3_image_33 : decode cX3_image 33 = .ok (.bastore, 1) := by decide +kernel
theorem dX3_image_34 : decode cX3_image 34 = .ok (.iconst 1, 1) := by decide +kernel
theorem dX3_image_35 : decode cX3_image 35 = .ok (.ireturn, 1) := by decide +kernel
theorem dX3_from_0 : decode cX3_from 0 = .ok (.iload_n 1, 1) := by decide +kernel
theorem dX3_from_1 : decode cX3_from 1 = .ok (.iconst 0, 1) := by decide +kernel
theorem dX3_from_2 : decode cX3_from 2 = .ok (.iconst 1, 1) := by decide +kernel
theorem dX3_from_3 : decode cX3_from 3 = .ok (.invokestatic 48, 3) := by decide +kernel
theorem dX3_from_6 : decode cX3_from 6 = .ok (.ifCond .ne 8, 3) := by decide +kernel
theorem dX3_from_9 : decode cX3_from 9 = .ok (.aload_n 0, 1) := by decide +kernel
theorem dX3_from_10 : decode cX3_from 10 = .ok (.invokevirtual 52, 3) := by decide +kernel
theorem dX3_from_13 : decode cX3_from 13 = .ok (.ireturn, 1) := by decide +kernel
theorem dX3_from_14 : decode cX3_from 14 = .ok (.aload_n 0, 1) := by decide +kernel
theorem dX3_from_15 : decode cX3_from 15 = .ok (.getfield 23, 3) := by decide +kernel
theorem dX3_from_18 : decode cX3_from 18 = .ok (.iload_n 1, 1) := by decide +kernel
theorem dX3_from_19 : decode cX3_from 19 = .ok (.baload, 1) := by decide +kernel
theorem dX3_from_20 : decode cX3_from 20 = .ok (.ifCond .ne 8, 3) := by decide +kernel
theorem dX3_from_23 : decode cX3_from 23 = .ok (.aload_n 0, 1) := by decide +kernel
theorem dX3_from_24 : decode cX3_from 24 = .ok (.invokevirtual 113, 3) := by decide +kernel
theorem dX3_from_27 : decode cX3_from 27 = .ok (.ireturn, 1) := by decide +kernel
theorem dX3_from_28 : decode cX3_from 28 = .ok (.aload_n 0, 1) := by decide +kernel
theorem dX3_from_29 : decode cX3_from 29 = .ok (.getfield 12, 3) := by decide +kernel
theorem dX3_from_32 : decode cX3_from 32 = .ok (.aload_n 0, 1) := by decide +kernel
theorem dX3_from_33 : decode cX3_from 33 = .ok (.getfield 19, 3) := by decide +kernel
theorem dX3_from_36 : decode cX3_from 36 = .ok (.iload_n 1, 1) := by decide +kernel
theorem dX3_from_37 : decode cX3_from 37 = .ok (.aaload, 1) := by decide +kernel
theorem dX3_from_38 : decode cX3_from 38 = .ok (.invokevirtual 82, 3) := by decide +kernel
theorem dX3_from_41 : decode cX3_from 41 = .ok (.iconst 1, 1) := by decide +kernel
theorem dX3_from_42 : decode cX3_from 42 = .ok (.ireturn, 1) := by decide +kernel
theorem dX3_status_0 : decode cX3_status 0 = .ok (.iload_n 1, 1) := by decide +kernel
theorem dX3_status_1 : decode cX3_status 1 = .ok (.tableswitch 42 0 2 #[27, 32, 37], 27) := by decide +kernel
theorem dX3_status_28 : decode cX3_status 28 = .ok (.aload_n 0, 1) := by decide +kernel
theorem dX3_status_29 : decode cX3_status 29 = .ok (.getfield 201, 3) := by decide +kernel
theorem dX3_status_32 : decode cX3_status 32 = .ok (.ireturn, 1) := by decide +kernel
theorem dX3_status_33 : decode cX3_status 33 = .ok (.aload_n 0, 1) := by decide +kernel
theorem dX3_status_34 : decode cX3_status 34 = .ok (.getfield 204, 3) := by decide +kernel
theorem dX3_status_37 : decode cX3_status 37 = .ok (.ireturn, 1) := by decide +kernel
theorem dX3_status_38 : decode cX3_status 38 = .ok (.aload_n 0, 1) := by decide +kernel
theorem dX3_status_39 : decode cX3_status 39 = .ok (.getfield 207, 3) := by decide +kernel
theorem dX3_status_42 : decode cX3_status 42 = .ok (.ireturn, 1) := by decide +kernel
theorem dX3_status_43 : decode cX3_status 43 = .ok (.aload_n 0, 1) := by decide +kernel
theorem dX3_status_44 : decode cX3_status 44 = .ok (.invokevirtual 52, 3) := by decide +kernel
theorem dX3_status_47 : decode cX3_status 47 = .ok (.pop, 1) := by decide +kernel
theorem dX3_status_48 : decode cX3_status 48 = .ok (.iconst (-1), 1) := by decide +kernel
theorem dX3_status_49 : decode cX3_status 49 = .ok (.ireturn, 1) := by decide +kernel
theorem dX3_count_0 : decode cX3_count 0 = .ok (.iload_n 1, 1) := by decide +kernel
theorem dX3_count_1 : decode cX3_count 1 = .ok (.iconst 0, 1) := by decide +kernel
theorem dX3_count_2 : decode cX3_count 2 = .ok (.bipush 7, 2) := by decide +kernel
theorem dX3_count_4 : decode cX3_count 4 = .ok (.invokestatic 48, 3) := by decide +kernel
theorem dX3_count_7 : decode cX3_count 7 = .ok (.ifCond .ne 8, 3) := by decide +kernel
theorem dX3_count_10 : decode cX3_count 10 = .ok (.aload_n 0, 1) := by decide +kernel
theorem dX3_count_11 : decode cX3_count 11 = .ok (.invokevirtual 52, 3) := by decide +kernel
theorem dX3_count_14 : decode cX3_count 14 = .ok (.ireturn, 1) := by decide +kernel
theorem dX3_count_15 : decode cX3_count 15 = .ok (.aload_n 0, 1) := by decide +kernel
theorem dX3_count_16 : decode cX3_count 16 = .ok (.iload_n 1, 1) := by decide +kernel
theorem dX3_count_17 : decode cX3_count 17 = .ok (.invokevirtual 210, 3) := by decide +kernel
theorem dX3_count_20 : decode cX3_count 20 = .ok (.ireturn, 1) := by decide +kernel
theorem dX3_digest_0 : decode cX3_digest 0 = .ok (.ldc2_w 213, 3) := by decide +kernel
theorem dX3_digest_3 : decode cX3_digest 3 = .ok (.lstore_n 1, 1) := by decide +kernel
theorem dX3_digest_4 : decode cX3_digest 4 = .ok (.iconst 0, 1) := by decide +kernel
theorem dX3_digest_5 : decode cX3_digest 5 = .ok (.istore_n 3, 1) := by decide +kernel
theorem dX3_digest_6 : decode cX3_digest 6 = .ok (.iload_n 3, 1) := by decide +kernel
theorem dX3_digest_7 : decode cX3_digest 7 = .ok (.bipush 8, 2) := by decide +kernel
theorem dX3_digest_9 : decode cX3_digest 9 = .ok (.if_icmp .ge 22, 3) := by decide +kernel
theorem dX3_digest_12 : decode cX3_digest 12 = .ok (.ldc2_w 215, 3) := by decide +kernel
theorem dX3_digest_15 : decode cX3_digest 15 = .ok (.lload_n 1, 1) := by decide +kernel
theorem dX3_digest_16 : decode cX3_digest 16 = .ok (.lmul, 1) := by decide +kernel
theorem dX3_digest_17 : decode cX3_digest 17 = .ok (.aload_n 0, 1) := by decide +kernel
theorem dX3_digest_18 : decode cX3_digest 18 = .ok (.iload_n 3, 1) := by decide +kernel
theorem dX3_digest_19 : decode cX3_digest 19 = .ok (.invokevirtual 210, 3) := by decide +kernel
theorem dX3_digest_22 : decode cX3_digest 22 = .ok (.i2l, 1) := by decide +kernel
theorem dX3_digest_23 : decode cX3_digest 23 = .ok (.ladd, 1) := by decide +kernel
theorem dX3_digest_24 : decode cX3_digest 24 = .ok (.lstore_n 1, 1) := by decide +kernel
theorem dX3_digest_25 : decode cX3_digest 25 = .ok (.iinc 3 1, 3) := by decide +kernel
theorem dX3_digest_28 : decode cX3_digest 28 = .ok (.goto (-22), 3) := by decide +kernel
theorem dX3_digest_31 : decode cX3_digest 31 = .ok (.ldc2_w 215, 3) := by decide +kernel
theorem dX3_digest_34 : decode cX3_digest 34 = .ok (.lload_n 1, 1) := by decide +kernel
theorem dX3_digest_35 : decode cX3_digest 35 = .ok (.lmul, 1) := by decide +kernel
theorem dX3_digest_36 : decode cX3_digest 36 = .ok (.aload_n 0, 1) := by decide +kernel
theorem dX3_digest_37 : decode cX3_digest 37 = .ok (.getfield 12, 3) := by decide +kernel
theorem dX3_digest_40 : decode cX3_digest 40 = .ok (.getfield 217, 3) := by decide +kernel
theorem dX3_digest_43 : decode cX3_digest 43 = .ok (.i2l, 1) := by decide +kernel
theorem dX3_digest_44 : decode cX3_digest 44 = .ok (.ladd, 1) := by decide +kernel
theorem dX3_digest_45 : decode cX3_digest 45 = .ok (.lstore_n 1, 1) := by decide +kernel
theorem dX3_digest_46 : decode cX3_digest 46 = .ok (.iconst 0, 1) := by decide +kernel
theorem dX3_digest_47 : decode cX3_digest 47 = .ok (.istore_n 3, 1) := by decide +kernel
theorem dX3_digest_48 : decode cX3_digest 48 = .ok (.iload_n 3, 1) := by decide +kernel
theorem dX3_digest_49 : decode cX3_digest 49 = .ok (.aload_n 0, 1) := by decide +kernel
theorem dX3_digest_50 : decode cX3_digest 50 = .ok (.getfield 12, 3) := by decide +kernel
theorem dX3_digest_53 : decode cX3_digest 53 = .ok (.getfield 56, 3) := by decide +kernel
theorem dX3_digest_56 : decode cX3_digest 56 = .ok (.if_icmp .ge 81, 3) := by decide +kernel
theorem dX3_digest_59 : decode cX3_digest 59 = .ok (.ldc2_w 215, 3) := by decide +kernel
theorem dX3_digest_62 : decode cX3_digest 62 = .ok (.lload_n 1, 1) := by decide +kernel
theorem dX3_digest_63 : decode cX3_digest 63 = .ok (.lmul, 1) := by decide +kernel
theorem dX3_digest_64 : decode cX3_digest 64 = .ok (.aload_n 0, 1) := by decide +kernel
theorem dX3_digest_65 : decode cX3_digest 65 = .ok (.getfield 12, 3) := by decide +kernel
theorem dX3_digest_68 : decode cX3_digest 68 = .ok (.getfield 122, 3) := by decide +kernel
theorem dX3_digest_71 : decode cX3_digest 71 = .ok (.iload_n 3, 1) := by decide +kernel
theorem dX3_digest_72 : decode cX3_digest 72 = .ok (.iaload, 1) := by decide +kernel
theorem dX3_digest_73 : decode cX3_digest 73 = .ok (.i2l, 1) := by decide +kernel
theorem dX3_digest_74 : decode cX3_digest 74 = .ok (.ladd, 1) := by decide +kernel
theorem dX3_digest_75 : decode cX3_digest 75 = .ok (.lstore_n 1, 1) := by decide +kernel
theorem dX3_digest_76 : decode cX3_digest 76 = .ok (.ldc2_w 215, 3) := by decide +kernel
theorem dX3_digest_79 : decode cX3_digest 79 = .ok (.lload_n 1, 1) := by decide +kernel
theorem dX3_digest_80 : decode cX3_digest 80 = .ok (.lmul, 1) := by decide +kernel
theorem dX3_digest_81 : decode cX3_digest 81 = .ok (.aload_n 0, 1) := by decide +kernel
theorem dX3_digest_82 : decode cX3_digest 82 = .ok (.getfield 12, 3) := by decide +kernel
theorem dX3_digest_85 : decode cX3_digest 85 = .ok (.getfield 126, 3) := by decide +kernel
theorem dX3_digest_88 : decode cX3_digest 88 = .ok (.iload_n 3, 1) := by decide +kernel
theorem dX3_digest_89 : decode cX3_digest 89 = .ok (.iaload, 1) := by decide +kernel
theorem dX3_digest_90 : decode cX3_digest 90 = .ok (.i2l, 1) := by decide +kernel
theorem dX3_digest_91 : decode cX3_digest 91 = .ok (.ladd, 1) := by decide +kernel
theorem dX3_digest_92 : decode cX3_digest 92 = .ok (.lstore_n 1, 1) := by decide +kernel
theorem dX3_digest_93 : decode cX3_digest 93 = .ok (.ldc2_w 215, 3) := by decide +kernel
theorem dX3_digest_96 : decode cX3_digest 96 = .ok (.lload_n 1, 1) := by decide +kernel
theorem dX3_digest_97 : decode cX3_digest 97 = .ok (.lmul, 1) := by decide +kernel
theorem dX3_digest_98 : decode cX3_digest 98 = .ok (.aload_n 0, 1) := by decide +kernel
theorem dX3_digest_99 : decode cX3_digest 99 = .ok (.getfield 12, 3) := by decide +kernel
theorem dX3_digest_102 : decode cX3_digest 102 = .ok (.getfield 90, 3) := by decide +kernel
theorem dX3_digest_105 : decode cX3_digest 105 = .ok (.iload_n 3, 1) := by decide +kernel
theorem dX3_digest_106 : decode cX3_digest 106 = .ok (.invokestatic 93, 3) := by decide +kernel
theorem dX3_digest_109 : decode cX3_digest 109 = .ok (.i2l, 1) := by decide +kernel
theorem dX3_digest_110 : decode cX3_digest 110 = .ok (.ladd, 1) := by decide +kernel
theorem dX3_digest_111 : decode cX3_digest 111 = .ok (.lstore_n 1, 1) := by decide +kernel
theorem dX3_digest_112 : decode cX3_digest 112 = .ok (.ldc2_w 215, 3) := by decide +kernel
theorem dX3_digest_115 : decode cX3_digest 115 = .ok (.lload_n 1, 1) := by decide +kernel
theorem dX3_digest_116 : decode cX3_digest 116 = .ok (.lmul, 1) := by decide +kernel
theorem dX3_digest_117 : decode cX3_digest 117 = .ok (.aload_n 0, 1) := by decide +kernel
theorem dX3_digest_118 : decode cX3_digest 118 = .ok (.getfield 12, 3) := by decide +kernel
theorem dX3_digest_121 : decode cX3_digest 121 = .ok (.getfield 103, 3) := by decide +kernel
theorem dX3_digest_124 : decode cX3_digest 124 = .ok (.iload_n 3, 1) := by decide +kernel
theorem dX3_digest_125 : decode cX3_digest 125 = .ok (.invokestatic 93, 3) := by decide +kernel
theorem dX3_digest_128 : decode cX3_digest 128 = .ok (.i2l, 1) := by decide +kernel
theorem dX3_digest_129 : decode cX3_digest 129 = .ok (.ladd, 1) := by decide +kernel
theorem dX3_digest_130 : decode cX3_digest 130 = .ok (.lstore_n 1, 1) := by decide +kernel
theorem dX3_digest_131 : decode cX3_digest 131 = .ok (.iinc 3 1, 3) := by decide +kernel
theorem dX3_digest_134 : decode cX3_digest 134 = .ok (.goto (-86), 3) := by decide +kernel
theorem dX3_digest_137 : decode cX3_digest 137 = .ok (.iconst 0, 1) := by decide +kernel
theorem dX3_digest_138 : decode cX3_digest 138 = .ok (.istore_n 3, 1) := by decide +kernel
theorem dX3_digest_139 : decode cX3_digest 139 = .ok (.iload_n 3, 1) := by decide +kernel
theorem dX3_digest_140 : decode cX3_digest 140 = .ok (.aload_n 0, 1) := by decide +kernel
theorem dX3_digest_141 : decode cX3_digest 141 = .ok (.getfield 12, 3) := by decide +kernel
theorem dX3_digest_144 : decode cX3_digest 144 = .ok (.getfield 163, 3) := by decide +kernel
theorem dX3_digest_147 : decode cX3_digest 147 = .ok (.iconst 5, 1) := by decide +kernel
theorem dX3_digest_148 : decode cX3_digest 148 = .ok (.imul, 1) := by decide +kernel
theorem dX3_digest_149 : decode cX3_digest 149 = .ok (.if_icmp .ge 26, 3) := by decide +kernel
theorem dX3_digest_152 : decode cX3_digest 152 = .ok (.ldc2_w 215, 3) := by decide +kernel
theorem dX3_digest_155 : decode cX3_digest 155 = .ok (.lload_n 1, 1) := by decide +kernel
theorem dX3_digest_156 : decode cX3_digest 156 = .ok (.lmul, 1) := by decide +kernel
theorem dX3_digest_157 : decode cX3_digest 157 = .ok (.aload_n 0, 1) := by decide +kernel
theorem dX3_digest_158 : decode cX3_digest 158 = .ok (.getfield 12, 3) := by decide +kernel
theorem dX3_digest_161 : decode cX3_digest 161 = .ok (.getfield 220, 3) := by decide +kernel
theorem dX3_digest_164 : decode cX3_digest 164 = .ok (.iload_n 3, 1) := by decide +kernel
theorem dX3_digest_165 : decode cX3_digest 165 = .ok (.iaload, 1) := by decide +kernel
theorem dX3_digest_166 : decode cX3_digest 166 = .ok (.i2l, 1) := by decide +kernel
theorem dX3_digest_167 : decode cX3_digest 167 = .ok (.ladd, 1) := by decide +kernel
theorem dX3_digest_168 : decode cX3_digest 168 = .ok (.lstore_n 1, 1) := by decide +kernel
theorem dX3_digest_169 : decode cX3_digest 169 = .ok (.iinc 3 1, 3) := by decide +kernel
theorem dX3_digest_172 : decode cX3_digest 172 = .ok (.goto (-33), 3) := by decide +kernel
theorem dX3_digest_175 : decode cX3_digest 175 = .ok (.ldc2_w 215, 3) := by decide +kernel
theorem dX3_digest_178 : decode cX3_digest 178 = .ok (.lload_n 1, 1) := by decide +kernel
theorem dX3_digest_179 : decode cX3_digest 179 = .ok (.lmul, 1) := by decide +kernel
theorem dX3_digest_180 : decode cX3_digest 180 = .ok (.aload_n 0, 1) := by decide +kernel
theorem dX3_digest_181 : decode cX3_digest 181 = .ok (.getfield 41, 3) := by decide +kernel
theorem dX3_digest_184 : decode cX3_digest 184 = .ok (.ladd, 1) := by decide +kernel
theorem dX3_digest_185 : decode cX3_digest 185 = .ok (.lstore_n 1, 1) := by decide +kernel
theorem dX3_digest_186 : decode cX3_digest 186 = .ok (.ldc2_w 215, 3) := by decide +kernel
theorem dX3_digest_189 : decode cX3_digest 189 = .ok (.lload_n 1, 1) := by decide +kernel
theorem dX3_digest_190 : decode cX3_digest 190 = .ok (.lmul, 1) := by decide +kernel
theorem dX3_digest_191 : decode cX3_digest 191 = .ok (.aload_n 0, 1) := by decide +kernel
theorem dX3_digest_192 : decode cX3_digest 192 = .ok (.getfield 45, 3) := by decide +kernel
theorem dX3_digest_195 : decode cX3_digest 195 = .ok (.ladd, 1) := by decide +kernel
theorem dX3_digest_196 : decode cX3_digest 196 = .ok (.lreturn, 1) := by decide +kernel
theorem dX3_refuseBad_0 : decode cX3_refuseBad 0 = .ok (.aload_n 0, 1) := by decide +kernel
theorem dX3_refuseBad_1 : decode cX3_refuseBad 1 = .ok (.dup, 1) := by decide +kernel
theorem dX3_refuseBad_2 : decode cX3_refuseBad 2 = .ok (.getfield 201, 3) := by decide +kernel
theorem dX3_refuseBad_5 : decode cX3_refuseBad 5 = .ok (.iconst 1, 1) := by decide +kernel
theorem dX3_refuseBad_6 : decode cX3_refuseBad 6 = .ok (.iadd, 1) := by decide +kernel
theorem dX3_refuseBad_7 : decode cX3_refuseBad 7 = .ok (.putfield 201, 3) := by decide +kernel
theorem dX3_refuseBad_10 : decode cX3_refuseBad 10 = .ok (.bipush (-2), 2) := by decide +kernel
theorem dX3_refuseBad_12 : decode cX3_refuseBad 12 = .ok (.ireturn, 1) := by decide +kernel
theorem dX3_refuseNo_0 : decode cX3_refuseNo 0 = .ok (.aload_n 0, 1) := by decide +kernel
theorem dX3_refuseNo_1 : decode cX3_refuseNo 1 = .ok (.dup, 1) := by decide +kernel
theorem dX3_refuseNo_2 : decode cX3_refuseNo 2 = .ok (.getfield 204, 3) := by decide +kernel
theorem dX3_refuseNo_5 : decode cX3_refuseNo 5 = .ok (.iconst 1, 1) := by decide +kernel
theorem dX3_refuseNo_6 : decode cX3_refuseNo 6 = .ok (.iadd, 1) := by decide +kernel
theorem dX3_refuseNo_7 : decode cX3_refuseNo 7 = .ok (.putfield 204, 3) := by decide +kernel
theorem dX3_refuseNo_10 : decode cX3_refuseNo 10 = .ok (.bipush (-3), 2) := by decide +kernel
theorem dX3_refuseNo_12 : decode cX3_refuseNo 12 = .ok (.ireturn, 1) := by decide +kernel
theorem dX3_refuseFull_0 : decode cX3_refuseFull 0 = .ok (.aload_n 0, 1) := by decide +kernel
theorem dX3_refuseFull_1 : decode cX3_refuseFull 1 = .ok (.dup, 1) := by decide +kernel
theorem dX3_refuseFull_2 : decode cX3_refuseFull 2 = .ok (.getfield 207, 3) := by decide +kernel
theorem dX3_refuseFull_5 : decode cX3_refuseFull 5 = .ok (.iconst 1, 1) := by decide +kernel
theorem dX3_refuseFull_6 : decode cX3_refuseFull 6 = .ok (.iadd, 1) := by decide +kernel
theorem dX3_refuseFull_7 : decode cX3_refuseFull 7 = .ok (.putfield 207, 3) := by decide +kernel
theorem dX3_refuseFull_10 : decode cX3_refuseFull 10 = .ok (.bipush (-4), 2) := by decide +kernel
theorem dX3_refuseFull_12 : decode cX3_refuseFull 12 = .ok (.ireturn, 1) := by decide +kernel
theorem dX3_isThere_0 : decode cX3_isThere 0 = .ok (.iload_n 1, 1) := by decide +kernel
theorem dX3_isThere_1 : decode cX3_isThere 1 = .ok (.iconst 0, 1) := by decide +kernel
theorem dX3_isThere_2 : decode cX3_isThere 2 = .ok (.aload_n 0, 1) := by decide +kernel
theorem dX3_isThere_3 : decode cX3_isThere 3 = .ok (.getfield 12, 3) := by decide +kernel
theorem dX3_isThere_6 : decode cX3_isThere 6 = .ok (.getfield 56, 3) := by decide +kernel
theorem dX3_isThere_9 : decode cX3_isThere 9 = .ok (.iconst 1, 1) := by decide +kernel
theorem dX3_isThere_10 : decode cX3_isThere 10 = .ok (.isub, 1) := by decide +kernel
theorem dX3_isThere_11 : decode cX3_isThere 11 = .ok (.invokestatic 48, 3) := by decide +kernel
theorem dX3_isThere_14 : decode cX3_isThere 14 = .ok (.ireturn, 1) := by decide +kernel
theorem dX3_isWithin_0 : decode cX3_isWithin 0 = .ok (.iload_n 0, 1) := by decide +kernel
theorem dX3_isWithin_1 : decode cX3_isWithin 1 = .ok (.iload_n 1, 1) := by decide +kernel
theorem dX3_isWithin_2 : decode cX3_isWithin 2 = .ok (.if_icmp .lt 12, 3) := by decide +kernel
theorem dX3_isWithin_5 : decode cX3_isWithin 5 = .ok (.iload_n 0, 1) := by decide +kernel
theorem dX3_isWithin_6 : decode cX3_isWithin 6 = .ok (.iload_n 2, 1) := by decide +kernel
theorem dX3_isWithin_7 : decode cX3_isWithin 7 = .ok (.if_icmp .gt 7, 3) := by decide +kernel
theorem dX3_isWithin_10 : decode cX3_isWithin 10 = .ok (.iconst 1, 1) := by decide +kernel
theorem dX3_isWithin_11 : decode cX3_isWithin 11 = .ok (.goto 4, 3) := by decide +kernel
theorem dX3_isWithin_14 : decode cX3_isWithin 14 = .ok (.iconst 0, 1) := by decide +kernel
theorem dX3_isWithin_15 : decode cX3_isWithin 15 = .ok (.ireturn, 1) := by decide +kernel
theorem dX3_bitOf_0 : decode cX3_bitOf 0 = .ok (.iload_n 0, 1) := by decide +kernel
theorem dX3_bitOf_1 : decode cX3_bitOf 1 = .ok (.iload_n 1, 1) := by decide +kernel
theorem dX3_bitOf_2 : decode cX3_bitOf 2 = .ok (.ishr, 1) := by decide +kernel
theorem dX3_bitOf_3 : decode cX3_bitOf 3 = .ok (.iconst 1, 1) := by decide +kernel
theorem dX3_bitOf_4 : decode cX3_bitOf 4 = .ok (.iand, 1) := by decide +kernel
theorem dX3_bitOf_5 : decode cX3_bitOf 5 = .ok (.ireturn, 1) := by decide +kernel
theorem dX3_withBit_0 : decode cX3_withBit 0 = .ok (.iload_n 2, 1) := by decide +kernel
theorem dX3_withBit_1 : decode cX3_withBit 1 = .ok (.iconst 1, 1) := by decide +kernel
theorem dX3_withBit_2 : decode cX3_withBit 2 = .ok (.if_icmp .ne 11, 3) := by decide +kernel
theorem dX3_withBit_5 : decode cX3_withBit 5 = .ok (.iload_n 0, 1) := by decide +kernel
theorem dX3_withBit_6 : decode cX3_withBit 6 = .ok (.iconst 1, 1) := by decide +kernel
theorem dX3_withBit_7 : decode cX3_withBit 7 = .ok (.iload_n 1, 1) := by decide +kernel
theorem dX3_withBit_8 : decode cX3_withBit 8 = .ok (.ishl, 1) := by decide +kernel
theorem dX3_withBit_9 : decode cX3_withBit 9 = .ok (.ior, 1) := by decide +kernel
theorem dX3_withBit_10 : decode cX3_withBit 10 = .ok (.goto 10, 3) := by decide +kernel
theorem dX3_withBit_13 : decode cX3_withBit 13 = .ok (.iload_n 0, 1) := by decide +kernel
theorem dX3_withBit_14 : decode cX3_withBit 14 = .ok (.iconst 1, 1) := by decide +kernel
theorem dX3_withBit_15 : decode cX3_withBit 15 = .ok (.iload_n 1, 1) := by decide +kernel
theorem dX3_withBit_16 : decode cX3_withBit 16 = .ok (.ishl, 1) := by decide +kernel
theorem dX3_withBit_17 : decode cX3_withBit 17 = .ok (.iconst (-1), 1) := by decide +kernel
theorem dX3_withBit_18 : decode cX3_withBit 18 = .ok (.ixor, 1) := by decide +kernel
theorem dX3_withBit_19 : decode cX3_withBit 19 = .ok (.iand, 1) := by decide +kernel
theorem dX3_withBit_20 : decode cX3_withBit 20 = .ok (.ireturn, 1) := by decide +kernel
theorem dX3_howMany_0 : decode cX3_howMany 0 = .ok (.iload_n 1, 1) := by decide +kernel
theorem dX3_howMany_1 : decode cX3_howMany 1 = .ok (.tableswitch 105 0 6 #[43, 51, 59, 70, 81, 89, 97], 43) := by decide +kernel
theorem dX3_howMany_44 : decode cX3_howMany 44 = .ok (.aload_n 0, 1) := by decide +kernel
theorem dX3_howMany_45 : decode cX3_howMany 45 = .ok (.getfield 12, 3) := by decide +kernel
theorem dX3_howMany_48 : decode cX3_howMany 48 = .ok (.getfield 56, 3) := by decide +kernel
theorem dX3_howMany_51 : decode cX3_howMany 51 = .ok (.ireturn, 1) := by decide +kernel
theorem dX3_howMany_52 : decode cX3_howMany 52 = .ok (.aload_n 0, 1) := by decide +kernel
theorem dX3_howMany_53 : decode cX3_howMany 53 = .ok (.getfield 12, 3) := by decide +kernel
theorem dX3_howMany_56 : decode cX3_howMany 56 = .ok (.getfield 119, 3) := by decide +kernel
theorem dX3_howMany_59 : decode cX3_howMany 59 = .ok (.ireturn, 1) := by decide +kernel
theorem dX3_howMany_60 : decode cX3_howMany 60 = .ok (.aload_n 0, 1) := by decide +kernel
theorem dX3_howMany_61 : decode cX3_howMany 61 = .ok (.getfield 12, 3) := by decide +kernel
theorem dX3_howMany_64 : decode cX3_howMany 64 = .ok (.getfield 90, 3) := by decide +kernel
theorem dX3_howMany_67 : decode cX3_howMany 67 = .ok (.invokestatic 149, 3) := by decide +kernel
theorem dX3_howMany_70 : decode cX3_howMany 70 = .ok (.ireturn, 1) := by decide +kernel
theorem dX3_howMany_71 : decode cX3_howMany 71 = .ok (.aload_n 0, 1) := by decide +kernel
theorem dX3_howMany_72 : decode cX3_howMany 72 = .ok (.getfield 12, 3) := by decide +kernel
theorem dX3_howMany_75 : decode cX3_howMany 75 = .ok (.getfield 103, 3) := by decide +kernel
theorem dX3_howMany_78 : decode cX3_howMany 78 = .ok (.invokestatic 149, 3) := by decide +kernel
theorem dX3_howMany_81 : decode cX3_howMany 81 = .ok (.ireturn, 1) := by decide +kernel
theorem dX3_howMany_82 : decode cX3_howMany 82 = .ok (.aload_n 0, 1) := by decide +kernel
theorem dX3_howMany_83 : decode cX3_howMany 83 = .ok (.getfield 12, 3) := by decide +kernel
theorem dX3_howMany_86 : decode cX3_howMany 86 = .ok (.getfield 223, 3) := by decide +kernel
theorem dX3_howMany_89 : decode cX3_howMany 89 = .ok (.ireturn, 1) := by decide +kernel
theorem dX3_howMany_90 : decode cX3_howMany 90 = .ok (.aload_n 0, 1) := by decide +kernel
theorem dX3_howMany_91 : decode cX3_howMany 91 = .ok (.getfield 12, 3) := by decide +kernel
theorem dX3_howMany_94 : decode cX3_howMany 94 = .ok (.getfield 163, 3) := by decide +kernel
theorem dX3_howMany_97 : decode cX3_howMany 97 = .ok (.ireturn, 1) := by decide +kernel
theorem dX3_howMany_98 : decode cX3_howMany 98 = .ok (.aload_n 0, 1) := by decide +kernel
theorem dX3_howMany_99 : decode cX3_howMany 99 = .ok (.getfield 12, 3) := by decide +kernel
theorem dX3_howMany_102 : decode cX3_howMany 102 = .ok (.getfield 110, 3) := by decide +kernel
theorem dX3_howMany_105 : decode cX3_howMany 105 = .ok (.ireturn, 1) := by decide +kernel
theorem dX3_howMany_106 : decode cX3_howMany 106 = .ok (.aload_n 0, 1) := by decide +kernel
theorem dX3_howMany_107 : decode cX3_howMany 107 = .ok (.getfield 37, 3) := by decide +kernel
theorem dX3_howMany_110 : decode cX3_howMany 110 = .ok (.getfield 71, 3) := by decide +kernel
theorem dX3_howMany_113 : decode cX3_howMany 113 = .ok (.ireturn, 1) := by decide +kernel
theorem dX3_actToday_0 : decode cX3_actToday 0 = .ok (.aload_n 0, 1) := by decide +kernel
theorem dX3_actToday_1 : decode cX3_actToday 1 = .ok (.getfield 12, 3) := by decide +kernel
theorem dX3_actToday_4 : decode cX3_actToday 4 = .ok (.aload_n 0, 1) := by decide +kernel
theorem dX3_actToday_5 : decode cX3_actToday 5 = .ok (.getfield 30, 3) := by decide +kernel
theorem dX3_actToday_8 : decode cX3_actToday 8 = .ok (.iload_n 1, 1) := by decide +kernel
theorem dX3_actToday_9 : decode cX3_actToday 9 = .ok (.invokevirtual 132, 3) := by decide +kernel
theorem dX3_actToday_12 : decode cX3_actToday 12 = .ok (.aload_n 0, 1) := by decide +kernel
theorem dX3_actToday_13 : decode cX3_actToday 13 = .ok (.getfield 30, 3) := by decide +kernel
theorem dX3_actToday_16 : decode cX3_actToday 16 = .ok (.invokevirtual 139, 3) := by decide +kernel
theorem dX3_actToday_19 : decode cX3_actToday 19 = .ok (.ireturn, 1) := by decide +kernel
theorem dX3_whoDoIt_0 : decode cX3_whoDoIt 0 = .ok (.iconst 0, 1) := by decide +kernel
theorem dX3_whoDoIt_1 : decode cX3_whoDoIt 1 = .ok (.istore_n 3, 1) := by decide +kernel
theorem dX3_whoDoIt_2 : decode cX3_whoDoIt 2 = .ok (.iconst 0, 1) := by decide +kernel
theorem dX3_whoDoIt_3 : decode cX3_whoDoIt 3 = .ok (.istore 4, 2) := by decide +kernel
theorem dX3_whoDoIt_5 : decode cX3_whoDoIt 5 = .ok (.iload 4, 2) := by decide +kernel
theorem dX3_whoDoIt_7 : decode cX3_whoDoIt 7 = .ok (.aload_n 0, 1) := by decide +kernel
theorem dX3_whoDoIt_8 : decode cX3_whoDoIt 8 = .ok (.getfield 12, 3) := by decide +kernel
theorem dX3_whoDoIt_11 : decode cX3_whoDoIt 11 = .ok (.getfield 56, 3) := by decide +kernel
theorem dX3_whoDoIt_14 : decode cX3_whoDoIt 14 = .ok (.if_icmp .ge 32, 3) := by decide +kernel
theorem dX3_whoDoIt_17 : decode cX3_whoDoIt 17 = .ok (.iload_n 3, 1) := by decide +kernel
theorem dX3_whoDoIt_18 : decode cX3_whoDoIt 18 = .ok (.iload 4, 2) := by decide +kernel
theorem dX3_whoDoIt_20 : decode cX3_whoDoIt 20 = .ok (.aload_n 0, 1) := by decide +kernel
theorem dX3_whoDoIt_21 : decode cX3_whoDoIt 21 = .ok (.iload 4, 2) := by decide +kernel
theorem dX3_whoDoIt_23 : decode cX3_whoDoIt 23 = .ok (.iload_n 1, 1) := by decide +kernel
theorem dX3_whoDoIt_24 : decode cX3_whoDoIt 24 = .ok (.iload_n 2, 1) := by decide +kernel
theorem dX3_whoDoIt_25 : decode cX3_whoDoIt 25 = .ok (.invokevirtual 226, 3) := by decide +kernel
theorem dX3_whoDoIt_28 : decode cX3_whoDoIt 28 = .ok (.ifCond .eq 7, 3) := by decide +kernel
theorem dX3_whoDoIt_31 : decode cX3_whoDoIt 31 = .ok (.iconst 1, 1) := by decide +kernel
theorem dX3_whoDoIt_32 : decode cX3_whoDoIt 32 = .ok (.goto 4, 3) := by decide +kernel
theorem dX3_whoDoIt_35 : decode cX3_whoDoIt 35 = .ok (.iconst 0, 1) := by decide +kernel
theorem dX3_whoDoIt_36 : decode cX3_whoDoIt 36 = .ok (.invokestatic 99, 3) := by decide +kernel
theorem dX3_whoDoIt_39 : decode cX3_whoDoIt 39 = .ok (.istore_n 3, 1) := by decide +kernel
theorem dX3_whoDoIt_40 : decode cX3_whoDoIt 40 = .ok (.iinc 4 1, 3) := by decide +kernel
theorem dX3_whoDoIt_43 : decode cX3_whoDoIt 43 = .ok (.goto (-38), 3) := by decide +kernel
theorem dX3_whoDoIt_46 : decode cX3_whoDoIt 46 = .ok (.iload_n 3, 1) := by decide +kernel
theorem dX3_whoDoIt_47 : decode cX3_whoDoIt 47 = .ok (.ireturn, 1) := by decide +kernel
theorem dX3_wouldDoIt_0 : decode cX3_wouldDoIt 0 = .ok (.aload_n 0, 1) := by decide +kernel
theorem dX3_wouldDoIt_1 : decode cX3_wouldDoIt 1 = .ok (.getfield 12, 3) := by decide +kernel
theorem dX3_wouldDoIt_4 : decode cX3_wouldDoIt 4 = .ok (.aload_n 0, 1) := by decide +kernel
theorem dX3_wouldDoIt_5 : decode cX3_wouldDoIt 5 = .ok (.getfield 30, 3) := by decide +kernel
theorem dX3_wouldDoIt_8 : decode cX3_wouldDoIt 8 = .ok (.iload_n 1, 1) := by decide +kernel
theorem dX3_wouldDoIt_9 : decode cX3_wouldDoIt 9 = .ok (.invokevirtual 132, 3) := by decide +kernel
theorem dX3_wouldDoIt_12 : decode cX3_wouldDoIt 12 = .ok (.aload_n 0, 1) := by decide +kernel
theorem dX3_wouldDoIt_13 : decode cX3_wouldDoIt 13 = .ok (.getfield 30, 3) := by decide +kernel
theorem dX3_wouldDoIt_16 : decode cX3_wouldDoIt 16 = .ok (.iconst 0, 1) := by decide +kernel
theorem dX3_wouldDoIt_17 : decode cX3_wouldDoIt 17 = .ok (.putfield 230, 3) := by decide +kernel
theorem dX3_wouldDoIt_20 : decode cX3_wouldDoIt 20 = .ok (.aload_n 0, 1) := by decide +kernel
theorem dX3_wouldDoIt_21 : decode cX3_wouldDoIt 21 = .ok (.getfield 30, 3) := by decide +kernel
theorem dX3_wouldDoIt_24 : decode cX3_wouldDoIt 24 = .ok (.iload_n 3, 1) := by decide +kernel
theorem dX3_wouldDoIt_25 : decode cX3_wouldDoIt 25 = .ok (.putfield 233, 3) := by decide +kernel
theorem dX3_wouldDoIt_28 : decode cX3_wouldDoIt 28 = .ok (.iconst 0, 1) := by decide +kernel
theorem dX3_wouldDoIt_29 : decode cX3_wouldDoIt 29 = .ok (.istore 4, 2) := by decide +kernel
theorem dX3_wouldDoIt_31 : decode cX3_wouldDoIt 31 = .ok (.iload 4, 2) := by decide +kernel
theorem dX3_wouldDoIt_33 : decode cX3_wouldDoIt 33 = .ok (.iload_n 2, 1) := by decide +kernel
theorem dX3_wouldDoIt_34 : decode cX3_wouldDoIt 34 = .ok (.if_icmp .ge 29, 3) := by decide +kernel
theorem dX3_wouldDoIt_37 : decode cX3_wouldDoIt 37 = .ok (.aload_n 0, 1) := by decide +kernel
theorem dX3_wouldDoIt_38 : decode cX3_wouldDoIt 38 = .ok (.getfield 30, 3) := by decide +kernel
theorem dX3_wouldDoIt_41 : decode cX3_wouldDoIt 41 = .ok (.invokevirtual 235, 3) := by decide +kernel
theorem dX3_wouldDoIt_44 : decode cX3_wouldDoIt 44 = .ok (.ifCond .eq 5, 3) := by decide +kernel
theorem dX3_wouldDoIt_47 : decode cX3_wouldDoIt 47 = .ok (.iconst 1, 1) := by decide +kernel
theorem dX3_wouldDoIt_48 : decode cX3_wouldDoIt 48 = .ok (.ireturn, 1) := by decide +kernel
theorem dX3_wouldDoIt_49 : decode cX3_wouldDoIt 49 = .ok (.aload_n 0, 1) := by decide +kernel
theorem dX3_wouldDoIt_50 : decode cX3_wouldDoIt 50 = .ok (.getfield 30, 3) := by decide +kernel
theorem dX3_wouldDoIt_53 : decode cX3_wouldDoIt 53 = .ok (.invokevirtual 136, 3) := by decide +kernel
theorem dX3_wouldDoIt_56 : decode cX3_wouldDoIt 56 = .ok (.pop, 1) := by decide +kernel
theorem dX3_wouldDoIt_57 : decode cX3_wouldDoIt 57 = .ok (.iinc 4 1, 3) := by decide +kernel
theorem dX3_wouldDoIt_60 : decode cX3_wouldDoIt 60 = .ok (.goto (-29), 3) := by decide +kernel
theorem dX3_wouldDoIt_63 : decode cX3_wouldDoIt 63 = .ok (.iconst 0, 1) := by decide +kernel
theorem dX3_wouldDoIt_64 : decode cX3_wouldDoIt 64 = .ok (.ireturn, 1) := by decide +kernel
theorem dX3_isStruckBy_0 : decode cX3_isStruckBy 0 = .ok (.aload_n 0, 1) := by decide +kernel
theorem dX3_isStruckBy_1 : decode cX3_isStruckBy 1 = .ok (.getfield 12, 3) := by decide +kernel
theorem dX3_isStruckBy_4 : decode cX3_isStruckBy 4 = .ok (.aload_n 0, 1) := by decide +kernel
theorem dX3_isStruckBy_5 : decode cX3_isStruckBy 5 = .ok (.getfield 30, 3) := by decide +kernel
theorem dX3_isStruckBy_8 : decode cX3_isStruckBy 8 = .ok (.iload_n 1, 1) := by decide +kernel
theorem dX3_isStruckBy_9 : decode cX3_isStruckBy 9 = .ok (.invokevirtual 132, 3) := by decide +kernel
theorem dX3_isStruckBy_12 : decode cX3_isStruckBy 12 = .ok (.iconst 0, 1) := by decide +kernel
theorem dX3_isStruckBy_13 : decode cX3_isStruckBy 13 = .ok (.istore 4, 2) := by decide +kernel
theorem dX3_isStruckBy_15 : decode cX3_isStruckBy 15 = .ok (.iload 4, 2) := by decide +kernel
theorem dX3_isStruckBy_17 : decode cX3_isStruckBy 17 = .ok (.iload_n 2, 1) := by decide +kernel
theorem dX3_isStruckBy_18 : decode cX3_isStruckBy 18 = .ok (.if_icmp .ge 43, 3) := by decide +kernel
theorem dX3_isStruckBy_21 : decode cX3_isStruckBy 21 = .ok (.aload_n 0, 1) := by decide +kernel
theorem dX3_isStruckBy_22 : decode cX3_isStruckBy 22 = .ok (.getfield 30, 3) := by decide +kernel
theorem dX3_isStruckBy_25 : decode cX3_isStruckBy 25 = .ok (.iload_n 3, 1) := by decide +kernel
theorem dX3_isStruckBy_26 : decode cX3_isStruckBy 26 = .ok (.iload 4, 2) := by decide +kernel
theorem dX3_isStruckBy_28 : decode cX3_isStruckBy 28 = .ok (.invokestatic 93, 3) := by decide +kernel
theorem dX3_isStruckBy_31 : decode cX3_isStruckBy 31 = .ok (.iconst 1, 1) := by decide +kernel
theorem dX3_isStruckBy_32 : decode cX3_isStruckBy 32 = .ok (.if_icmp .ne 7, 3) := by decide +kernel
theorem dX3_isStruckBy_35 : decode cX3_isStruckBy 35 = .ok (.iconst 1, 1) := by decide +kernel
theorem dX3_isStruckBy_36 : decode cX3_isStruckBy 36 = .ok (.goto 4, 3) := by decide +kernel
theorem dX3_isStruckBy_39 : decode cX3_isStruckBy 39 = .ok (.iconst 0, 1) := by decide +kernel
theorem dX3_isStruckBy_40 : decode cX3_isStruckBy 40 = .ok (.putfield 233, 3) := by decide +kernel
theorem dX3_isStruckBy_43 : decode cX3_isStruckBy 43 = .ok (.aload_n 0, 1) := by decide +kernel
theorem dX3_isStruckBy_44 : decode cX3_isStruckBy 44 = .ok (.getfield 30, 3) := by decide +kernel
theorem dX3_isStruckBy_47 : decode cX3_isStruckBy 47 = .ok (.invokevirtual 136, 3) := by decide +kernel
theorem dX3_isStruckBy_50 : decode cX3_isStruckBy 50 = .ok (.ifCond .eq 5, 3) := by decide +kernel
theorem dX3_isStruckBy_53 : decode cX3_isStruckBy 53 = .ok (.iconst 1, 1) := by decide +kernel
theorem dX3_isStruckBy_54 : decode cX3_isStruckBy 54 = .ok (.ireturn, 1) := by decide +kernel
theorem dX3_isStruckBy_55 : decode cX3_isStruckBy 55 = .ok (.iinc 4 1, 3) := by decide +kernel
theorem dX3_isStruckBy_58 : decode cX3_isStruckBy 58 = .ok (.goto (-43), 3) := by decide +kernel
theorem dX3_isStruckBy_61 : decode cX3_isStruckBy 61 = .ok (.iconst 0, 1) := by decide +kernel
theorem dX3_isStruckBy_62 : decode cX3_isStruckBy 62 = .ok (.ireturn, 1) := by decide +kernel
theorem dX3_fewestDays_0 : decode cX3_fewestDays 0 = .ok (.iconst (-1), 1) := by decide +kernel
theorem dX3_fewestDays_1 : decode cX3_fewestDays 1 = .ok (.istore_n 3, 1) := by decide +kernel
theorem dX3_fewestDays_2 : decode cX3_fewestDays 2 = .ok (.iconst 0, 1) := by decide +kernel
theorem dX3_fewestDays_3 : decode cX3_fewestDays 3 = .ok (.istore 4, 2) := by decide +kernel
theorem dX3_fewestDays_5 : decode cX3_fewestDays 5 = .ok (.iload 4, 2) := by decide +kernel
theorem dX3_fewestDays_7 : decode cX3_fewestDays 7 = .ok (.iconst 1, 1) := by decide +kernel
theorem dX3_fewestDays_8 : decode cX3_fewestDays 8 = .ok (.iload_n 2, 1) := by decide +kernel
theorem dX3_fewestDays_9 : decode cX3_fewestDays 9 = .ok (.ishl, 1) := by decide +kernel
theorem dX3_fewestDays_10 : decode cX3_fewestDays 10 = .ok (.if_icmp .ge 52, 3) := by decide +kernel
theorem dX3_fewestDays_13 : decode cX3_fewestDays 13 = .ok (.iload_n 3, 1) := by decide +kernel
theorem dX3_fewestDays_14 : decode cX3_fewestDays 14 = .ok (.iconst (-1), 1) := by decide +kernel
theorem dX3_fewestDays_15 : decode cX3_fewestDays 15 = .ok (.if_icmp .eq 15, 3) := by decide +kernel
theorem dX3_fewestDays_18 : decode cX3_fewestDays 18 = .ok (.iload 4, 2) := by decide +kernel
theorem dX3_fewestDays_20 : decode cX3_fewestDays 20 = .ok (.invokestatic 149, 3) := by decide +kernel
theorem dX3_fewestDays_23 : decode cX3_fewestDays 23 = .ok (.iload_n 3, 1) := by decide +kernel
theorem dX3_fewestDays_24 : decode cX3_fewestDays 24 = .ok (.invokestatic 149, 3) := by decide +kernel
theorem dX3_fewestDays_27 : decode cX3_fewestDays 27 = .ok (.if_icmp .ge 7, 3) := by decide +kernel
theorem dX3_fewestDays_30 : decode cX3_fewestDays 30 = .ok (.iconst 1, 1) := by decide +kernel
theorem dX3_fewestDays_31 : decode cX3_fewestDays 31 = .ok (.goto 4, 3) := by decide +kernel
theorem dX3_fewestDays_34 : decode cX3_fewestDays 34 = .ok (.iconst 0, 1) := by decide +kernel
theorem dX3_fewestDays_35 : decode cX3_fewestDays 35 = .ok (.istore 5, 2) := by decide +kernel
theorem dX3_fewestDays_37 : decode cX3_fewestDays 37 = .ok (.iload 5, 2) := by decide +kernel
theorem dX3_fewestDays_39 : decode cX3_fewestDays 39 = .ok (.ifCond .eq 17, 3) := by decide +kernel
theorem dX3_fewestDays_42 : decode cX3_fewestDays 42 = .ok (.aload_n 0, 1) := by decide +kernel
theorem dX3_fewestDays_43 : decode cX3_fewestDays 43 = .ok (.iload_n 1, 1) := by decide +kernel
theorem dX3_fewestDays_44 : decode cX3_fewestDays 44 = .ok (.iload_n 2, 1) := by decide +kernel
theorem dX3_fewestDays_45 : decode cX3_fewestDays 45 = .ok (.iload 4, 2) := by decide +kernel
theorem dX3_fewestDays_47 : decode cX3_fewestDays 47 = .ok (.invokevirtual 183, 3) := by decide +kernel
theorem dX3_fewestDays_50 : decode cX3_fewestDays 50 = .ok (.ifCond .eq 6, 3) := by decide +kernel
theorem dX3_fewestDays_53 : decode cX3_fewestDays 53 = .ok (.iload 4, 2) := by decide +kernel
theorem dX3_fewestDays_55 : decode cX3_fewestDays 55 = .ok (.istore_n 3, 1) := by decide +kernel
theorem dX3_fewestDays_56 : decode cX3_fewestDays 56 = .ok (.iinc 4 1, 3) := by decide +kernel
theorem dX3_fewestDays_59 : decode cX3_fewestDays 59 = .ok (.goto (-54), 3) := by decide +kernel
theorem dX3_fewestDays_62 : decode cX3_fewestDays 62 = .ok (.iload_n 3, 1) := by decide +kernel
theorem dX3_fewestDays_63 : decode cX3_fewestDays 63 = .ok (.ireturn, 1) := by decide +kernel
theorem dX3_isFollowedIn_0 : decode cX3_isFollowedIn 0 = .ok (.iload_n 0, 1) := by decide +kernel
theorem dX3_isFollowedIn_1 : decode cX3_isFollowedIn 1 = .ok (.iconst 2, 1) := by decide +kernel
theorem dX3_isFollowedIn_2 : decode cX3_isFollowedIn 2 = .ok (.iand, 1) := by decide +kernel
theorem dX3_isFollowedIn_3 : decode cX3_isFollowedIn 3 = .ok (.ifCond .ne 7, 3) := by decide +kernel
theorem dX3_isFollowedIn_6 : decode cX3_isFollowedIn 6 = .ok (.iconst 1, 1) := by decide +kernel
theorem dX3_isFollowedIn_7 : decode cX3_isFollowedIn 7 = .ok (.goto 4, 3) := by decide +kernel
theorem dX3_isFollowedIn_10 : decode cX3_isFollowedIn 10 = .ok (.iconst 0, 1) := by decide +kernel
theorem dX3_isFollowedIn_11 : decode cX3_isFollowedIn 11 = .ok (.ireturn, 1) := by decide +kernel
theorem dX3_isItIn_0 : decode cX3_isItIn 0 = .ok (.iload_n 2, 1) := by decide +kernel
theorem dX3_isItIn_1 : decode cX3_isItIn 1 = .ok (.iconst 1, 1) := by decide +kernel
theorem dX3_isItIn_2 : decode cX3_isItIn 2 = .ok (.iand, 1) := by decide +kernel
theorem dX3_isItIn_3 : decode cX3_isItIn 3 = .ok (.ifCond .ne 7, 3) := by decide +kernel
theorem dX3_isItIn_6 : decode cX3_isItIn 6 = .ok (.iconst 1, 1) := by decide +kernel
theorem dX3_isItIn_7 : decode cX3_isItIn 7 = .ok (.goto 4, 3) := by decide +kernel
theorem dX3_isItIn_10 : decode cX3_isItIn 10 = .ok (.iconst 0, 1) := by decide +kernel
theorem dX3_isItIn_11 : decode cX3_isItIn 11 = .ok (.istore_n 3, 1) := by decide +kernel
theorem dX3_isItIn_12 : decode cX3_isItIn 12 = .ok (.iload_n 3, 1) := by decide +kernel
theorem dX3_isItIn_13 : decode cX3_isItIn 13 = .ok (.ifCond .eq 38, 3) := by decide +kernel
theorem dX3_isItIn_16 : decode cX3_isItIn 16 = .ok (.aload_n 0, 1) := by decide +kernel
theorem dX3_isItIn_17 : decode cX3_isItIn 17 = .ok (.getfield 12, 3) := by decide +kernel
theorem dX3_isItIn_20 : decode cX3_isItIn 20 = .ok (.getfield 122, 3) := by decide +kernel
theorem dX3_isItIn_23 : decode cX3_isItIn 23 = .ok (.iload_n 1, 1) := by decide +kernel
theorem dX3_isItIn_24 : decode cX3_isItIn 24 = .ok (.iaload, 1) := by decide +kernel
theorem dX3_isItIn_25 : decode cX3_isItIn 25 = .ok (.aload_n 0, 1) := by decide +kernel
theorem dX3_isItIn_26 : decode cX3_isItIn 26 = .ok (.getfield 12, 3) := by decide +kernel
theorem dX3_isItIn_29 : decode cX3_isItIn 29 = .ok (.getfield 119, 3) := by decide +kernel
theorem dX3_isItIn_32 : decode cX3_isItIn 32 = .ok (.iload_n 2, 1) := by decide +kernel
theorem dX3_isItIn_33 : decode cX3_isItIn 33 = .ok (.invokestatic 238, 3) := by decide +kernel
theorem dX3_isItIn_36 : decode cX3_isItIn 36 = .ok (.aload_n 0, 1) := by decide +kernel
theorem dX3_isItIn_37 : decode cX3_isItIn 37 = .ok (.getfield 12, 3) := by decide +kernel
theorem dX3_isItIn_40 : decode cX3_isItIn 40 = .ok (.getfield 126, 3) := by decide +kernel
theorem dX3_isItIn_43 : decode cX3_isItIn 43 = .ok (.iload_n 1, 1) := by decide +kernel
theorem dX3_isItIn_44 : decode cX3_isItIn 44 = .ok (.iaload, 1) := by decide +kernel
theorem dX3_isItIn_45 : decode cX3_isItIn 45 = .ok (.invokestatic 241, 3) := by decide +kernel
theorem dX3_isItIn_48 : decode cX3_isItIn 48 = .ok (.goto 4, 3) := by decide +kernel
theorem dX3_isItIn_51 : decode cX3_isItIn 51 = .ok (.iconst 0, 1) := by decide +kernel
theorem dX3_isItIn_52 : decode cX3_isItIn 52 = .ok (.istore 4, 2) := by decide +kernel
theorem dX3_isItIn_54 : decode cX3_isItIn 54 = .ok (.iload 4, 2) := by decide +kernel
theorem dX3_isItIn_56 : decode cX3_isItIn 56 = .ok (.aload_n 0, 1) := by decide +kernel
theorem dX3_isItIn_57 : decode cX3_isItIn 57 = .ok (.getfield 12, 3) := by decide +kernel
theorem dX3_isItIn_60 : decode cX3_isItIn 60 = .ok (.getfield 217, 3) := by decide +kernel
theorem dX3_isItIn_63 : decode cX3_isItIn 63 = .ok (.if_icmp .lt 7, 3) := by decide +kernel
theorem dX3_isItIn_66 : decode cX3_isItIn 66 = .ok (.iconst 1, 1) := by decide +kernel
theorem dX3_isItIn_67 : decode cX3_isItIn 67 = .ok (.goto 4, 3) := by decide +kernel
theorem dX3_isItIn_70 : decode cX3_isItIn 70 = .ok (.iconst 0, 1) := by decide +kernel
theorem dX3_isItIn_71 : decode cX3_isItIn 71 = .ok (.ireturn, 1) := by decide +kernel
theorem dX3_paysOne_0 : decode cX3_paysOne 0 = .ok (.iload_n 2, 1) := by decide +kernel
theorem dX3_paysOne_1 : decode cX3_paysOne 1 = .ok (.invokestatic 238, 3) := by decide +kernel
theorem dX3_paysOne_4 : decode cX3_paysOne 4 = .ok (.ifCond .ne 5, 3) := by decide +kernel
theorem dX3_paysOne_7 : decode cX3_paysOne 7 = .ok (.iconst 1, 1) := by decide +kernel
theorem dX3_paysOne_8 : decode cX3_paysOne 8 = .ok (.ireturn, 1) := by decide +kernel
theorem dX3_paysOne_9 : decode cX3_paysOne 9 = .ok (.aload_n 0, 1) := by decide +kernel
theorem dX3_paysOne_10 : decode cX3_paysOne 10 = .ok (.iload_n 1, 1) := by decide +kernel
theorem dX3_paysOne_11 : decode cX3_paysOne 11 = .ok (.iload_n 2, 1) := by decide +kernel
theorem dX3_paysOne_12 : decode cX3_paysOne 12 = .ok (.invokevirtual 244, 3) := by decide +kernel
theorem dX3_paysOne_15 : decode cX3_paysOne 15 = .ok (.ifCond .eq 7, 3) := by decide +kernel
theorem dX3_paysOne_18 : decode cX3_paysOne 18 = .ok (.iconst 2, 1) := by decide +kernel
theorem dX3_paysOne_19 : decode cX3_paysOne 19 = .ok (.goto 4, 3) := by decide +kernel
theorem dX3_paysOne_22 : decode cX3_paysOne 22 = .ok (.iconst 0, 1) := by decide +kernel
theorem dX3_paysOne_23 : decode cX3_paysOne 23 = .ok (.ireturn, 1) := by decide +kernel
theorem dX3_paysFollower_0 : decode cX3_paysFollower 0 = .ok (.iload_n 2, 1) := by decide +kernel
theorem dX3_paysFollower_1 : decode cX3_paysFollower 1 = .ok (.invokestatic 238, 3) := by decide +kernel
theorem dX3_paysFollower_4 : decode cX3_paysFollower 4 = .ok (.ifCond .eq 5, 3) := by decide +kernel
theorem dX3_paysFollower_7 : decode cX3_paysFollower 7 = .ok (.iconst 0, 1) := by decide +kernel
theorem dX3_paysFollower_8 : decode cX3_paysFollower 8 = .ok (.ireturn, 1) := by decide +kernel
theorem dX3_paysFollower_9 : decode cX3_paysFollower 9 = .ok (.aload_n 0, 1) := by decide +kernel
theorem dX3_paysFollower_10 : decode cX3_paysFollower 10 = .ok (.iload_n 1, 1) := by decide +kernel
theorem dX3_paysFollower_11 : decode cX3_paysFollower 11 = .ok (.iload_n 2, 1) := by decide +kernel
theorem dX3_paysFollower_12 : decode cX3_paysFollower 12 = .ok (.invokevirtual 244, 3) := by decide +kernel
theorem dX3_paysFollower_15 : decode cX3_paysFollower 15 = .ok (.ifCond .eq 7, 3) := by decide +kernel
theorem dX3_paysFollower_18 : decode cX3_paysFollower 18 = .ok (.iconst (-1), 1) := by decide +kernel
theorem dX3_paysFollower_19 : decode cX3_paysFollower 19 = .ok (.goto 4, 3) := by decide +kernel
theorem dX3_paysFollower_22 : decode cX3_paysFollower 22 = .ok (.iconst 1, 1) := by decide +kernel
theorem dX3_paysFollower_23 : decode cX3_paysFollower 23 = .ok (.ireturn, 1) := by decide +kernel
theorem dX3_mostAlike_0 : decode cX3_mostAlike 0 = .ok (.iconst 0, 1) := by decide +kernel
theorem dX3_mostAlike_1 : decode cX3_mostAlike 1 = .ok (.istore 4, 2) := by decide +kernel
theorem dX3_mostAlike_3 : decode cX3_mostAlike 3 = .ok (.iconst 0, 1) := by decide +kernel
theorem dX3_mostAlike_4 : decode cX3_mostAlike 4 = .ok (.istore 5, 2) := by decide +kernel
theorem dX3_mostAlike_6 : decode cX3_mostAlike 6 = .ok (.iload 5, 2) := by decide +kernel
theorem dX3_mostAlike_8 : decode cX3_mostAlike 8 = .ok (.bipush 6, 2) := by decide +kernel
theorem dX3_mostAlike_10 : decode cX3_mostAlike 10 = .ok (.if_icmp .ge 73, 3) := by decide +kernel
theorem dX3_mostAlike_13 : decode cX3_mostAlike 13 = .ok (.iload 5, 2) := by decide +kernel
theorem dX3_mostAlike_15 : decode cX3_mostAlike 15 = .ok (.iload_n 1, 1) := by decide +kernel
theorem dX3_mostAlike_16 : decode cX3_mostAlike 16 = .ok (.iload_n 2, 1) := by decide +kernel
theorem dX3_mostAlike_17 : decode cX3_mostAlike 17 = .ok (.iload_n 3, 1) := by decide +kernel
theorem dX3_mostAlike_18 : decode cX3_mostAlike 18 = .ok (.invokestatic 241, 3) := by decide +kernel
theorem dX3_mostAlike_21 : decode cX3_mostAlike 21 = .ok (.istore 6, 2) := by decide +kernel
theorem dX3_mostAlike_23 : decode cX3_mostAlike 23 = .ok (.iconst 0, 1) := by decide +kernel
theorem dX3_mostAlike_24 : decode cX3_mostAlike 24 = .ok (.istore 7, 2) := by decide +kernel
theorem dX3_mostAlike_26 : decode cX3_mostAlike 26 = .ok (.iconst 0, 1) := by decide +kernel
theorem dX3_mostAlike_27 : decode cX3_mostAlike 27 = .ok (.istore 8, 2) := by decide +kernel
theorem dX3_mostAlike_29 : decode cX3_mostAlike 29 = .ok (.iload 8, 2) := by decide +kernel
theorem dX3_mostAlike_31 : decode cX3_mostAlike 31 = .ok (.bipush 6, 2) := by decide +kernel
theorem dX3_mostAlike_33 : decode cX3_mostAlike 33 = .ok (.if_icmp .ge 35, 3) := by decide +kernel
theorem dX3_mostAlike_36 : decode cX3_mostAlike 36 = .ok (.iload_n 0, 1) := by decide +kernel
theorem dX3_mostAlike_37 : decode cX3_mostAlike 37 = .ok (.iload 8, 2) := by decide +kernel
theorem dX3_mostAlike_39 : decode cX3_mostAlike 39 = .ok (.invokestatic 93, 3) := by decide +kernel
theorem dX3_mostAlike_42 : decode cX3_mostAlike 42 = .ok (.iconst 1, 1) := by decide +kernel
theorem dX3_mostAlike_43 : decode cX3_mostAlike 43 = .ok (.if_icmp .ne 19, 3) := by decide +kernel
theorem dX3_mostAlike_46 : decode cX3_mostAlike 46 = .ok (.iload 8, 2) := by decide +kernel
theorem dX3_mostAlike_48 : decode cX3_mostAlike 48 = .ok (.iload_n 1, 1) := by decide +kernel
theorem dX3_mostAlike_49 : decode cX3_mostAlike 49 = .ok (.iload_n 2, 1) := by decide +kernel
theorem dX3_mostAlike_50 : decode cX3_mostAlike 50 = .ok (.iload_n 3, 1) := by decide +kernel
theorem dX3_mostAlike_51 : decode cX3_mostAlike 51 = .ok (.invokestatic 241, 3) := by decide +kernel
theorem dX3_mostAlike_54 : decode cX3_mostAlike 54 = .ok (.iload 6, 2) := by decide +kernel
theorem dX3_mostAlike_56 : decode cX3_mostAlike 56 = .ok (.if_icmp .ne 6, 3) := by decide +kernel
theorem dX3_mostAlike_59 : decode cX3_mostAlike 59 = .ok (.iinc 7 1, 3) := by decide +kernel
theorem dX3_mostAlike_62 : decode cX3_mostAlike 62 = .ok (.iinc 8 1, 3) := by decide +kernel
theorem dX3_mostAlike_65 : decode cX3_mostAlike 65 = .ok (.goto (-36), 3) := by decide +kernel
theorem dX3_mostAlike_68 : decode cX3_mostAlike 68 = .ok (.iload 4, 2) := by decide +kernel
theorem dX3_mostAlike_70 : decode cX3_mostAlike 70 = .ok (.iload 7, 2) := by decide +kernel
theorem dX3_mostAlike_72 : decode cX3_mostAlike 72 = .ok (.invokestatic 248, 3) := by decide +kernel
theorem dX3_mostAlike_75 : decode cX3_mostAlike 75 = .ok (.istore 4, 2) := by decide +kernel
theorem dX3_mostAlike_77 : decode cX3_mostAlike 77 = .ok (.iinc 5 1, 3) := by decide +kernel
theorem dX3_mostAlike_80 : decode cX3_mostAlike 80 = .ok (.goto (-74), 3) := by decide +kernel
theorem dX3_mostAlike_83 : decode cX3_mostAlike 83 = .ok (.iload 4, 2) := by decide +kernel
theorem dX3_mostAlike_85 : decode cX3_mostAlike 85 = .ok (.ireturn, 1) := by decide +kernel
theorem dX3_tempersOfSource_0 : decode cX3_tempersOfSource 0 = .ok (.iconst 0, 1) := by decide +kernel
theorem dX3_tempersOfSource_1 : decode cX3_tempersOfSource 1 = .ok (.istore_n 1, 1) := by decide +kernel
theorem dX3_tempersOfSource_2 : decode cX3_tempersOfSource 2 = .ok (.iconst 0, 1) := by decide +kernel
theorem dX3_tempersOfSource_3 : decode cX3_tempersOfSource 3 = .ok (.istore_n 2, 1) := by decide +kernel
theorem dX3_tempersOfSource_4 : decode cX3_tempersOfSource 4 = .ok (.iload_n 2, 1) := by decide +kernel
theorem dX3_tempersOfSource_5 : decode cX3_tempersOfSource 5 = .ok (.bipush 100, 2) := by decide +kernel
theorem dX3_tempersOfSource_7 : decode cX3_tempersOfSource 7 = .ok (.if_icmp .gt 72, 3) := by decide +kernel
theorem dX3_tempersOfSource_10 : decode cX3_tempersOfSource 10 = .ok (.iconst 0, 1) := by decide +kernel
theorem dX3_tempersOfSource_11 : decode cX3_tempersOfSource 11 = .ok (.istore_n 3, 1) := by decide +kernel
theorem dX3_tempersOfSource_12 : decode cX3_tempersOfSource 12 = .ok (.iconst 0, 1) := by decide +kernel
theorem dX3_tempersOfSource_13 : decode cX3_tempersOfSource 13 = .ok (.istore 4, 2) := by decide +kernel
theorem dX3_tempersOfSource_15 : decode cX3_tempersOfSource 15 = .ok (.iload 4, 2) := by decide +kernel
theorem dX3_tempersOfSource_17 : decode cX3_tempersOfSource 17 = .ok (.aload_n 0, 1) := by decide +kernel
theorem dX3_tempersOfSource_18 : decode cX3_tempersOfSource 18 = .ok (.getfield 12, 3) := by decide +kernel
theorem dX3_tempersOfSource_21 : decode cX3_tempersOfSource 21 = .ok (.getfield 56, 3) := by decide +kernel
theorem dX3_tempersOfSource_24 : decode cX3_tempersOfSource 24 = .ok (.if_icmp .ge 35, 3) := by decide +kernel
theorem dX3_tempersOfSource_27 : decode cX3_tempersOfSource 27 = .ok (.iload_n 3, 1) := by decide +kernel
theorem dX3_tempersOfSource_28 : decode cX3_tempersOfSource 28 = .ok (.iload 4, 2) := by decide +kernel
theorem dX3_tempersOfSource_30 : decode cX3_tempersOfSource 30 = .ok (.aload_n 0, 1) := by decide +kernel
theorem dX3_tempersOfSource_31 : decode cX3_tempersOfSource 31 = .ok (.getfield 12, 3) := by decide +kernel
theorem dX3_tempersOfSource_34 : decode cX3_tempersOfSource 34 = .ok (.getfield 126, 3) := by decide +kernel
theorem dX3_tempersOfSource_37 : decode cX3_tempersOfSource 37 = .ok (.iload 4, 2) := by decide +kernel
theorem dX3_tempersOfSource_39 : decode cX3_tempersOfSource 39 = .ok (.iaload, 1) := by decide +kernel
theorem dX3_tempersOfSource_40 : decode cX3_tempersOfSource 40 = .ok (.iload_n 2, 1) := by decide +kernel
theorem dX3_tempersOfSource_41 : decode cX3_tempersOfSource 41 = .ok (.if_icmp .lt 7, 3) := by decide +kernel
theorem dX3_tempersOfSource_44 : decode cX3_tempersOfSource 44 = .ok (.iconst 1, 1) := by decide +kernel
theorem dX3_tempersOfSource_45 : decode cX3_tempersOfSource 45 = .ok (.goto 4, 3) := by decide +kernel
theorem dX3_tempersOfSource_48 : decode cX3_tempersOfSource 48 = .ok (.iconst 0, 1) := by decide +kernel
theorem dX3_tempersOfSource_49 : decode cX3_tempersOfSource 49 = .ok (.invokestatic 99, 3) := by decide +kernel
theorem dX3_tempersOfSource_52 : decode cX3_tempersOfSource 52 = .ok (.istore_n 3, 1) := by decide +kernel
theorem dX3_tempersOfSource_53 : decode cX3_tempersOfSource 53 = .ok (.iinc 4 1, 3) := by decide +kernel
theorem dX3_tempersOfSource_56 : decode cX3_tempersOfSource 56 = .ok (.goto (-41), 3) := by decide +kernel
theorem dX3_tempersOfSource_59 : decode cX3_tempersOfSource 59 = .ok (.iload_n 3, 1) := by decide +kernel
theorem dX3_tempersOfSource_60 : decode cX3_tempersOfSource 60 = .ok (.aload_n 0, 1) := by decide +kernel
theorem dX3_tempersOfSource_61 : decode cX3_tempersOfSource 61 = .ok (.getfield 12, 3) := by decide +kernel
theorem dX3_tempersOfSource_64 : decode cX3_tempersOfSource 64 = .ok (.getfield 90, 3) := by decide +kernel
theorem dX3_tempersOfSource_67 : decode cX3_tempersOfSource 67 = .ok (.if_icmp .ne 6, 3) := by decide +kernel
theorem dX3_tempersOfSource_70 : decode cX3_tempersOfSource 70 = .ok (.iinc 1 1, 3) := by decide +kernel
theorem dX3_tempersOfSource_73 : decode cX3_tempersOfSource 73 = .ok (.iinc 2 1, 3) := by decide +kernel
theorem dX3_tempersOfSource_76 : decode cX3_tempersOfSource 76 = .ok (.goto (-72), 3) := by decide +kernel
theorem dX3_tempersOfSource_79 : decode cX3_tempersOfSource 79 = .ok (.iload_n 1, 1) := by decide +kernel
theorem dX3_tempersOfSource_80 : decode cX3_tempersOfSource 80 = .ok (.ireturn, 1) := by decide +kernel
theorem dX3_kindsOfSource_0 : decode cX3_kindsOfSource 0 = .ok (.iconst 0, 1) := by decide +kernel
theorem dX3_kindsOfSource_1 : decode cX3_kindsOfSource 1 = .ok (.istore_n 1, 1) := by decide +kernel
theorem dX3_kindsOfSource_2 : decode cX3_kindsOfSource 2 = .ok (.iload_n 1, 1) := by decide +kernel
theorem dX3_kindsOfSource_3 : decode cX3_kindsOfSource 3 = .ok (.bipush 6, 2) := by decide +kernel
theorem dX3_kindsOfSource_5 : decode cX3_kindsOfSource 5 = .ok (.if_icmp .ge 75, 3) := by decide +kernel
theorem dX3_kindsOfSource_8 : decode cX3_kindsOfSource 8 = .ok (.iconst 0, 1) := by decide +kernel
theorem dX3_kindsOfSource_9 : decode cX3_kindsOfSource 9 = .ok (.istore_n 2, 1) := by decide +kernel
theorem dX3_kindsOfSource_10 : decode cX3_kindsOfSource 10 = .ok (.iconst 0, 1) := by decide +kernel
theorem dX3_kindsOfSource_11 : decode cX3_kindsOfSource 11 = .ok (.istore_n 3, 1) := by decide +kernel
theorem dX3_kindsOfSource_12 : decode cX3_kindsOfSource 12 = .ok (.iload_n 3, 1) := by decide +kernel
theorem dX3_kindsOfSource_13 : decode cX3_kindsOfSource 13 = .ok (.aload_n 0, 1) := by decide +kernel
theorem dX3_kindsOfSource_14 : decode cX3_kindsOfSource 14 = .ok (.getfield 12, 3) := by decide +kernel
theorem dX3_kindsOfSource_17 : decode cX3_kindsOfSource 17 = .ok (.getfield 56, 3) := by decide +kernel
theorem dX3_kindsOfSource_20 : decode cX3_kindsOfSource 20 = .ok (.if_icmp .ge 33, 3) := by decide +kernel
theorem dX3_kindsOfSource_23 : decode cX3_kindsOfSource 23 = .ok (.iload_n 2, 1) := by decide +kernel
theorem dX3_kindsOfSource_24 : decode cX3_kindsOfSource 24 = .ok (.iload_n 3, 1) := by decide +kernel
theorem dX3_kindsOfSource_25 : decode cX3_kindsOfSource 25 = .ok (.aload_n 0, 1) := by decide +kernel
theorem dX3_kindsOfSource_26 : decode cX3_kindsOfSource 26 = .ok (.getfield 12, 3) := by decide +kernel
theorem dX3_kindsOfSource_29 : decode cX3_kindsOfSource 29 = .ok (.getfield 122, 3) := by decide +kernel
theorem dX3_kindsOfSource_32 : decode cX3_kindsOfSource 32 = .ok (.iload_n 3, 1) := by decide +kernel
theorem dX3_kindsOfSource_33 : decode cX3_kindsOfSource 33 = .ok (.iaload, 1) := by decide +kernel
theorem dX3_kindsOfSource_34 : decode cX3_kindsOfSource 34 = .ok (.iload_n 1, 1) := by decide +kernel
theorem dX3_kindsOfSource_35 : decode cX3_kindsOfSource 35 = .ok (.if_icmp .ne 7, 3) := by decide +kernel
theorem dX3_kindsOfSource_38 : decode cX3_kindsOfSource 38 = .ok (.iconst 1, 1) := by decide +kernel
theorem dX3_kindsOfSource_39 : decode cX3_kindsOfSource 39 = .ok (.goto 4, 3) := by decide +kernel
theorem dX3_kindsOfSource_42 : decode cX3_kindsOfSource 42 = .ok (.iconst 0, 1) := by decide +kernel
theorem dX3_kindsOfSource_43 : decode cX3_kindsOfSource 43 = .ok (.invokestatic 99, 3) := by decide +kernel
theorem dX3_kindsOfSource_46 : decode cX3_kindsOfSource 46 = .ok (.istore_n 2, 1) := by decide +kernel
theorem dX3_kindsOfSource_47 : decode cX3_kindsOfSource 47 = .ok (.iinc 3 1, 3) := by decide +kernel
theorem dX3_kindsOfSource_50 : decode cX3_kindsOfSource 50 = .ok (.goto (-38), 3) := by decide +kernel
theorem dX3_kindsOfSource_53 : decode cX3_kindsOfSource 53 = .ok (.iload_n 2, 1) := by decide +kernel
theorem dX3_kindsOfSource_54 : decode cX3_kindsOfSource 54 = .ok (.aload_n 0, 1) := by decide +kernel
theorem dX3_kindsOfSource_55 : decode cX3_kindsOfSource 55 = .ok (.getfield 12, 3) := by decide +kernel
theorem dX3_kindsOfSource_58 : decode cX3_kindsOfSource 58 = .ok (.getfield 90, 3) := by decide +kernel
theorem dX3_kindsOfSource_61 : decode cX3_kindsOfSource 61 = .ok (.iand, 1) := by decide +kernel
theorem dX3_kindsOfSource_62 : decode cX3_kindsOfSource 62 = .ok (.istore_n 3, 1) := by decide +kernel
theorem dX3_kindsOfSource_63 : decode cX3_kindsOfSource 63 = .ok (.iload_n 3, 1) := by decide +kernel
theorem dX3_kindsOfSource_64 : decode cX3_kindsOfSource 64 = .ok (.ifCond .eq 10, 3) := by decide +kernel
theorem dX3_kindsOfSource_67 : decode cX3_kindsOfSource 67 = .ok (.iload_n 3, 1) := by decide +kernel
theorem dX3_kindsOfSource_68 : decode cX3_kindsOfSource 68 = .ok (.iload_n 2, 1) := by decide +kernel
theorem dX3_kindsOfSource_69 : decode cX3_kindsOfSource 69 = .ok (.if_icmp .eq 5, 3) := by decide +kernel
theorem dX3_kindsOfSource_72 : decode cX3_kindsOfSource 72 = .ok (.iconst 0, 1) := by decide +kernel
theorem dX3_kindsOfSource_73 : decode cX3_kindsOfSource 73 = .ok (.ireturn, 1) := by decide +kernel
theorem dX3_kindsOfSource_74 : decode cX3_kindsOfSource 74 = .ok (.iinc 1 1, 3) := by decide +kernel
theorem dX3_kindsOfSource_77 : decode cX3_kindsOfSource 77 = .ok (.goto (-75), 3) := by decide +kernel
theorem dX3_kindsOfSource_80 : decode cX3_kindsOfSource 80 = .ok (.iconst 1, 1) := by decide +kernel
theorem dX3_kindsOfSource_81 : decode cX3_kindsOfSource 81 = .ok (.ireturn, 1) := by decide +kernel
theorem dX3_setFraction_0 : decode cX3_setFraction 0 = .ok (.lload_n 1, 1) := by decide +kernel
theorem dX3_setFraction_1 : decode cX3_setFraction 1 = .ok (.lstore 5, 2) := by decide +kernel
theorem dX3_setFraction_3 : decode cX3_setFraction 3 = .ok (.lload_n 3, 1) := by decide +kernel
theorem dX3_setFraction_4 : decode cX3_setFraction 4 = .ok (.lstore 7, 2) := by decide +kernel
theorem dX3_setFraction_6 : decode cX3_setFraction 6 = .ok (.iconst 0, 1) := by decide +kernel
theorem dX3_setFraction_7 : decode cX3_setFraction 7 = .ok (.istore 9, 2) := by decide +kernel
theorem dX3_setFraction_9 : decode cX3_setFraction 9 = .ok (.iload 9, 2) := by decide +kernel
theorem dX3_setFraction_11 : decode cX3_setFraction 11 = .ok (.sipush 200, 3) := by decide +kernel
theorem dX3_setFraction_14 : decode cX3_setFraction 14 = .ok (.if_icmp .ge 31, 3) := by decide +kernel
theorem dX3_setFraction_17 : decode cX3_setFraction 17 = .ok (.lload 7, 2) := by decide +kernel
theorem dX3_setFraction_19 : decode cX3_setFraction 19 = .ok (.lconst 0, 1) := by decide +kernel
theorem dX3_setFraction_20 : decode cX3_setFraction 20 = .ok (.lcmp, 1) := by decide +kernel
theorem dX3_setFraction_21 : decode cX3_setFraction 21 = .ok (.ifCond .eq 24, 3) := by decide +kernel
theorem dX3_setFraction_24 : decode cX3_setFraction 24 = .ok (.lload 5, 2) := by decide +kernel
theorem dX3_setFraction_26 : decode cX3_setFraction 26 = .ok (.lload 7, 2) := by decide +kernel
theorem dX3_setFraction_28 : decode cX3_setFraction 28 = .ok (.lrem, 1) := by decide +kernel
theorem dX3_setFraction_29 : decode cX3_setFraction 29 = .ok (.lstore 10, 2) := by decide +kernel
theorem dX3_setFraction_31 : decode cX3_setFraction 31 = .ok (.lload 7, 2) := by decide +kernel
theorem dX3_setFraction_33 : decode cX3_setFraction 33 = .ok (.lstore 5, 2) := by decide +kernel
theorem dX3_setFraction_35 : decode cX3_setFraction 35 = .ok (.lload 10, 2) := by decide +kernel
theorem dX3_setFraction_37 : decode cX3_setFraction 37 = .ok (.lstore 7, 2) := by decide +kernel
theorem dX3_setFraction_39 : decode cX3_setFraction 39 = .ok (.iinc 9 1, 3) := by decide +kernel
theorem dX3_setFraction_42 : decode cX3_setFraction 42 = .ok (.goto (-33), 3) := by decide +kernel
theorem dX3_setFraction_45 : decode cX3_setFraction 45 = .ok (.lload 5, 2) := by decide +kernel
theorem dX3_setFraction_47 : decode cX3_setFraction 47 = .ok (.lconst 0, 1) := by decide +kernel
theorem dX3_setFraction_48 : decode cX3_setFraction 48 = .ok (.lcmp, 1) := by decide +kernel
theorem dX3_setFraction_49 : decode cX3_setFraction 49 = .ok (.ifCond .le 19, 3) := by decide +kernel
theorem dX3_setFraction_52 : decode cX3_setFraction 52 = .ok (.aload_n 0, 1) := by decide +kernel
theorem dX3_setFraction_53 : decode cX3_setFraction 53 = .ok (.lload_n 1, 1) := by decide +kernel
theorem dX3_setFraction_54 : decode cX3_setFraction 54 = .ok (.lload 5, 2) := by decide +kernel
theorem dX3_setFraction_56 : decode cX3_setFraction 56 = .ok (.ldiv, 1) := by decide +kernel
theorem dX3_setFraction_57 : decode cX3_setFraction 57 = .ok (.putfield 41, 3) := by decide +kernel
theorem dX3_setFraction_60 : decode cX3_setFraction 60 = .ok (.aload_n 0, 1) := by decide +kernel
theorem dX3_setFraction_61 : decode cX3_setFraction 61 = .ok (.lload_n 3, 1) := by decide +kernel
theorem dX3_setFraction_62 : decode cX3_setFraction 62 = .ok (.lload 5, 2) := by decide +kernel
theorem dX3_setFraction_64 : decode cX3_setFraction 64 = .ok (.ldiv, 1) := by decide +kernel
theorem dX3_setFraction_65 : decode cX3_setFraction 65 = .ok (.putfield 45, 3) := by decide +kernel
theorem dX3_setFraction_68 : decode cX3_setFraction 68 = .ok (.return_, 1) := by decide +kernel
theorem dX3_actOf_0 : decode cX3_actOf 0 = .ok (.iload_n 3, 1) := by decide +kernel
theorem dX3_actOf_1 : decode cX3_actOf 1 = .ok (.bipush 6, 2) := by decide +kernel
theorem dX3_actOf_3 : decode cX3_actOf 3 = .ok (.idiv, 1) := by decide +kernel
theorem dX3_actOf_4 : decode cX3_actOf 4 = .ok (.iconst 5, 1) := by decide +kernel
theorem dX3_actOf_5 : decode cX3_actOf 5 = .ok (.invokestatic 253, 3) := by decide +kernel
theorem dX3_actOf_8 : decode cX3_actOf 8 = .ok (.istore 4, 2) := by decide +kernel
theorem dX3_actOf_10 : decode cX3_actOf 10 = .ok (.iload 4, 2) := by decide +kernel
theorem dX3_actOf_12 : decode cX3_actOf 12 = .ok (.iconst 2, 1) := by decide +kernel
theorem dX3_actOf_13 : decode cX3_actOf 13 = .ok (.isub, 1) := by decide +kernel
theorem dX3_actOf_14 : decode cX3_actOf 14 = .ok (.iconst 0, 1) := by decide +kernel
theorem dX3_actOf_15 : decode cX3_actOf 15 = .ok (.invokestatic 248, 3) := by decide +kernel
theorem dX3_actOf_18 : decode cX3_actOf 18 = .ok (.istore 5, 2) := by decide +kernel
theorem dX3_actOf_20 : decode cX3_actOf 20 = .ok (.iload_n 2, 1) := by decide +kernel
theorem dX3_actOf_21 : decode cX3_actOf 21 = .ok (.ifCond .eq 14, 3) := by decide +kernel
theorem dX3_actOf_24 : decode cX3_actOf 24 = .ok (.iload 4, 2) := by decide +kernel
theorem dX3_actOf_26 : decode cX3_actOf 26 = .ok (.iconst 1, 1) := by decide +kernel
theorem dX3_actOf_27 : decode cX3_actOf 27 = .ok (.iadd, 1) := by decide +kernel
theorem dX3_actOf_28 : decode cX3_actOf 28 = .ok (.iconst 5, 1) := by decide +kernel
theorem dX3_actOf_29 : decode cX3_actOf 29 = .ok (.invokestatic 253, 3) := by decide +kernel
theorem dX3_actOf_32 : decode cX3_actOf 32 = .ok (.goto 5, 3) := by decide +kernel
theorem dX3_actOf_35 : decode cX3_actOf 35 = .ok (.iload 4, 2) := by decide +kernel
theorem dX3_actOf_37 : decode cX3_actOf 37 = .ok (.istore 6, 2) := by decide +kernel
theorem dX3_actOf_39 : decode cX3_actOf 39 = .ok (.iload_n 0, 1) := by decide +kernel
theorem dX3_actOf_40 : decode cX3_actOf 40 = .ok (.tableswitch 74 0 4 #[36, 39, 42, 53, 56], 36) := by decide +kernel
theorem dX3_actOf_76 : decode cX3_actOf 76 = .ok (.iload 4, 2) := by decide +kernel
theorem dX3_actOf_78 : decode cX3_actOf 78 = .ok (.ireturn, 1) := by decide +kernel
theorem dX3_actOf_79 : decode cX3_actOf 79 = .ok (.iload 5, 2) := by decide +kernel
theorem dX3_actOf_81 : decode cX3_actOf 81 = .ok (.ireturn, 1) := by decide +kernel
theorem dX3_actOf_82 : decode cX3_actOf 82 = .ok (.iload_n 2, 1) := by decide +kernel
theorem dX3_actOf_83 : decode cX3_actOf 83 = .ok (.ifCond .eq 7, 3) := by decide +kernel
theorem dX3_actOf_86 : decode cX3_actOf 86 = .ok (.iconst 0, 1) := by decide +kernel
theorem dX3_actOf_87 : decode cX3_actOf 87 = .ok (.goto 5, 3) := by decide +kernel
theorem dX3_actOf_90 : decode cX3_actOf 90 = .ok (.iload 4, 2) := by decide +kernel
theorem dX3_actOf_92 : decode cX3_actOf 92 = .ok (.ireturn, 1) := by decide +kernel
theorem dX3_actOf_93 : decode cX3_actOf 93 = .ok (.iload 6, 2) := by decide +kernel
theorem dX3_actOf_95 : decode cX3_actOf 95 = .ok (.ireturn, 1) := by decide +kernel
theorem dX3_actOf_96 : decode cX3_actOf 96 = .ok (.iload_n 1, 1) := by decide +kernel
theorem dX3_actOf_97 : decode cX3_actOf 97 = .ok (.iconst 3, 1) := by decide +kernel
theorem dX3_actOf_98 : decode cX3_actOf 98 = .ok (.irem, 1) := by decide +kernel
theorem dX3_actOf_99 : decode cX3_actOf 99 = .ok (.ifCond .ne 12, 3) := by decide +kernel
theorem dX3_actOf_102 : decode cX3_actOf 102 = .ok (.iload 5, 2) := by decide +kernel
theorem dX3_actOf_104 : decode cX3_actOf 104 = .ok (.iconst 1, 1) := by decide +kernel
theorem dX3_actOf_105 : decode cX3_actOf 105 = .ok (.invokestatic 248, 3) := by decide +kernel
theorem dX3_actOf_108 : decode cX3_actOf 108 = .ok (.goto 5, 3) := by decide +kernel
theorem dX3_actOf_111 : decode cX3_actOf 111 = .ok (.iload 5, 2) := by decide +kernel
theorem dX3_actOf_113 : decode cX3_actOf 113 = .ok (.ireturn, 1) := by decide +kernel
theorem dX3_actOf_114 : decode cX3_actOf 114 = .ok (.iload_n 1, 1) := by decide +kernel
theorem dX3_actOf_115 : decode cX3_actOf 115 = .ok (.iconst 2, 1) := by decide +kernel
theorem dX3_actOf_116 : decode cX3_actOf 116 = .ok (.irem, 1) := by decide +kernel
theorem dX3_actOf_117 : decode cX3_actOf 117 = .ok (.ifCond .ne 7, 3) := by decide +kernel
theorem dX3_actOf_120 : decode cX3_actOf 120 = .ok (.iconst 0, 1) := by decide +kernel
theorem dX3_actOf_121 : decode cX3_actOf 121 = .ok (.goto 5, 3) := by decide +kernel
theorem dX3_actOf_124 : decode cX3_actOf 124 = .ok (.iload 6, 2) := by decide +kernel
theorem dX3_actOf_126 : decode cX3_actOf 126 = .ok (.ireturn, 1) := by decide +kernel
theorem dX3_moreOf_0 : decode cX3_moreOf 0 = .ok (.iload_n 0, 1) := by decide +kernel
theorem dX3_moreOf_1 : decode cX3_moreOf 1 = .ok (.tableswitch 41 0 4 #[35, 37, 39, 41, 39], 35) := by decide +kernel
theorem dX3_moreOf_36 : decode cX3_moreOf 36 = .ok (.iconst 2, 1) := by decide +kernel
theorem dX3_moreOf_37 : decode cX3_moreOf 37 = .ok (.ireturn, 1) := by decide +kernel
theorem dX3_moreOf_38 : decode cX3_moreOf 38 = .ok (.iconst 0, 1) := by decide +kernel
theorem dX3_moreOf_39 : decode cX3_moreOf 39 = .ok (.ireturn, 1) := by decide +kernel
theorem dX3_moreOf_40 : decode cX3_moreOf 40 = .ok (.iconst 1, 1) := by decide +kernel
theorem dX3_moreOf_41 : decode cX3_moreOf 41 = .ok (.ireturn, 1) := by decide +kernel
theorem dX3_moreOf_42 : decode cX3_moreOf 42 = .ok (.iconst 4, 1) := by decide +kernel
theorem dX3_moreOf_43 : decode cX3_moreOf 43 = .ok (.ireturn, 1) := by decide +kernel
