theorem dX0_init_0 : decode cX0_init 0 = .ok (.aload_n 0, 1) := by decide +kernel
theorem dX0_init_1 : decode cX0_init 1 = .ok (.invokespecial 3, 3) := by decide +kernel
theorem dX0_init_4 : decode cX0_init 4 = .ok (.aload_n 0, 1) := by decide +kernel
theorem dX0_init_5 : decode cX0_init 5 = .ok (.sipush 150, 3) := by decide +kernel
theorem dX0_init_8 : decode cX0_init 8 = .ok (.newarray .byte, 2) := by decide +kernel
theorem dX0_init_10 : decode cX0_init 10 = .ok (.putfield 9, 3) := by decide +kernel
theorem dX0_init_13 : decode cX0_init 13 = .ok (.return_, 1) := by decide +kernel
theorem dX0_add_0 : decode cX0_add 0 = .ok (.aload_n 0, 1) := by decide +kernel
theorem dX0_add_1 : decode cX0_add 1 = .ok (.getfield 15, 3) := by decide +kernel
theorem dX0_add_4 : decode cX0_add 4 = .ok (.sipush 150, 3) := by decide +kernel
theorem dX0_add_7 : decode cX0_add 7 = .ok (.if_icmp .ge 24, 3) := by decide +kernel
theorem dX0_add_10 : decode cX0_add 10 = .ok (.aload_n 0, 1) := by decide +kernel
theorem dX0_add_11 : decode cX0_add 11 = .ok (.getfield 9, 3) := by decide +kernel
theorem dX0_add_14 : decode cX0_add 14 = .ok (.aload_n 0, 1) := by decide +kernel
theorem dX0_add_15 : decode cX0_add 15 = .ok (.getfield 15, 3) := by decide +kernel
theorem dX0_add_18 : decode cX0_add 18 = .ok (.iload_n 1, 1) := by decide +kernel
theorem dX0_add_19 : decode cX0_add 19 = .ok (.i2b, 1) := by decide +kernel
theorem dX0_add_20 : decode cX0_add 20 = .ok (.bastore, 1) := by decide +kernel
theorem dX0_add_21 : decode cX0_add 21 = .ok (.aload_n 0, 1) := by decide +kernel
theorem dX0_add_22 : decode cX0_add 22 = .ok (.dup, 1) := by decide +kernel
theorem dX0_add_23 : decode cX0_add 23 = .ok (.getfield 15, 3) := by decide +kernel
theorem dX0_add_26 : decode cX0_add 26 = .ok (.iconst 1, 1) := by decide +kernel
theorem dX0_add_27 : decode cX0_add 27 = .ok (.iadd, 1) := by decide +kernel
theorem dX0_add_28 : decode cX0_add 28 = .ok (.putfield 15, 3) := by decide +kernel
theorem dX0_add_31 : decode cX0_add 31 = .ok (.aload_n 0, 1) := by decide +kernel
theorem dX0_add_32 : decode cX0_add 32 = .ok (.getfield 15, 3) := by decide +kernel
theorem dX0_add_35 : decode cX0_add 35 = .ok (.ireturn, 1) := by decide +kernel
theorem dX0_readInto_0 : decode cX0_readInto 0 = .ok (.aload_n 1, 1) := by decide +kernel
theorem dX0_readInto_1 : decode cX0_readInto 1 = .ok (.iconst 3, 1) := by decide +kernel
theorem dX0_readInto_2 : decode cX0_readInto 2 = .ok (.invokevirtual 19, 3) := by decide +kernel
theorem dX0_readInto_5 : decode cX0_readInto 5 = .ok (.aload_n 0, 1) := by decide +kernel
theorem dX0_readInto_6 : decode cX0_readInto 6 = .ok (.iconst 0, 1) := by decide +kernel
theorem dX0_readInto_7 : decode cX0_readInto 7 = .ok (.putfield 25, 3) := by decide +kernel
theorem dX0_readInto_10 : decode cX0_readInto 10 = .ok (.iconst 0, 1) := by decide +kernel
theorem dX0_readInto_11 : decode cX0_readInto 11 = .ok (.istore_n 2, 1) := by decide +kernel
theorem dX0_readInto_12 : decode cX0_readInto 12 = .ok (.iload_n 2, 1) := by decide +kernel
theorem dX0_readInto_13 : decode cX0_readInto 13 = .ok (.sipush 150, 3) := by decide +kernel
theorem dX0_readInto_16 : decode cX0_readInto 16 = .ok (.if_icmp .gt 46, 3) := by decide +kernel
theorem dX0_readInto_19 : decode cX0_readInto 19 = .ok (.aload_n 0, 1) := by decide +kernel
theorem dX0_readInto_20 : decode cX0_readInto 20 = .ok (.invokevirtual 28, 3) := by decide +kernel
theorem dX0_readInto_23 : decode cX0_readInto 23 = .ok (.iload_n 2, 1) := by decide +kernel
theorem dX0_readInto_24 : decode cX0_readInto 24 = .ok (.ifCond .le 12, 3) := by decide +kernel
theorem dX0_readInto_27 : decode cX0_readInto 27 = .ok (.aload_n 0, 1) := by decide +kernel
theorem dX0_readInto_28 : decode cX0_readInto 28 = .ok (.getfield 31, 3) := by decide +kernel
theorem dX0_readInto_31 : decode cX0_readInto 31 = .ok (.ifCond .ne 5, 3) := by decide +kernel
theorem dX0_readInto_34 : decode cX0_readInto 34 = .ok (.iload_n 2, 1) := by decide +kernel
theorem dX0_readInto_35 : decode cX0_readInto 35 = .ok (.ireturn, 1) := by decide +kernel
theorem dX0_readInto_36 : decode cX0_readInto 36 = .ok (.aload_n 0, 1) := by decide +kernel
theorem dX0_readInto_37 : decode cX0_readInto 37 = .ok (.aload_n 1, 1) := by decide +kernel
theorem dX0_readInto_38 : decode cX0_readInto 38 = .ok (.iload_n 2, 1) := by decide +kernel
theorem dX0_readInto_39 : decode cX0_readInto 39 = .ok (.ifCond .ne 7, 3) := by decide +kernel
theorem dX0_readInto_42 : decode cX0_readInto 42 = .ok (.iconst 1, 1) := by decide +kernel
theorem dX0_readInto_43 : decode cX0_readInto 43 = .ok (.goto 4, 3) := by decide +kernel
theorem dX0_readInto_46 : decode cX0_readInto 46 = .ok (.iconst 0, 1) := by decide +kernel
theorem dX0_readInto_47 : decode cX0_readInto 47 = .ok (.invokevirtual 34, 3) := by decide +kernel
theorem dX0_readInto_50 : decode cX0_readInto 50 = .ok (.ifCond .ne 6, 3) := by decide +kernel
theorem dX0_readInto_53 : decode cX0_readInto 53 = .ok (.goto 9, 3) := by decide +kernel
theorem dX0_readInto_56 : decode cX0_readInto 56 = .ok (.iinc 2 1, 3) := by decide +kernel
theorem dX0_readInto_59 : decode cX0_readInto 59 = .ok (.goto (-47), 3) := by decide +kernel
theorem dX0_readInto_62 : decode cX0_readInto 62 = .ok (.bipush (-10), 2) := by decide +kernel
theorem dX0_readInto_64 : decode cX0_readInto 64 = .ok (.aload_n 0, 1) := by decide +kernel
theorem dX0_readInto_65 : decode cX0_readInto 65 = .ok (.getfield 38, 3) := by decide +kernel
theorem dX0_readInto_68 : decode cX0_readInto 68 = .ok (.isub, 1) := by decide +kernel
theorem dX0_readInto_69 : decode cX0_readInto 69 = .ok (.ireturn, 1) := by decide +kernel
theorem dX0_takesItem_0 : decode cX0_takesItem 0 = .ok (.aload_n 0, 1) := by decide +kernel
theorem dX0_takesItem_1 : decode cX0_takesItem 1 = .ok (.ldc 41, 2) := by decide +kernel
theorem dX0_takesItem_3 : decode cX0_takesItem 3 = .ok (.invokevirtual 43, 3) := by decide +kernel
theorem dX0_takesItem_6 : decode cX0_takesItem 6 = .ok (.iload_n 2, 1) := by decide +kernel
theorem dX0_takesItem_7 : decode cX0_takesItem 7 = .ok (.if_icmp .eq 5, 3) := by decide +kernel
theorem dX0_takesItem_10 : decode cX0_takesItem 10 = .ok (.iconst 0, 1) := by decide +kernel
theorem dX0_takesItem_11 : decode cX0_takesItem 11 = .ok (.ireturn, 1) := by decide +kernel
theorem dX0_takesItem_12 : decode cX0_takesItem 12 = .ok (.iload_n 2, 1) := by decide +kernel
theorem dX0_takesItem_13 : decode cX0_takesItem 13 = .ok (.ifCond .eq 9, 3) := by decide +kernel
theorem dX0_takesItem_16 : decode cX0_takesItem 16 = .ok (.aload_n 0, 1) := by decide +kernel
theorem dX0_takesItem_17 : decode cX0_takesItem 17 = .ok (.aload_n 1, 1) := by decide +kernel
theorem dX0_takesItem_18 : decode cX0_takesItem 18 = .ok (.invokevirtual 47, 3) := by decide +kernel
theorem dX0_takesItem_21 : decode cX0_takesItem 21 = .ok (.ireturn, 1) := by decide +kernel
theorem dX0_takesItem_22 : decode cX0_takesItem 22 = .ok (.aload_n 0, 1) := by decide +kernel
theorem dX0_takesItem_23 : decode cX0_takesItem 23 = .ok (.ldc 51, 2) := by decide +kernel
theorem dX0_takesItem_25 : decode cX0_takesItem 25 = .ok (.invokevirtual 43, 3) := by decide +kernel
theorem dX0_takesItem_28 : decode cX0_takesItem 28 = .ok (.ifCond .eq 9, 3) := by decide +kernel
theorem dX0_takesItem_31 : decode cX0_takesItem 31 = .ok (.aload_n 0, 1) := by decide +kernel
theorem dX0_takesItem_32 : decode cX0_takesItem 32 = .ok (.aload_n 1, 1) := by decide +kernel
theorem dX0_takesItem_33 : decode cX0_takesItem 33 = .ok (.invokevirtual 53, 3) := by decide +kernel
theorem dX0_takesItem_36 : decode cX0_takesItem 36 = .ok (.ireturn, 1) := by decide +kernel
theorem dX0_takesItem_37 : decode cX0_takesItem 37 = .ok (.aload_n 0, 1) := by decide +kernel
theorem dX0_takesItem_38 : decode cX0_takesItem 38 = .ok (.ldc 56, 2) := by decide +kernel
theorem dX0_takesItem_40 : decode cX0_takesItem 40 = .ok (.invokevirtual 43, 3) := by decide +kernel
theorem dX0_takesItem_43 : decode cX0_takesItem 43 = .ok (.ifCond .eq 9, 3) := by decide +kernel
theorem dX0_takesItem_46 : decode cX0_takesItem 46 = .ok (.aload_n 0, 1) := by decide +kernel
theorem dX0_takesItem_47 : decode cX0_takesItem 47 = .ok (.aload_n 1, 1) := by decide +kernel
theorem dX0_takesItem_48 : decode cX0_takesItem 48 = .ok (.invokevirtual 58, 3) := by decide +kernel
theorem dX0_takesItem_51 : decode cX0_takesItem 51 = .ok (.ireturn, 1) := by decide +kernel
theorem dX0_takesItem_52 : decode cX0_takesItem 52 = .ok (.aload_n 0, 1) := by decide +kernel
theorem dX0_takesItem_53 : decode cX0_takesItem 53 = .ok (.ldc 61, 2) := by decide +kernel
theorem dX0_takesItem_55 : decode cX0_takesItem 55 = .ok (.invokevirtual 43, 3) := by decide +kernel
theorem dX0_takesItem_58 : decode cX0_takesItem 58 = .ok (.ifCond .eq 15, 3) := by decide +kernel
theorem dX0_takesItem_61 : decode cX0_takesItem 61 = .ok (.aload_n 0, 1) := by decide +kernel
theorem dX0_takesItem_62 : decode cX0_takesItem 62 = .ok (.aload_n 1, 1) := by decide +kernel
theorem dX0_takesItem_63 : decode cX0_takesItem 63 = .ok (.invokevirtual 63, 3) := by decide +kernel
theorem dX0_takesItem_66 : decode cX0_takesItem 66 = .ok (.ifCond .eq 7, 3) := by decide +kernel
theorem dX0_takesItem_69 : decode cX0_takesItem 69 = .ok (.iconst 1, 1) := by decide +kernel
theorem dX0_takesItem_70 : decode cX0_takesItem 70 = .ok (.goto 4, 3) := by decide +kernel
theorem dX0_takesItem_73 : decode cX0_takesItem 73 = .ok (.iconst 0, 1) := by decide +kernel
theorem dX0_takesItem_74 : decode cX0_takesItem 74 = .ok (.ireturn, 1) := by decide +kernel
theorem dX0_takesTown_0 : decode cX0_takesTown 0 = .ok (.aload_n 0, 1) := by decide +kernel
theorem dX0_takesTown_1 : decode cX0_takesTown 1 = .ok (.iconst 1, 1) := by decide +kernel
theorem dX0_takesTown_2 : decode cX0_takesTown 2 = .ok (.iconst 5, 1) := by decide +kernel
theorem dX0_takesTown_3 : decode cX0_takesTown 3 = .ok (.invokevirtual 66, 3) := by decide +kernel
theorem dX0_takesTown_6 : decode cX0_takesTown 6 = .ok (.ifCond .ne 5, 3) := by decide +kernel
theorem dX0_takesTown_9 : decode cX0_takesTown 9 = .ok (.iconst 0, 1) := by decide +kernel
theorem dX0_takesTown_10 : decode cX0_takesTown 10 = .ok (.ireturn, 1) := by decide +kernel
theorem dX0_takesTown_11 : decode cX0_takesTown 11 = .ok (.aload_n 1, 1) := by decide +kernel
theorem dX0_takesTown_12 : decode cX0_takesTown 12 = .ok (.aload_n 0, 1) := by decide +kernel
theorem dX0_takesTown_13 : decode cX0_takesTown 13 = .ok (.getfield 70, 3) := by decide +kernel
theorem dX0_takesTown_16 : decode cX0_takesTown 16 = .ok (.putfield 73, 3) := by decide +kernel
theorem dX0_takesTown_19 : decode cX0_takesTown 19 = .ok (.aload_n 0, 1) := by decide +kernel
theorem dX0_takesTown_20 : decode cX0_takesTown 20 = .ok (.invokevirtual 76, 3) := by decide +kernel
theorem dX0_takesTown_23 : decode cX0_takesTown 23 = .ok (.ireturn, 1) := by decide +kernel
theorem dX0_takesOne_0 : decode cX0_takesOne 0 = .ok (.aload_n 1, 1) := by decide +kernel
theorem dX0_takesOne_1 : decode cX0_takesOne 1 = .ok (.getfield 80, 3) := by decide +kernel
theorem dX0_takesOne_4 : decode cX0_takesOne 4 = .ok (.bipush 7, 2) := by decide +kernel
theorem dX0_takesOne_6 : decode cX0_takesOne 6 = .ok (.if_icmp .ge 12, 3) := by decide +kernel
theorem dX0_takesOne_9 : decode cX0_takesOne 9 = .ok (.aload_n 0, 1) := by decide +kernel
theorem dX0_takesOne_10 : decode cX0_takesOne 10 = .ok (.iconst 0, 1) := by decide +kernel
theorem dX0_takesOne_11 : decode cX0_takesOne 11 = .ok (.iconst 5, 1) := by decide +kernel
theorem dX0_takesOne_12 : decode cX0_takesOne 12 = .ok (.invokevirtual 66, 3) := by decide +kernel
theorem dX0_takesOne_15 : decode cX0_takesOne 15 = .ok (.ifCond .ne 5, 3) := by decide +kernel
theorem dX0_takesOne_18 : decode cX0_takesOne 18 = .ok (.iconst 0, 1) := by decide +kernel
theorem dX0_takesOne_19 : decode cX0_takesOne 19 = .ok (.ireturn, 1) := by decide +kernel
theorem dX0_takesOne_20 : decode cX0_takesOne 20 = .ok (.aload_n 0, 1) := by decide +kernel
theorem dX0_takesOne_21 : decode cX0_takesOne 21 = .ok (.getfield 70, 3) := by decide +kernel
theorem dX0_takesOne_24 : decode cX0_takesOne 24 = .ok (.istore_n 2, 1) := by decide +kernel
theorem dX0_takesOne_25 : decode cX0_takesOne 25 = .ok (.aload_n 0, 1) := by decide +kernel
theorem dX0_takesOne_26 : decode cX0_takesOne 26 = .ok (.iconst 0, 1) := by decide +kernel
theorem dX0_takesOne_27 : decode cX0_takesOne 27 = .ok (.bipush 30, 2) := by decide +kernel
theorem dX0_takesOne_29 : decode cX0_takesOne 29 = .ok (.invokevirtual 66, 3) := by decide +kernel
theorem dX0_takesOne_32 : decode cX0_takesOne 32 = .ok (.ifCond .ne 5, 3) := by decide +kernel
theorem dX0_takesOne_35 : decode cX0_takesOne 35 = .ok (.iconst 0, 1) := by decide +kernel
theorem dX0_takesOne_36 : decode cX0_takesOne 36 = .ok (.ireturn, 1) := by decide +kernel
theorem dX0_takesOne_37 : decode cX0_takesOne 37 = .ok (.aload_n 1, 1) := by decide +kernel
theorem dX0_takesOne_38 : decode cX0_takesOne 38 = .ok (.iload_n 2, 1) := by decide +kernel
theorem dX0_takesOne_39 : decode cX0_takesOne 39 = .ok (.aload_n 0, 1) := by decide +kernel
theorem dX0_takesOne_40 : decode cX0_takesOne 40 = .ok (.getfield 70, 3) := by decide +kernel
theorem dX0_takesOne_43 : decode cX0_takesOne 43 = .ok (.invokevirtual 83, 3) := by decide +kernel
theorem dX0_takesOne_46 : decode cX0_takesOne 46 = .ok (.pop, 1) := by decide +kernel
theorem dX0_takesOne_47 : decode cX0_takesOne 47 = .ok (.aload_n 0, 1) := by decide +kernel
theorem dX0_takesOne_48 : decode cX0_takesOne 48 = .ok (.invokevirtual 76, 3) := by decide +kernel
theorem dX0_takesOne_51 : decode cX0_takesOne 51 = .ok (.ireturn, 1) := by decide +kernel
theorem dX0_takesListed_0 : decode cX0_takesListed 0 = .ok (.aload_n 0, 1) := by decide +kernel
theorem dX0_takesListed_1 : decode cX0_takesListed 1 = .ok (.iconst 0, 1) := by decide +kernel
theorem dX0_takesListed_2 : decode cX0_takesListed 2 = .ok (.aload_n 1, 1) := by decide +kernel
theorem dX0_takesListed_3 : decode cX0_takesListed 3 = .ok (.getfield 80, 3) := by decide +kernel
theorem dX0_takesListed_6 : decode cX0_takesListed 6 = .ok (.iconst 1, 1) := by decide +kernel
theorem dX0_takesListed_7 : decode cX0_takesListed 7 = .ok (.isub, 1) := by decide +kernel
theorem dX0_takesListed_8 : decode cX0_takesListed 8 = .ok (.invokevirtual 66, 3) := by decide +kernel
theorem dX0_takesListed_11 : decode cX0_takesListed 11 = .ok (.ifCond .ne 5, 3) := by decide +kernel
theorem dX0_takesListed_14 : decode cX0_takesListed 14 = .ok (.iconst 0, 1) := by decide +kernel
theorem dX0_takesListed_15 : decode cX0_takesListed 15 = .ok (.ireturn, 1) := by decide +kernel
theorem dX0_takesListed_16 : decode cX0_takesListed 16 = .ok (.aload_n 1, 1) := by decide +kernel
theorem dX0_takesListed_17 : decode cX0_takesListed 17 = .ok (.aload_n 1, 1) := by decide +kernel
theorem dX0_takesListed_18 : decode cX0_takesListed 18 = .ok (.getfield 87, 3) := by decide +kernel
theorem dX0_takesListed_21 : decode cX0_takesListed 21 = .ok (.aload_n 0, 1) := by decide +kernel
theorem dX0_takesListed_22 : decode cX0_takesListed 22 = .ok (.getfield 70, 3) := by decide +kernel
theorem dX0_takesListed_25 : decode cX0_takesListed 25 = .ok (.iconst 1, 1) := by decide +kernel
theorem dX0_takesListed_26 : decode cX0_takesListed 26 = .ok (.invokestatic 90, 3) := by decide +kernel
theorem dX0_takesListed_29 : decode cX0_takesListed 29 = .ok (.putfield 87, 3) := by decide +kernel
theorem dX0_takesListed_32 : decode cX0_takesListed 32 = .ok (.aload_n 0, 1) := by decide +kernel
theorem dX0_takesListed_33 : decode cX0_takesListed 33 = .ok (.invokevirtual 76, 3) := by decide +kernel
theorem dX0_takesListed_36 : decode cX0_takesListed 36 = .ok (.ireturn, 1) := by decide +kernel
theorem dX0_takesFollowed_0 : decode cX0_takesFollowed 0 = .ok (.aload_n 0, 1) := by decide +kernel
theorem dX0_takesFollowed_1 : decode cX0_takesFollowed 1 = .ok (.iconst 0, 1) := by decide +kernel
theorem dX0_takesFollowed_2 : decode cX0_takesFollowed 2 = .ok (.aload_n 1, 1) := by decide +kernel
theorem dX0_takesFollowed_3 : decode cX0_takesFollowed 3 = .ok (.getfield 80, 3) := by decide +kernel
theorem dX0_takesFollowed_6 : decode cX0_takesFollowed 6 = .ok (.iconst 1, 1) := by decide +kernel
theorem dX0_takesFollowed_7 : decode cX0_takesFollowed 7 = .ok (.isub, 1) := by decide +kernel
theorem dX0_takesFollowed_8 : decode cX0_takesFollowed 8 = .ok (.invokevirtual 66, 3) := by decide +kernel
theorem dX0_takesFollowed_11 : decode cX0_takesFollowed 11 = .ok (.ifCond .ne 5, 3) := by decide +kernel
theorem dX0_takesFollowed_14 : decode cX0_takesFollowed 14 = .ok (.iconst 0, 1) := by decide +kernel
theorem dX0_takesFollowed_15 : decode cX0_takesFollowed 15 = .ok (.ireturn, 1) := by decide +kernel
theorem dX0_takesFollowed_16 : decode cX0_takesFollowed 16 = .ok (.aload_n 1, 1) := by decide +kernel
theorem dX0_takesFollowed_17 : decode cX0_takesFollowed 17 = .ok (.aload_n 1, 1) := by decide +kernel
theorem dX0_takesFollowed_18 : decode cX0_takesFollowed 18 = .ok (.getfield 94, 3) := by decide +kernel
theorem dX0_takesFollowed_21 : decode cX0_takesFollowed 21 = .ok (.aload_n 0, 1) := by decide +kernel
theorem dX0_takesFollowed_22 : decode cX0_takesFollowed 22 = .ok (.getfield 70, 3) := by decide +kernel
theorem dX0_takesFollowed_25 : decode cX0_takesFollowed 25 = .ok (.iconst 1, 1) := by decide +kernel
theorem dX0_takesFollowed_26 : decode cX0_takesFollowed 26 = .ok (.invokestatic 90, 3) := by decide +kernel
theorem dX0_takesFollowed_29 : decode cX0_takesFollowed 29 = .ok (.putfield 94, 3) := by decide +kernel
theorem dX0_takesFollowed_32 : decode cX0_takesFollowed 32 = .ok (.aload_n 0, 1) := by decide +kernel
theorem dX0_takesFollowed_33 : decode cX0_takesFollowed 33 = .ok (.invokevirtual 76, 3) := by decide +kernel
theorem dX0_takesFollowed_36 : decode cX0_takesFollowed 36 = .ok (.ireturn, 1) := by decide +kernel
theorem dX0_takesNumber_0 : decode cX0_takesNumber 0 = .ok (.aload_n 0, 1) := by decide +kernel
theorem dX0_takesNumber_1 : decode cX0_takesNumber 1 = .ok (.invokevirtual 28, 3) := by decide +kernel
theorem dX0_takesNumber_4 : decode cX0_takesNumber 4 = .ok (.aload_n 0, 1) := by decide +kernel
theorem dX0_takesNumber_5 : decode cX0_takesNumber 5 = .ok (.getfield 31, 3) := by decide +kernel
theorem dX0_takesNumber_8 : decode cX0_takesNumber 8 = .ok (.iconst 2, 1) := by decide +kernel
theorem dX0_takesNumber_9 : decode cX0_takesNumber 9 = .ok (.if_icmp .eq 5, 3) := by decide +kernel
theorem dX0_takesNumber_12 : decode cX0_takesNumber 12 = .ok (.iconst 0, 1) := by decide +kernel
theorem dX0_takesNumber_13 : decode cX0_takesNumber 13 = .ok (.ireturn, 1) := by decide +kernel
theorem dX0_takesNumber_14 : decode cX0_takesNumber 14 = .ok (.aload_n 0, 1) := by decide +kernel
theorem dX0_takesNumber_15 : decode cX0_takesNumber 15 = .ok (.iconst 0, 1) := by decide +kernel
theorem dX0_takesNumber_16 : decode cX0_takesNumber 16 = .ok (.putfield 70, 3) := by decide +kernel
theorem dX0_takesNumber_19 : decode cX0_takesNumber 19 = .ok (.aload_n 0, 1) := by decide +kernel
theorem dX0_takesNumber_20 : decode cX0_takesNumber 20 = .ok (.getfield 38, 3) := by decide +kernel
theorem dX0_takesNumber_23 : decode cX0_takesNumber 23 = .ok (.istore_n 3, 1) := by decide +kernel
theorem dX0_takesNumber_24 : decode cX0_takesNumber 24 = .ok (.iload_n 3, 1) := by decide +kernel
theorem dX0_takesNumber_25 : decode cX0_takesNumber 25 = .ok (.aload_n 0, 1) := by decide +kernel
theorem dX0_takesNumber_26 : decode cX0_takesNumber 26 = .ok (.getfield 25, 3) := by decide +kernel
theorem dX0_takesNumber_29 : decode cX0_takesNumber 29 = .ok (.if_icmp .ge 30, 3) := by decide +kernel
theorem dX0_takesNumber_32 : decode cX0_takesNumber 32 = .ok (.aload_n 0, 1) := by decide +kernel
theorem dX0_takesNumber_33 : decode cX0_takesNumber 33 = .ok (.bipush 10, 2) := by decide +kernel
theorem dX0_takesNumber_35 : decode cX0_takesNumber 35 = .ok (.aload_n 0, 1) := by decide +kernel
theorem dX0_takesNumber_36 : decode cX0_takesNumber 36 = .ok (.getfield 70, 3) := by decide +kernel
theorem dX0_takesNumber_39 : decode cX0_takesNumber 39 = .ok (.imul, 1) := by decide +kernel
theorem dX0_takesNumber_40 : decode cX0_takesNumber 40 = .ok (.aload_n 0, 1) := by decide +kernel
theorem dX0_takesNumber_41 : decode cX0_takesNumber 41 = .ok (.getfield 9, 3) := by decide +kernel
theorem dX0_takesNumber_44 : decode cX0_takesNumber 44 = .ok (.iload_n 3, 1) := by decide +kernel
theorem dX0_takesNumber_45 : decode cX0_takesNumber 45 = .ok (.baload, 1) := by decide +kernel
theorem dX0_takesNumber_46 : decode cX0_takesNumber 46 = .ok (.bipush 48, 2) := by decide +kernel
theorem dX0_takesNumber_48 : decode cX0_takesNumber 48 = .ok (.isub, 1) := by decide +kernel
theorem dX0_takesNumber_49 : decode cX0_takesNumber 49 = .ok (.iadd, 1) := by decide +kernel
theorem dX0_takesNumber_50 : decode cX0_takesNumber 50 = .ok (.putfield 70, 3) := by decide +kernel
theorem dX0_takesNumber_53 : decode cX0_takesNumber 53 = .ok (.iinc 3 1, 3) := by decide +kernel
theorem dX0_takesNumber_56 : decode cX0_takesNumber 56 = .ok (.goto (-32), 3) := by decide +kernel
theorem dX0_takesNumber_59 : decode cX0_takesNumber 59 = .ok (.aload_n 0, 1) := by decide +kernel
theorem dX0_takesNumber_60 : decode cX0_takesNumber 60 = .ok (.getfield 70, 3) := by decide +kernel
theorem dX0_takesNumber_63 : decode cX0_takesNumber 63 = .ok (.iload_n 1, 1) := by decide +kernel
theorem dX0_takesNumber_64 : decode cX0_takesNumber 64 = .ok (.iload_n 2, 1) := by decide +kernel
theorem dX0_takesNumber_65 : decode cX0_takesNumber 65 = .ok (.invokestatic 97, 3) := by decide +kernel
theorem dX0_takesNumber_68 : decode cX0_takesNumber 68 = .ok (.ireturn, 1) := by decide +kernel
theorem dX0_takesStop_0 : decode cX0_takesStop 0 = .ok (.aload_n 0, 1) := by decide +kernel
theorem dX0_takesStop_1 : decode cX0_takesStop 1 = .ok (.invokevirtual 28, 3) := by decide +kernel
theorem dX0_takesStop_4 : decode cX0_takesStop 4 = .ok (.aload_n 0, 1) := by decide +kernel
theorem dX0_takesStop_5 : decode cX0_takesStop 5 = .ok (.getfield 31, 3) := by decide +kernel
theorem dX0_takesStop_8 : decode cX0_takesStop 8 = .ok (.iconst 3, 1) := by decide +kernel
theorem dX0_takesStop_9 : decode cX0_takesStop 9 = .ok (.if_icmp .ne 7, 3) := by decide +kernel
theorem dX0_takesStop_12 : decode cX0_takesStop 12 = .ok (.iconst 1, 1) := by decide +kernel
theorem dX0_takesStop_13 : decode cX0_takesStop 13 = .ok (.goto 4, 3) := by decide +kernel
theorem dX0_takesStop_16 : decode cX0_takesStop 16 = .ok (.iconst 0, 1) := by decide +kernel
theorem dX0_takesStop_17 : decode cX0_takesStop 17 = .ok (.ireturn, 1) := by decide +kernel
theorem dX0_isWord_0 : decode cX0_isWord 0 = .ok (.aload_n 0, 1) := by decide +kernel
theorem dX0_isWord_1 : decode cX0_isWord 1 = .ok (.getfield 31, 3) := by decide +kernel
theorem dX0_isWord_4 : decode cX0_isWord 4 = .ok (.iconst 1, 1) := by decide +kernel
theorem dX0_isWord_5 : decode cX0_isWord 5 = .ok (.if_icmp .ne 19, 3) := by decide +kernel
theorem dX0_isWord_8 : decode cX0_isWord 8 = .ok (.aload_n 0, 1) := by decide +kernel
theorem dX0_isWord_9 : decode cX0_isWord 9 = .ok (.getfield 25, 3) := by decide +kernel
theorem dX0_isWord_12 : decode cX0_isWord 12 = .ok (.aload_n 0, 1) := by decide +kernel
theorem dX0_isWord_13 : decode cX0_isWord 13 = .ok (.getfield 38, 3) := by decide +kernel
theorem dX0_isWord_16 : decode cX0_isWord 16 = .ok (.isub, 1) := by decide +kernel
theorem dX0_isWord_17 : decode cX0_isWord 17 = .ok (.aload_n 1, 1) := by decide +kernel
theorem dX0_isWord_18 : decode cX0_isWord 18 = .ok (.invokevirtual 101, 3) := by decide +kernel
theorem dX0_isWord_21 : decode cX0_isWord 21 = .ok (.if_icmp .eq 5, 3) := by decide +kernel
theorem dX0_isWord_24 : decode cX0_isWord 24 = .ok (.iconst 0, 1) := by decide +kernel
theorem dX0_isWord_25 : decode cX0_isWord 25 = .ok (.ireturn, 1) := by decide +kernel
theorem dX0_isWord_26 : decode cX0_isWord 26 = .ok (.iconst 0, 1) := by decide +kernel
theorem dX0_isWord_27 : decode cX0_isWord 27 = .ok (.istore_n 2, 1) := by decide +kernel
theorem dX0_isWord_28 : decode cX0_isWord 28 = .ok (.iload_n 2, 1) := by decide +kernel
theorem dX0_isWord_29 : decode cX0_isWord 29 = .ok (.aload_n 1, 1) := by decide +kernel
theorem dX0_isWord_30 : decode cX0_isWord 30 = .ok (.invokevirtual 101, 3) := by decide +kernel
theorem dX0_isWord_33 : decode cX0_isWord 33 = .ok (.if_icmp .ge 30, 3) := by decide +kernel
theorem dX0_isWord_36 : decode cX0_isWord 36 = .ok (.aload_n 0, 1) := by decide +kernel
theorem dX0_isWord_37 : decode cX0_isWord 37 = .ok (.getfield 9, 3) := by decide +kernel
theorem dX0_isWord_40 : decode cX0_isWord 40 = .ok (.aload_n 0, 1) := by decide +kernel
theorem dX0_isWord_41 : decode cX0_isWord 41 = .ok (.getfield 38, 3) := by decide +kernel
theorem dX0_isWord_44 : decode cX0_isWord 44 = .ok (.iload_n 2, 1) := by decide +kernel
theorem dX0_isWord_45 : decode cX0_isWord 45 = .ok (.iadd, 1) := by decide +kernel
theorem dX0_isWord_46 : decode cX0_isWord 46 = .ok (.baload, 1) := by decide +kernel
theorem dX0_isWord_47 : decode cX0_isWord 47 = .ok (.aload_n 1, 1) := by decide +kernel
theorem dX0_isWord_48 : decode cX0_isWord 48 = .ok (.iload_n 2, 1) := by decide +kernel
theorem dX0_isWord_49 : decode cX0_isWord 49 = .ok (.invokevirtual 106, 3) := by decide +kernel
theorem dX0_isWord_52 : decode cX0_isWord 52 = .ok (.if_icmp .eq 5, 3) := by decide +kernel
theorem dX0_isWord_55 : decode cX0_isWord 55 = .ok (.iconst 0, 1) := by decide +kernel
theorem dX0_isWord_56 : decode cX0_isWord 56 = .ok (.ireturn, 1) := by decide +kernel
theorem dX0_isWord_57 : decode cX0_isWord 57 = .ok (.iinc 2 1, 3) := by decide +kernel
theorem dX0_isWord_60 : decode cX0_isWord 60 = .ok (.goto (-32), 3) := by decide +kernel
theorem dX0_isWord_63 : decode cX0_isWord 63 = .ok (.iconst 1, 1) := by decide +kernel
theorem dX0_isWord_64 : decode cX0_isWord 64 = .ok (.ireturn, 1) := by decide +kernel
theorem dX0_takeToken_0 : decode cX0_takeToken 0 = .ok (.aload_n 0, 1) := by decide +kernel
theorem dX0_takeToken_1 : decode cX0_takeToken 1 = .ok (.aload_n 0, 1) := by decide +kernel
theorem dX0_takeToken_2 : decode cX0_takeToken 2 = .ok (.getfield 25, 3) := by decide +kernel
theorem dX0_takeToken_5 : decode cX0_takeToken 5 = .ok (.putfield 38, 3) := by decide +kernel
theorem dX0_takeToken_8 : decode cX0_takeToken 8 = .ok (.aload_n 0, 1) := by decide +kernel
theorem dX0_takeToken_9 : decode cX0_takeToken 9 = .ok (.getfield 38, 3) := by decide +kernel
theorem dX0_takeToken_12 : decode cX0_takeToken 12 = .ok (.aload_n 0, 1) := by decide +kernel
theorem dX0_takeToken_13 : decode cX0_takeToken 13 = .ok (.getfield 15, 3) := by decide +kernel
theorem dX0_takeToken_16 : decode cX0_takeToken 16 = .ok (.if_icmp .ge 30, 3) := by decide +kernel
theorem dX0_takeToken_19 : decode cX0_takeToken 19 = .ok (.aload_n 0, 1) := by decide +kernel
theorem dX0_takeToken_20 : decode cX0_takeToken 20 = .ok (.getfield 9, 3) := by decide +kernel
theorem dX0_takeToken_23 : decode cX0_takeToken 23 = .ok (.aload_n 0, 1) := by decide +kernel
theorem dX0_takeToken_24 : decode cX0_takeToken 24 = .ok (.getfield 38, 3) := by decide +kernel
theorem dX0_takeToken_27 : decode cX0_takeToken 27 = .ok (.baload, 1) := by decide +kernel
theorem dX0_takeToken_28 : decode cX0_takeToken 28 = .ok (.bipush 32, 2) := by decide +kernel
theorem dX0_takeToken_30 : decode cX0_takeToken 30 = .ok (.if_icmp .ne 16, 3) := by decide +kernel
theorem dX0_takeToken_33 : decode cX0_takeToken 33 = .ok (.aload_n 0, 1) := by decide +kernel
theorem dX0_takeToken_34 : decode cX0_takeToken 34 = .ok (.dup, 1) := by decide +kernel
theorem dX0_takeToken_35 : decode cX0_takeToken 35 = .ok (.getfield 38, 3) := by decide +kernel
theorem dX0_takeToken_38 : decode cX0_takeToken 38 = .ok (.iconst 1, 1) := by decide +kernel
theorem dX0_takeToken_39 : decode cX0_takeToken 39 = .ok (.iadd, 1) := by decide +kernel
theorem dX0_takeToken_40 : decode cX0_takeToken 40 = .ok (.putfield 38, 3) := by decide +kernel
theorem dX0_takeToken_43 : decode cX0_takeToken 43 = .ok (.goto (-35), 3) := by decide +kernel
theorem dX0_takeToken_46 : decode cX0_takeToken 46 = .ok (.aload_n 0, 1) := by decide +kernel
theorem dX0_takeToken_47 : decode cX0_takeToken 47 = .ok (.aload_n 0, 1) := by decide +kernel
theorem dX0_takeToken_48 : decode cX0_takeToken 48 = .ok (.getfield 38, 3) := by decide +kernel
theorem dX0_takeToken_51 : decode cX0_takeToken 51 = .ok (.putfield 25, 3) := by decide +kernel
theorem dX0_takeToken_54 : decode cX0_takeToken 54 = .ok (.aload_n 0, 1) := by decide +kernel
theorem dX0_takeToken_55 : decode cX0_takeToken 55 = .ok (.aload_n 0, 1) := by decide +kernel
theorem dX0_takeToken_56 : decode cX0_takeToken 56 = .ok (.getfield 38, 3) := by decide +kernel
theorem dX0_takeToken_59 : decode cX0_takeToken 59 = .ok (.aload_n 0, 1) := by decide +kernel
theorem dX0_takeToken_60 : decode cX0_takeToken 60 = .ok (.getfield 15, 3) := by decide +kernel
theorem dX0_takeToken_63 : decode cX0_takeToken 63 = .ok (.if_icmp .ge 18, 3) := by decide +kernel
theorem dX0_takeToken_66 : decode cX0_takeToken 66 = .ok (.aload_n 0, 1) := by decide +kernel
theorem dX0_takeToken_67 : decode cX0_takeToken 67 = .ok (.getfield 9, 3) := by decide +kernel
theorem dX0_takeToken_70 : decode cX0_takeToken 70 = .ok (.aload_n 0, 1) := by decide +kernel
theorem dX0_takeToken_71 : decode cX0_takeToken 71 = .ok (.getfield 38, 3) := by decide +kernel
theorem dX0_takeToken_74 : decode cX0_takeToken 74 = .ok (.baload, 1) := by decide +kernel
theorem dX0_takeToken_75 : decode cX0_takeToken 75 = .ok (.invokestatic 110, 3) := by decide +kernel
theorem dX0_takeToken_78 : decode cX0_takeToken 78 = .ok (.goto 4, 3) := by decide +kernel
theorem dX0_takeToken_81 : decode cX0_takeToken 81 = .ok (.iconst 0, 1) := by decide +kernel
theorem dX0_takeToken_82 : decode cX0_takeToken 82 = .ok (.putfield 31, 3) := by decide +kernel
theorem dX0_takeToken_85 : decode cX0_takeToken 85 = .ok (.aload_n 0, 1) := by decide +kernel
theorem dX0_takeToken_86 : decode cX0_takeToken 86 = .ok (.getfield 31, 3) := by decide +kernel
theorem dX0_takeToken_89 : decode cX0_takeToken 89 = .ok (.iconst 3, 1) := by decide +kernel
theorem dX0_takeToken_90 : decode cX0_takeToken 90 = .ok (.if_icmp .eq 11, 3) := by decide +kernel
theorem dX0_takeToken_93 : decode cX0_takeToken 93 = .ok (.aload_n 0, 1) := by decide +kernel
theorem dX0_takeToken_94 : decode cX0_takeToken 94 = .ok (.getfield 31, 3) := by decide +kernel
theorem dX0_takeToken_97 : decode cX0_takeToken 97 = .ok (.iconst 4, 1) := by decide +kernel
theorem dX0_takeToken_98 : decode cX0_takeToken 98 = .ok (.if_icmp .ne 14, 3) := by decide +kernel
theorem dX0_takeToken_101 : decode cX0_takeToken 101 = .ok (.aload_n 0, 1) := by decide +kernel
theorem dX0_takeToken_102 : decode cX0_takeToken 102 = .ok (.dup, 1) := by decide +kernel
theorem dX0_takeToken_103 : decode cX0_takeToken 103 = .ok (.getfield 25, 3) := by decide +kernel
theorem dX0_takeToken_106 : decode cX0_takeToken 106 = .ok (.iconst 1, 1) := by decide +kernel
theorem dX0_takeToken_107 : decode cX0_takeToken 107 = .ok (.iadd, 1) := by decide +kernel
theorem dX0_takeToken_108 : decode cX0_takeToken 108 = .ok (.putfield 25, 3) := by decide +kernel
theorem dX0_takeToken_111 : decode cX0_takeToken 111 = .ok (.return_, 1) := by decide +kernel
theorem dX0_takeToken_112 : decode cX0_takeToken 112 = .ok (.aload_n 0, 1) := by decide +kernel
theorem dX0_takeToken_113 : decode cX0_takeToken 113 = .ok (.getfield 25, 3) := by decide +kernel
theorem dX0_takeToken_116 : decode cX0_takeToken 116 = .ok (.aload_n 0, 1) := by decide +kernel
theorem dX0_takeToken_117 : decode cX0_takeToken 117 = .ok (.getfield 15, 3) := by decide +kernel
theorem dX0_takeToken_120 : decode cX0_takeToken 120 = .ok (.if_icmp .ge 35, 3) := by decide +kernel
theorem dX0_takeToken_123 : decode cX0_takeToken 123 = .ok (.aload_n 0, 1) := by decide +kernel
theorem dX0_takeToken_124 : decode cX0_takeToken 124 = .ok (.getfield 9, 3) := by decide +kernel
theorem dX0_takeToken_127 : decode cX0_takeToken 127 = .ok (.aload_n 0, 1) := by decide +kernel
theorem dX0_takeToken_128 : decode cX0_takeToken 128 = .ok (.getfield 25, 3) := by decide +kernel
theorem dX0_takeToken_131 : decode cX0_takeToken 131 = .ok (.baload, 1) := by decide +kernel
theorem dX0_takeToken_132 : decode cX0_takeToken 132 = .ok (.invokestatic 110, 3) := by decide +kernel
theorem dX0_takeToken_135 : decode cX0_takeToken 135 = .ok (.aload_n 0, 1) := by decide +kernel
theorem dX0_takeToken_136 : decode cX0_takeToken 136 = .ok (.getfield 31, 3) := by decide +kernel
theorem dX0_takeToken_139 : decode cX0_takeToken 139 = .ok (.if_icmp .ne 16, 3) := by decide +kernel
theorem dX0_takeToken_142 : decode cX0_takeToken 142 = .ok (.aload_n 0, 1) := by decide +kernel
theorem dX0_takeToken_143 : decode cX0_takeToken 143 = .ok (.dup, 1) := by decide +kernel
theorem dX0_takeToken_144 : decode cX0_takeToken 144 = .ok (.getfield 25, 3) := by decide +kernel
theorem dX0_takeToken_147 : decode cX0_takeToken 147 = .ok (.iconst 1, 1) := by decide +kernel
theorem dX0_takeToken_148 : decode cX0_takeToken 148 = .ok (.iadd, 1) := by decide +kernel
theorem dX0_takeToken_149 : decode cX0_takeToken 149 = .ok (.putfield 25, 3) := by decide +kernel
theorem dX0_takeToken_152 : decode cX0_takeToken 152 = .ok (.goto (-40), 3) := by decide +kernel
theorem dX0_takeToken_155 : decode cX0_takeToken 155 = .ok (.aload_n 0, 1) := by decide +kernel
theorem dX0_takeToken_156 : decode cX0_takeToken 156 = .ok (.getfield 31, 3) := by decide +kernel
theorem dX0_takeToken_159 : decode cX0_takeToken 159 = .ok (.iconst 2, 1) := by decide +kernel
theorem dX0_takeToken_160 : decode cX0_takeToken 160 = .ok (.if_icmp .ne 21, 3) := by decide +kernel
theorem dX0_takeToken_163 : decode cX0_takeToken 163 = .ok (.aload_n 0, 1) := by decide +kernel
theorem dX0_takeToken_164 : decode cX0_takeToken 164 = .ok (.getfield 25, 3) := by decide +kernel
theorem dX0_takeToken_167 : decode cX0_takeToken 167 = .ok (.aload_n 0, 1) := by decide +kernel
theorem dX0_takeToken_168 : decode cX0_takeToken 168 = .ok (.getfield 38, 3) := by decide +kernel
theorem dX0_takeToken_171 : decode cX0_takeToken 171 = .ok (.isub, 1) := by decide +kernel
theorem dX0_takeToken_172 : decode cX0_takeToken 172 = .ok (.iconst 2, 1) := by decide +kernel
theorem dX0_takeToken_173 : decode cX0_takeToken 173 = .ok (.if_icmp .le 8, 3) := by decide +kernel
theorem dX0_takeToken_176 : decode cX0_takeToken 176 = .ok (.aload_n 0, 1) := by decide +kernel
theorem dX0_takeToken_177 : decode cX0_takeToken 177 = .ok (.iconst 4, 1) := by decide +kernel
theorem dX0_takeToken_178 : decode cX0_takeToken 178 = .ok (.putfield 31, 3) := by decide +kernel
theorem dX0_takeToken_181 : decode cX0_takeToken 181 = .ok (.return_, 1) := by decide +kernel
theorem dX0_sortOf_0 : decode cX0_sortOf 0 = .ok (.iload_n 0, 1) := by decide +kernel
theorem dX0_sortOf_1 : decode cX0_sortOf 1 = .ok (.bipush 97, 2) := by decide +kernel
theorem dX0_sortOf_3 : decode cX0_sortOf 3 = .ok (.if_icmp .lt 11, 3) := by decide +kernel
theorem dX0_sortOf_6 : decode cX0_sortOf 6 = .ok (.iload_n 0, 1) := by decide +kernel
theorem dX0_sortOf_7 : decode cX0_sortOf 7 = .ok (.bipush 122, 2) := by decide +kernel
theorem dX0_sortOf_9 : decode cX0_sortOf 9 = .ok (.if_icmp .gt 5, 3) := by decide +kernel
theorem dX0_sortOf_12 : decode cX0_sortOf 12 = .ok (.iconst 1, 1) := by decide +kernel
theorem dX0_sortOf_13 : decode cX0_sortOf 13 = .ok (.ireturn, 1) := by decide +kernel
theorem dX0_sortOf_14 : decode cX0_sortOf 14 = .ok (.iload_n 0, 1) := by decide +kernel
theorem dX0_sortOf_15 : decode cX0_sortOf 15 = .ok (.bipush 48, 2) := by decide +kernel
theorem dX0_sortOf_17 : decode cX0_sortOf 17 = .ok (.if_icmp .lt 11, 3) := by decide +kernel
theorem dX0_sortOf_20 : decode cX0_sortOf 20 = .ok (.iload_n 0, 1) := by decide +kernel
theorem dX0_sortOf_21 : decode cX0_sortOf 21 = .ok (.bipush 57, 2) := by decide +kernel
theorem dX0_sortOf_23 : decode cX0_sortOf 23 = .ok (.if_icmp .gt 5, 3) := by decide +kernel
theorem dX0_sortOf_26 : decode cX0_sortOf 26 = .ok (.iconst 2, 1) := by decide +kernel
theorem dX0_sortOf_27 : decode cX0_sortOf 27 = .ok (.ireturn, 1) := by decide +kernel
theorem dX0_sortOf_28 : decode cX0_sortOf 28 = .ok (.iload_n 0, 1) := by decide +kernel
theorem dX0_sortOf_29 : decode cX0_sortOf 29 = .ok (.bipush 59, 2) := by decide +kernel
theorem dX0_sortOf_31 : decode cX0_sortOf 31 = .ok (.if_icmp .ne 7, 3) := by decide +kernel
theorem dX0_sortOf_34 : decode cX0_sortOf 34 = .ok (.iconst 3, 1) := by decide +kernel
theorem dX0_sortOf_35 : decode cX0_sortOf 35 = .ok (.goto 4, 3) := by decide +kernel
theorem dX0_sortOf_38 : decode cX0_sortOf 38 = .ok (.iconst 4, 1) := by decide +kernel
theorem dX0_sortOf_39 : decode cX0_sortOf 39 = .ok (.ireturn, 1) := by decide +kernel
theorem dX1_init_0 : decode cX1_init 0 = .ok (.aload_n 0, 1) := by decide +kernel
theorem dX1_init_1 : decode cX1_init 1 = .ok (.invokespecial 3, 3) := by decide +kernel
theorem dX1_init_4 : decode cX1_init 4 = .ok (.aload_n 0, 1) := by decide +kernel
theorem dX1_init_5 : decode cX1_init 5 = .ok (.iconst 3, 1) := by decide +kernel
theorem dX1_init_6 : decode cX1_init 6 = .ok (.putfield 9, 3) := by decide +kernel
theorem dX1_init_9 : decode cX1_init 9 = .ok (.aload_n 0, 1) := by decide +kernel
theorem dX1_init_10 : decode cX1_init 10 = .ok (.bipush 7, 2) := by decide +kernel
theorem dX1_init_12 : decode cX1_init 12 = .ok (.newarray .int, 2) := by decide +kernel
theorem dX1_init_14 : decode cX1_init 14 = .ok (.putfield 15, 3) := by decide +kernel
theorem dX1_init_17 : decode cX1_init 17 = .ok (.aload_n 0, 1) := by decide +kernel
theorem dX1_init_18 : decode cX1_init 18 = .ok (.bipush 7, 2) := by decide +kernel
theorem dX1_init_20 : decode cX1_init 20 = .ok (.newarray .int, 2) := by decide +kernel
theorem dX1_init_22 : decode cX1_init 22 = .ok (.putfield 19, 3) := by decide +kernel
theorem dX1_init_25 : decode cX1_init 25 = .ok (.aload_n 0, 1) := by decide +kernel
theorem dX1_init_26 : decode cX1_init 26 = .ok (.bipush 30, 2) := by decide +kernel
theorem dX1_init_28 : decode cX1_init 28 = .ok (.newarray .int, 2) := by decide +kernel
theorem dX1_init_30 : decode cX1_init 30 = .ok (.putfield 22, 3) := by decide +kernel
theorem dX1_init_33 : decode cX1_init 33 = .ok (.aload_n 0, 1) := by decide +kernel
theorem dX1_init_34 : decode cX1_init 34 = .ok (.bipush 88, 2) := by decide +kernel
theorem dX1_init_36 : decode cX1_init 36 = .ok (.newarray .int, 2) := by decide +kernel
theorem dX1_init_38 : decode cX1_init 38 = .ok (.putfield 25, 3) := by decide +kernel
theorem dX1_init_41 : decode cX1_init 41 = .ok (.return_, 1) := by decide +kernel
theorem dX1_begin_0 : decode cX1_begin 0 = .ok (.aload_n 0, 1) := by decide +kernel
theorem dX1_begin_1 : decode cX1_begin 1 = .ok (.iload_n 1, 1) := by decide +kernel
theorem dX1_begin_2 : decode cX1_begin 2 = .ok (.putfield 9, 3) := by decide +kernel
theorem dX1_begin_5 : decode cX1_begin 5 = .ok (.aload_n 0, 1) := by decide +kernel
theorem dX1_begin_6 : decode cX1_begin 6 = .ok (.iconst 0, 1) := by decide +kernel
theorem dX1_begin_7 : decode cX1_begin 7 = .ok (.putfield 28, 3) := by decide +kernel
theorem dX1_begin_10 : decode cX1_begin 10 = .ok (.aload_n 0, 1) := by decide +kernel
theorem dX1_begin_11 : decode cX1_begin 11 = .ok (.iconst 0, 1) := by decide +kernel
theorem dX1_begin_12 : decode cX1_begin 12 = .ok (.putfield 31, 3) := by decide +kernel
theorem dX1_begin_15 : decode cX1_begin 15 = .ok (.aload_n 0, 1) := by decide +kernel
theorem dX1_begin_16 : decode cX1_begin 16 = .ok (.iconst 0, 1) := by decide +kernel
theorem dX1_begin_17 : decode cX1_begin 17 = .ok (.putfield 34, 3) := by decide +kernel
theorem dX1_begin_20 : decode cX1_begin 20 = .ok (.aload_n 0, 1) := by decide +kernel
theorem dX1_begin_21 : decode cX1_begin 21 = .ok (.iconst 0, 1) := by decide +kernel
theorem dX1_begin_22 : decode cX1_begin 22 = .ok (.putfield 37, 3) := by decide +kernel
theorem dX1_begin_25 : decode cX1_begin 25 = .ok (.aload_n 0, 1) := by decide +kernel
theorem dX1_begin_26 : decode cX1_begin 26 = .ok (.iconst 0, 1) := by decide +kernel
theorem dX1_begin_27 : decode cX1_begin 27 = .ok (.putfield 40, 3) := by decide +kernel
theorem dX1_begin_30 : decode cX1_begin 30 = .ok (.aload_n 0, 1) := by decide +kernel
theorem dX1_begin_31 : decode cX1_begin 31 = .ok (.iconst 0, 1) := by decide +kernel
theorem dX1_begin_32 : decode cX1_begin 32 = .ok (.putfield 43, 3) := by decide +kernel
theorem dX1_begin_35 : decode cX1_begin 35 = .ok (.aload_n 0, 1) := by decide +kernel
theorem dX1_begin_36 : decode cX1_begin 36 = .ok (.iconst 0, 1) := by decide +kernel
theorem dX1_begin_37 : decode cX1_begin 37 = .ok (.putfield 46, 3) := by decide +kernel
theorem dX1_begin_40 : decode cX1_begin 40 = .ok (.return_, 1) := by decide +kernel
theorem dX1_copyFrom_0 : decode cX1_copyFrom 0 = .ok (.aload_n 0, 1) := by decide +kernel
theorem dX1_copyFrom_1 : decode cX1_copyFrom 1 = .ok (.aload_n 1, 1) := by decide +kernel
theorem dX1_copyFrom_2 : decode cX1_copyFrom 2 = .ok (.getfield 9, 3) := by decide +kernel
theorem dX1_copyFrom_5 : decode cX1_copyFrom 5 = .ok (.putfield 9, 3) := by decide +kernel
theorem dX1_copyFrom_8 : decode cX1_copyFrom 8 = .ok (.aload_n 0, 1) := by decide +kernel
theorem dX1_copyFrom_9 : decode cX1_copyFrom 9 = .ok (.aload_n 1, 1) := by decide +kernel
theorem dX1_copyFrom_10 : decode cX1_copyFrom 10 = .ok (.getfield 28, 3) := by decide +kernel
theorem dX1_copyFrom_13 : decode cX1_copyFrom 13 = .ok (.putfield 28, 3) := by decide +kernel
theorem dX1_copyFrom_16 : decode cX1_copyFrom 16 = .ok (.aload_n 0, 1) := by decide +kernel
theorem dX1_copyFrom_17 : decode cX1_copyFrom 17 = .ok (.aload_n 1, 1) := by decide +kernel
theorem dX1_copyFrom_18 : decode cX1_copyFrom 18 = .ok (.getfield 31, 3) := by decide +kernel
theorem dX1_copyFrom_21 : decode cX1_copyFrom 21 = .ok (.putfield 31, 3) := by decide +kernel
theorem dX1_copyFrom_24 : decode cX1_copyFrom 24 = .ok (.aload_n 0, 1) := by decide +kernel
theorem dX1_copyFrom_25 : decode cX1_copyFrom 25 = .ok (.aload_n 1, 1) := by decide +kernel
theorem dX1_copyFrom_26 : decode cX1_copyFrom 26 = .ok (.getfield 34, 3) := by decide +kernel
theorem dX1_copyFrom_29 : decode cX1_copyFrom 29 = .ok (.putfield 34, 3) := by decide +kernel
theorem dX1_copyFrom_32 : decode cX1_copyFrom 32 = .ok (.aload_n 0, 1) := by decide +kernel
theorem dX1_copyFrom_33 : decode cX1_copyFrom 33 = .ok (.aload_n 1, 1) := by decide +kernel
theorem dX1_copyFrom_34 : decode cX1_copyFrom 34 = .ok (.getfield 37, 3) := by decide +kernel
theorem dX1_copyFrom_37 : decode cX1_copyFrom 37 = .ok (.putfield 37, 3) := by decide +kernel
theorem dX1_copyFrom_40 : decode cX1_copyFrom 40 = .ok (.aload_n 0, 1) := by decide +kernel
theorem dX1_copyFrom_41 : decode cX1_copyFrom 41 = .ok (.aload_n 1, 1) := by decide +kernel
theorem dX1_copyFrom_42 : decode cX1_copyFrom 42 = .ok (.getfield 40, 3) := by decide +kernel
theorem dX1_copyFrom_45 : decode cX1_copyFrom 45 = .ok (.putfield 40, 3) := by decide +kernel
theorem dX1_copyFrom_48 : decode cX1_copyFrom 48 = .ok (.aload_n 0, 1) := by decide +kernel
theorem dX1_copyFrom_49 : decode cX1_copyFrom 49 = .ok (.aload_n 1, 1) := by decide +kernel
theorem dX1_copyFrom_50 : decode cX1_copyFrom 50 = .ok (.getfield 43, 3) := by decide +kernel
theorem dX1_copyFrom_53 : decode cX1_copyFrom 53 = .ok (.putfield 43, 3) := by decide +kernel
theorem dX1_copyFrom_56 : decode cX1_copyFrom 56 = .ok (.aload_n 0, 1) := by decide +kernel
theorem dX1_copyFrom_57 : decode cX1_copyFrom 57 = .ok (.aload_n 1, 1) := by decide +kernel
theorem dX1_copyFrom_58 : decode cX1_copyFrom 58 = .ok (.getfield 46, 3) := by decide +kernel
theorem dX1_copyFrom_61 : decode cX1_copyFrom 61 = .ok (.putfield 46, 3) := by decide +kernel
theorem dX1_copyFrom_64 : decode cX1_copyFrom 64 = .ok (.aload_n 1, 1) := by decide +kernel
theorem dX1_copyFrom_65 : decode cX1_copyFrom 65 = .ok (.getfield 15, 3) := by decide +kernel
theorem dX1_copyFrom_68 : decode cX1_copyFrom 68 = .ok (.iconst 0, 1) := by decide +kernel
theorem dX1_copyFrom_69 : decode cX1_copyFrom 69 = .ok (.aload_n 0, 1) := by decide +kernel
theorem dX1_copyFrom_70 : decode cX1_copyFrom 70 = .ok (.getfield 15, 3) := by decide +kernel
theorem dX1_copyFrom_73 : decode cX1_copyFrom 73 = .ok (.iconst 0, 1) := by decide +kernel
theorem dX1_copyFrom_74 : decode cX1_copyFrom 74 = .ok (.aload_n 0, 1) := by decide +kernel
theorem dX1_copyFrom_75 : decode cX1_copyFrom 75 = .ok (.getfield 15, 3) := by decide +kernel
theorem dX1_copyFrom_78 : decode cX1_copyFrom 78 = .ok (.arraylength, 1) := by decide +kernel
theorem dX1_copyFrom_79 : decode cX1_copyFrom 79 = .ok (.invokestatic 49, 3) := by decide +kernel
theorem dX1_copyFrom_82 : decode cX1_copyFrom 82 = .ok (.aload_n 1, 1) := by decide +kernel
theorem dX1_copyFrom_83 : decode cX1_copyFrom 83 = .ok (.getfield 19, 3) := by decide +kernel
theorem dX1_copyFrom_86 : decode cX1_copyFrom 86 = .ok (.iconst 0, 1) := by decide +kernel
theorem dX1_copyFrom_87 : decode cX1_copyFrom 87 = .ok (.aload_n 0, 1) := by decide +kernel
theorem dX1_copyFrom_88 : decode cX1_copyFrom 88 = .ok (.getfield 19, 3) := by decide +kernel
theorem dX1_copyFrom_91 : decode cX1_copyFrom 91 = .ok (.iconst 0, 1) := by decide +kernel
theorem dX1_copyFrom_92 : decode cX1_copyFrom 92 = .ok (.aload_n 0, 1) := by decide +kernel
theorem dX1_copyFrom_93 : decode cX1_copyFrom 93 = .ok (.getfield 19, 3) := by decide +kernel
theorem dX1_copyFrom_96 : decode cX1_copyFrom 96 = .ok (.arraylength, 1) := by decide +kernel
theorem dX1_copyFrom_97 : decode cX1_copyFrom 97 = .ok (.invokestatic 49, 3) := by decide +kernel
theorem dX1_copyFrom_100 : decode cX1_copyFrom 100 = .ok (.aload_n 1, 1) := by decide +kernel
theorem dX1_copyFrom_101 : decode cX1_copyFrom 101 = .ok (.getfield 22, 3) := by decide +kernel
theorem dX1_copyFrom_104 : decode cX1_copyFrom 104 = .ok (.iconst 0, 1) := by decide +kernel
theorem dX1_copyFrom_105 : decode cX1_copyFrom 105 = .ok (.aload_n 0, 1) := by decide +kernel
theorem dX1_copyFrom_106 : decode cX1_copyFrom 106 = .ok (.getfield 22, 3) := by decide +kernel
theorem dX1_copyFrom_109 : decode cX1_copyFrom 109 = .ok (.iconst 0, 1) := by decide +kernel
theorem dX1_copyFrom_110 : decode cX1_copyFrom 110 = .ok (.aload_n 0, 1) := by decide +kernel
theorem dX1_copyFrom_111 : decode cX1_copyFrom 111 = .ok (.getfield 22, 3) := by decide +kernel
theorem dX1_copyFrom_114 : decode cX1_copyFrom 114 = .ok (.arraylength, 1) := by decide +kernel
theorem dX1_copyFrom_115 : decode cX1_copyFrom 115 = .ok (.invokestatic 49, 3) := by decide +kernel
theorem dX1_copyFrom_118 : decode cX1_copyFrom 118 = .ok (.aload_n 1, 1) := by decide +kernel
theorem dX1_copyFrom_119 : decode cX1_copyFrom 119 = .ok (.getfield 25, 3) := by decide +kernel
theorem dX1_copyFrom_122 : decode cX1_copyFrom 122 = .ok (.iconst 0, 1) := by decide +kernel
theorem dX1_copyFrom_123 : decode cX1_copyFrom 123 = .ok (.aload_n 0, 1) := by decide +kernel
theorem dX1_copyFrom_124 : decode cX1_copyFrom 124 = .ok (.getfield 25, 3) := by decide +kernel
theorem dX1_copyFrom_127 : decode cX1_copyFrom 127 = .ok (.iconst 0, 1) := by decide +kernel
theorem dX1_copyFrom_128 : decode cX1_copyFrom 128 = .ok (.aload_n 0, 1) := by decide +kernel
theorem dX1_copyFrom_129 : decode cX1_copyFrom 129 = .ok (.getfield 25, 3) := by decide +kernel
theorem dX1_copyFrom_132 : decode cX1_copyFrom 132 = .ok (.arraylength, 1) := by decide +kernel
theorem dX1_copyFrom_133 : decode cX1_copyFrom 133 = .ok (.invokestatic 49, 3) := by decide +kernel
theorem dX1_copyFrom_136 : decode cX1_copyFrom 136 = .ok (.return_, 1) := by decide +kernel
theorem dX1_addOne_0 : decode cX1_addOne 0 = .ok (.aload_n 0, 1) := by decide +kernel
theorem dX1_addOne_1 : decode cX1_addOne 1 = .ok (.getfield 28, 3) := by decide +kernel
theorem dX1_addOne_4 : decode cX1_addOne 4 = .ok (.bipush 7, 2) := by decide +kernel
theorem dX1_addOne_6 : decode cX1_addOne 6 = .ok (.if_icmp .lt 5, 3) := by decide +kernel
theorem dX1_addOne_9 : decode cX1_addOne 9 = .ok (.iconst (-1), 1) := by decide +kernel
theorem dX1_addOne_10 : decode cX1_addOne 10 = .ok (.ireturn, 1) := by decide +kernel
theorem dX1_addOne_11 : decode cX1_addOne 11 = .ok (.aload_n 0, 1) := by decide +kernel
theorem dX1_addOne_12 : decode cX1_addOne 12 = .ok (.getfield 15, 3) := by decide +kernel
theorem dX1_addOne_15 : decode cX1_addOne 15 = .ok (.aload_n 0, 1) := by decide +kernel
theorem dX1_addOne_16 : decode cX1_addOne 16 = .ok (.getfield 28, 3) := by decide +kernel
theorem dX1_addOne_19 : decode cX1_addOne 19 = .ok (.iload_n 1, 1) := by decide +kernel
theorem dX1_addOne_20 : decode cX1_addOne 20 = .ok (.iastore, 1) := by decide +kernel
theorem dX1_addOne_21 : decode cX1_addOne 21 = .ok (.aload_n 0, 1) := by decide +kernel
theorem dX1_addOne_22 : decode cX1_addOne 22 = .ok (.getfield 19, 3) := by decide +kernel
theorem dX1_addOne_25 : decode cX1_addOne 25 = .ok (.aload_n 0, 1) := by decide +kernel
theorem dX1_addOne_26 : decode cX1_addOne 26 = .ok (.getfield 28, 3) := by decide +kernel
theorem dX1_addOne_29 : decode cX1_addOne 29 = .ok (.iload_n 2, 1) := by decide +kernel
theorem dX1_addOne_30 : decode cX1_addOne 30 = .ok (.iastore, 1) := by decide +kernel
theorem dX1_addOne_31 : decode cX1_addOne 31 = .ok (.aload_n 0, 1) := by decide +kernel
theorem dX1_addOne_32 : decode cX1_addOne 32 = .ok (.iconst 0, 1) := by decide +kernel
theorem dX1_addOne_33 : decode cX1_addOne 33 = .ok (.putfield 46, 3) := by decide +kernel
theorem dX1_addOne_36 : decode cX1_addOne 36 = .ok (.aload_n 0, 1) := by decide +kernel
theorem dX1_addOne_37 : decode cX1_addOne 37 = .ok (.dup, 1) := by decide +kernel
theorem dX1_addOne_38 : decode cX1_addOne 38 = .ok (.getfield 28, 3) := by decide +kernel
theorem dX1_addOne_41 : decode cX1_addOne 41 = .ok (.iconst 1, 1) := by decide +kernel
theorem dX1_addOne_42 : decode cX1_addOne 42 = .ok (.iadd, 1) := by decide +kernel
theorem dX1_addOne_43 : decode cX1_addOne 43 = .ok (.putfield 28, 3) := by decide +kernel
theorem dX1_addOne_46 : decode cX1_addOne 46 = .ok (.aload_n 0, 1) := by decide +kernel
theorem dX1_addOne_47 : decode cX1_addOne 47 = .ok (.getfield 28, 3) := by decide +kernel
theorem dX1_addOne_50 : decode cX1_addOne 50 = .ok (.iconst 1, 1) := by decide +kernel
theorem dX1_addOne_51 : decode cX1_addOne 51 = .ok (.isub, 1) := by decide +kernel
theorem dX1_addOne_52 : decode cX1_addOne 52 = .ok (.ireturn, 1) := by decide +kernel
theorem dX1_addNote_0 : decode cX1_addNote 0 = .ok (.aload_n 0, 1) := by decide +kernel
theorem dX1_addNote_1 : decode cX1_addNote 1 = .ok (.getfield 43, 3) := by decide +kernel
theorem dX1_addNote_4 : decode cX1_addNote 4 = .ok (.bipush 6, 2) := by decide +kernel
theorem dX1_addNote_6 : decode cX1_addNote 6 = .ok (.if_icmp .lt 8, 3) := by decide +kernel
theorem dX1_addNote_9 : decode cX1_addNote 9 = .ok (.aload_n 0, 1) := by decide +kernel
theorem dX1_addNote_10 : decode cX1_addNote 10 = .ok (.getfield 43, 3) := by decide +kernel
theorem dX1_addNote_13 : decode cX1_addNote 13 = .ok (.ireturn, 1) := by decide +kernel
theorem dX1_addNote_14 : decode cX1_addNote 14 = .ok (.aload_n 0, 1) := by decide +kernel
theorem dX1_addNote_15 : decode cX1_addNote 15 = .ok (.getfield 43, 3) := by decide +kernel
theorem dX1_addNote_18 : decode cX1_addNote 18 = .ok (.iconst 5, 1) := by decide +kernel
theorem dX1_addNote_19 : decode cX1_addNote 19 = .ok (.imul, 1) := by decide +kernel
theorem dX1_addNote_20 : decode cX1_addNote 20 = .ok (.istore 6, 2) := by decide +kernel
theorem dX1_addNote_22 : decode cX1_addNote 22 = .ok (.aload_n 0, 1) := by decide +kernel
theorem dX1_addNote_23 : decode cX1_addNote 23 = .ok (.getfield 22, 3) := by decide +kernel
theorem dX1_addNote_26 : decode cX1_addNote 26 = .ok (.iload 6, 2) := by decide +kernel
theorem dX1_addNote_28 : decode cX1_addNote 28 = .ok (.iload_n 1, 1) := by decide +kernel
theorem dX1_addNote_29 : decode cX1_addNote 29 = .ok (.iastore, 1) := by decide +kernel
theorem dX1_addNote_30 : decode cX1_addNote 30 = .ok (.aload_n 0, 1) := by decide +kernel
theorem dX1_addNote_31 : decode cX1_addNote 31 = .ok (.getfield 22, 3) := by decide +kernel
theorem dX1_addNote_34 : decode cX1_addNote 34 = .ok (.iload 6, 2) := by decide +kernel
theorem dX1_addNote_36 : decode cX1_addNote 36 = .ok (.iconst 1, 1) := by decide +kernel
theorem dX1_addNote_37 : decode cX1_addNote 37 = .ok (.iadd, 1) := by decide +kernel
theorem dX1_addNote_38 : decode cX1_addNote 38 = .ok (.iload_n 2, 1) := by decide +kernel
theorem dX1_addNote_39 : decode cX1_addNote 39 = .ok (.iastore, 1) := by decide +kernel
theorem dX1_addNote_40 : decode cX1_addNote 40 = .ok (.aload_n 0, 1) := by decide +kernel
theorem dX1_addNote_41 : decode cX1_addNote 41 = .ok (.getfield 22, 3) := by decide +kernel
theorem dX1_addNote_44 : decode cX1_addNote 44 = .ok (.iload 6, 2) := by decide +kernel
theorem dX1_addNote_46 : decode cX1_addNote 46 = .ok (.iconst 2, 1) := by decide +kernel
theorem dX1_addNote_47 : decode cX1_addNote 47 = .ok (.iadd, 1) := by decide +kernel
theorem dX1_addNote_48 : decode cX1_addNote 48 = .ok (.iload_n 3, 1) := by decide +kernel
theorem dX1_addNote_49 : decode cX1_addNote 49 = .ok (.iastore, 1) := by decide +kernel
theorem dX1_addNote_50 : decode cX1_addNote 50 = .ok (.aload_n 0, 1) := by decide +kernel
theorem dX1_addNote_51 : decode cX1_addNote 51 = .ok (.getfield 22, 3) := by decide +kernel
theorem dX1_addNote_54 : decode cX1_addNote 54 = .ok (.iload 6, 2) := by decide +kernel
theorem dX1_addNote_56 : decode cX1_addNote 56 = .ok (.iconst 3, 1) := by decide +kernel
theorem dX1_addNote_57 : decode cX1_addNote 57 = .ok (.iadd, 1) := by decide +kernel
theorem dX1_addNote_58 : decode cX1_addNote 58 = .ok (.iload 4, 2) := by decide +kernel
theorem dX1_addNote_60 : decode cX1_addNote 60 = .ok (.iastore, 1) := by decide +kernel
theorem dX1_addNote_61 : decode cX1_addNote 61 = .ok (.aload_n 0, 1) := by decide +kernel
theorem dX1_addNote_62 : decode cX1_addNote 62 = .ok (.getfield 22, 3) := by decide +kernel
theorem dX1_addNote_65 : decode cX1_addNote 65 = .ok (.iload 6, 2) := by decide +kernel
theorem dX1_addNote_67 : decode cX1_addNote 67 = .ok (.iconst 4, 1) := by decide +kernel
theorem dX1_addNote_68 : decode cX1_addNote 68 = .ok (.iadd, 1) := by decide +kernel
theorem dX1_addNote_69 : decode cX1_addNote 69 = .ok (.iload 5, 2) := by decide +kernel
theorem dX1_addNote_71 : decode cX1_addNote 71 = .ok (.iastore, 1) := by decide +kernel
theorem dX1_addNote_72 : decode cX1_addNote 72 = .ok (.aload_n 0, 1) := by decide +kernel
theorem dX1_addNote_73 : decode cX1_addNote 73 = .ok (.dup, 1) := by decide +kernel
theorem dX1_addNote_74 : decode cX1_addNote 74 = .ok (.getfield 43, 3) := by decide +kernel
theorem dX1_addNote_77 : decode cX1_addNote 77 = .ok (.iconst 1, 1) := by decide +kernel
theorem dX1_addNote_78 : decode cX1_addNote 78 = .ok (.iadd, 1) := by decide +kernel
theorem dX1_addNote_79 : decode cX1_addNote 79 = .ok (.putfield 43, 3) := by decide +kernel
theorem dX1_addNote_82 : decode cX1_addNote 82 = .ok (.aload_n 0, 1) := by decide +kernel
theorem dX1_addNote_83 : decode cX1_addNote 83 = .ok (.getfield 43, 3) := by decide +kernel
theorem dX1_addNote_86 : decode cX1_addNote 86 = .ok (.ireturn, 1) := by decide +kernel
theorem dX1_isNoteSo_0 : decode cX1_isNoteSo 0 = .ok (.iload_n 1, 1) := by decide +kernel
theorem dX1_isNoteSo_1 : decode cX1_isNoteSo 1 = .ok (.iconst 5, 1) := by decide +kernel
theorem dX1_isNoteSo_2 : decode cX1_isNoteSo 2 = .ok (.imul, 1) := by decide +kernel
theorem dX1_isNoteSo_3 : decode cX1_isNoteSo 3 = .ok (.istore_n 3, 1) := by decide +kernel
theorem dX1_isNoteSo_4 : decode cX1_isNoteSo 4 = .ok (.iload_n 2, 1) := by decide +kernel
theorem dX1_isNoteSo_5 : decode cX1_isNoteSo 5 = .ok (.aload_n 0, 1) := by decide +kernel
theorem dX1_isNoteSo_6 : decode cX1_isNoteSo 6 = .ok (.getfield 22, 3) := by decide +kernel
theorem dX1_isNoteSo_9 : decode cX1_isNoteSo 9 = .ok (.iload_n 3, 1) := by decide +kernel
theorem dX1_isNoteSo_10 : decode cX1_isNoteSo 10 = .ok (.iconst 1, 1) := by decide +kernel
theorem dX1_isNoteSo_11 : decode cX1_isNoteSo 11 = .ok (.iadd, 1) := by decide +kernel
theorem dX1_isNoteSo_12 : decode cX1_isNoteSo 12 = .ok (.iaload, 1) := by decide +kernel
theorem dX1_isNoteSo_13 : decode cX1_isNoteSo 13 = .ok (.aload_n 0, 1) := by decide +kernel
theorem dX1_isNoteSo_14 : decode cX1_isNoteSo 14 = .ok (.getfield 22, 3) := by decide +kernel
theorem dX1_isNoteSo_17 : decode cX1_isNoteSo 17 = .ok (.iload_n 3, 1) := by decide +kernel
theorem dX1_isNoteSo_18 : decode cX1_isNoteSo 18 = .ok (.iconst 2, 1) := by decide +kernel
theorem dX1_isNoteSo_19 : decode cX1_isNoteSo 19 = .ok (.iadd, 1) := by decide +kernel
theorem dX1_isNoteSo_20 : decode cX1_isNoteSo 20 = .ok (.iaload, 1) := by decide +kernel
theorem dX1_isNoteSo_21 : decode cX1_isNoteSo 21 = .ok (.iconst 1, 1) := by decide +kernel
theorem dX1_isNoteSo_22 : decode cX1_isNoteSo 22 = .ok (.if_icmp .ne 7, 3) := by decide +kernel
theorem dX1_isNoteSo_25 : decode cX1_isNoteSo 25 = .ok (.iconst 1, 1) := by decide +kernel
theorem dX1_isNoteSo_26 : decode cX1_isNoteSo 26 = .ok (.goto 4, 3) := by decide +kernel
theorem dX1_isNoteSo_29 : decode cX1_isNoteSo 29 = .ok (.iconst 0, 1) := by decide +kernel
theorem dX1_isNoteSo_30 : decode cX1_isNoteSo 30 = .ok (.aload_n 0, 1) := by decide +kernel
theorem dX1_isNoteSo_31 : decode cX1_isNoteSo 31 = .ok (.getfield 22, 3) := by decide +kernel
theorem dX1_isNoteSo_34 : decode cX1_isNoteSo 34 = .ok (.iload_n 3, 1) := by decide +kernel
theorem dX1_isNoteSo_35 : decode cX1_isNoteSo 35 = .ok (.iconst 3, 1) := by decide +kernel
theorem dX1_isNoteSo_36 : decode cX1_isNoteSo 36 = .ok (.iadd, 1) := by decide +kernel
theorem dX1_isNoteSo_37 : decode cX1_isNoteSo 37 = .ok (.iaload, 1) := by decide +kernel
theorem dX1_isNoteSo_38 : decode cX1_isNoteSo 38 = .ok (.invokestatic 55, 3) := by decide +kernel
theorem dX1_isNoteSo_41 : decode cX1_isNoteSo 41 = .ok (.aload_n 0, 1) := by decide +kernel
theorem dX1_isNoteSo_42 : decode cX1_isNoteSo 42 = .ok (.getfield 22, 3) := by decide +kernel
theorem dX1_isNoteSo_45 : decode cX1_isNoteSo 45 = .ok (.iload_n 3, 1) := by decide +kernel
theorem dX1_isNoteSo_46 : decode cX1_isNoteSo 46 = .ok (.iconst 4, 1) := by decide +kernel
theorem dX1_isNoteSo_47 : decode cX1_isNoteSo 47 = .ok (.iadd, 1) := by decide +kernel
theorem dX1_isNoteSo_48 : decode cX1_isNoteSo 48 = .ok (.iaload, 1) := by decide +kernel
theorem dX1_isNoteSo_49 : decode cX1_isNoteSo 49 = .ok (.if_icmp .ne 7, 3) := by decide +kernel
theorem dX1_isNoteSo_52 : decode cX1_isNoteSo 52 = .ok (.iconst 1, 1) := by decide +kernel
theorem dX1_isNoteSo_53 : decode cX1_isNoteSo 53 = .ok (.goto 4, 3) := by decide +kernel
theorem dX1_isNoteSo_56 : decode cX1_isNoteSo 56 = .ok (.iconst 0, 1) := by decide +kernel
theorem dX1_isNoteSo_57 : decode cX1_isNoteSo 57 = .ok (.ireturn, 1) := by decide +kernel
theorem dX1_kindsByNotes_0 : decode cX1_kindsByNotes 0 = .ok (.iconst 0, 1) := by decide +kernel
theorem dX1_kindsByNotes_1 : decode cX1_kindsByNotes 1 = .ok (.istore_n 2, 1) := by decide +kernel
theorem dX1_kindsByNotes_2 : decode cX1_kindsByNotes 2 = .ok (.iconst 0, 1) := by decide +kernel
theorem dX1_kindsByNotes_3 : decode cX1_kindsByNotes 3 = .ok (.istore_n 3, 1) := by decide +kernel
theorem dX1_kindsByNotes_4 : decode cX1_kindsByNotes 4 = .ok (.iload_n 3, 1) := by decide +kernel
theorem dX1_kindsByNotes_5 : decode cX1_kindsByNotes 5 = .ok (.bipush 6, 2) := by decide +kernel
theorem dX1_kindsByNotes_7 : decode cX1_kindsByNotes 7 = .ok (.if_icmp .ge 81, 3) := by decide +kernel
theorem dX1_kindsByNotes_10 : decode cX1_kindsByNotes 10 = .ok (.iconst 1, 1) := by decide +kernel
theorem dX1_kindsByNotes_11 : decode cX1_kindsByNotes 11 = .ok (.istore 4, 2) := by decide +kernel
theorem dX1_kindsByNotes_13 : decode cX1_kindsByNotes 13 = .ok (.iconst 0, 1) := by decide +kernel
theorem dX1_kindsByNotes_14 : decode cX1_kindsByNotes 14 = .ok (.istore 5, 2) := by decide +kernel
theorem dX1_kindsByNotes_16 : decode cX1_kindsByNotes 16 = .ok (.iload 5, 2) := by decide +kernel
theorem dX1_kindsByNotes_18 : decode cX1_kindsByNotes 18 = .ok (.aload_n 0, 1) := by decide +kernel
theorem dX1_kindsByNotes_19 : decode cX1_kindsByNotes 19 = .ok (.getfield 43, 3) := by decide +kernel
theorem dX1_kindsByNotes_22 : decode cX1_kindsByNotes 22 = .ok (.if_icmp .ge 44, 3) := by decide +kernel
theorem dX1_kindsByNotes_25 : decode cX1_kindsByNotes 25 = .ok (.iload 4, 2) := by decide +kernel
theorem dX1_kindsByNotes_27 : decode cX1_kindsByNotes 27 = .ok (.ifCond .eq 30, 3) := by decide +kernel
theorem dX1_kindsByNotes_30 : decode cX1_kindsByNotes 30 = .ok (.aload_n 0, 1) := by decide +kernel
theorem dX1_kindsByNotes_31 : decode cX1_kindsByNotes 31 = .ok (.getfield 22, 3) := by decide +kernel
theorem dX1_kindsByNotes_34 : decode cX1_kindsByNotes 34 = .ok (.iload 5, 2) := by decide +kernel
theorem dX1_kindsByNotes_36 : decode cX1_kindsByNotes 36 = .ok (.iconst 5, 1) := by decide +kernel
theorem dX1_kindsByNotes_37 : decode cX1_kindsByNotes 37 = .ok (.imul, 1) := by decide +kernel
theorem dX1_kindsByNotes_38 : decode cX1_kindsByNotes 38 = .ok (.iaload, 1) := by decide +kernel
theorem dX1_kindsByNotes_39 : decode cX1_kindsByNotes 39 = .ok (.iload_n 1, 1) := by decide +kernel
theorem dX1_kindsByNotes_40 : decode cX1_kindsByNotes 40 = .ok (.if_icmp .ne 13, 3) := by decide +kernel
theorem dX1_kindsByNotes_43 : decode cX1_kindsByNotes 43 = .ok (.aload_n 0, 1) := by decide +kernel
theorem dX1_kindsByNotes_44 : decode cX1_kindsByNotes 44 = .ok (.iload 5, 2) := by decide +kernel
theorem dX1_kindsByNotes_46 : decode cX1_kindsByNotes 46 = .ok (.iload_n 3, 1) := by decide +kernel
theorem dX1_kindsByNotes_47 : decode cX1_kindsByNotes 47 = .ok (.invokevirtual 59, 3) := by decide +kernel
theorem dX1_kindsByNotes_50 : decode cX1_kindsByNotes 50 = .ok (.ifCond .eq 7, 3) := by decide +kernel
theorem dX1_kindsByNotes_53 : decode cX1_kindsByNotes 53 = .ok (.iconst 1, 1) := by decide +kernel
theorem dX1_kindsByNotes_54 : decode cX1_kindsByNotes 54 = .ok (.goto 4, 3) := by decide +kernel
theorem dX1_kindsByNotes_57 : decode cX1_kindsByNotes 57 = .ok (.iconst 0, 1) := by decide +kernel
theorem dX1_kindsByNotes_58 : decode cX1_kindsByNotes 58 = .ok (.istore 4, 2) := by decide +kernel
theorem dX1_kindsByNotes_60 : decode cX1_kindsByNotes 60 = .ok (.iinc 5 1, 3) := by decide +kernel
theorem dX1_kindsByNotes_63 : decode cX1_kindsByNotes 63 = .ok (.goto (-47), 3) := by decide +kernel
theorem dX1_kindsByNotes_66 : decode cX1_kindsByNotes 66 = .ok (.iload_n 2, 1) := by decide +kernel
theorem dX1_kindsByNotes_67 : decode cX1_kindsByNotes 67 = .ok (.iload_n 3, 1) := by decide +kernel
theorem dX1_kindsByNotes_68 : decode cX1_kindsByNotes 68 = .ok (.iload 4, 2) := by decide +kernel
theorem dX1_kindsByNotes_70 : decode cX1_kindsByNotes 70 = .ok (.ifCond .eq 7, 3) := by decide +kernel
theorem dX1_kindsByNotes_73 : decode cX1_kindsByNotes 73 = .ok (.iconst 1, 1) := by decide +kernel
theorem dX1_kindsByNotes_74 : decode cX1_kindsByNotes 74 = .ok (.goto 4, 3) := by decide +kernel
theorem dX1_kindsByNotes_77 : decode cX1_kindsByNotes 77 = .ok (.iconst 0, 1) := by decide +kernel
theorem dX1_kindsByNotes_78 : decode cX1_kindsByNotes 78 = .ok (.invokestatic 63, 3) := by decide +kernel
theorem dX1_kindsByNotes_81 : decode cX1_kindsByNotes 81 = .ok (.istore_n 2, 1) := by decide +kernel
theorem dX1_kindsByNotes_82 : decode cX1_kindsByNotes 82 = .ok (.iinc 3 1, 3) := by decide +kernel
theorem dX1_kindsByNotes_85 : decode cX1_kindsByNotes 85 = .ok (.goto (-81), 3) := by decide +kernel
theorem dX1_kindsByNotes_88 : decode cX1_kindsByNotes 88 = .ok (.iload_n 2, 1) := by decide +kernel
theorem dX1_kindsByNotes_89 : decode cX1_kindsByNotes 89 = .ok (.ireturn, 1) := by decide +kernel
theorem dX1_startWalk_0 : decode cX1_startWalk 0 = .ok (.aload_n 1, 1) := by decide +kernel
theorem dX1_startWalk_1 : decode cX1_startWalk 1 = .ok (.aload_n 0, 1) := by decide +kernel
theorem dX1_startWalk_2 : decode cX1_startWalk 2 = .ok (.getfield 15, 3) := by decide +kernel
theorem dX1_startWalk_5 : decode cX1_startWalk 5 = .ok (.iload_n 2, 1) := by decide +kernel
theorem dX1_startWalk_6 : decode cX1_startWalk 6 = .ok (.iaload, 1) := by decide +kernel
theorem dX1_startWalk_7 : decode cX1_startWalk 7 = .ok (.putfield 67, 3) := by decide +kernel
theorem dX1_startWalk_10 : decode cX1_startWalk 10 = .ok (.aload_n 1, 1) := by decide +kernel
theorem dX1_startWalk_11 : decode cX1_startWalk 11 = .ok (.aload_n 0, 1) := by decide +kernel
theorem dX1_startWalk_12 : decode cX1_startWalk 12 = .ok (.getfield 19, 3) := by decide +kernel
theorem dX1_startWalk_15 : decode cX1_startWalk 15 = .ok (.iload_n 2, 1) := by decide +kernel
theorem dX1_startWalk_16 : decode cX1_startWalk 16 = .ok (.iaload, 1) := by decide +kernel
theorem dX1_startWalk_17 : decode cX1_startWalk 17 = .ok (.putfield 72, 3) := by decide +kernel
theorem dX1_startWalk_20 : decode cX1_startWalk 20 = .ok (.aload_n 1, 1) := by decide +kernel
theorem dX1_startWalk_21 : decode cX1_startWalk 21 = .ok (.aload_n 0, 1) := by decide +kernel
theorem dX1_startWalk_22 : decode cX1_startWalk 22 = .ok (.getfield 9, 3) := by decide +kernel
theorem dX1_startWalk_25 : decode cX1_startWalk 25 = .ok (.putfield 75, 3) := by decide +kernel
theorem dX1_startWalk_28 : decode cX1_startWalk 28 = .ok (.aload_n 1, 1) := by decide +kernel
theorem dX1_startWalk_29 : decode cX1_startWalk 29 = .ok (.aload_n 0, 1) := by decide +kernel
theorem dX1_startWalk_30 : decode cX1_startWalk 30 = .ok (.getfield 31, 3) := by decide +kernel
theorem dX1_startWalk_33 : decode cX1_startWalk 33 = .ok (.putfield 76, 3) := by decide +kernel
theorem dX1_startWalk_36 : decode cX1_startWalk 36 = .ok (.aload_n 1, 1) := by decide +kernel
theorem dX1_startWalk_37 : decode cX1_startWalk 37 = .ok (.aload_n 0, 1) := by decide +kernel
theorem dX1_startWalk_38 : decode cX1_startWalk 38 = .ok (.getfield 34, 3) := by decide +kernel
theorem dX1_startWalk_41 : decode cX1_startWalk 41 = .ok (.iload_n 2, 1) := by decide +kernel
theorem dX1_startWalk_42 : decode cX1_startWalk 42 = .ok (.invokestatic 77, 3) := by decide +kernel
theorem dX1_startWalk_45 : decode cX1_startWalk 45 = .ok (.iconst 1, 1) := by decide +kernel
theorem dX1_startWalk_46 : decode cX1_startWalk 46 = .ok (.if_icmp .ne 7, 3) := by decide +kernel
theorem dX1_startWalk_49 : decode cX1_startWalk 49 = .ok (.iconst 1, 1) := by decide +kernel
theorem dX1_startWalk_50 : decode cX1_startWalk 50 = .ok (.goto 4, 3) := by decide +kernel
theorem dX1_startWalk_53 : decode cX1_startWalk 53 = .ok (.iconst 0, 1) := by decide +kernel
theorem dX1_startWalk_54 : decode cX1_startWalk 54 = .ok (.putfield 81, 3) := by decide +kernel
theorem dX1_startWalk_57 : decode cX1_startWalk 57 = .ok (.aload_n 1, 1) := by decide +kernel
theorem dX1_startWalk_58 : decode cX1_startWalk 58 = .ok (.aload_n 0, 1) := by decide +kernel
theorem dX1_startWalk_59 : decode cX1_startWalk 59 = .ok (.getfield 37, 3) := by decide +kernel
theorem dX1_startWalk_62 : decode cX1_startWalk 62 = .ok (.iload_n 2, 1) := by decide +kernel
theorem dX1_startWalk_63 : decode cX1_startWalk 63 = .ok (.invokestatic 77, 3) := by decide +kernel
theorem dX1_startWalk_66 : decode cX1_startWalk 66 = .ok (.iconst 1, 1) := by decide +kernel
theorem dX1_startWalk_67 : decode cX1_startWalk 67 = .ok (.if_icmp .ne 7, 3) := by decide +kernel
theorem dX1_startWalk_70 : decode cX1_startWalk 70 = .ok (.iconst 1, 1) := by decide +kernel
theorem dX1_startWalk_71 : decode cX1_startWalk 71 = .ok (.goto 4, 3) := by decide +kernel
theorem dX1_startWalk_74 : decode cX1_startWalk 74 = .ok (.iconst 0, 1) := by decide +kernel
theorem dX1_startWalk_75 : decode cX1_startWalk 75 = .ok (.putfield 84, 3) := by decide +kernel
theorem dX1_startWalk_78 : decode cX1_startWalk 78 = .ok (.return_, 1) := by decide +kernel
theorem dX1_goBy_0 : decode cX1_goBy 0 = .ok (.iconst 0, 1) := by decide +kernel
theorem dX1_goBy_1 : decode cX1_goBy 1 = .ok (.istore_n 2, 1) := by decide +kernel
theorem dX1_goBy_2 : decode cX1_goBy 2 = .ok (.iconst 0, 1) := by decide +kernel
theorem dX1_goBy_3 : decode cX1_goBy 3 = .ok (.istore_n 3, 1) := by decide +kernel
theorem dX1_goBy_4 : decode cX1_goBy 4 = .ok (.iload_n 3, 1) := by decide +kernel
theorem dX1_goBy_5 : decode cX1_goBy 5 = .ok (.aload_n 0, 1) := by decide +kernel
theorem dX1_goBy_6 : decode cX1_goBy 6 = .ok (.getfield 28, 3) := by decide +kernel
theorem dX1_goBy_9 : decode cX1_goBy 9 = .ok (.if_icmp .ge 43, 3) := by decide +kernel
theorem dX1_goBy_12 : decode cX1_goBy 12 = .ok (.aload_n 0, 1) := by decide +kernel
theorem dX1_goBy_13 : decode cX1_goBy 13 = .ok (.aload_n 1, 1) := by decide +kernel
theorem dX1_goBy_14 : decode cX1_goBy 14 = .ok (.iload_n 3, 1) := by decide +kernel
theorem dX1_goBy_15 : decode cX1_goBy 15 = .ok (.invokevirtual 86, 3) := by decide +kernel
theorem dX1_goBy_18 : decode cX1_goBy 18 = .ok (.iload_n 2, 1) := by decide +kernel
theorem dX1_goBy_19 : decode cX1_goBy 19 = .ok (.iload_n 3, 1) := by decide +kernel
theorem dX1_goBy_20 : decode cX1_goBy 20 = .ok (.aload_n 1, 1) := by decide +kernel
theorem dX1_goBy_21 : decode cX1_goBy 21 = .ok (.invokevirtual 90, 3) := by decide +kernel
theorem dX1_goBy_24 : decode cX1_goBy 24 = .ok (.ifCond .eq 7, 3) := by decide +kernel
theorem dX1_goBy_27 : decode cX1_goBy 27 = .ok (.iconst 1, 1) := by decide +kernel
theorem dX1_goBy_28 : decode cX1_goBy 28 = .ok (.goto 4, 3) := by decide +kernel
theorem dX1_goBy_31 : decode cX1_goBy 31 = .ok (.iconst 0, 1) := by decide +kernel
theorem dX1_goBy_32 : decode cX1_goBy 32 = .ok (.invokestatic 63, 3) := by decide +kernel
theorem dX1_goBy_35 : decode cX1_goBy 35 = .ok (.istore_n 2, 1) := by decide +kernel
theorem dX1_goBy_36 : decode cX1_goBy 36 = .ok (.aload_n 0, 1) := by decide +kernel
theorem dX1_goBy_37 : decode cX1_goBy 37 = .ok (.getfield 19, 3) := by decide +kernel
theorem dX1_goBy_40 : decode cX1_goBy 40 = .ok (.iload_n 3, 1) := by decide +kernel
theorem dX1_goBy_41 : decode cX1_goBy 41 = .ok (.aload_n 1, 1) := by decide +kernel
theorem dX1_goBy_42 : decode cX1_goBy 42 = .ok (.getfield 72, 3) := by decide +kernel
theorem dX1_goBy_45 : decode cX1_goBy 45 = .ok (.iastore, 1) := by decide +kernel
theorem dX1_goBy_46 : decode cX1_goBy 46 = .ok (.iinc 3 1, 3) := by decide +kernel
theorem dX1_goBy_49 : decode cX1_goBy 49 = .ok (.goto (-45), 3) := by decide +kernel
theorem dX1_goBy_52 : decode cX1_goBy 52 = .ok (.aload_n 0, 1) := by decide +kernel
theorem dX1_goBy_53 : decode cX1_goBy 53 = .ok (.dup, 1) := by decide +kernel
theorem dX1_goBy_54 : decode cX1_goBy 54 = .ok (.getfield 34, 3) := by decide +kernel
theorem dX1_goBy_57 : decode cX1_goBy 57 = .ok (.iload_n 2, 1) := by decide +kernel
theorem dX1_goBy_58 : decode cX1_goBy 58 = .ok (.iconst (-1), 1) := by decide +kernel
theorem dX1_goBy_59 : decode cX1_goBy 59 = .ok (.ixor, 1) := by decide +kernel
theorem dX1_goBy_60 : decode cX1_goBy 60 = .ok (.iand, 1) := by decide +kernel
theorem dX1_goBy_61 : decode cX1_goBy 61 = .ok (.putfield 34, 3) := by decide +kernel
theorem dX1_goBy_64 : decode cX1_goBy 64 = .ok (.aload_n 0, 1) := by decide +kernel
theorem dX1_goBy_65 : decode cX1_goBy 65 = .ok (.dup, 1) := by decide +kernel
theorem dX1_goBy_66 : decode cX1_goBy 66 = .ok (.getfield 37, 3) := by decide +kernel
theorem dX1_goBy_69 : decode cX1_goBy 69 = .ok (.iload_n 2, 1) := by decide +kernel
theorem dX1_goBy_70 : decode cX1_goBy 70 = .ok (.iconst (-1), 1) := by decide +kernel
theorem dX1_goBy_71 : decode cX1_goBy 71 = .ok (.ixor, 1) := by decide +kernel
theorem dX1_goBy_72 : decode cX1_goBy 72 = .ok (.iand, 1) := by decide +kernel
theorem dX1_goBy_73 : decode cX1_goBy 73 = .ok (.putfield 37, 3) := by decide +kernel
theorem dX1_goBy_76 : decode cX1_goBy 76 = .ok (.aload_n 0, 1) := by decide +kernel
theorem dX1_goBy_77 : decode cX1_goBy 77 = .ok (.dup, 1) := by decide +kernel
theorem dX1_goBy_78 : decode cX1_goBy 78 = .ok (.getfield 40, 3) := by decide +kernel
theorem dX1_goBy_81 : decode cX1_goBy 81 = .ok (.iload_n 2, 1) := by decide +kernel
theorem dX1_goBy_82 : decode cX1_goBy 82 = .ok (.invokestatic 94, 3) := by decide +kernel
theorem dX1_goBy_85 : decode cX1_goBy 85 = .ok (.iadd, 1) := by decide +kernel
theorem dX1_goBy_86 : decode cX1_goBy 86 = .ok (.putfield 40, 3) := by decide +kernel
theorem dX1_goBy_89 : decode cX1_goBy 89 = .ok (.aload_n 0, 1) := by decide +kernel
theorem dX1_goBy_90 : decode cX1_goBy 90 = .ok (.dup, 1) := by decide +kernel
theorem dX1_goBy_91 : decode cX1_goBy 91 = .ok (.getfield 31, 3) := by decide +kernel
theorem dX1_goBy_94 : decode cX1_goBy 94 = .ok (.iconst 1, 1) := by decide +kernel
theorem dX1_goBy_95 : decode cX1_goBy 95 = .ok (.iadd, 1) := by decide +kernel
theorem dX1_goBy_96 : decode cX1_goBy 96 = .ok (.putfield 31, 3) := by decide +kernel
theorem dX1_goBy_99 : decode cX1_goBy 99 = .ok (.iload_n 2, 1) := by decide +kernel
theorem dX1_goBy_100 : decode cX1_goBy 100 = .ok (.ireturn, 1) := by decide +kernel
theorem dX1_keepPast_0 : decode cX1_keepPast 0 = .ok (.aload_n 0, 1) := by decide +kernel
theorem dX1_keepPast_1 : decode cX1_keepPast 1 = .ok (.getfield 46, 3) := by decide +kernel
theorem dX1_keepPast_4 : decode cX1_keepPast 4 = .ok (.bipush 8, 2) := by decide +kernel
theorem dX1_keepPast_6 : decode cX1_keepPast 6 = .ok (.if_icmp .lt 25, 3) := by decide +kernel
theorem dX1_keepPast_9 : decode cX1_keepPast 9 = .ok (.aload_n 0, 1) := by decide +kernel
theorem dX1_keepPast_10 : decode cX1_keepPast 10 = .ok (.getfield 25, 3) := by decide +kernel
theorem dX1_keepPast_13 : decode cX1_keepPast 13 = .ok (.bipush 11, 2) := by decide +kernel
theorem dX1_keepPast_15 : decode cX1_keepPast 15 = .ok (.aload_n 0, 1) := by decide +kernel
theorem dX1_keepPast_16 : decode cX1_keepPast 16 = .ok (.getfield 25, 3) := by decide +kernel
theorem dX1_keepPast_19 : decode cX1_keepPast 19 = .ok (.iconst 0, 1) := by decide +kernel
theorem dX1_keepPast_20 : decode cX1_keepPast 20 = .ok (.bipush 77, 2) := by decide +kernel
theorem dX1_keepPast_22 : decode cX1_keepPast 22 = .ok (.invokestatic 49, 3) := by decide +kernel
theorem dX1_keepPast_25 : decode cX1_keepPast 25 = .ok (.aload_n 0, 1) := by decide +kernel
theorem dX1_keepPast_26 : decode cX1_keepPast 26 = .ok (.bipush 7, 2) := by decide +kernel
theorem dX1_keepPast_28 : decode cX1_keepPast 28 = .ok (.putfield 46, 3) := by decide +kernel
theorem dX1_keepPast_31 : decode cX1_keepPast 31 = .ok (.aload_n 0, 1) := by decide +kernel
theorem dX1_keepPast_32 : decode cX1_keepPast 32 = .ok (.getfield 46, 3) := by decide +kernel
theorem dX1_keepPast_35 : decode cX1_keepPast 35 = .ok (.bipush 11, 2) := by decide +kernel
theorem dX1_keepPast_37 : decode cX1_keepPast 37 = .ok (.imul, 1) := by decide +kernel
theorem dX1_keepPast_38 : decode cX1_keepPast 38 = .ok (.istore_n 1, 1) := by decide +kernel
theorem dX1_keepPast_39 : decode cX1_keepPast 39 = .ok (.aload_n 0, 1) := by decide +kernel
theorem dX1_keepPast_40 : decode cX1_keepPast 40 = .ok (.getfield 19, 3) := by decide +kernel
theorem dX1_keepPast_43 : decode cX1_keepPast 43 = .ok (.iconst 0, 1) := by decide +kernel
theorem dX1_keepPast_44 : decode cX1_keepPast 44 = .ok (.aload_n 0, 1) := by decide +kernel
theorem dX1_keepPast_45 : decode cX1_keepPast 45 = .ok (.getfield 25, 3) := by decide +kernel
theorem dX1_keepPast_48 : decode cX1_keepPast 48 = .ok (.iload_n 1, 1) := by decide +kernel
theorem dX1_keepPast_49 : decode cX1_keepPast 49 = .ok (.bipush 7, 2) := by decide +kernel
theorem dX1_keepPast_51 : decode cX1_keepPast 51 = .ok (.invokestatic 49, 3) := by decide +kernel
theorem dX1_keepPast_54 : decode cX1_keepPast 54 = .ok (.aload_n 0, 1) := by decide +kernel
theorem dX1_keepPast_55 : decode cX1_keepPast 55 = .ok (.getfield 25, 3) := by decide +kernel
theorem dX1_keepPast_58 : decode cX1_keepPast 58 = .ok (.iload_n 1, 1) := by decide +kernel
theorem dX1_keepPast_59 : decode cX1_keepPast 59 = .ok (.bipush 7, 2) := by decide +kernel
theorem dX1_keepPast_61 : decode cX1_keepPast 61 = .ok (.iadd, 1) := by decide +kernel
theorem dX1_keepPast_62 : decode cX1_keepPast 62 = .ok (.aload_n 0, 1) := by decide +kernel
theorem dX1_keepPast_63 : decode cX1_keepPast 63 = .ok (.getfield 34, 3) := by decide +kernel
theorem dX1_keepPast_66 : decode cX1_keepPast 66 = .ok (.iastore, 1) := by decide +kernel
theorem dX1_keepPast_67 : decode cX1_keepPast 67 = .ok (.aload_n 0, 1) := by decide +kernel
theorem dX1_keepPast_68 : decode cX1_keepPast 68 = .ok (.getfield 25, 3) := by decide +kernel
theorem dX1_keepPast_71 : decode cX1_keepPast 71 = .ok (.iload_n 1, 1) := by decide +kernel
theorem dX1_keepPast_72 : decode cX1_keepPast 72 = .ok (.bipush 7, 2) := by decide +kernel
theorem dX1_keepPast_74 : decode cX1_keepPast 74 = .ok (.iadd, 1) := by decide +kernel
theorem dX1_keepPast_75 : decode cX1_keepPast 75 = .ok (.iconst 1, 1) := by decide +kernel
theorem dX1_keepPast_76 : decode cX1_keepPast 76 = .ok (.iadd, 1) := by decide +kernel
theorem dX1_keepPast_77 : decode cX1_keepPast 77 = .ok (.aload_n 0, 1) := by decide +kernel
theorem dX1_keepPast_78 : decode cX1_keepPast 78 = .ok (.getfield 37, 3) := by decide +kernel
theorem dX1_keepPast_81 : decode cX1_keepPast 81 = .ok (.iastore, 1) := by decide +kernel
theorem dX1_keepPast_82 : decode cX1_keepPast 82 = .ok (.aload_n 0, 1) := by decide +kernel
theorem dX1_keepPast_83 : decode cX1_keepPast 83 = .ok (.getfield 25, 3) := by decide +kernel
theorem dX1_keepPast_86 : decode cX1_keepPast 86 = .ok (.iload_n 1, 1) := by decide +kernel
theorem dX1_keepPast_87 : decode cX1_keepPast 87 = .ok (.bipush 7, 2) := by decide +kernel
theorem dX1_keepPast_89 : decode cX1_keepPast 89 = .ok (.iadd, 1) := by decide +kernel
theorem dX1_keepPast_90 : decode cX1_keepPast 90 = .ok (.iconst 2, 1) := by decide +kernel
theorem dX1_keepPast_91 : decode cX1_keepPast 91 = .ok (.iadd, 1) := by decide +kernel
theorem dX1_keepPast_92 : decode cX1_keepPast 92 = .ok (.aload_n 0, 1) := by decide +kernel
theorem dX1_keepPast_93 : decode cX1_keepPast 93 = .ok (.getfield 40, 3) := by decide +kernel
theorem dX1_keepPast_96 : decode cX1_keepPast 96 = .ok (.iastore, 1) := by decide +kernel
theorem dX1_keepPast_97 : decode cX1_keepPast 97 = .ok (.aload_n 0, 1) := by decide +kernel
theorem dX1_keepPast_98 : decode cX1_keepPast 98 = .ok (.getfield 25, 3) := by decide +kernel
theorem dX1_keepPast_101 : decode cX1_keepPast 101 = .ok (.iload_n 1, 1) := by decide +kernel
theorem dX1_keepPast_102 : decode cX1_keepPast 102 = .ok (.bipush 7, 2) := by decide +kernel
theorem dX1_keepPast_104 : decode cX1_keepPast 104 = .ok (.iadd, 1) := by decide +kernel
theorem dX1_keepPast_105 : decode cX1_keepPast 105 = .ok (.iconst 3, 1) := by decide +kernel
theorem dX1_keepPast_106 : decode cX1_keepPast 106 = .ok (.iadd, 1) := by decide +kernel
theorem dX1_keepPast_107 : decode cX1_keepPast 107 = .ok (.aload_n 0, 1) := by decide +kernel
theorem dX1_keepPast_108 : decode cX1_keepPast 108 = .ok (.getfield 31, 3) := by decide +kernel
theorem dX1_keepPast_111 : decode cX1_keepPast 111 = .ok (.iastore, 1) := by decide +kernel
theorem dX1_keepPast_112 : decode cX1_keepPast 112 = .ok (.aload_n 0, 1) := by decide +kernel
theorem dX1_keepPast_113 : decode cX1_keepPast 113 = .ok (.dup, 1) := by decide +kernel
theorem dX1_keepPast_114 : decode cX1_keepPast 114 = .ok (.getfield 46, 3) := by decide +kernel
theorem dX1_keepPast_117 : decode cX1_keepPast 117 = .ok (.iconst 1, 1) := by decide +kernel
theorem dX1_keepPast_118 : decode cX1_keepPast 118 = .ok (.iadd, 1) := by decide +kernel
theorem dX1_keepPast_119 : decode cX1_keepPast 119 = .ok (.putfield 46, 3) := by decide +kernel
theorem dX1_keepPast_122 : decode cX1_keepPast 122 = .ok (.return_, 1) := by decide +kernel
theorem dX1_takePast_0 : decode cX1_takePast 0 = .ok (.aload_n 0, 1) := by decide +kernel
theorem dX1_takePast_1 : decode cX1_takePast 1 = .ok (.getfield 46, 3) := by decide +kernel
theorem dX1_takePast_4 : decode cX1_takePast 4 = .ok (.ifCond .gt 4, 3) := by decide +kernel
theorem dX1_takePast_7 : decode cX1_takePast 7 = .ok (.return_, 1) := by decide +kernel
theorem dX1_takePast_8 : decode cX1_takePast 8 = .ok (.aload_n 0, 1) := by decide +kernel
theorem dX1_takePast_9 : decode cX1_takePast 9 = .ok (.dup, 1) := by decide +kernel
theorem dX1_takePast_10 : decode cX1_takePast 10 = .ok (.getfield 46, 3) := by decide +kernel
theorem dX1_takePast_13 : decode cX1_takePast 13 = .ok (.iconst 1, 1) := by decide +kernel
theorem dX1_takePast_14 : decode cX1_takePast 14 = .ok (.isub, 1) := by decide +kernel
theorem dX1_takePast_15 : decode cX1_takePast 15 = .ok (.putfield 46, 3) := by decide +kernel
theorem dX1_takePast_18 : decode cX1_takePast 18 = .ok (.aload_n 0, 1) := by decide +kernel
theorem dX1_takePast_19 : decode cX1_takePast 19 = .ok (.getfield 46, 3) := by decide +kernel
theorem dX1_takePast_22 : decode cX1_takePast 22 = .ok (.bipush 11, 2) := by decide +kernel
theorem dX1_takePast_24 : decode cX1_takePast 24 = .ok (.imul, 1) := by decide +kernel
theorem dX1_takePast_25 : decode cX1_takePast 25 = .ok (.istore_n 1, 1) := by decide +kernel
theorem dX1_takePast_26 : decode cX1_takePast 26 = .ok (.aload_n 0, 1) := by decide +kernel
theorem dX1_takePast_27 : decode cX1_takePast 27 = .ok (.getfield 25, 3) := by decide +kernel
theorem dX1_takePast_30 : decode cX1_takePast 30 = .ok (.iload_n 1, 1) := by decide +kernel
theorem dX1_takePast_31 : decode cX1_takePast 31 = .ok (.aload_n 0, 1) := by decide +kernel
theorem dX1_takePast_32 : decode cX1_takePast 32 = .ok (.getfield 19, 3) := by decide +kernel
theorem dX1_takePast_35 : decode cX1_takePast 35 = .ok (.iconst 0, 1) := by decide +kernel
theorem dX1_takePast_36 : decode cX1_takePast 36 = .ok (.bipush 7, 2) := by decide +kernel
theorem dX1_takePast_38 : decode cX1_takePast 38 = .ok (.invokestatic 49, 3) := by decide +kernel
theorem dX1_takePast_41 : decode cX1_takePast 41 = .ok (.aload_n 0, 1) := by decide +kernel
theorem dX1_takePast_42 : decode cX1_takePast 42 = .ok (.aload_n 0, 1) := by decide +kernel
theorem dX1_takePast_43 : decode cX1_takePast 43 = .ok (.getfield 25, 3) := by decide +kernel
theorem dX1_takePast_46 : decode cX1_takePast 46 = .ok (.iload_n 1, 1) := by decide +kernel
theorem dX1_takePast_47 : decode cX1_takePast 47 = .ok (.bipush 7, 2) := by decide +kernel
theorem dX1_takePast_49 : decode cX1_takePast 49 = .ok (.iadd, 1) := by decide +kernel
theorem dX1_takePast_50 : decode cX1_takePast 50 = .ok (.iaload, 1) := by decide +kernel
theorem dX1_takePast_51 : decode cX1_takePast 51 = .ok (.putfield 34, 3) := by decide +kernel
theorem dX1_takePast_54 : decode cX1_takePast 54 = .ok (.aload_n 0, 1) := by decide +kernel
theorem dX1_takePast_55 : decode cX1_takePast 55 = .ok (.aload_n 0, 1) := by decide +kernel
theorem dX1_takePast_56 : decode cX1_takePast 56 = .ok (.getfield 25, 3) := by decide +kernel
theorem dX1_takePast_59 : decode cX1_takePast 59 = .ok (.iload_n 1, 1) := by decide +kernel
theorem dX1_takePast_60 : decode cX1_takePast 60 = .ok (.bipush 7, 2) := by decide +kernel
theorem dX1_takePast_62 : decode cX1_takePast 62 = .ok (.iadd, 1) := by decide +kernel
theorem dX1_takePast_63 : decode cX1_takePast 63 = .ok (.iconst 1, 1) := by decide +kernel
theorem dX1_takePast_64 : decode cX1_takePast 64 = .ok (.iadd, 1) := by decide +kernel
theorem dX1_takePast_65 : decode cX1_takePast 65 = .ok (.iaload, 1) := by decide +kernel
theorem dX1_takePast_66 : decode cX1_takePast 66 = .ok (.putfield 37, 3) := by decide +kernel
theorem dX1_takePast_69 : decode cX1_takePast 69 = .ok (.aload_n 0, 1) := by decide +kernel
theorem dX1_takePast_70 : decode cX1_takePast 70 = .ok (.aload_n 0, 1) := by decide +kernel
theorem dX1_takePast_71 : decode cX1_takePast 71 = .ok (.getfield 25, 3) := by decide +kernel
theorem dX1_takePast_74 : decode cX1_takePast 74 = .ok (.iload_n 1, 1) := by decide +kernel
theorem dX1_takePast_75 : decode cX1_takePast 75 = .ok (.bipush 7, 2) := by decide +kernel
theorem dX1_takePast_77 : decode cX1_takePast 77 = .ok (.iadd, 1) := by decide +kernel
theorem dX1_takePast_78 : decode cX1_takePast 78 = .ok (.iconst 2, 1) := by decide +kernel
theorem dX1_takePast_79 : decode cX1_takePast 79 = .ok (.iadd, 1) := by decide +kernel
theorem dX1_takePast_80 : decode cX1_takePast 80 = .ok (.iaload, 1) := by decide +kernel
theorem dX1_takePast_81 : decode cX1_takePast 81 = .ok (.putfield 40, 3) := by decide +kernel
theorem dX1_takePast_84 : decode cX1_takePast 84 = .ok (.aload_n 0, 1) := by decide +kernel
theorem dX1_takePast_85 : decode cX1_takePast 85 = .ok (.aload_n 0, 1) := by decide +kernel
theorem dX1_takePast_86 : decode cX1_takePast 86 = .ok (.getfield 25, 3) := by decide +kernel
theorem dX1_takePast_89 : decode cX1_takePast 89 = .ok (.iload_n 1, 1) := by decide +kernel
theorem dX1_takePast_90 : decode cX1_takePast 90 = .ok (.bipush 7, 2) := by decide +kernel
theorem dX1_takePast_92 : decode cX1_takePast 92 = .ok (.iadd, 1) := by decide +kernel
theorem dX1_takePast_93 : decode cX1_takePast 93 = .ok (.iconst 3, 1) := by decide +kernel
theorem dX1_takePast_94 : decode cX1_takePast 94 = .ok (.iadd, 1) := by decide +kernel
theorem dX1_takePast_95 : decode cX1_takePast 95 = .ok (.iaload, 1) := by decide +kernel
theorem dX1_takePast_96 : decode cX1_takePast 96 = .ok (.putfield 31, 3) := by decide +kernel
theorem dX1_takePast_99 : decode cX1_takePast 99 = .ok (.return_, 1) := by decide +kernel
theorem dX2_init_0 : decode cX2_init 0 = .ok (.aload_n 0, 1) := by decide +kernel
theorem dX2_init_1 : decode cX2_init 1 = .ok (.invokespecial 3, 3) := by decide +kernel
theorem dX2_init_4 : decode cX2_init 4 = .ok (.return_, 1) := by decide +kernel
theorem dX2_actOfDay_0 : decode cX2_actOfDay 0 = .ok (.aload_n 0, 1) := by decide +kernel
theorem dX2_actOfDay_1 : decode cX2_actOfDay 1 = .ok (.getfield 9, 3) := by decide +kernel
theorem dX2_actOfDay_4 : decode cX2_actOfDay 4 = .ok (.aload_n 0, 1) := by decide +kernel
theorem dX2_actOfDay_5 : decode cX2_actOfDay 5 = .ok (.getfield 15, 3) := by decide +kernel
theorem dX2_actOfDay_8 : decode cX2_actOfDay 8 = .ok (.aload_n 0, 1) := by decide +kernel
theorem dX2_actOfDay_9 : decode cX2_actOfDay 9 = .ok (.getfield 18, 3) := by decide +kernel
theorem dX2_actOfDay_12 : decode cX2_actOfDay 12 = .ok (.aload_n 0, 1) := by decide +kernel
theorem dX2_actOfDay_13 : decode cX2_actOfDay 13 = .ok (.getfield 22, 3) := by decide +kernel
theorem dX2_actOfDay_16 : decode cX2_actOfDay 16 = .ok (.invokestatic 25, 3) := by decide +kernel
theorem dX2_actOfDay_19 : decode cX2_actOfDay 19 = .ok (.ireturn, 1) := by decide +kernel
theorem dX2_doesIt_0 : decode cX2_doesIt 0 = .ok (.aload_n 0, 1) := by decide +kernel
theorem dX2_doesIt_1 : decode cX2_doesIt 1 = .ok (.getfield 9, 3) := by decide +kernel
theorem dX2_doesIt_4 : decode cX2_doesIt 4 = .ok (.aload_n 0, 1) := by decide +kernel
theorem dX2_doesIt_5 : decode cX2_doesIt 5 = .ok (.getfield 15, 3) := by decide +kernel
theorem dX2_doesIt_8 : decode cX2_doesIt 8 = .ok (.aload_n 0, 1) := by decide +kernel
theorem dX2_doesIt_9 : decode cX2_doesIt 9 = .ok (.getfield 18, 3) := by decide +kernel
theorem dX2_doesIt_12 : decode cX2_doesIt 12 = .ok (.aload_n 0, 1) := by decide +kernel
theorem dX2_doesIt_13 : decode cX2_doesIt 13 = .ok (.getfield 22, 3) := by decide +kernel
theorem dX2_doesIt_16 : decode cX2_doesIt 16 = .ok (.invokestatic 25, 3) := by decide +kernel
theorem dX2_doesIt_19 : decode cX2_doesIt 19 = .ok (.aload_n 0, 1) := by decide +kernel
theorem dX2_doesIt_20 : decode cX2_doesIt 20 = .ok (.getfield 29, 3) := by decide +kernel
theorem dX2_doesIt_23 : decode cX2_doesIt 23 = .ok (.if_icmp .lt 7, 3) := by decide +kernel
theorem dX2_doesIt_26 : decode cX2_doesIt 26 = .ok (.iconst 1, 1) := by decide +kernel
theorem dX2_doesIt_27 : decode cX2_doesIt 27 = .ok (.goto 4, 3) := by decide +kernel
theorem dX2_doesIt_30 : decode cX2_doesIt 30 = .ok (.iconst 0, 1) := by decide +kernel
theorem dX2_doesIt_31 : decode cX2_doesIt 31 = .ok (.ireturn, 1) := by decide +kernel
theorem dX2_goBy_0 : decode cX2_goBy 0 = .ok (.aload_n 0, 1) := by decide +kernel
theorem dX2_goBy_1 : decode cX2_goBy 1 = .ok (.getfield 32, 3) := by decide +kernel
theorem dX2_goBy_4 : decode cX2_goBy 4 = .ok (.ifCond .eq 21, 3) := by decide +kernel
theorem dX2_goBy_7 : decode cX2_goBy 7 = .ok (.aload_n 0, 1) := by decide +kernel
theorem dX2_goBy_8 : decode cX2_goBy 8 = .ok (.getfield 18, 3) := by decide +kernel
theorem dX2_goBy_11 : decode cX2_goBy 11 = .ok (.ifCond .eq 14, 3) := by decide +kernel
theorem dX2_goBy_14 : decode cX2_goBy 14 = .ok (.aload_n 0, 1) := by decide +kernel
theorem dX2_goBy_15 : decode cX2_goBy 15 = .ok (.invokevirtual 35, 3) := by decide +kernel
theorem dX2_goBy_18 : decode cX2_goBy 18 = .ok (.ifCond .eq 7, 3) := by decide +kernel
theorem dX2_goBy_21 : decode cX2_goBy 21 = .ok (.iconst 1, 1) := by decide +kernel
theorem dX2_goBy_22 : decode cX2_goBy 22 = .ok (.goto 4, 3) := by decide +kernel
theorem dX2_goBy_25 : decode cX2_goBy 25 = .ok (.iconst 0, 1) := by decide +kernel
theorem dX2_goBy_26 : decode cX2_goBy 26 = .ok (.istore_n 1, 1) := by decide +kernel
theorem dX2_goBy_27 : decode cX2_goBy 27 = .ok (.aload_n 0, 1) := by decide +kernel
theorem dX2_goBy_28 : decode cX2_goBy 28 = .ok (.getfield 18, 3) := by decide +kernel
theorem dX2_goBy_31 : decode cX2_goBy 31 = .ok (.ifCond .eq 18, 3) := by decide +kernel
theorem dX2_goBy_34 : decode cX2_goBy 34 = .ok (.aload_n 0, 1) := by decide +kernel
theorem dX2_goBy_35 : decode cX2_goBy 35 = .ok (.getfield 22, 3) := by decide +kernel
theorem dX2_goBy_38 : decode cX2_goBy 38 = .ok (.aload_n 0, 1) := by decide +kernel
theorem dX2_goBy_39 : decode cX2_goBy 39 = .ok (.getfield 9, 3) := by decide +kernel
theorem dX2_goBy_42 : decode cX2_goBy 42 = .ok (.invokestatic 39, 3) := by decide +kernel
theorem dX2_goBy_45 : decode cX2_goBy 45 = .ok (.iadd, 1) := by decide +kernel
theorem dX2_goBy_46 : decode cX2_goBy 46 = .ok (.goto 9, 3) := by decide +kernel
theorem dX2_goBy_49 : decode cX2_goBy 49 = .ok (.aload_n 0, 1) := by decide +kernel
theorem dX2_goBy_50 : decode cX2_goBy 50 = .ok (.getfield 22, 3) := by decide +kernel
theorem dX2_goBy_53 : decode cX2_goBy 53 = .ok (.iconst 1, 1) := by decide +kernel
theorem dX2_goBy_54 : decode cX2_goBy 54 = .ok (.isub, 1) := by decide +kernel
theorem dX2_goBy_55 : decode cX2_goBy 55 = .ok (.istore_n 2, 1) := by decide +kernel
theorem dX2_goBy_56 : decode cX2_goBy 56 = .ok (.aload_n 0, 1) := by decide +kernel
theorem dX2_goBy_57 : decode cX2_goBy 57 = .ok (.iconst 0, 1) := by decide +kernel
theorem dX2_goBy_58 : decode cX2_goBy 58 = .ok (.iload_n 2, 1) := by decide +kernel
theorem dX2_goBy_59 : decode cX2_goBy 59 = .ok (.bipush 99, 2) := by decide +kernel
theorem dX2_goBy_61 : decode cX2_goBy 61 = .ok (.invokestatic 43, 3) := by decide +kernel
theorem dX2_goBy_64 : decode cX2_goBy 64 = .ok (.invokestatic 49, 3) := by decide +kernel
theorem dX2_goBy_67 : decode cX2_goBy 67 = .ok (.putfield 22, 3) := by decide +kernel
theorem dX2_goBy_70 : decode cX2_goBy 70 = .ok (.aload_n 0, 1) := by decide +kernel
theorem dX2_goBy_71 : decode cX2_goBy 71 = .ok (.dup, 1) := by decide +kernel
theorem dX2_goBy_72 : decode cX2_goBy 72 = .ok (.getfield 15, 3) := by decide +kernel
theorem dX2_goBy_75 : decode cX2_goBy 75 = .ok (.iconst 1, 1) := by decide +kernel
theorem dX2_goBy_76 : decode cX2_goBy 76 = .ok (.iadd, 1) := by decide +kernel
theorem dX2_goBy_77 : decode cX2_goBy 77 = .ok (.putfield 15, 3) := by decide +kernel
theorem dX2_goBy_80 : decode cX2_goBy 80 = .ok (.iload_n 1, 1) := by decide +kernel
theorem dX2_goBy_81 : decode cX2_goBy 81 = .ok (.ifCond .eq 13, 3) := by decide +kernel
theorem dX2_goBy_84 : decode cX2_goBy 84 = .ok (.aload_n 0, 1) := by decide +kernel
theorem dX2_goBy_85 : decode cX2_goBy 85 = .ok (.iconst 0, 1) := by decide +kernel
theorem dX2_goBy_86 : decode cX2_goBy 86 = .ok (.putfield 32, 3) := by decide +kernel
theorem dX2_goBy_89 : decode cX2_goBy 89 = .ok (.aload_n 0, 1) := by decide +kernel
theorem dX2_goBy_90 : decode cX2_goBy 90 = .ok (.iconst 0, 1) := by decide +kernel
theorem dX2_goBy_91 : decode cX2_goBy 91 = .ok (.putfield 18, 3) := by decide +kernel
theorem dX2_goBy_94 : decode cX2_goBy 94 = .ok (.iload_n 1, 1) := by decide +kernel
theorem dX2_goBy_95 : decode cX2_goBy 95 = .ok (.ireturn, 1) := by decide +kernel
