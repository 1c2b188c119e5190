theorem dX6_init_0 : decode cX6_init 0 = .ok (.aload_n 0, 1) := by decide +kernel
theorem dX6_init_1 : decode cX6_init 1 = .ok (.invokespecial 3, 3) := by decide +kernel
theorem dX6_init_4 : decode cX6_init 4 = .ok (.aload_n 0, 1) := by decide +kernel
theorem dX6_init_5 : decode cX6_init 5 = .ok (.new 9, 3) := by decide +kernel
theorem dX6_init_8 : decode cX6_init 8 = .ok (.dup, 1) := by decide +kernel
theorem dX6_init_9 : decode cX6_init 9 = .ok (.invokespecial 11, 3) := by decide +kernel
theorem dX6_init_12 : decode cX6_init 12 = .ok (.putfield 12, 3) := by decide +kernel
theorem dX6_init_15 : decode cX6_init 15 = .ok (.aload_n 0, 1) := by decide +kernel
theorem dX6_init_16 : decode cX6_init 16 = .ok (.sipush 150, 3) := by decide +kernel
theorem dX6_init_19 : decode cX6_init 19 = .ok (.newarray .byte, 2) := by decide +kernel
theorem dX6_init_21 : decode cX6_init 21 = .ok (.putfield 18, 3) := by decide +kernel
theorem dX6_init_24 : decode cX6_init 24 = .ok (.return_, 1) := by decide +kernel
theorem dX6_isFull_0 : decode cX6_isFull 0 = .ok (.aload_n 0, 1) := by decide +kernel
theorem dX6_isFull_1 : decode cX6_isFull 1 = .ok (.getfield 22, 3) := by decide +kernel
theorem dX6_isFull_4 : decode cX6_isFull 4 = .ok (.aload_n 0, 1) := by decide +kernel
theorem dX6_isFull_5 : decode cX6_isFull 5 = .ok (.getfield 18, 3) := by decide +kernel
theorem dX6_isFull_8 : decode cX6_isFull 8 = .ok (.arraylength, 1) := by decide +kernel
theorem dX6_isFull_9 : decode cX6_isFull 9 = .ok (.if_icmp .lt 7, 3) := by decide +kernel
theorem dX6_isFull_12 : decode cX6_isFull 12 = .ok (.iconst 1, 1) := by decide +kernel
theorem dX6_isFull_13 : decode cX6_isFull 13 = .ok (.goto 4, 3) := by decide +kernel
theorem dX6_isFull_16 : decode cX6_isFull 16 = .ok (.iconst 0, 1) := by decide +kernel
theorem dX6_isFull_17 : decode cX6_isFull 17 = .ok (.ireturn, 1) := by decide +kernel
theorem dX6_add_0 : decode cX6_add 0 = .ok (.aload_n 0, 1) := by decide +kernel
theorem dX6_add_1 : decode cX6_add 1 = .ok (.getfield 22, 3) := by decide +kernel
theorem dX6_add_4 : decode cX6_add 4 = .ok (.aload_n 0, 1) := by decide +kernel
theorem dX6_add_5 : decode cX6_add 5 = .ok (.getfield 18, 3) := by decide +kernel
theorem dX6_add_8 : decode cX6_add 8 = .ok (.arraylength, 1) := by decide +kernel
theorem dX6_add_9 : decode cX6_add 9 = .ok (.if_icmp .ge 24, 3) := by decide +kernel
theorem dX6_add_12 : decode cX6_add 12 = .ok (.aload_n 0, 1) := by decide +kernel
theorem dX6_add_13 : decode cX6_add 13 = .ok (.getfield 18, 3) := by decide +kernel
theorem dX6_add_16 : decode cX6_add 16 = .ok (.aload_n 0, 1) := by decide +kernel
theorem dX6_add_17 : decode cX6_add 17 = .ok (.getfield 22, 3) := by decide +kernel
theorem dX6_add_20 : decode cX6_add 20 = .ok (.iload_n 1, 1) := by decide +kernel
theorem dX6_add_21 : decode cX6_add 21 = .ok (.i2b, 1) := by decide +kernel
theorem dX6_add_22 : decode cX6_add 22 = .ok (.bastore, 1) := by decide +kernel
theorem dX6_add_23 : decode cX6_add 23 = .ok (.aload_n 0, 1) := by decide +kernel
theorem dX6_add_24 : decode cX6_add 24 = .ok (.dup, 1) := by decide +kernel
theorem dX6_add_25 : decode cX6_add 25 = .ok (.getfield 22, 3) := by decide +kernel
theorem dX6_add_28 : decode cX6_add 28 = .ok (.iconst 1, 1) := by decide +kernel
theorem dX6_add_29 : decode cX6_add 29 = .ok (.iadd, 1) := by decide +kernel
theorem dX6_add_30 : decode cX6_add 30 = .ok (.putfield 22, 3) := by decide +kernel
theorem dX6_add_33 : decode cX6_add 33 = .ok (.aload_n 0, 1) := by decide +kernel
theorem dX6_add_34 : decode cX6_add 34 = .ok (.getfield 22, 3) := by decide +kernel
theorem dX6_add_37 : decode cX6_add 37 = .ok (.ireturn, 1) := by decide +kernel
theorem dX6_empty_0 : decode cX6_empty 0 = .ok (.aload_n 0, 1) := by decide +kernel
theorem dX6_empty_1 : decode cX6_empty 1 = .ok (.getfield 22, 3) := by decide +kernel
theorem dX6_empty_4 : decode cX6_empty 4 = .ok (.istore_n 1, 1) := by decide +kernel
theorem dX6_empty_5 : decode cX6_empty 5 = .ok (.aload_n 0, 1) := by decide +kernel
theorem dX6_empty_6 : decode cX6_empty 6 = .ok (.iconst 0, 1) := by decide +kernel
theorem dX6_empty_7 : decode cX6_empty 7 = .ok (.putfield 22, 3) := by decide +kernel
theorem dX6_empty_10 : decode cX6_empty 10 = .ok (.iload_n 1, 1) := by decide +kernel
theorem dX6_empty_11 : decode cX6_empty 11 = .ok (.ireturn, 1) := by decide +kernel
theorem dX6_readAll_0 : decode cX6_readAll 0 = .ok (.aload_n 0, 1) := by decide +kernel
theorem dX6_readAll_1 : decode cX6_readAll 1 = .ok (.getfield 12, 3) := by decide +kernel
theorem dX6_readAll_4 : decode cX6_readAll 4 = .ok (.invokevirtual 26, 3) := by decide +kernel
theorem dX6_readAll_7 : decode cX6_readAll 7 = .ok (.aload_n 0, 1) := by decide +kernel
theorem dX6_readAll_8 : decode cX6_readAll 8 = .ok (.iconst 0, 1) := by decide +kernel
theorem dX6_readAll_9 : decode cX6_readAll 9 = .ok (.putfield 29, 3) := by decide +kernel
theorem dX6_readAll_12 : decode cX6_readAll 12 = .ok (.iconst 0, 1) := by decide +kernel
theorem dX6_readAll_13 : decode cX6_readAll 13 = .ok (.istore_n 1, 1) := by decide +kernel
theorem dX6_readAll_14 : decode cX6_readAll 14 = .ok (.iconst 0, 1) := by decide +kernel
theorem dX6_readAll_15 : decode cX6_readAll 15 = .ok (.istore_n 2, 1) := by decide +kernel
theorem dX6_readAll_16 : decode cX6_readAll 16 = .ok (.iload_n 2, 1) := by decide +kernel
theorem dX6_readAll_17 : decode cX6_readAll 17 = .ok (.aload_n 0, 1) := by decide +kernel
theorem dX6_readAll_18 : decode cX6_readAll 18 = .ok (.getfield 22, 3) := by decide +kernel
theorem dX6_readAll_21 : decode cX6_readAll 21 = .ok (.if_icmp .gt 60, 3) := by decide +kernel
theorem dX6_readAll_24 : decode cX6_readAll 24 = .ok (.aload_n 0, 1) := by decide +kernel
theorem dX6_readAll_25 : decode cX6_readAll 25 = .ok (.invokevirtual 32, 3) := by decide +kernel
theorem dX6_readAll_28 : decode cX6_readAll 28 = .ok (.aload_n 0, 1) := by decide +kernel
theorem dX6_readAll_29 : decode cX6_readAll 29 = .ok (.getfield 35, 3) := by decide +kernel
theorem dX6_readAll_32 : decode cX6_readAll 32 = .ok (.ifCond .ne 9, 3) := by decide +kernel
theorem dX6_readAll_35 : decode cX6_readAll 35 = .ok (.iload_n 1, 1) := by decide +kernel
theorem dX6_readAll_36 : decode cX6_readAll 36 = .ok (.ifCond .le 5, 3) := by decide +kernel
theorem dX6_readAll_39 : decode cX6_readAll 39 = .ok (.iload_n 1, 1) := by decide +kernel
theorem dX6_readAll_40 : decode cX6_readAll 40 = .ok (.ireturn, 1) := by decide +kernel
theorem dX6_readAll_41 : decode cX6_readAll 41 = .ok (.aload_n 0, 1) := by decide +kernel
theorem dX6_readAll_42 : decode cX6_readAll 42 = .ok (.iload_n 1, 1) := by decide +kernel
theorem dX6_readAll_43 : decode cX6_readAll 43 = .ok (.ifCond .ne 7, 3) := by decide +kernel
theorem dX6_readAll_46 : decode cX6_readAll 46 = .ok (.iconst 1, 1) := by decide +kernel
theorem dX6_readAll_47 : decode cX6_readAll 47 = .ok (.goto 4, 3) := by decide +kernel
theorem dX6_readAll_50 : decode cX6_readAll 50 = .ok (.iconst 0, 1) := by decide +kernel
theorem dX6_readAll_51 : decode cX6_readAll 51 = .ok (.invokevirtual 38, 3) := by decide +kernel
theorem dX6_readAll_54 : decode cX6_readAll 54 = .ok (.ifCond .eq 10, 3) := by decide +kernel
theorem dX6_readAll_57 : decode cX6_readAll 57 = .ok (.aload_n 0, 1) := by decide +kernel
theorem dX6_readAll_58 : decode cX6_readAll 58 = .ok (.invokevirtual 42, 3) := by decide +kernel
theorem dX6_readAll_61 : decode cX6_readAll 61 = .ok (.ifCond .ne 11, 3) := by decide +kernel
theorem dX6_readAll_64 : decode cX6_readAll 64 = .ok (.bipush (-10), 2) := by decide +kernel
theorem dX6_readAll_66 : decode cX6_readAll 66 = .ok (.aload_n 0, 1) := by decide +kernel
theorem dX6_readAll_67 : decode cX6_readAll 67 = .ok (.getfield 46, 3) := by decide +kernel
theorem dX6_readAll_70 : decode cX6_readAll 70 = .ok (.isub, 1) := by decide +kernel
theorem dX6_readAll_71 : decode cX6_readAll 71 = .ok (.ireturn, 1) := by decide +kernel
theorem dX6_readAll_72 : decode cX6_readAll 72 = .ok (.iinc 1 1, 3) := by decide +kernel
theorem dX6_readAll_75 : decode cX6_readAll 75 = .ok (.iinc 2 1, 3) := by decide +kernel
theorem dX6_readAll_78 : decode cX6_readAll 78 = .ok (.goto (-62), 3) := by decide +kernel
theorem dX6_readAll_81 : decode cX6_readAll 81 = .ok (.bipush (-10), 2) := by decide +kernel
theorem dX6_readAll_83 : decode cX6_readAll 83 = .ok (.aload_n 0, 1) := by decide +kernel
theorem dX6_readAll_84 : decode cX6_readAll 84 = .ok (.getfield 46, 3) := by decide +kernel
theorem dX6_readAll_87 : decode cX6_readAll 87 = .ok (.isub, 1) := by decide +kernel
theorem dX6_readAll_88 : decode cX6_readAll 88 = .ok (.ireturn, 1) := by decide +kernel
theorem dX6_readItem_0 : decode cX6_readItem 0 = .ok (.aload_n 0, 1) := by decide +kernel
theorem dX6_readItem_1 : decode cX6_readItem 1 = .ok (.getfield 35, 3) := by decide +kernel
theorem dX6_readItem_4 : decode cX6_readItem 4 = .ok (.iconst 1, 1) := by decide +kernel
theorem dX6_readItem_5 : decode cX6_readItem 5 = .ok (.if_icmp .ne 13, 3) := by decide +kernel
theorem dX6_readItem_8 : decode cX6_readItem 8 = .ok (.iload_n 1, 1) := by decide +kernel
theorem dX6_readItem_9 : decode cX6_readItem 9 = .ok (.aload_n 0, 1) := by decide +kernel
theorem dX6_readItem_10 : decode cX6_readItem 10 = .ok (.ldc 49, 2) := by decide +kernel
theorem dX6_readItem_12 : decode cX6_readItem 12 = .ok (.invokevirtual 50, 3) := by decide +kernel
theorem dX6_readItem_15 : decode cX6_readItem 15 = .ok (.if_icmp .eq 5, 3) := by decide +kernel
theorem dX6_readItem_18 : decode cX6_readItem 18 = .ok (.iconst 0, 1) := by decide +kernel
theorem dX6_readItem_19 : decode cX6_readItem 19 = .ok (.ireturn, 1) := by decide +kernel
theorem dX6_readItem_20 : decode cX6_readItem 20 = .ok (.iload_n 1, 1) := by decide +kernel
theorem dX6_readItem_21 : decode cX6_readItem 21 = .ok (.ifCond .eq 8, 3) := by decide +kernel
theorem dX6_readItem_24 : decode cX6_readItem 24 = .ok (.aload_n 0, 1) := by decide +kernel
theorem dX6_readItem_25 : decode cX6_readItem 25 = .ok (.invokevirtual 54, 3) := by decide +kernel
theorem dX6_readItem_28 : decode cX6_readItem 28 = .ok (.ireturn, 1) := by decide +kernel
theorem dX6_readItem_29 : decode cX6_readItem 29 = .ok (.aload_n 0, 1) := by decide +kernel
theorem dX6_readItem_30 : decode cX6_readItem 30 = .ok (.ldc 57, 2) := by decide +kernel
theorem dX6_readItem_32 : decode cX6_readItem 32 = .ok (.invokevirtual 50, 3) := by decide +kernel
theorem dX6_readItem_35 : decode cX6_readItem 35 = .ok (.ifCond .eq 8, 3) := by decide +kernel
theorem dX6_readItem_38 : decode cX6_readItem 38 = .ok (.aload_n 0, 1) := by decide +kernel
theorem dX6_readItem_39 : decode cX6_readItem 39 = .ok (.invokevirtual 59, 3) := by decide +kernel
theorem dX6_readItem_42 : decode cX6_readItem 42 = .ok (.ireturn, 1) := by decide +kernel
theorem dX6_readItem_43 : decode cX6_readItem 43 = .ok (.aload_n 0, 1) := by decide +kernel
theorem dX6_readItem_44 : decode cX6_readItem 44 = .ok (.ldc 62, 2) := by decide +kernel
theorem dX6_readItem_46 : decode cX6_readItem 46 = .ok (.invokevirtual 50, 3) := by decide +kernel
theorem dX6_readItem_49 : decode cX6_readItem 49 = .ok (.ifCond .eq 8, 3) := by decide +kernel
theorem dX6_readItem_52 : decode cX6_readItem 52 = .ok (.aload_n 0, 1) := by decide +kernel
theorem dX6_readItem_53 : decode cX6_readItem 53 = .ok (.invokevirtual 64, 3) := by decide +kernel
theorem dX6_readItem_56 : decode cX6_readItem 56 = .ok (.ireturn, 1) := by decide +kernel
theorem dX6_readItem_57 : decode cX6_readItem 57 = .ok (.aload_n 0, 1) := by decide +kernel
theorem dX6_readItem_58 : decode cX6_readItem 58 = .ok (.ldc 67, 2) := by decide +kernel
theorem dX6_readItem_60 : decode cX6_readItem 60 = .ok (.invokevirtual 50, 3) := by decide +kernel
theorem dX6_readItem_63 : decode cX6_readItem 63 = .ok (.ifCond .eq 8, 3) := by decide +kernel
theorem dX6_readItem_66 : decode cX6_readItem 66 = .ok (.aload_n 0, 1) := by decide +kernel
theorem dX6_readItem_67 : decode cX6_readItem 67 = .ok (.invokevirtual 69, 3) := by decide +kernel
theorem dX6_readItem_70 : decode cX6_readItem 70 = .ok (.ireturn, 1) := by decide +kernel
theorem dX6_readItem_71 : decode cX6_readItem 71 = .ok (.aload_n 0, 1) := by decide +kernel
theorem dX6_readItem_72 : decode cX6_readItem 72 = .ok (.ldc 72, 2) := by decide +kernel
theorem dX6_readItem_74 : decode cX6_readItem 74 = .ok (.invokevirtual 50, 3) := by decide +kernel
theorem dX6_readItem_77 : decode cX6_readItem 77 = .ok (.ifCond .eq 8, 3) := by decide +kernel
theorem dX6_readItem_80 : decode cX6_readItem 80 = .ok (.aload_n 0, 1) := by decide +kernel
theorem dX6_readItem_81 : decode cX6_readItem 81 = .ok (.invokevirtual 74, 3) := by decide +kernel
theorem dX6_readItem_84 : decode cX6_readItem 84 = .ok (.ireturn, 1) := by decide +kernel
theorem dX6_readItem_85 : decode cX6_readItem 85 = .ok (.aload_n 0, 1) := by decide +kernel
theorem dX6_readItem_86 : decode cX6_readItem 86 = .ok (.ldc 77, 2) := by decide +kernel
theorem dX6_readItem_88 : decode cX6_readItem 88 = .ok (.invokevirtual 50, 3) := by decide +kernel
theorem dX6_readItem_91 : decode cX6_readItem 91 = .ok (.ifCond .eq 14, 3) := by decide +kernel
theorem dX6_readItem_94 : decode cX6_readItem 94 = .ok (.aload_n 0, 1) := by decide +kernel
theorem dX6_readItem_95 : decode cX6_readItem 95 = .ok (.invokevirtual 79, 3) := by decide +kernel
theorem dX6_readItem_98 : decode cX6_readItem 98 = .ok (.ifCond .eq 7, 3) := by decide +kernel
theorem dX6_readItem_101 : decode cX6_readItem 101 = .ok (.iconst 1, 1) := by decide +kernel
theorem dX6_readItem_102 : decode cX6_readItem 102 = .ok (.goto 4, 3) := by decide +kernel
theorem dX6_readItem_105 : decode cX6_readItem 105 = .ok (.iconst 0, 1) := by decide +kernel
theorem dX6_readItem_106 : decode cX6_readItem 106 = .ok (.ireturn, 1) := by decide +kernel
theorem dX6_readRowKinds_0 : decode cX6_readRowKinds 0 = .ok (.iconst 0, 1) := by decide +kernel
theorem dX6_readRowKinds_1 : decode cX6_readRowKinds 1 = .ok (.istore_n 1, 1) := by decide +kernel
theorem dX6_readRowKinds_2 : decode cX6_readRowKinds 2 = .ok (.iload_n 1, 1) := by decide +kernel
theorem dX6_readRowKinds_3 : decode cX6_readRowKinds 3 = .ok (.iconst 5, 1) := by decide +kernel
theorem dX6_readRowKinds_4 : decode cX6_readRowKinds 4 = .ok (.if_icmp .ge 33, 3) := by decide +kernel
theorem dX6_readRowKinds_7 : decode cX6_readRowKinds 7 = .ok (.aload_n 0, 1) := by decide +kernel
theorem dX6_readRowKinds_8 : decode cX6_readRowKinds 8 = .ok (.iconst 0, 1) := by decide +kernel
theorem dX6_readRowKinds_9 : decode cX6_readRowKinds 9 = .ok (.iconst 5, 1) := by decide +kernel
theorem dX6_readRowKinds_10 : decode cX6_readRowKinds 10 = .ok (.invokevirtual 82, 3) := by decide +kernel
theorem dX6_readRowKinds_13 : decode cX6_readRowKinds 13 = .ok (.ifCond .ne 5, 3) := by decide +kernel
theorem dX6_readRowKinds_16 : decode cX6_readRowKinds 16 = .ok (.iconst 0, 1) := by decide +kernel
theorem dX6_readRowKinds_17 : decode cX6_readRowKinds 17 = .ok (.ireturn, 1) := by decide +kernel
theorem dX6_readRowKinds_18 : decode cX6_readRowKinds 18 = .ok (.aload_n 0, 1) := by decide +kernel
theorem dX6_readRowKinds_19 : decode cX6_readRowKinds 19 = .ok (.getfield 12, 3) := by decide +kernel
theorem dX6_readRowKinds_22 : decode cX6_readRowKinds 22 = .ok (.getfield 86, 3) := by decide +kernel
theorem dX6_readRowKinds_25 : decode cX6_readRowKinds 25 = .ok (.iload_n 1, 1) := by decide +kernel
theorem dX6_readRowKinds_26 : decode cX6_readRowKinds 26 = .ok (.aload_n 0, 1) := by decide +kernel
theorem dX6_readRowKinds_27 : decode cX6_readRowKinds 27 = .ok (.getfield 90, 3) := by decide +kernel
theorem dX6_readRowKinds_30 : decode cX6_readRowKinds 30 = .ok (.iastore, 1) := by decide +kernel
theorem dX6_readRowKinds_31 : decode cX6_readRowKinds 31 = .ok (.iinc 1 1, 3) := by decide +kernel
theorem dX6_readRowKinds_34 : decode cX6_readRowKinds 34 = .ok (.goto (-32), 3) := by decide +kernel
theorem dX6_readRowKinds_37 : decode cX6_readRowKinds 37 = .ok (.iconst 1, 1) := by decide +kernel
theorem dX6_readRowKinds_38 : decode cX6_readRowKinds 38 = .ok (.ireturn, 1) := by decide +kernel
theorem dX6_readSoul_0 : decode cX6_readSoul 0 = .ok (.aload_n 0, 1) := by decide +kernel
theorem dX6_readSoul_1 : decode cX6_readSoul 1 = .ok (.getfield 12, 3) := by decide +kernel
theorem dX6_readSoul_4 : decode cX6_readSoul 4 = .ok (.getfield 93, 3) := by decide +kernel
theorem dX6_readSoul_7 : decode cX6_readSoul 7 = .ok (.bipush 7, 2) := by decide +kernel
theorem dX6_readSoul_9 : decode cX6_readSoul 9 = .ok (.if_icmp .ge 12, 3) := by decide +kernel
theorem dX6_readSoul_12 : decode cX6_readSoul 12 = .ok (.aload_n 0, 1) := by decide +kernel
theorem dX6_readSoul_13 : decode cX6_readSoul 13 = .ok (.iconst 0, 1) := by decide +kernel
theorem dX6_readSoul_14 : decode cX6_readSoul 14 = .ok (.iconst 5, 1) := by decide +kernel
theorem dX6_readSoul_15 : decode cX6_readSoul 15 = .ok (.invokevirtual 82, 3) := by decide +kernel
theorem dX6_readSoul_18 : decode cX6_readSoul 18 = .ok (.ifCond .ne 5, 3) := by decide +kernel
theorem dX6_readSoul_21 : decode cX6_readSoul 21 = .ok (.iconst 0, 1) := by decide +kernel
theorem dX6_readSoul_22 : decode cX6_readSoul 22 = .ok (.ireturn, 1) := by decide +kernel
theorem dX6_readSoul_23 : decode cX6_readSoul 23 = .ok (.aload_n 0, 1) := by decide +kernel
theorem dX6_readSoul_24 : decode cX6_readSoul 24 = .ok (.getfield 90, 3) := by decide +kernel
theorem dX6_readSoul_27 : decode cX6_readSoul 27 = .ok (.istore_n 1, 1) := by decide +kernel
theorem dX6_readSoul_28 : decode cX6_readSoul 28 = .ok (.aload_n 0, 1) := by decide +kernel
theorem dX6_readSoul_29 : decode cX6_readSoul 29 = .ok (.iconst 0, 1) := by decide +kernel
theorem dX6_readSoul_30 : decode cX6_readSoul 30 = .ok (.bipush 29, 2) := by decide +kernel
theorem dX6_readSoul_32 : decode cX6_readSoul 32 = .ok (.invokevirtual 82, 3) := by decide +kernel
theorem dX6_readSoul_35 : decode cX6_readSoul 35 = .ok (.ifCond .ne 5, 3) := by decide +kernel
theorem dX6_readSoul_38 : decode cX6_readSoul 38 = .ok (.iconst 0, 1) := by decide +kernel
theorem dX6_readSoul_39 : decode cX6_readSoul 39 = .ok (.ireturn, 1) := by decide +kernel
theorem dX6_readSoul_40 : decode cX6_readSoul 40 = .ok (.aload_n 0, 1) := by decide +kernel
theorem dX6_readSoul_41 : decode cX6_readSoul 41 = .ok (.getfield 12, 3) := by decide +kernel
theorem dX6_readSoul_44 : decode cX6_readSoul 44 = .ok (.iload_n 1, 1) := by decide +kernel
theorem dX6_readSoul_45 : decode cX6_readSoul 45 = .ok (.aload_n 0, 1) := by decide +kernel
theorem dX6_readSoul_46 : decode cX6_readSoul 46 = .ok (.getfield 90, 3) := by decide +kernel
theorem dX6_readSoul_49 : decode cX6_readSoul 49 = .ok (.invokevirtual 96, 3) := by decide +kernel
theorem dX6_readSoul_52 : decode cX6_readSoul 52 = .ok (.pop, 1) := by decide +kernel
theorem dX6_readSoul_53 : decode cX6_readSoul 53 = .ok (.iconst 1, 1) := by decide +kernel
theorem dX6_readSoul_54 : decode cX6_readSoul 54 = .ok (.ireturn, 1) := by decide +kernel
theorem dX6_readCoat_0 : decode cX6_readCoat 0 = .ok (.aload_n 0, 1) := by decide +kernel
theorem dX6_readCoat_1 : decode cX6_readCoat 1 = .ok (.iconst 0, 1) := by decide +kernel
theorem dX6_readCoat_2 : decode cX6_readCoat 2 = .ok (.bipush 29, 2) := by decide +kernel
theorem dX6_readCoat_4 : decode cX6_readCoat 4 = .ok (.invokevirtual 82, 3) := by decide +kernel
theorem dX6_readCoat_7 : decode cX6_readCoat 7 = .ok (.ifCond .eq 17, 3) := by decide +kernel
theorem dX6_readCoat_10 : decode cX6_readCoat 10 = .ok (.aload_n 0, 1) := by decide +kernel
theorem dX6_readCoat_11 : decode cX6_readCoat 11 = .ok (.getfield 12, 3) := by decide +kernel
theorem dX6_readCoat_14 : decode cX6_readCoat 14 = .ok (.aload_n 0, 1) := by decide +kernel
theorem dX6_readCoat_15 : decode cX6_readCoat 15 = .ok (.getfield 90, 3) := by decide +kernel
theorem dX6_readCoat_18 : decode cX6_readCoat 18 = .ok (.invokevirtual 100, 3) := by decide +kernel
theorem dX6_readCoat_21 : decode cX6_readCoat 21 = .ok (.ifCond .ne 5, 3) := by decide +kernel
theorem dX6_readCoat_24 : decode cX6_readCoat 24 = .ok (.iconst 0, 1) := by decide +kernel
theorem dX6_readCoat_25 : decode cX6_readCoat 25 = .ok (.ireturn, 1) := by decide +kernel
theorem dX6_readCoat_26 : decode cX6_readCoat 26 = .ok (.aload_n 0, 1) := by decide +kernel
theorem dX6_readCoat_27 : decode cX6_readCoat 27 = .ok (.getfield 12, 3) := by decide +kernel
theorem dX6_readCoat_30 : decode cX6_readCoat 30 = .ok (.dup, 1) := by decide +kernel
theorem dX6_readCoat_31 : decode cX6_readCoat 31 = .ok (.getfield 104, 3) := by decide +kernel
theorem dX6_readCoat_34 : decode cX6_readCoat 34 = .ok (.iconst 1, 1) := by decide +kernel
theorem dX6_readCoat_35 : decode cX6_readCoat 35 = .ok (.aload_n 0, 1) := by decide +kernel
theorem dX6_readCoat_36 : decode cX6_readCoat 36 = .ok (.getfield 90, 3) := by decide +kernel
theorem dX6_readCoat_39 : decode cX6_readCoat 39 = .ok (.ishl, 1) := by decide +kernel
theorem dX6_readCoat_40 : decode cX6_readCoat 40 = .ok (.ior, 1) := by decide +kernel
theorem dX6_readCoat_41 : decode cX6_readCoat 41 = .ok (.putfield 104, 3) := by decide +kernel
theorem dX6_readCoat_44 : decode cX6_readCoat 44 = .ok (.iconst 1, 1) := by decide +kernel
theorem dX6_readCoat_45 : decode cX6_readCoat 45 = .ok (.ireturn, 1) := by decide +kernel
theorem dX6_readSit_0 : decode cX6_readSit 0 = .ok (.aload_n 0, 1) := by decide +kernel
theorem dX6_readSit_1 : decode cX6_readSit 1 = .ok (.iconst 0, 1) := by decide +kernel
theorem dX6_readSit_2 : decode cX6_readSit 2 = .ok (.aload_n 0, 1) := by decide +kernel
theorem dX6_readSit_3 : decode cX6_readSit 3 = .ok (.getfield 12, 3) := by decide +kernel
theorem dX6_readSit_6 : decode cX6_readSit 6 = .ok (.getfield 93, 3) := by decide +kernel
theorem dX6_readSit_9 : decode cX6_readSit 9 = .ok (.iconst 1, 1) := by decide +kernel
theorem dX6_readSit_10 : decode cX6_readSit 10 = .ok (.isub, 1) := by decide +kernel
theorem dX6_readSit_11 : decode cX6_readSit 11 = .ok (.invokevirtual 82, 3) := by decide +kernel
theorem dX6_readSit_14 : decode cX6_readSit 14 = .ok (.ifCond .eq 17, 3) := by decide +kernel
theorem dX6_readSit_17 : decode cX6_readSit 17 = .ok (.aload_n 0, 1) := by decide +kernel
theorem dX6_readSit_18 : decode cX6_readSit 18 = .ok (.getfield 12, 3) := by decide +kernel
theorem dX6_readSit_21 : decode cX6_readSit 21 = .ok (.aload_n 0, 1) := by decide +kernel
theorem dX6_readSit_22 : decode cX6_readSit 22 = .ok (.getfield 90, 3) := by decide +kernel
theorem dX6_readSit_25 : decode cX6_readSit 25 = .ok (.invokevirtual 107, 3) := by decide +kernel
theorem dX6_readSit_28 : decode cX6_readSit 28 = .ok (.ifCond .eq 5, 3) := by decide +kernel
theorem dX6_readSit_31 : decode cX6_readSit 31 = .ok (.iconst 0, 1) := by decide +kernel
theorem dX6_readSit_32 : decode cX6_readSit 32 = .ok (.ireturn, 1) := by decide +kernel
theorem dX6_readSit_33 : decode cX6_readSit 33 = .ok (.aload_n 0, 1) := by decide +kernel
theorem dX6_readSit_34 : decode cX6_readSit 34 = .ok (.getfield 90, 3) := by decide +kernel
theorem dX6_readSit_37 : decode cX6_readSit 37 = .ok (.istore_n 1, 1) := by decide +kernel
theorem dX6_readSit_38 : decode cX6_readSit 38 = .ok (.aload_n 0, 1) := by decide +kernel
theorem dX6_readSit_39 : decode cX6_readSit 39 = .ok (.iconst 0, 1) := by decide +kernel
theorem dX6_readSit_40 : decode cX6_readSit 40 = .ok (.bipush 29, 2) := by decide +kernel
theorem dX6_readSit_42 : decode cX6_readSit 42 = .ok (.invokevirtual 82, 3) := by decide +kernel
theorem dX6_readSit_45 : decode cX6_readSit 45 = .ok (.ifCond .eq 17, 3) := by decide +kernel
theorem dX6_readSit_48 : decode cX6_readSit 48 = .ok (.aload_n 0, 1) := by decide +kernel
theorem dX6_readSit_49 : decode cX6_readSit 49 = .ok (.getfield 12, 3) := by decide +kernel
theorem dX6_readSit_52 : decode cX6_readSit 52 = .ok (.aload_n 0, 1) := by decide +kernel
theorem dX6_readSit_53 : decode cX6_readSit 53 = .ok (.getfield 90, 3) := by decide +kernel
theorem dX6_readSit_56 : decode cX6_readSit 56 = .ok (.invokevirtual 100, 3) := by decide +kernel
theorem dX6_readSit_59 : decode cX6_readSit 59 = .ok (.ifCond .ne 5, 3) := by decide +kernel
theorem dX6_readSit_62 : decode cX6_readSit 62 = .ok (.iconst 0, 1) := by decide +kernel
theorem dX6_readSit_63 : decode cX6_readSit 63 = .ok (.ireturn, 1) := by decide +kernel
theorem dX6_readSit_64 : decode cX6_readSit 64 = .ok (.aload_n 0, 1) := by decide +kernel
theorem dX6_readSit_65 : decode cX6_readSit 65 = .ok (.getfield 12, 3) := by decide +kernel
theorem dX6_readSit_68 : decode cX6_readSit 68 = .ok (.iload_n 1, 1) := by decide +kernel
theorem dX6_readSit_69 : decode cX6_readSit 69 = .ok (.aload_n 0, 1) := by decide +kernel
theorem dX6_readSit_70 : decode cX6_readSit 70 = .ok (.getfield 90, 3) := by decide +kernel
theorem dX6_readSit_73 : decode cX6_readSit 73 = .ok (.invokevirtual 110, 3) := by decide +kernel
theorem dX6_readSit_76 : decode cX6_readSit 76 = .ok (.pop, 1) := by decide +kernel
theorem dX6_readSit_77 : decode cX6_readSit 77 = .ok (.iconst 1, 1) := by decide +kernel
theorem dX6_readSit_78 : decode cX6_readSit 78 = .ok (.ireturn, 1) := by decide +kernel
theorem dX6_readOut_0 : decode cX6_readOut 0 = .ok (.aload_n 0, 1) := by decide +kernel
theorem dX6_readOut_1 : decode cX6_readOut 1 = .ok (.iconst 0, 1) := by decide +kernel
theorem dX6_readOut_2 : decode cX6_readOut 2 = .ok (.aload_n 0, 1) := by decide +kernel
theorem dX6_readOut_3 : decode cX6_readOut 3 = .ok (.getfield 12, 3) := by decide +kernel
theorem dX6_readOut_6 : decode cX6_readOut 6 = .ok (.getfield 93, 3) := by decide +kernel
theorem dX6_readOut_9 : decode cX6_readOut 9 = .ok (.iconst 1, 1) := by decide +kernel
theorem dX6_readOut_10 : decode cX6_readOut 10 = .ok (.isub, 1) := by decide +kernel
theorem dX6_readOut_11 : decode cX6_readOut 11 = .ok (.invokevirtual 82, 3) := by decide +kernel
theorem dX6_readOut_14 : decode cX6_readOut 14 = .ok (.ifCond .eq 17, 3) := by decide +kernel
theorem dX6_readOut_17 : decode cX6_readOut 17 = .ok (.aload_n 0, 1) := by decide +kernel
theorem dX6_readOut_18 : decode cX6_readOut 18 = .ok (.getfield 12, 3) := by decide +kernel
theorem dX6_readOut_21 : decode cX6_readOut 21 = .ok (.aload_n 0, 1) := by decide +kernel
theorem dX6_readOut_22 : decode cX6_readOut 22 = .ok (.getfield 90, 3) := by decide +kernel
theorem dX6_readOut_25 : decode cX6_readOut 25 = .ok (.invokevirtual 107, 3) := by decide +kernel
theorem dX6_readOut_28 : decode cX6_readOut 28 = .ok (.ifCond .ne 5, 3) := by decide +kernel
theorem dX6_readOut_31 : decode cX6_readOut 31 = .ok (.iconst 0, 1) := by decide +kernel
theorem dX6_readOut_32 : decode cX6_readOut 32 = .ok (.ireturn, 1) := by decide +kernel
theorem dX6_readOut_33 : decode cX6_readOut 33 = .ok (.aload_n 0, 1) := by decide +kernel
theorem dX6_readOut_34 : decode cX6_readOut 34 = .ok (.getfield 12, 3) := by decide +kernel
theorem dX6_readOut_37 : decode cX6_readOut 37 = .ok (.aload_n 0, 1) := by decide +kernel
theorem dX6_readOut_38 : decode cX6_readOut 38 = .ok (.getfield 90, 3) := by decide +kernel
theorem dX6_readOut_41 : decode cX6_readOut 41 = .ok (.invokevirtual 113, 3) := by decide +kernel
theorem dX6_readOut_44 : decode cX6_readOut 44 = .ok (.pop, 1) := by decide +kernel
theorem dX6_readOut_45 : decode cX6_readOut 45 = .ok (.iconst 1, 1) := by decide +kernel
theorem dX6_readOut_46 : decode cX6_readOut 46 = .ok (.ireturn, 1) := by decide +kernel
theorem dX6_readMinutes_0 : decode cX6_readMinutes 0 = .ok (.aload_n 0, 1) := by decide +kernel
theorem dX6_readMinutes_1 : decode cX6_readMinutes 1 = .ok (.iconst 1, 1) := by decide +kernel
theorem dX6_readMinutes_2 : decode cX6_readMinutes 2 = .ok (.bipush 99, 2) := by decide +kernel
theorem dX6_readMinutes_4 : decode cX6_readMinutes 4 = .ok (.invokevirtual 82, 3) := by decide +kernel
theorem dX6_readMinutes_7 : decode cX6_readMinutes 7 = .ok (.ifCond .ne 5, 3) := by decide +kernel
theorem dX6_readMinutes_10 : decode cX6_readMinutes 10 = .ok (.iconst 0, 1) := by decide +kernel
theorem dX6_readMinutes_11 : decode cX6_readMinutes 11 = .ok (.ireturn, 1) := by decide +kernel
theorem dX6_readMinutes_12 : decode cX6_readMinutes 12 = .ok (.aload_n 0, 1) := by decide +kernel
theorem dX6_readMinutes_13 : decode cX6_readMinutes 13 = .ok (.getfield 12, 3) := by decide +kernel
theorem dX6_readMinutes_16 : decode cX6_readMinutes 16 = .ok (.sipush 9999, 3) := by decide +kernel
theorem dX6_readMinutes_19 : decode cX6_readMinutes 19 = .ok (.aload_n 0, 1) := by decide +kernel
theorem dX6_readMinutes_20 : decode cX6_readMinutes 20 = .ok (.getfield 12, 3) := by decide +kernel
theorem dX6_readMinutes_23 : decode cX6_readMinutes 23 = .ok (.getfield 117, 3) := by decide +kernel
theorem dX6_readMinutes_26 : decode cX6_readMinutes 26 = .ok (.aload_n 0, 1) := by decide +kernel
theorem dX6_readMinutes_27 : decode cX6_readMinutes 27 = .ok (.getfield 90, 3) := by decide +kernel
theorem dX6_readMinutes_30 : decode cX6_readMinutes 30 = .ok (.iadd, 1) := by decide +kernel
theorem dX6_readMinutes_31 : decode cX6_readMinutes 31 = .ok (.invokestatic 120, 3) := by decide +kernel
theorem dX6_readMinutes_34 : decode cX6_readMinutes 34 = .ok (.putfield 117, 3) := by decide +kernel
theorem dX6_readMinutes_37 : decode cX6_readMinutes 37 = .ok (.iconst 1, 1) := by decide +kernel
theorem dX6_readMinutes_38 : decode cX6_readMinutes 38 = .ok (.ireturn, 1) := by decide +kernel
theorem dX6_readNumber_0 : decode cX6_readNumber 0 = .ok (.aload_n 0, 1) := by decide +kernel
theorem dX6_readNumber_1 : decode cX6_readNumber 1 = .ok (.invokevirtual 32, 3) := by decide +kernel
theorem dX6_readNumber_4 : decode cX6_readNumber 4 = .ok (.aload_n 0, 1) := by decide +kernel
theorem dX6_readNumber_5 : decode cX6_readNumber 5 = .ok (.getfield 35, 3) := by decide +kernel
theorem dX6_readNumber_8 : decode cX6_readNumber 8 = .ok (.iconst 2, 1) := by decide +kernel
theorem dX6_readNumber_9 : decode cX6_readNumber 9 = .ok (.if_icmp .ne 23, 3) := by decide +kernel
theorem dX6_readNumber_12 : decode cX6_readNumber 12 = .ok (.aload_n 0, 1) := by decide +kernel
theorem dX6_readNumber_13 : decode cX6_readNumber 13 = .ok (.getfield 90, 3) := by decide +kernel
theorem dX6_readNumber_16 : decode cX6_readNumber 16 = .ok (.iload_n 1, 1) := by decide +kernel
theorem dX6_readNumber_17 : decode cX6_readNumber 17 = .ok (.if_icmp .lt 15, 3) := by decide +kernel
theorem dX6_readNumber_20 : decode cX6_readNumber 20 = .ok (.aload_n 0, 1) := by decide +kernel
theorem dX6_readNumber_21 : decode cX6_readNumber 21 = .ok (.getfield 90, 3) := by decide +kernel
theorem dX6_readNumber_24 : decode cX6_readNumber 24 = .ok (.iload_n 2, 1) := by decide +kernel
theorem dX6_readNumber_25 : decode cX6_readNumber 25 = .ok (.if_icmp .gt 7, 3) := by decide +kernel
theorem dX6_readNumber_28 : decode cX6_readNumber 28 = .ok (.iconst 1, 1) := by decide +kernel
theorem dX6_readNumber_29 : decode cX6_readNumber 29 = .ok (.goto 4, 3) := by decide +kernel
theorem dX6_readNumber_32 : decode cX6_readNumber 32 = .ok (.iconst 0, 1) := by decide +kernel
theorem dX6_readNumber_33 : decode cX6_readNumber 33 = .ok (.ireturn, 1) := by decide +kernel
theorem dX6_readStop_0 : decode cX6_readStop 0 = .ok (.aload_n 0, 1) := by decide +kernel
theorem dX6_readStop_1 : decode cX6_readStop 1 = .ok (.invokevirtual 32, 3) := by decide +kernel
theorem dX6_readStop_4 : decode cX6_readStop 4 = .ok (.aload_n 0, 1) := by decide +kernel
theorem dX6_readStop_5 : decode cX6_readStop 5 = .ok (.getfield 35, 3) := by decide +kernel
theorem dX6_readStop_8 : decode cX6_readStop 8 = .ok (.iconst 3, 1) := by decide +kernel
theorem dX6_readStop_9 : decode cX6_readStop 9 = .ok (.if_icmp .ne 7, 3) := by decide +kernel
theorem dX6_readStop_12 : decode cX6_readStop 12 = .ok (.iconst 1, 1) := by decide +kernel
theorem dX6_readStop_13 : decode cX6_readStop 13 = .ok (.goto 4, 3) := by decide +kernel
theorem dX6_readStop_16 : decode cX6_readStop 16 = .ok (.iconst 0, 1) := by decide +kernel
theorem dX6_readStop_17 : decode cX6_readStop 17 = .ok (.ireturn, 1) := by decide +kernel
theorem dX6_advance_0 : decode cX6_advance 0 = .ok (.aload_n 0, 1) := by decide +kernel
theorem dX6_advance_1 : decode cX6_advance 1 = .ok (.aload_n 0, 1) := by decide +kernel
theorem dX6_advance_2 : decode cX6_advance 2 = .ok (.getfield 29, 3) := by decide +kernel
theorem dX6_advance_5 : decode cX6_advance 5 = .ok (.putfield 46, 3) := by decide +kernel
theorem dX6_advance_8 : decode cX6_advance 8 = .ok (.aload_n 0, 1) := by decide +kernel
theorem dX6_advance_9 : decode cX6_advance 9 = .ok (.getfield 46, 3) := by decide +kernel
theorem dX6_advance_12 : decode cX6_advance 12 = .ok (.aload_n 0, 1) := by decide +kernel
theorem dX6_advance_13 : decode cX6_advance 13 = .ok (.getfield 22, 3) := by decide +kernel
theorem dX6_advance_16 : decode cX6_advance 16 = .ok (.if_icmp .ge 30, 3) := by decide +kernel
theorem dX6_advance_19 : decode cX6_advance 19 = .ok (.aload_n 0, 1) := by decide +kernel
theorem dX6_advance_20 : decode cX6_advance 20 = .ok (.getfield 18, 3) := by decide +kernel
theorem dX6_advance_23 : decode cX6_advance 23 = .ok (.aload_n 0, 1) := by decide +kernel
theorem dX6_advance_24 : decode cX6_advance 24 = .ok (.getfield 46, 3) := by decide +kernel
theorem dX6_advance_27 : decode cX6_advance 27 = .ok (.baload, 1) := by decide +kernel
theorem dX6_advance_28 : decode cX6_advance 28 = .ok (.bipush 32, 2) := by decide +kernel
theorem dX6_advance_30 : decode cX6_advance 30 = .ok (.if_icmp .ne 16, 3) := by decide +kernel
theorem dX6_advance_33 : decode cX6_advance 33 = .ok (.aload_n 0, 1) := by decide +kernel
theorem dX6_advance_34 : decode cX6_advance 34 = .ok (.dup, 1) := by decide +kernel
theorem dX6_advance_35 : decode cX6_advance 35 = .ok (.getfield 46, 3) := by decide +kernel
theorem dX6_advance_38 : decode cX6_advance 38 = .ok (.iconst 1, 1) := by decide +kernel
theorem dX6_advance_39 : decode cX6_advance 39 = .ok (.iadd, 1) := by decide +kernel
theorem dX6_advance_40 : decode cX6_advance 40 = .ok (.putfield 46, 3) := by decide +kernel
theorem dX6_advance_43 : decode cX6_advance 43 = .ok (.goto (-35), 3) := by decide +kernel
theorem dX6_advance_46 : decode cX6_advance 46 = .ok (.aload_n 0, 1) := by decide +kernel
theorem dX6_advance_47 : decode cX6_advance 47 = .ok (.aload_n 0, 1) := by decide +kernel
theorem dX6_advance_48 : decode cX6_advance 48 = .ok (.getfield 46, 3) := by decide +kernel
theorem dX6_advance_51 : decode cX6_advance 51 = .ok (.putfield 29, 3) := by decide +kernel
theorem dX6_advance_54 : decode cX6_advance 54 = .ok (.aload_n 0, 1) := by decide +kernel
theorem dX6_advance_55 : decode cX6_advance 55 = .ok (.getfield 46, 3) := by decide +kernel
theorem dX6_advance_58 : decode cX6_advance 58 = .ok (.aload_n 0, 1) := by decide +kernel
theorem dX6_advance_59 : decode cX6_advance 59 = .ok (.getfield 22, 3) := by decide +kernel
theorem dX6_advance_62 : decode cX6_advance 62 = .ok (.if_icmp .lt 11, 3) := by decide +kernel
theorem dX6_advance_65 : decode cX6_advance 65 = .ok (.aload_n 0, 1) := by decide +kernel
theorem dX6_advance_66 : decode cX6_advance 66 = .ok (.iconst 0, 1) := by decide +kernel
theorem dX6_advance_67 : decode cX6_advance 67 = .ok (.putfield 35, 3) := by decide +kernel
theorem dX6_advance_70 : decode cX6_advance 70 = .ok (.goto 117, 3) := by decide +kernel
theorem dX6_advance_73 : decode cX6_advance 73 = .ok (.aload_n 0, 1) := by decide +kernel
theorem dX6_advance_74 : decode cX6_advance 74 = .ok (.getfield 18, 3) := by decide +kernel
theorem dX6_advance_77 : decode cX6_advance 77 = .ok (.aload_n 0, 1) := by decide +kernel
theorem dX6_advance_78 : decode cX6_advance 78 = .ok (.getfield 46, 3) := by decide +kernel
theorem dX6_advance_81 : decode cX6_advance 81 = .ok (.baload, 1) := by decide +kernel
theorem dX6_advance_82 : decode cX6_advance 82 = .ok (.invokestatic 125, 3) := by decide +kernel
theorem dX6_advance_85 : decode cX6_advance 85 = .ok (.ifCond .eq 47, 3) := by decide +kernel
theorem dX6_advance_88 : decode cX6_advance 88 = .ok (.aload_n 0, 1) := by decide +kernel
theorem dX6_advance_89 : decode cX6_advance 89 = .ok (.iconst 1, 1) := by decide +kernel
theorem dX6_advance_90 : decode cX6_advance 90 = .ok (.putfield 35, 3) := by decide +kernel
theorem dX6_advance_93 : decode cX6_advance 93 = .ok (.aload_n 0, 1) := by decide +kernel
theorem dX6_advance_94 : decode cX6_advance 94 = .ok (.getfield 29, 3) := by decide +kernel
theorem dX6_advance_97 : decode cX6_advance 97 = .ok (.aload_n 0, 1) := by decide +kernel
theorem dX6_advance_98 : decode cX6_advance 98 = .ok (.getfield 22, 3) := by decide +kernel
theorem dX6_advance_101 : decode cX6_advance 101 = .ok (.if_icmp .ge 86, 3) := by decide +kernel
theorem dX6_advance_104 : decode cX6_advance 104 = .ok (.aload_n 0, 1) := by decide +kernel
theorem dX6_advance_105 : decode cX6_advance 105 = .ok (.getfield 18, 3) := by decide +kernel
theorem dX6_advance_108 : decode cX6_advance 108 = .ok (.aload_n 0, 1) := by decide +kernel
theorem dX6_advance_109 : decode cX6_advance 109 = .ok (.getfield 29, 3) := by decide +kernel
theorem dX6_advance_112 : decode cX6_advance 112 = .ok (.baload, 1) := by decide +kernel
theorem dX6_advance_113 : decode cX6_advance 113 = .ok (.invokestatic 125, 3) := by decide +kernel
theorem dX6_advance_116 : decode cX6_advance 116 = .ok (.ifCond .eq 71, 3) := by decide +kernel
theorem dX6_advance_119 : decode cX6_advance 119 = .ok (.aload_n 0, 1) := by decide +kernel
theorem dX6_advance_120 : decode cX6_advance 120 = .ok (.dup, 1) := by decide +kernel
theorem dX6_advance_121 : decode cX6_advance 121 = .ok (.getfield 29, 3) := by decide +kernel
theorem dX6_advance_124 : decode cX6_advance 124 = .ok (.iconst 1, 1) := by decide +kernel
theorem dX6_advance_125 : decode cX6_advance 125 = .ok (.iadd, 1) := by decide +kernel
theorem dX6_advance_126 : decode cX6_advance 126 = .ok (.putfield 29, 3) := by decide +kernel
theorem dX6_advance_129 : decode cX6_advance 129 = .ok (.goto (-36), 3) := by decide +kernel
theorem dX6_advance_132 : decode cX6_advance 132 = .ok (.aload_n 0, 1) := by decide +kernel
theorem dX6_advance_133 : decode cX6_advance 133 = .ok (.getfield 18, 3) := by decide +kernel
theorem dX6_advance_136 : decode cX6_advance 136 = .ok (.aload_n 0, 1) := by decide +kernel
theorem dX6_advance_137 : decode cX6_advance 137 = .ok (.getfield 46, 3) := by decide +kernel
theorem dX6_advance_140 : decode cX6_advance 140 = .ok (.baload, 1) := by decide +kernel
theorem dX6_advance_141 : decode cX6_advance 141 = .ok (.invokestatic 128, 3) := by decide +kernel
theorem dX6_advance_144 : decode cX6_advance 144 = .ok (.ifCond .eq 10, 3) := by decide +kernel
theorem dX6_advance_147 : decode cX6_advance 147 = .ok (.aload_n 0, 1) := by decide +kernel
theorem dX6_advance_148 : decode cX6_advance 148 = .ok (.invokevirtual 131, 3) := by decide +kernel
theorem dX6_advance_151 : decode cX6_advance 151 = .ok (.goto 36, 3) := by decide +kernel
theorem dX6_advance_154 : decode cX6_advance 154 = .ok (.aload_n 0, 1) := by decide +kernel
theorem dX6_advance_155 : decode cX6_advance 155 = .ok (.aload_n 0, 1) := by decide +kernel
theorem dX6_advance_156 : decode cX6_advance 156 = .ok (.getfield 18, 3) := by decide +kernel
theorem dX6_advance_159 : decode cX6_advance 159 = .ok (.aload_n 0, 1) := by decide +kernel
theorem dX6_advance_160 : decode cX6_advance 160 = .ok (.getfield 46, 3) := by decide +kernel
theorem dX6_advance_163 : decode cX6_advance 163 = .ok (.baload, 1) := by decide +kernel
theorem dX6_advance_164 : decode cX6_advance 164 = .ok (.bipush 59, 2) := by decide +kernel
theorem dX6_advance_166 : decode cX6_advance 166 = .ok (.if_icmp .ne 7, 3) := by decide +kernel
theorem dX6_advance_169 : decode cX6_advance 169 = .ok (.iconst 3, 1) := by decide +kernel
theorem dX6_advance_170 : decode cX6_advance 170 = .ok (.goto 4, 3) := by decide +kernel
theorem dX6_advance_173 : decode cX6_advance 173 = .ok (.iconst 4, 1) := by decide +kernel
theorem dX6_advance_174 : decode cX6_advance 174 = .ok (.putfield 35, 3) := by decide +kernel
theorem dX6_advance_177 : decode cX6_advance 177 = .ok (.aload_n 0, 1) := by decide +kernel
theorem dX6_advance_178 : decode cX6_advance 178 = .ok (.dup, 1) := by decide +kernel
theorem dX6_advance_179 : decode cX6_advance 179 = .ok (.getfield 29, 3) := by decide +kernel
theorem dX6_advance_182 : decode cX6_advance 182 = .ok (.iconst 1, 1) := by decide +kernel
theorem dX6_advance_183 : decode cX6_advance 183 = .ok (.iadd, 1) := by decide +kernel
theorem dX6_advance_184 : decode cX6_advance 184 = .ok (.putfield 29, 3) := by decide +kernel
theorem dX6_advance_187 : decode cX6_advance 187 = .ok (.return_, 1) := by decide +kernel
theorem dX6_takeFigures_0 : decode cX6_takeFigures 0 = .ok (.aload_n 0, 1) := by decide +kernel
theorem dX6_takeFigures_1 : decode cX6_takeFigures 1 = .ok (.iconst 0, 1) := by decide +kernel
theorem dX6_takeFigures_2 : decode cX6_takeFigures 2 = .ok (.putfield 90, 3) := by decide +kernel
theorem dX6_takeFigures_5 : decode cX6_takeFigures 5 = .ok (.aload_n 0, 1) := by decide +kernel
theorem dX6_takeFigures_6 : decode cX6_takeFigures 6 = .ok (.getfield 29, 3) := by decide +kernel
theorem dX6_takeFigures_9 : decode cX6_takeFigures 9 = .ok (.aload_n 0, 1) := by decide +kernel
theorem dX6_takeFigures_10 : decode cX6_takeFigures 10 = .ok (.getfield 22, 3) := by decide +kernel
theorem dX6_takeFigures_13 : decode cX6_takeFigures 13 = .ok (.if_icmp .ge 55, 3) := by decide +kernel
theorem dX6_takeFigures_16 : decode cX6_takeFigures 16 = .ok (.aload_n 0, 1) := by decide +kernel
theorem dX6_takeFigures_17 : decode cX6_takeFigures 17 = .ok (.getfield 18, 3) := by decide +kernel
theorem dX6_takeFigures_20 : decode cX6_takeFigures 20 = .ok (.aload_n 0, 1) := by decide +kernel
theorem dX6_takeFigures_21 : decode cX6_takeFigures 21 = .ok (.getfield 29, 3) := by decide +kernel
theorem dX6_takeFigures_24 : decode cX6_takeFigures 24 = .ok (.baload, 1) := by decide +kernel
theorem dX6_takeFigures_25 : decode cX6_takeFigures 25 = .ok (.invokestatic 128, 3) := by decide +kernel
theorem dX6_takeFigures_28 : decode cX6_takeFigures 28 = .ok (.ifCond .eq 40, 3) := by decide +kernel
theorem dX6_takeFigures_31 : decode cX6_takeFigures 31 = .ok (.aload_n 0, 1) := by decide +kernel
theorem dX6_takeFigures_32 : decode cX6_takeFigures 32 = .ok (.bipush 10, 2) := by decide +kernel
theorem dX6_takeFigures_34 : decode cX6_takeFigures 34 = .ok (.aload_n 0, 1) := by decide +kernel
theorem dX6_takeFigures_35 : decode cX6_takeFigures 35 = .ok (.getfield 90, 3) := by decide +kernel
theorem dX6_takeFigures_38 : decode cX6_takeFigures 38 = .ok (.imul, 1) := by decide +kernel
theorem dX6_takeFigures_39 : decode cX6_takeFigures 39 = .ok (.aload_n 0, 1) := by decide +kernel
theorem dX6_takeFigures_40 : decode cX6_takeFigures 40 = .ok (.getfield 18, 3) := by decide +kernel
theorem dX6_takeFigures_43 : decode cX6_takeFigures 43 = .ok (.aload_n 0, 1) := by decide +kernel
theorem dX6_takeFigures_44 : decode cX6_takeFigures 44 = .ok (.getfield 29, 3) := by decide +kernel
theorem dX6_takeFigures_47 : decode cX6_takeFigures 47 = .ok (.baload, 1) := by decide +kernel
theorem dX6_takeFigures_48 : decode cX6_takeFigures 48 = .ok (.iadd, 1) := by decide +kernel
theorem dX6_takeFigures_49 : decode cX6_takeFigures 49 = .ok (.bipush 48, 2) := by decide +kernel
theorem dX6_takeFigures_51 : decode cX6_takeFigures 51 = .ok (.isub, 1) := by decide +kernel
theorem dX6_takeFigures_52 : decode cX6_takeFigures 52 = .ok (.putfield 90, 3) := by decide +kernel
theorem dX6_takeFigures_55 : decode cX6_takeFigures 55 = .ok (.aload_n 0, 1) := by decide +kernel
theorem dX6_takeFigures_56 : decode cX6_takeFigures 56 = .ok (.dup, 1) := by decide +kernel
theorem dX6_takeFigures_57 : decode cX6_takeFigures 57 = .ok (.getfield 29, 3) := by decide +kernel
theorem dX6_takeFigures_60 : decode cX6_takeFigures 60 = .ok (.iconst 1, 1) := by decide +kernel
theorem dX6_takeFigures_61 : decode cX6_takeFigures 61 = .ok (.iadd, 1) := by decide +kernel
theorem dX6_takeFigures_62 : decode cX6_takeFigures 62 = .ok (.putfield 29, 3) := by decide +kernel
theorem dX6_takeFigures_65 : decode cX6_takeFigures 65 = .ok (.goto (-60), 3) := by decide +kernel
theorem dX6_takeFigures_68 : decode cX6_takeFigures 68 = .ok (.aload_n 0, 1) := by decide +kernel
theorem dX6_takeFigures_69 : decode cX6_takeFigures 69 = .ok (.aload_n 0, 1) := by decide +kernel
theorem dX6_takeFigures_70 : decode cX6_takeFigures 70 = .ok (.getfield 29, 3) := by decide +kernel
theorem dX6_takeFigures_73 : decode cX6_takeFigures 73 = .ok (.aload_n 0, 1) := by decide +kernel
theorem dX6_takeFigures_74 : decode cX6_takeFigures 74 = .ok (.getfield 46, 3) := by decide +kernel
theorem dX6_takeFigures_77 : decode cX6_takeFigures 77 = .ok (.isub, 1) := by decide +kernel
theorem dX6_takeFigures_78 : decode cX6_takeFigures 78 = .ok (.iconst 2, 1) := by decide +kernel
theorem dX6_takeFigures_79 : decode cX6_takeFigures 79 = .ok (.if_icmp .gt 7, 3) := by decide +kernel
theorem dX6_takeFigures_82 : decode cX6_takeFigures 82 = .ok (.iconst 2, 1) := by decide +kernel
theorem dX6_takeFigures_83 : decode cX6_takeFigures 83 = .ok (.goto 4, 3) := by decide +kernel
theorem dX6_takeFigures_86 : decode cX6_takeFigures 86 = .ok (.iconst 4, 1) := by decide +kernel
theorem dX6_takeFigures_87 : decode cX6_takeFigures 87 = .ok (.putfield 35, 3) := by decide +kernel
theorem dX6_takeFigures_90 : decode cX6_takeFigures 90 = .ok (.return_, 1) := by decide +kernel
theorem dX6_spells_0 : decode cX6_spells 0 = .ok (.aload_n 0, 1) := by decide +kernel
theorem dX6_spells_1 : decode cX6_spells 1 = .ok (.getfield 29, 3) := by decide +kernel
theorem dX6_spells_4 : decode cX6_spells 4 = .ok (.aload_n 0, 1) := by decide +kernel
theorem dX6_spells_5 : decode cX6_spells 5 = .ok (.getfield 46, 3) := by decide +kernel
theorem dX6_spells_8 : decode cX6_spells 8 = .ok (.isub, 1) := by decide +kernel
theorem dX6_spells_9 : decode cX6_spells 9 = .ok (.aload_n 1, 1) := by decide +kernel
theorem dX6_spells_10 : decode cX6_spells 10 = .ok (.invokevirtual 134, 3) := by decide +kernel
theorem dX6_spells_13 : decode cX6_spells 13 = .ok (.if_icmp .eq 5, 3) := by decide +kernel
theorem dX6_spells_16 : decode cX6_spells 16 = .ok (.iconst 0, 1) := by decide +kernel
theorem dX6_spells_17 : decode cX6_spells 17 = .ok (.ireturn, 1) := by decide +kernel
theorem dX6_spells_18 : decode cX6_spells 18 = .ok (.iconst 0, 1) := by decide +kernel
theorem dX6_spells_19 : decode cX6_spells 19 = .ok (.istore_n 2, 1) := by decide +kernel
theorem dX6_spells_20 : decode cX6_spells 20 = .ok (.iload_n 2, 1) := by decide +kernel
theorem dX6_spells_21 : decode cX6_spells 21 = .ok (.aload_n 1, 1) := by decide +kernel
theorem dX6_spells_22 : decode cX6_spells 22 = .ok (.invokevirtual 134, 3) := by decide +kernel
theorem dX6_spells_25 : decode cX6_spells 25 = .ok (.if_icmp .ge 30, 3) := by decide +kernel
theorem dX6_spells_28 : decode cX6_spells 28 = .ok (.aload_n 0, 1) := by decide +kernel
theorem dX6_spells_29 : decode cX6_spells 29 = .ok (.getfield 18, 3) := by decide +kernel
theorem dX6_spells_32 : decode cX6_spells 32 = .ok (.aload_n 0, 1) := by decide +kernel
theorem dX6_spells_33 : decode cX6_spells 33 = .ok (.getfield 46, 3) := by decide +kernel
theorem dX6_spells_36 : decode cX6_spells 36 = .ok (.iload_n 2, 1) := by decide +kernel
theorem dX6_spells_37 : decode cX6_spells 37 = .ok (.iadd, 1) := by decide +kernel
theorem dX6_spells_38 : decode cX6_spells 38 = .ok (.baload, 1) := by decide +kernel
theorem dX6_spells_39 : decode cX6_spells 39 = .ok (.aload_n 1, 1) := by decide +kernel
theorem dX6_spells_40 : decode cX6_spells 40 = .ok (.iload_n 2, 1) := by decide +kernel
theorem dX6_spells_41 : decode cX6_spells 41 = .ok (.invokevirtual 139, 3) := by decide +kernel
theorem dX6_spells_44 : decode cX6_spells 44 = .ok (.if_icmp .eq 5, 3) := by decide +kernel
theorem dX6_spells_47 : decode cX6_spells 47 = .ok (.iconst 0, 1) := by decide +kernel
theorem dX6_spells_48 : decode cX6_spells 48 = .ok (.ireturn, 1) := by decide +kernel
theorem dX6_spells_49 : decode cX6_spells 49 = .ok (.iinc 2 1, 3) := by decide +kernel
theorem dX6_spells_52 : decode cX6_spells 52 = .ok (.goto (-32), 3) := by decide +kernel
theorem dX6_spells_55 : decode cX6_spells 55 = .ok (.iconst 1, 1) := by decide +kernel
theorem dX6_spells_56 : decode cX6_spells 56 = .ok (.ireturn, 1) := by decide +kernel
theorem dX6_isLetter_0 : decode cX6_isLetter 0 = .ok (.iload_n 0, 1) := by decide +kernel
theorem dX6_isLetter_1 : decode cX6_isLetter 1 = .ok (.bipush 97, 2) := by decide +kernel
theorem dX6_isLetter_3 : decode cX6_isLetter 3 = .ok (.if_icmp .lt 13, 3) := by decide +kernel
theorem dX6_isLetter_6 : decode cX6_isLetter 6 = .ok (.iload_n 0, 1) := by decide +kernel
theorem dX6_isLetter_7 : decode cX6_isLetter 7 = .ok (.bipush 122, 2) := by decide +kernel
theorem dX6_isLetter_9 : decode cX6_isLetter 9 = .ok (.if_icmp .gt 7, 3) := by decide +kernel
theorem dX6_isLetter_12 : decode cX6_isLetter 12 = .ok (.iconst 1, 1) := by decide +kernel
theorem dX6_isLetter_13 : decode cX6_isLetter 13 = .ok (.goto 4, 3) := by decide +kernel
theorem dX6_isLetter_16 : decode cX6_isLetter 16 = .ok (.iconst 0, 1) := by decide +kernel
theorem dX6_isLetter_17 : decode cX6_isLetter 17 = .ok (.ireturn, 1) := by decide +kernel
theorem dX6_isFigure_0 : decode cX6_isFigure 0 = .ok (.iload_n 0, 1) := by decide +kernel
theorem dX6_isFigure_1 : decode cX6_isFigure 1 = .ok (.bipush 48, 2) := by decide +kernel
theorem dX6_isFigure_3 : decode cX6_isFigure 3 = .ok (.if_icmp .lt 13, 3) := by decide +kernel
theorem dX6_isFigure_6 : decode cX6_isFigure 6 = .ok (.iload_n 0, 1) := by decide +kernel
theorem dX6_isFigure_7 : decode cX6_isFigure 7 = .ok (.bipush 57, 2) := by decide +kernel
theorem dX6_isFigure_9 : decode cX6_isFigure 9 = .ok (.if_icmp .gt 7, 3) := by decide +kernel
theorem dX6_isFigure_12 : decode cX6_isFigure 12 = .ok (.iconst 1, 1) := by decide +kernel
theorem dX6_isFigure_13 : decode cX6_isFigure 13 = .ok (.goto 4, 3) := by decide +kernel
theorem dX6_isFigure_16 : decode cX6_isFigure 16 = .ok (.iconst 0, 1) := by decide +kernel
theorem dX6_isFigure_17 : decode cX6_isFigure 17 = .ok (.ireturn, 1) := by decide +kernel
