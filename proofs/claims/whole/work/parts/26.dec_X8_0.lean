theorem dX8_init_0 : decode cX8_init 0 = .ok (.aload_n 0, 1) := by decide +kernel
theorem dX8_init_1 : decode cX8_init 1 = .ok (.invokespecial 1, 3) := by decide +kernel
theorem dX8_init_4 : decode cX8_init 4 = .ok (.aload_n 0, 1) := by decide +kernel
theorem dX8_init_5 : decode cX8_init 5 = .ok (.sipush 171, 3) := by decide +kernel
theorem dX8_init_8 : decode cX8_init 8 = .ok (.newarray .int, 2) := by decide +kernel
theorem dX8_init_10 : decode cX8_init 10 = .ok (.putfield 7, 3) := by decide +kernel
theorem dX8_init_13 : decode cX8_init 13 = .ok (.aload_n 0, 1) := by decide +kernel
theorem dX8_init_14 : decode cX8_init 14 = .ok (.sipush 171, 3) := by decide +kernel
theorem dX8_init_17 : decode cX8_init 17 = .ok (.newarray .int, 2) := by decide +kernel
theorem dX8_init_19 : decode cX8_init 19 = .ok (.putfield 13, 3) := by decide +kernel
theorem dX8_init_22 : decode cX8_init 22 = .ok (.aload_n 0, 1) := by decide +kernel
theorem dX8_init_23 : decode cX8_init 23 = .ok (.sipush 342, 3) := by decide +kernel
theorem dX8_init_26 : decode cX8_init 26 = .ok (.newarray .int, 2) := by decide +kernel
theorem dX8_init_28 : decode cX8_init 28 = .ok (.putfield 16, 3) := by decide +kernel
theorem dX8_init_31 : decode cX8_init 31 = .ok (.aload_n 0, 1) := by decide +kernel
theorem dX8_init_32 : decode cX8_init 32 = .ok (.iconst 2, 1) := by decide +kernel
theorem dX8_init_33 : decode cX8_init 33 = .ok (.newarray .boolean, 2) := by decide +kernel
theorem dX8_init_35 : decode cX8_init 35 = .ok (.putfield 19, 3) := by decide +kernel
theorem dX8_init_38 : decode cX8_init 38 = .ok (.aload_n 0, 1) := by decide +kernel
theorem dX8_init_39 : decode cX8_init 39 = .ok (.lconst 1, 1) := by decide +kernel
theorem dX8_init_40 : decode cX8_init 40 = .ok (.putfield 23, 3) := by decide +kernel
theorem dX8_init_43 : decode cX8_init 43 = .ok (.aload_n 0, 1) := by decide +kernel
theorem dX8_init_44 : decode cX8_init 44 = .ok (.iconst 3, 1) := by decide +kernel
theorem dX8_init_45 : decode cX8_init 45 = .ok (.newarray .int, 2) := by decide +kernel
theorem dX8_init_47 : decode cX8_init 47 = .ok (.putfield 27, 3) := by decide +kernel
theorem dX8_init_50 : decode cX8_init 50 = .ok (.aload_n 0, 1) := by decide +kernel
theorem dX8_init_51 : decode cX8_init 51 = .ok (.sipush 150, 3) := by decide +kernel
theorem dX8_init_54 : decode cX8_init 54 = .ok (.newarray .int, 2) := by decide +kernel
theorem dX8_init_56 : decode cX8_init 56 = .ok (.putfield 30, 3) := by decide +kernel
theorem dX8_init_59 : decode cX8_init 59 = .ok (.aload_n 0, 1) := by decide +kernel
theorem dX8_init_60 : decode cX8_init 60 = .ok (.iconst (-1), 1) := by decide +kernel
theorem dX8_init_61 : decode cX8_init 61 = .ok (.putfield 33, 3) := by decide +kernel
theorem dX8_init_64 : decode cX8_init 64 = .ok (.aload_n 0, 1) := by decide +kernel
theorem dX8_init_65 : decode cX8_init 65 = .ok (.bipush 7, 2) := by decide +kernel
theorem dX8_init_67 : decode cX8_init 67 = .ok (.newarray .int, 2) := by decide +kernel
theorem dX8_init_69 : decode cX8_init 69 = .ok (.putfield 37, 3) := by decide +kernel
theorem dX8_init_72 : decode cX8_init 72 = .ok (.aload_n 0, 1) := by decide +kernel
theorem dX8_init_73 : decode cX8_init 73 = .ok (.bipush 7, 2) := by decide +kernel
theorem dX8_init_75 : decode cX8_init 75 = .ok (.newarray .int, 2) := by decide +kernel
theorem dX8_init_77 : decode cX8_init 77 = .ok (.putfield 40, 3) := by decide +kernel
theorem dX8_init_80 : decode cX8_init 80 = .ok (.aload_n 0, 1) := by decide +kernel
theorem dX8_init_81 : decode cX8_init 81 = .ok (.bipush 41, 2) := by decide +kernel
theorem dX8_init_83 : decode cX8_init 83 = .ok (.newarray .int, 2) := by decide +kernel
theorem dX8_init_85 : decode cX8_init 85 = .ok (.putfield 43, 3) := by decide +kernel
theorem dX8_init_88 : decode cX8_init 88 = .ok (.return_, 1) := by decide +kernel
theorem dX8_in_0 : decode cX8_in 0 = .ok (.lload_n 0, 1) := by decide +kernel
theorem dX8_in_1 : decode cX8_in 1 = .ok (.lload_n 2, 1) := by decide +kernel
theorem dX8_in_2 : decode cX8_in 2 = .ok (.lcmp, 1) := by decide +kernel
theorem dX8_in_3 : decode cX8_in 3 = .ok (.ifCond .lt 14, 3) := by decide +kernel
theorem dX8_in_6 : decode cX8_in 6 = .ok (.lload_n 0, 1) := by decide +kernel
theorem dX8_in_7 : decode cX8_in 7 = .ok (.lload 4, 2) := by decide +kernel
theorem dX8_in_9 : decode cX8_in 9 = .ok (.lcmp, 1) := by decide +kernel
theorem dX8_in_10 : decode cX8_in 10 = .ok (.ifCond .gt 7, 3) := by decide +kernel
theorem dX8_in_13 : decode cX8_in 13 = .ok (.iconst 1, 1) := by decide +kernel
theorem dX8_in_14 : decode cX8_in 14 = .ok (.goto 4, 3) := by decide +kernel
theorem dX8_in_17 : decode cX8_in 17 = .ok (.iconst 0, 1) := by decide +kernel
theorem dX8_in_18 : decode cX8_in 18 = .ok (.ireturn, 1) := by decide +kernel
theorem dX8_bad_0 : decode cX8_bad 0 = .ok (.aload_n 0, 1) := by decide +kernel
theorem dX8_bad_1 : decode cX8_bad 1 = .ok (.getfield 27, 3) := by decide +kernel
theorem dX8_bad_4 : decode cX8_bad 4 = .ok (.iconst 0, 1) := by decide +kernel
theorem dX8_bad_5 : decode cX8_bad 5 = .ok (.dup2, 1) := by decide +kernel
theorem dX8_bad_6 : decode cX8_bad 6 = .ok (.iaload, 1) := by decide +kernel
theorem dX8_bad_7 : decode cX8_bad 7 = .ok (.iconst 1, 1) := by decide +kernel
theorem dX8_bad_8 : decode cX8_bad 8 = .ok (.iadd, 1) := by decide +kernel
theorem dX8_bad_9 : decode cX8_bad 9 = .ok (.iastore, 1) := by decide +kernel
theorem dX8_bad_10 : decode cX8_bad 10 = .ok (.bipush (-2), 2) := by decide +kernel
theorem dX8_bad_12 : decode cX8_bad 12 = .ok (.ireturn, 1) := by decide +kernel
theorem dX8_badAs_0 : decode cX8_badAs 0 = .ok (.aload_n 0, 1) := by decide +kernel
theorem dX8_badAs_1 : decode cX8_badAs 1 = .ok (.getfield 27, 3) := by decide +kernel
theorem dX8_badAs_4 : decode cX8_badAs 4 = .ok (.iconst 0, 1) := by decide +kernel
theorem dX8_badAs_5 : decode cX8_badAs 5 = .ok (.dup2, 1) := by decide +kernel
theorem dX8_badAs_6 : decode cX8_badAs 6 = .ok (.iaload, 1) := by decide +kernel
theorem dX8_badAs_7 : decode cX8_badAs 7 = .ok (.iconst 1, 1) := by decide +kernel
theorem dX8_badAs_8 : decode cX8_badAs 8 = .ok (.iadd, 1) := by decide +kernel
theorem dX8_badAs_9 : decode cX8_badAs 9 = .ok (.iastore, 1) := by decide +kernel
theorem dX8_badAs_10 : decode cX8_badAs 10 = .ok (.iload_n 1, 1) := by decide +kernel
theorem dX8_badAs_11 : decode cX8_badAs 11 = .ok (.ireturn, 1) := by decide +kernel
theorem dX8_no_0 : decode cX8_no 0 = .ok (.aload_n 0, 1) := by decide +kernel
theorem dX8_no_1 : decode cX8_no 1 = .ok (.getfield 27, 3) := by decide +kernel
theorem dX8_no_4 : decode cX8_no 4 = .ok (.iconst 1, 1) := by decide +kernel
theorem dX8_no_5 : decode cX8_no 5 = .ok (.dup2, 1) := by decide +kernel
theorem dX8_no_6 : decode cX8_no 6 = .ok (.iaload, 1) := by decide +kernel
theorem dX8_no_7 : decode cX8_no 7 = .ok (.iconst 1, 1) := by decide +kernel
theorem dX8_no_8 : decode cX8_no 8 = .ok (.iadd, 1) := by decide +kernel
theorem dX8_no_9 : decode cX8_no 9 = .ok (.iastore, 1) := by decide +kernel
theorem dX8_no_10 : decode cX8_no 10 = .ok (.bipush (-3), 2) := by decide +kernel
theorem dX8_no_12 : decode cX8_no 12 = .ok (.ireturn, 1) := by decide +kernel
theorem dX8_full_0 : decode cX8_full 0 = .ok (.aload_n 0, 1) := by decide +kernel
theorem dX8_full_1 : decode cX8_full 1 = .ok (.getfield 27, 3) := by decide +kernel
theorem dX8_full_4 : decode cX8_full 4 = .ok (.iconst 2, 1) := by decide +kernel
theorem dX8_full_5 : decode cX8_full 5 = .ok (.dup2, 1) := by decide +kernel
theorem dX8_full_6 : decode cX8_full 6 = .ok (.iaload, 1) := by decide +kernel
theorem dX8_full_7 : decode cX8_full 7 = .ok (.iconst 1, 1) := by decide +kernel
theorem dX8_full_8 : decode cX8_full 8 = .ok (.iadd, 1) := by decide +kernel
theorem dX8_full_9 : decode cX8_full 9 = .ok (.iastore, 1) := by decide +kernel
theorem dX8_full_10 : decode cX8_full 10 = .ok (.bipush (-4), 2) := by decide +kernel
theorem dX8_full_12 : decode cX8_full 12 = .ok (.ireturn, 1) := by decide +kernel
theorem dX8_isSoul_0 : decode cX8_isSoul 0 = .ok (.iload_n 1, 1) := by decide +kernel
theorem dX8_isSoul_1 : decode cX8_isSoul 1 = .ok (.i2l, 1) := by decide +kernel
theorem dX8_isSoul_2 : decode cX8_isSoul 2 = .ok (.lconst 0, 1) := by decide +kernel
theorem dX8_isSoul_3 : decode cX8_isSoul 3 = .ok (.aload_n 0, 1) := by decide +kernel
theorem dX8_isSoul_4 : decode cX8_isSoul 4 = .ok (.getfield 7, 3) := by decide +kernel
theorem dX8_isSoul_7 : decode cX8_isSoul 7 = .ok (.bipush 8, 2) := by decide +kernel
theorem dX8_isSoul_9 : decode cX8_isSoul 9 = .ok (.iaload, 1) := by decide +kernel
theorem dX8_isSoul_10 : decode cX8_isSoul 10 = .ok (.iconst 1, 1) := by decide +kernel
theorem dX8_isSoul_11 : decode cX8_isSoul 11 = .ok (.isub, 1) := by decide +kernel
theorem dX8_isSoul_12 : decode cX8_isSoul 12 = .ok (.i2l, 1) := by decide +kernel
theorem dX8_isSoul_13 : decode cX8_isSoul 13 = .ok (.invokestatic 46, 3) := by decide +kernel
theorem dX8_isSoul_16 : decode cX8_isSoul 16 = .ok (.ireturn, 1) := by decide +kernel
theorem dX8_isCell_0 : decode cX8_isCell 0 = .ok (.iload_n 0, 1) := by decide +kernel
theorem dX8_isCell_1 : decode cX8_isCell 1 = .ok (.i2l, 1) := by decide +kernel
theorem dX8_isCell_2 : decode cX8_isCell 2 = .ok (.lconst 0, 1) := by decide +kernel
theorem dX8_isCell_3 : decode cX8_isCell 3 = .ok (.ldc2_w 50, 3) := by decide +kernel
theorem dX8_isCell_6 : decode cX8_isCell 6 = .ok (.invokestatic 46, 3) := by decide +kernel
theorem dX8_isCell_9 : decode cX8_isCell 9 = .ok (.ireturn, 1) := by decide +kernel
theorem dX8_has_0 : decode cX8_has 0 = .ok (.iload_n 0, 1) := by decide +kernel
theorem dX8_has_1 : decode cX8_has 1 = .ok (.iload_n 1, 1) := by decide +kernel
theorem dX8_has_2 : decode cX8_has 2 = .ok (.ishr, 1) := by decide +kernel
theorem dX8_has_3 : decode cX8_has 3 = .ok (.iconst 1, 1) := by decide +kernel
theorem dX8_has_4 : decode cX8_has 4 = .ok (.iand, 1) := by decide +kernel
theorem dX8_has_5 : decode cX8_has 5 = .ok (.iconst 1, 1) := by decide +kernel
theorem dX8_has_6 : decode cX8_has 6 = .ok (.if_icmp .ne 7, 3) := by decide +kernel
theorem dX8_has_9 : decode cX8_has 9 = .ok (.iconst 1, 1) := by decide +kernel
theorem dX8_has_10 : decode cX8_has 10 = .ok (.goto 4, 3) := by decide +kernel
theorem dX8_has_13 : decode cX8_has 13 = .ok (.iconst 0, 1) := by decide +kernel
theorem dX8_has_14 : decode cX8_has 14 = .ok (.ireturn, 1) := by decide +kernel
theorem dX8_fraction_0 : decode cX8_fraction 0 = .ok (.lload_n 1, 1) := by decide +kernel
theorem dX8_fraction_1 : decode cX8_fraction 1 = .ok (.lstore 5, 2) := by decide +kernel
theorem dX8_fraction_3 : decode cX8_fraction 3 = .ok (.lload_n 3, 1) := by decide +kernel
theorem dX8_fraction_4 : decode cX8_fraction 4 = .ok (.lstore 7, 2) := by decide +kernel
theorem dX8_fraction_6 : decode cX8_fraction 6 = .ok (.lload 7, 2) := by decide +kernel
theorem dX8_fraction_8 : decode cX8_fraction 8 = .ok (.lconst 0, 1) := by decide +kernel
theorem dX8_fraction_9 : decode cX8_fraction 9 = .ok (.lcmp, 1) := by decide +kernel
theorem dX8_fraction_10 : decode cX8_fraction 10 = .ok (.ifCond .eq 21, 3) := by decide +kernel
theorem dX8_fraction_13 : decode cX8_fraction 13 = .ok (.lload 5, 2) := by decide +kernel
theorem dX8_fraction_15 : decode cX8_fraction 15 = .ok (.lload 7, 2) := by decide +kernel
theorem dX8_fraction_17 : decode cX8_fraction 17 = .ok (.lrem, 1) := by decide +kernel
theorem dX8_fraction_18 : decode cX8_fraction 18 = .ok (.lstore 9, 2) := by decide +kernel
theorem dX8_fraction_20 : decode cX8_fraction 20 = .ok (.lload 7, 2) := by decide +kernel
theorem dX8_fraction_22 : decode cX8_fraction 22 = .ok (.lstore 5, 2) := by decide +kernel
theorem dX8_fraction_24 : decode cX8_fraction 24 = .ok (.lload 9, 2) := by decide +kernel
theorem dX8_fraction_26 : decode cX8_fraction 26 = .ok (.lstore 7, 2) := by decide +kernel
theorem dX8_fraction_28 : decode cX8_fraction 28 = .ok (.goto (-22), 3) := by decide +kernel
theorem dX8_fraction_31 : decode cX8_fraction 31 = .ok (.aload_n 0, 1) := by decide +kernel
theorem dX8_fraction_32 : decode cX8_fraction 32 = .ok (.lload_n 1, 1) := by decide +kernel
theorem dX8_fraction_33 : decode cX8_fraction 33 = .ok (.lload 5, 2) := by decide +kernel
theorem dX8_fraction_35 : decode cX8_fraction 35 = .ok (.ldiv, 1) := by decide +kernel
theorem dX8_fraction_36 : decode cX8_fraction 36 = .ok (.putfield 52, 3) := by decide +kernel
theorem dX8_fraction_39 : decode cX8_fraction 39 = .ok (.aload_n 0, 1) := by decide +kernel
theorem dX8_fraction_40 : decode cX8_fraction 40 = .ok (.lload_n 3, 1) := by decide +kernel
theorem dX8_fraction_41 : decode cX8_fraction 41 = .ok (.lload 5, 2) := by decide +kernel
theorem dX8_fraction_43 : decode cX8_fraction 43 = .ok (.ldiv, 1) := by decide +kernel
theorem dX8_fraction_44 : decode cX8_fraction 44 = .ok (.putfield 23, 3) := by decide +kernel
theorem dX8_fraction_47 : decode cX8_fraction 47 = .ok (.iconst 1, 1) := by decide +kernel
theorem dX8_fraction_48 : decode cX8_fraction 48 = .ok (.ireturn, 1) := by decide +kernel
theorem dX8_seesBy_0 : decode cX8_seesBy 0 = .ok (.iconst 2, 1) := by decide +kernel
theorem dX8_seesBy_1 : decode cX8_seesBy 1 = .ok (.iload_n 1, 1) := by decide +kernel
theorem dX8_seesBy_2 : decode cX8_seesBy 2 = .ok (.imul, 1) := by decide +kernel
theorem dX8_seesBy_3 : decode cX8_seesBy 3 = .ok (.iconst 5, 1) := by decide +kernel
theorem dX8_seesBy_4 : decode cX8_seesBy 4 = .ok (.if_icmp .le 11, 3) := by decide +kernel
theorem dX8_seesBy_7 : decode cX8_seesBy 7 = .ok (.iconst 2, 1) := by decide +kernel
theorem dX8_seesBy_8 : decode cX8_seesBy 8 = .ok (.iload_n 1, 1) := by decide +kernel
theorem dX8_seesBy_9 : decode cX8_seesBy 9 = .ok (.imul, 1) := by decide +kernel
theorem dX8_seesBy_10 : decode cX8_seesBy 10 = .ok (.iconst 5, 1) := by decide +kernel
theorem dX8_seesBy_11 : decode cX8_seesBy 11 = .ok (.isub, 1) := by decide +kernel
theorem dX8_seesBy_12 : decode cX8_seesBy 12 = .ok (.goto 8, 3) := by decide +kernel
theorem dX8_seesBy_15 : decode cX8_seesBy 15 = .ok (.iconst 5, 1) := by decide +kernel
theorem dX8_seesBy_16 : decode cX8_seesBy 16 = .ok (.iconst 2, 1) := by decide +kernel
theorem dX8_seesBy_17 : decode cX8_seesBy 17 = .ok (.iload_n 1, 1) := by decide +kernel
theorem dX8_seesBy_18 : decode cX8_seesBy 18 = .ok (.imul, 1) := by decide +kernel
theorem dX8_seesBy_19 : decode cX8_seesBy 19 = .ok (.isub, 1) := by decide +kernel
theorem dX8_seesBy_20 : decode cX8_seesBy 20 = .ok (.istore_n 2, 1) := by decide +kernel
theorem dX8_seesBy_21 : decode cX8_seesBy 21 = .ok (.bipush 9, 2) := by decide +kernel
theorem dX8_seesBy_23 : decode cX8_seesBy 23 = .ok (.iload_n 2, 1) := by decide +kernel
theorem dX8_seesBy_24 : decode cX8_seesBy 24 = .ok (.isub, 1) := by decide +kernel
theorem dX8_seesBy_25 : decode cX8_seesBy 25 = .ok (.istore_n 3, 1) := by decide +kernel
theorem dX8_seesBy_26 : decode cX8_seesBy 26 = .ok (.iload_n 1, 1) := by decide +kernel
theorem dX8_seesBy_27 : decode cX8_seesBy 27 = .ok (.iconst 2, 1) := by decide +kernel
theorem dX8_seesBy_28 : decode cX8_seesBy 28 = .ok (.if_icmp .ne 7, 3) := by decide +kernel
theorem dX8_seesBy_31 : decode cX8_seesBy 31 = .ok (.iconst 0, 1) := by decide +kernel
theorem dX8_seesBy_32 : decode cX8_seesBy 32 = .ok (.goto 4, 3) := by decide +kernel
theorem dX8_seesBy_35 : decode cX8_seesBy 35 = .ok (.iload_n 3, 1) := by decide +kernel
theorem dX8_seesBy_36 : decode cX8_seesBy 36 = .ok (.istore 4, 2) := by decide +kernel
theorem dX8_seesBy_38 : decode cX8_seesBy 38 = .ok (.iload_n 0, 1) := by decide +kernel
theorem dX8_seesBy_39 : decode cX8_seesBy 39 = .ok (.tableswitch 61 0 4 #[33, 35, 38, 42, 46], 33) := by decide +kernel
theorem dX8_seesBy_72 : decode cX8_seesBy 72 = .ok (.iload_n 3, 1) := by decide +kernel
theorem dX8_seesBy_73 : decode cX8_seesBy 73 = .ok (.ireturn, 1) := by decide +kernel
theorem dX8_seesBy_74 : decode cX8_seesBy 74 = .ok (.iload 4, 2) := by decide +kernel
theorem dX8_seesBy_76 : decode cX8_seesBy 76 = .ok (.ireturn, 1) := by decide +kernel
theorem dX8_seesBy_77 : decode cX8_seesBy 77 = .ok (.iload_n 3, 1) := by decide +kernel
theorem dX8_seesBy_78 : decode cX8_seesBy 78 = .ok (.iconst 4, 1) := by decide +kernel
theorem dX8_seesBy_79 : decode cX8_seesBy 79 = .ok (.iadd, 1) := by decide +kernel
theorem dX8_seesBy_80 : decode cX8_seesBy 80 = .ok (.ireturn, 1) := by decide +kernel
theorem dX8_seesBy_81 : decode cX8_seesBy 81 = .ok (.iload_n 3, 1) := by decide +kernel
theorem dX8_seesBy_82 : decode cX8_seesBy 82 = .ok (.iconst 2, 1) := by decide +kernel
theorem dX8_seesBy_83 : decode cX8_seesBy 83 = .ok (.idiv, 1) := by decide +kernel
theorem dX8_seesBy_84 : decode cX8_seesBy 84 = .ok (.ireturn, 1) := by decide +kernel
theorem dX8_seesBy_85 : decode cX8_seesBy 85 = .ok (.iload 4, 2) := by decide +kernel
theorem dX8_seesBy_87 : decode cX8_seesBy 87 = .ok (.iconst 2, 1) := by decide +kernel
theorem dX8_seesBy_88 : decode cX8_seesBy 88 = .ok (.if_icmp .le 10, 3) := by decide +kernel
theorem dX8_seesBy_91 : decode cX8_seesBy 91 = .ok (.iload 4, 2) := by decide +kernel
theorem dX8_seesBy_93 : decode cX8_seesBy 93 = .ok (.iconst 2, 1) := by decide +kernel
theorem dX8_seesBy_94 : decode cX8_seesBy 94 = .ok (.isub, 1) := by decide +kernel
theorem dX8_seesBy_95 : decode cX8_seesBy 95 = .ok (.goto 4, 3) := by decide +kernel
theorem dX8_seesBy_98 : decode cX8_seesBy 98 = .ok (.iconst 0, 1) := by decide +kernel
theorem dX8_seesBy_99 : decode cX8_seesBy 99 = .ok (.ireturn, 1) := by decide +kernel
theorem dX8_seesBy_100 : decode cX8_seesBy 100 = .ok (.iload_n 3, 1) := by decide +kernel
theorem dX8_seesBy_101 : decode cX8_seesBy 101 = .ok (.iconst 4, 1) := by decide +kernel
theorem dX8_seesBy_102 : decode cX8_seesBy 102 = .ok (.iadd, 1) := by decide +kernel
theorem dX8_seesBy_103 : decode cX8_seesBy 103 = .ok (.iconst 2, 1) := by decide +kernel
theorem dX8_seesBy_104 : decode cX8_seesBy 104 = .ok (.iload_n 1, 1) := by decide +kernel
theorem dX8_seesBy_105 : decode cX8_seesBy 105 = .ok (.imul, 1) := by decide +kernel
theorem dX8_seesBy_106 : decode cX8_seesBy 106 = .ok (.if_icmp .le 13, 3) := by decide +kernel
theorem dX8_seesBy_109 : decode cX8_seesBy 109 = .ok (.iload_n 3, 1) := by decide +kernel
theorem dX8_seesBy_110 : decode cX8_seesBy 110 = .ok (.iconst 4, 1) := by decide +kernel
theorem dX8_seesBy_111 : decode cX8_seesBy 111 = .ok (.iadd, 1) := by decide +kernel
theorem dX8_seesBy_112 : decode cX8_seesBy 112 = .ok (.iconst 2, 1) := by decide +kernel
theorem dX8_seesBy_113 : decode cX8_seesBy 113 = .ok (.iload_n 1, 1) := by decide +kernel
theorem dX8_seesBy_114 : decode cX8_seesBy 114 = .ok (.imul, 1) := by decide +kernel
theorem dX8_seesBy_115 : decode cX8_seesBy 115 = .ok (.isub, 1) := by decide +kernel
theorem dX8_seesBy_116 : decode cX8_seesBy 116 = .ok (.goto 4, 3) := by decide +kernel
theorem dX8_seesBy_119 : decode cX8_seesBy 119 = .ok (.iconst 0, 1) := by decide +kernel
theorem dX8_seesBy_120 : decode cX8_seesBy 120 = .ok (.ireturn, 1) := by decide +kernel
theorem dX8_fussBy_0 : decode cX8_fussBy 0 = .ok (.iload_n 2, 1) := by decide +kernel
theorem dX8_fussBy_1 : decode cX8_fussBy 1 = .ok (.bipush 10, 2) := by decide +kernel
theorem dX8_fussBy_3 : decode cX8_fussBy 3 = .ok (.if_icmp .lt 9, 3) := by decide +kernel
theorem dX8_fussBy_6 : decode cX8_fussBy 6 = .ok (.iconst 2, 1) := by decide +kernel
theorem dX8_fussBy_7 : decode cX8_fussBy 7 = .ok (.iload_n 1, 1) := by decide +kernel
theorem dX8_fussBy_8 : decode cX8_fussBy 8 = .ok (.imul, 1) := by decide +kernel
theorem dX8_fussBy_9 : decode cX8_fussBy 9 = .ok (.goto 4, 3) := by decide +kernel
theorem dX8_fussBy_12 : decode cX8_fussBy 12 = .ok (.iload_n 1, 1) := by decide +kernel
theorem dX8_fussBy_13 : decode cX8_fussBy 13 = .ok (.istore_n 3, 1) := by decide +kernel
theorem dX8_fussBy_14 : decode cX8_fussBy 14 = .ok (.iload_n 0, 1) := by decide +kernel
theorem dX8_fussBy_15 : decode cX8_fussBy 15 = .ok (.tableswitch 51 0 4 #[33, 35, 39, 41, 47], 33) := by decide +kernel
theorem dX8_fussBy_48 : decode cX8_fussBy 48 = .ok (.iload_n 1, 1) := by decide +kernel
theorem dX8_fussBy_49 : decode cX8_fussBy 49 = .ok (.ireturn, 1) := by decide +kernel
theorem dX8_fussBy_50 : decode cX8_fussBy 50 = .ok (.iload_n 1, 1) := by decide +kernel
theorem dX8_fussBy_51 : decode cX8_fussBy 51 = .ok (.iconst 2, 1) := by decide +kernel
theorem dX8_fussBy_52 : decode cX8_fussBy 52 = .ok (.iadd, 1) := by decide +kernel
theorem dX8_fussBy_53 : decode cX8_fussBy 53 = .ok (.ireturn, 1) := by decide +kernel
theorem dX8_fussBy_54 : decode cX8_fussBy 54 = .ok (.iload_n 3, 1) := by decide +kernel
theorem dX8_fussBy_55 : decode cX8_fussBy 55 = .ok (.ireturn, 1) := by decide +kernel
theorem dX8_fussBy_56 : decode cX8_fussBy 56 = .ok (.iload_n 1, 1) := by decide +kernel
theorem dX8_fussBy_57 : decode cX8_fussBy 57 = .ok (.iconst 1, 1) := by decide +kernel
theorem dX8_fussBy_58 : decode cX8_fussBy 58 = .ok (.iadd, 1) := by decide +kernel
theorem dX8_fussBy_59 : decode cX8_fussBy 59 = .ok (.iconst 2, 1) := by decide +kernel
theorem dX8_fussBy_60 : decode cX8_fussBy 60 = .ok (.idiv, 1) := by decide +kernel
theorem dX8_fussBy_61 : decode cX8_fussBy 61 = .ok (.ireturn, 1) := by decide +kernel
theorem dX8_fussBy_62 : decode cX8_fussBy 62 = .ok (.iload_n 1, 1) := by decide +kernel
theorem dX8_fussBy_63 : decode cX8_fussBy 63 = .ok (.iconst 1, 1) := by decide +kernel
theorem dX8_fussBy_64 : decode cX8_fussBy 64 = .ok (.iadd, 1) := by decide +kernel
theorem dX8_fussBy_65 : decode cX8_fussBy 65 = .ok (.ireturn, 1) := by decide +kernel
theorem dX8_fussBy_66 : decode cX8_fussBy 66 = .ok (.iload_n 1, 1) := by decide +kernel
theorem dX8_fussBy_67 : decode cX8_fussBy 67 = .ok (.ifCond .le 9, 3) := by decide +kernel
theorem dX8_fussBy_70 : decode cX8_fussBy 70 = .ok (.iload_n 3, 1) := by decide +kernel
theorem dX8_fussBy_71 : decode cX8_fussBy 71 = .ok (.iconst 3, 1) := by decide +kernel
theorem dX8_fussBy_72 : decode cX8_fussBy 72 = .ok (.iadd, 1) := by decide +kernel
theorem dX8_fussBy_73 : decode cX8_fussBy 73 = .ok (.goto 4, 3) := by decide +kernel
theorem dX8_fussBy_76 : decode cX8_fussBy 76 = .ok (.iload_n 3, 1) := by decide +kernel
theorem dX8_fussBy_77 : decode cX8_fussBy 77 = .ok (.ireturn, 1) := by decide +kernel
theorem dX8_soulOf_0 : decode cX8_soulOf 0 = .ok (.aload_n 0, 1) := by decide +kernel
theorem dX8_soulOf_1 : decode cX8_soulOf 1 = .ok (.bipush 9, 2) := by decide +kernel
theorem dX8_soulOf_3 : decode cX8_soulOf 3 = .ok (.iconst 3, 1) := by decide +kernel
theorem dX8_soulOf_4 : decode cX8_soulOf 4 = .ok (.iload_n 1, 1) := by decide +kernel
theorem dX8_soulOf_5 : decode cX8_soulOf 5 = .ok (.imul, 1) := by decide +kernel
theorem dX8_soulOf_6 : decode cX8_soulOf 6 = .ok (.iadd, 1) := by decide +kernel
theorem dX8_soulOf_7 : decode cX8_soulOf 7 = .ok (.iload_n 2, 1) := by decide +kernel
theorem dX8_soulOf_8 : decode cX8_soulOf 8 = .ok (.iadd, 1) := by decide +kernel
theorem dX8_soulOf_9 : decode cX8_soulOf 9 = .ok (.iaload, 1) := by decide +kernel
theorem dX8_soulOf_10 : decode cX8_soulOf 10 = .ok (.ireturn, 1) := by decide +kernel
theorem dX8_cellOf_0 : decode cX8_cellOf 0 = .ok (.aload_n 0, 1) := by decide +kernel
theorem dX8_cellOf_1 : decode cX8_cellOf 1 = .ok (.iload_n 1, 1) := by decide +kernel
theorem dX8_cellOf_2 : decode cX8_cellOf 2 = .ok (.iconst 2, 1) := by decide +kernel
theorem dX8_cellOf_3 : decode cX8_cellOf 3 = .ok (.invokestatic 55, 3) := by decide +kernel
theorem dX8_cellOf_6 : decode cX8_cellOf 6 = .ok (.iconst 1, 1) := by decide +kernel
theorem dX8_cellOf_7 : decode cX8_cellOf 7 = .ok (.isub, 1) := by decide +kernel
theorem dX8_cellOf_8 : decode cX8_cellOf 8 = .ok (.ireturn, 1) := by decide +kernel
theorem dX8_sits_0 : decode cX8_sits 0 = .ok (.aload_n 0, 1) := by decide +kernel
theorem dX8_sits_1 : decode cX8_sits 1 = .ok (.bipush 11, 2) := by decide +kernel
theorem dX8_sits_3 : decode cX8_sits 3 = .ok (.iconst 3, 1) := by decide +kernel
theorem dX8_sits_4 : decode cX8_sits 4 = .ok (.iload_n 1, 1) := by decide +kernel
theorem dX8_sits_5 : decode cX8_sits 5 = .ok (.imul, 1) := by decide +kernel
theorem dX8_sits_6 : decode cX8_sits 6 = .ok (.iadd, 1) := by decide +kernel
theorem dX8_sits_7 : decode cX8_sits 7 = .ok (.iload_n 2, 1) := by decide +kernel
theorem dX8_sits_8 : decode cX8_sits 8 = .ok (.iconst 1, 1) := by decide +kernel
theorem dX8_sits_9 : decode cX8_sits 9 = .ok (.iadd, 1) := by decide +kernel
theorem dX8_sits_10 : decode cX8_sits 10 = .ok (.iastore, 1) := by decide +kernel
theorem dX8_sits_11 : decode cX8_sits 11 = .ok (.return_, 1) := by decide +kernel
theorem dX8_whoSits_0 : decode cX8_whoSits 0 = .ok (.iconst 0, 1) := by decide +kernel
theorem dX8_whoSits_1 : decode cX8_whoSits 1 = .ok (.istore_n 2, 1) := by decide +kernel
theorem dX8_whoSits_2 : decode cX8_whoSits 2 = .ok (.iload_n 2, 1) := by decide +kernel
theorem dX8_whoSits_3 : decode cX8_whoSits 3 = .ok (.aload_n 0, 1) := by decide +kernel
theorem dX8_whoSits_4 : decode cX8_whoSits 4 = .ok (.bipush 8, 2) := by decide +kernel
theorem dX8_whoSits_6 : decode cX8_whoSits 6 = .ok (.iaload, 1) := by decide +kernel
theorem dX8_whoSits_7 : decode cX8_whoSits 7 = .ok (.if_icmp .ge 20, 3) := by decide +kernel
theorem dX8_whoSits_10 : decode cX8_whoSits 10 = .ok (.aload_n 0, 1) := by decide +kernel
theorem dX8_whoSits_11 : decode cX8_whoSits 11 = .ok (.iload_n 2, 1) := by decide +kernel
theorem dX8_whoSits_12 : decode cX8_whoSits 12 = .ok (.invokestatic 59, 3) := by decide +kernel
theorem dX8_whoSits_15 : decode cX8_whoSits 15 = .ok (.iload_n 1, 1) := by decide +kernel
theorem dX8_whoSits_16 : decode cX8_whoSits 16 = .ok (.if_icmp .ne 5, 3) := by decide +kernel
theorem dX8_whoSits_19 : decode cX8_whoSits 19 = .ok (.iload_n 2, 1) := by decide +kernel
theorem dX8_whoSits_20 : decode cX8_whoSits 20 = .ok (.ireturn, 1) := by decide +kernel
theorem dX8_whoSits_21 : decode cX8_whoSits 21 = .ok (.iinc 2 1, 3) := by decide +kernel
theorem dX8_whoSits_24 : decode cX8_whoSits 24 = .ok (.goto (-22), 3) := by decide +kernel
theorem dX8_whoSits_27 : decode cX8_whoSits 27 = .ok (.iconst (-1), 1) := by decide +kernel
theorem dX8_whoSits_28 : decode cX8_whoSits 28 = .ok (.ireturn, 1) := by decide +kernel
theorem dX8_isFree_0 : decode cX8_isFree 0 = .ok (.aload_n 0, 1) := by decide +kernel
theorem dX8_isFree_1 : decode cX8_isFree 1 = .ok (.iload_n 1, 1) := by decide +kernel
theorem dX8_isFree_2 : decode cX8_isFree 2 = .ok (.invokestatic 63, 3) := by decide +kernel
theorem dX8_isFree_5 : decode cX8_isFree 5 = .ok (.iconst (-1), 1) := by decide +kernel
theorem dX8_isFree_6 : decode cX8_isFree 6 = .ok (.if_icmp .ne 17, 3) := by decide +kernel
theorem dX8_isFree_9 : decode cX8_isFree 9 = .ok (.aload_n 0, 1) := by decide +kernel
theorem dX8_isFree_10 : decode cX8_isFree 10 = .ok (.iconst 5, 1) := by decide +kernel
theorem dX8_isFree_11 : decode cX8_isFree 11 = .ok (.iaload, 1) := by decide +kernel
theorem dX8_isFree_12 : decode cX8_isFree 12 = .ok (.iload_n 1, 1) := by decide +kernel
theorem dX8_isFree_13 : decode cX8_isFree 13 = .ok (.invokestatic 66, 3) := by decide +kernel
theorem dX8_isFree_16 : decode cX8_isFree 16 = .ok (.ifCond .ne 7, 3) := by decide +kernel
theorem dX8_isFree_19 : decode cX8_isFree 19 = .ok (.iconst 1, 1) := by decide +kernel
theorem dX8_isFree_20 : decode cX8_isFree 20 = .ok (.goto 4, 3) := by decide +kernel
theorem dX8_isFree_23 : decode cX8_isFree 23 = .ok (.iconst 0, 1) := by decide +kernel
theorem dX8_isFree_24 : decode cX8_isFree 24 = .ok (.ireturn, 1) := by decide +kernel
theorem dX8_knees_0 : decode cX8_knees 0 = .ok (.iconst 0, 1) := by decide +kernel
theorem dX8_knees_1 : decode cX8_knees 1 = .ok (.istore_n 3, 1) := by decide +kernel
theorem dX8_knees_2 : decode cX8_knees 2 = .ok (.iconst 0, 1) := by decide +kernel
theorem dX8_knees_3 : decode cX8_knees 3 = .ok (.istore 4, 2) := by decide +kernel
theorem dX8_knees_5 : decode cX8_knees 5 = .ok (.iload 4, 2) := by decide +kernel
theorem dX8_knees_7 : decode cX8_knees 7 = .ok (.aload_n 0, 1) := by decide +kernel
theorem dX8_knees_8 : decode cX8_knees 8 = .ok (.bipush 8, 2) := by decide +kernel
theorem dX8_knees_10 : decode cX8_knees 10 = .ok (.iaload, 1) := by decide +kernel
theorem dX8_knees_11 : decode cX8_knees 11 = .ok (.if_icmp .ge 49, 3) := by decide +kernel
theorem dX8_knees_14 : decode cX8_knees 14 = .ok (.aload_n 0, 1) := by decide +kernel
theorem dX8_knees_15 : decode cX8_knees 15 = .ok (.iload 4, 2) := by decide +kernel
theorem dX8_knees_17 : decode cX8_knees 17 = .ok (.invokestatic 59, 3) := by decide +kernel
theorem dX8_knees_20 : decode cX8_knees 20 = .ok (.istore 5, 2) := by decide +kernel
theorem dX8_knees_22 : decode cX8_knees 22 = .ok (.iload_n 3, 1) := by decide +kernel
theorem dX8_knees_23 : decode cX8_knees 23 = .ok (.iload 4, 2) := by decide +kernel
theorem dX8_knees_25 : decode cX8_knees 25 = .ok (.iload_n 2, 1) := by decide +kernel
theorem dX8_knees_26 : decode cX8_knees 26 = .ok (.if_icmp .eq 25, 3) := by decide +kernel
theorem dX8_knees_29 : decode cX8_knees 29 = .ok (.iload 5, 2) := by decide +kernel
theorem dX8_knees_31 : decode cX8_knees 31 = .ok (.iload_n 1, 1) := by decide +kernel
theorem dX8_knees_32 : decode cX8_knees 32 = .ok (.bipush 6, 2) := by decide +kernel
theorem dX8_knees_34 : decode cX8_knees 34 = .ok (.idiv, 1) := by decide +kernel
theorem dX8_knees_35 : decode cX8_knees 35 = .ok (.bipush 6, 2) := by decide +kernel
theorem dX8_knees_37 : decode cX8_knees 37 = .ok (.imul, 1) := by decide +kernel
theorem dX8_knees_38 : decode cX8_knees 38 = .ok (.if_icmp .lt 13, 3) := by decide +kernel
theorem dX8_knees_41 : decode cX8_knees 41 = .ok (.iload 5, 2) := by decide +kernel
theorem dX8_knees_43 : decode cX8_knees 43 = .ok (.iload_n 1, 1) := by decide +kernel
theorem dX8_knees_44 : decode cX8_knees 44 = .ok (.if_icmp .ge 7, 3) := by decide +kernel
theorem dX8_knees_47 : decode cX8_knees 47 = .ok (.iconst 1, 1) := by decide +kernel
theorem dX8_knees_48 : decode cX8_knees 48 = .ok (.goto 4, 3) := by decide +kernel
theorem dX8_knees_51 : decode cX8_knees 51 = .ok (.iconst 0, 1) := by decide +kernel
theorem dX8_knees_52 : decode cX8_knees 52 = .ok (.iadd, 1) := by decide +kernel
theorem dX8_knees_53 : decode cX8_knees 53 = .ok (.istore_n 3, 1) := by decide +kernel
theorem dX8_knees_54 : decode cX8_knees 54 = .ok (.iinc 4 1, 3) := by decide +kernel
theorem dX8_knees_57 : decode cX8_knees 57 = .ok (.goto (-52), 3) := by decide +kernel
theorem dX8_knees_60 : decode cX8_knees 60 = .ok (.iload_n 3, 1) := by decide +kernel
theorem dX8_knees_61 : decode cX8_knees 61 = .ok (.ireturn, 1) := by decide +kernel
theorem dX8_makesBy_0 : decode cX8_makesBy 0 = .ok (.aload_n 0, 1) := by decide +kernel
theorem dX8_makesBy_1 : decode cX8_makesBy 1 = .ok (.iload_n 1, 1) := by decide +kernel
theorem dX8_makesBy_2 : decode cX8_makesBy 2 = .ok (.iconst 0, 1) := by decide +kernel
theorem dX8_makesBy_3 : decode cX8_makesBy 3 = .ok (.invokestatic 55, 3) := by decide +kernel
theorem dX8_makesBy_6 : decode cX8_makesBy 6 = .ok (.aload_n 0, 1) := by decide +kernel
theorem dX8_makesBy_7 : decode cX8_makesBy 7 = .ok (.iload_n 2, 1) := by decide +kernel
theorem dX8_makesBy_8 : decode cX8_makesBy 8 = .ok (.iload_n 1, 1) := by decide +kernel
theorem dX8_makesBy_9 : decode cX8_makesBy 9 = .ok (.invokestatic 70, 3) := by decide +kernel
theorem dX8_makesBy_12 : decode cX8_makesBy 12 = .ok (.aload_n 0, 1) := by decide +kernel
theorem dX8_makesBy_13 : decode cX8_makesBy 13 = .ok (.bipush 6, 2) := by decide +kernel
theorem dX8_makesBy_15 : decode cX8_makesBy 15 = .ok (.iaload, 1) := by decide +kernel
theorem dX8_makesBy_16 : decode cX8_makesBy 16 = .ok (.invokestatic 73, 3) := by decide +kernel
theorem dX8_makesBy_19 : decode cX8_makesBy 19 = .ok (.ireturn, 1) := by decide +kernel
theorem dX8_seesFrom_0 : decode cX8_seesFrom 0 = .ok (.aload_n 0, 1) := by decide +kernel
theorem dX8_seesFrom_1 : decode cX8_seesFrom 1 = .ok (.iload_n 1, 1) := by decide +kernel
theorem dX8_seesFrom_2 : decode cX8_seesFrom 2 = .ok (.bipush 6, 2) := by decide +kernel
theorem dX8_seesFrom_4 : decode cX8_seesFrom 4 = .ok (.idiv, 1) := by decide +kernel
theorem dX8_seesFrom_5 : decode cX8_seesFrom 5 = .ok (.iaload, 1) := by decide +kernel
theorem dX8_seesFrom_6 : decode cX8_seesFrom 6 = .ok (.iload_n 1, 1) := by decide +kernel
theorem dX8_seesFrom_7 : decode cX8_seesFrom 7 = .ok (.bipush 6, 2) := by decide +kernel
theorem dX8_seesFrom_9 : decode cX8_seesFrom 9 = .ok (.irem, 1) := by decide +kernel
theorem dX8_seesFrom_10 : decode cX8_seesFrom 10 = .ok (.invokestatic 77, 3) := by decide +kernel
theorem dX8_seesFrom_13 : decode cX8_seesFrom 13 = .ok (.ireturn, 1) := by decide +kernel
theorem dX8_fusses_0 : decode cX8_fusses 0 = .ok (.aload_n 0, 1) := by decide +kernel
theorem dX8_fusses_1 : decode cX8_fusses 1 = .ok (.bipush 7, 2) := by decide +kernel
theorem dX8_fusses_3 : decode cX8_fusses 3 = .ok (.aload_n 0, 1) := by decide +kernel
theorem dX8_fusses_4 : decode cX8_fusses 4 = .ok (.bipush 7, 2) := by decide +kernel
theorem dX8_fusses_6 : decode cX8_fusses 6 = .ok (.iaload, 1) := by decide +kernel
theorem dX8_fusses_7 : decode cX8_fusses 7 = .ok (.iload_n 1, 1) := by decide +kernel
theorem dX8_fusses_8 : decode cX8_fusses 8 = .ok (.iadd, 1) := by decide +kernel
theorem dX8_fusses_9 : decode cX8_fusses 9 = .ok (.ldc 81, 2) := by decide +kernel
theorem dX8_fusses_11 : decode cX8_fusses 11 = .ok (.if_icmp .le 8, 3) := by decide +kernel
theorem dX8_fusses_14 : decode cX8_fusses 14 = .ok (.ldc 81, 2) := by decide +kernel
theorem dX8_fusses_16 : decode cX8_fusses 16 = .ok (.goto 9, 3) := by decide +kernel
theorem dX8_fusses_19 : decode cX8_fusses 19 = .ok (.aload_n 0, 1) := by decide +kernel
theorem dX8_fusses_20 : decode cX8_fusses 20 = .ok (.bipush 7, 2) := by decide +kernel
theorem dX8_fusses_22 : decode cX8_fusses 22 = .ok (.iaload, 1) := by decide +kernel
theorem dX8_fusses_23 : decode cX8_fusses 23 = .ok (.iload_n 1, 1) := by decide +kernel
theorem dX8_fusses_24 : decode cX8_fusses 24 = .ok (.iadd, 1) := by decide +kernel
theorem dX8_fusses_25 : decode cX8_fusses 25 = .ok (.iastore, 1) := by decide +kernel
theorem dX8_fusses_26 : decode cX8_fusses 26 = .ok (.aload_n 0, 1) := by decide +kernel
theorem dX8_fusses_27 : decode cX8_fusses 27 = .ok (.bipush 6, 2) := by decide +kernel
theorem dX8_fusses_29 : decode cX8_fusses 29 = .ok (.dup2, 1) := by decide +kernel
theorem dX8_fusses_30 : decode cX8_fusses 30 = .ok (.iaload, 1) := by decide +kernel
theorem dX8_fusses_31 : decode cX8_fusses 31 = .ok (.iconst 1, 1) := by decide +kernel
theorem dX8_fusses_32 : decode cX8_fusses 32 = .ok (.iadd, 1) := by decide +kernel
theorem dX8_fusses_33 : decode cX8_fusses 33 = .ok (.iastore, 1) := by decide +kernel
theorem dX8_fusses_34 : decode cX8_fusses 34 = .ok (.return_, 1) := by decide +kernel
theorem dX8_goes_0 : decode cX8_goes 0 = .ok (.aload_n 0, 1) := by decide +kernel
theorem dX8_goes_1 : decode cX8_goes 1 = .ok (.iload_n 1, 1) := by decide +kernel
theorem dX8_goes_2 : decode cX8_goes 2 = .ok (.invokestatic 59, 3) := by decide +kernel
theorem dX8_goes_5 : decode cX8_goes 5 = .ok (.iconst (-1), 1) := by decide +kernel
theorem dX8_goes_6 : decode cX8_goes 6 = .ok (.if_icmp .ne 7, 3) := by decide +kernel
theorem dX8_goes_9 : decode cX8_goes 9 = .ok (.iconst 0, 1) := by decide +kernel
theorem dX8_goes_10 : decode cX8_goes 10 = .ok (.goto 13, 3) := by decide +kernel
theorem dX8_goes_13 : decode cX8_goes 13 = .ok (.aload_n 0, 1) := by decide +kernel
theorem dX8_goes_14 : decode cX8_goes 14 = .ok (.iload_n 1, 1) := by decide +kernel
theorem dX8_goes_15 : decode cX8_goes 15 = .ok (.aload_n 0, 1) := by decide +kernel
theorem dX8_goes_16 : decode cX8_goes 16 = .ok (.iload_n 1, 1) := by decide +kernel
theorem dX8_goes_17 : decode cX8_goes 17 = .ok (.invokestatic 59, 3) := by decide +kernel
theorem dX8_goes_20 : decode cX8_goes 20 = .ok (.invokestatic 82, 3) := by decide +kernel
theorem dX8_goes_23 : decode cX8_goes 23 = .ok (.istore_n 3, 1) := by decide +kernel
theorem dX8_goes_24 : decode cX8_goes 24 = .ok (.iload_n 3, 1) := by decide +kernel
theorem dX8_goes_25 : decode cX8_goes 25 = .ok (.iload_n 2, 1) := by decide +kernel
theorem dX8_goes_26 : decode cX8_goes 26 = .ok (.iconst (-1), 1) := by decide +kernel
theorem dX8_goes_27 : decode cX8_goes 27 = .ok (.if_icmp .ne 7, 3) := by decide +kernel
theorem dX8_goes_30 : decode cX8_goes 30 = .ok (.iconst 0, 1) := by decide +kernel
theorem dX8_goes_31 : decode cX8_goes 31 = .ok (.goto 9, 3) := by decide +kernel
theorem dX8_goes_34 : decode cX8_goes 34 = .ok (.aload_n 0, 1) := by decide +kernel
theorem dX8_goes_35 : decode cX8_goes 35 = .ok (.iload_n 1, 1) := by decide +kernel
theorem dX8_goes_36 : decode cX8_goes 36 = .ok (.iload_n 2, 1) := by decide +kernel
theorem dX8_goes_37 : decode cX8_goes 37 = .ok (.invokestatic 82, 3) := by decide +kernel
theorem dX8_goes_40 : decode cX8_goes 40 = .ok (.iadd, 1) := by decide +kernel
theorem dX8_goes_41 : decode cX8_goes 41 = .ok (.istore_n 3, 1) := by decide +kernel
theorem dX8_goes_42 : decode cX8_goes 42 = .ok (.aload_n 0, 1) := by decide +kernel
theorem dX8_goes_43 : decode cX8_goes 43 = .ok (.iload_n 1, 1) := by decide +kernel
theorem dX8_goes_44 : decode cX8_goes 44 = .ok (.iload_n 2, 1) := by decide +kernel
theorem dX8_goes_45 : decode cX8_goes 45 = .ok (.invokestatic 85, 3) := by decide +kernel
theorem dX8_goes_48 : decode cX8_goes 48 = .ok (.aload_n 0, 1) := by decide +kernel
theorem dX8_goes_49 : decode cX8_goes 49 = .ok (.iload_n 3, 1) := by decide +kernel
theorem dX8_goes_50 : decode cX8_goes 50 = .ok (.invokestatic 89, 3) := by decide +kernel
theorem dX8_goes_53 : decode cX8_goes 53 = .ok (.iload_n 3, 1) := by decide +kernel
theorem dX8_goes_54 : decode cX8_goes 54 = .ok (.ireturn, 1) := by decide +kernel
theorem dX8_empty_0 : decode cX8_empty 0 = .ok (.iconst 0, 1) := by decide +kernel
theorem dX8_empty_1 : decode cX8_empty 1 = .ok (.istore_n 1, 1) := by decide +kernel
theorem dX8_empty_2 : decode cX8_empty 2 = .ok (.iload_n 1, 1) := by decide +kernel
theorem dX8_empty_3 : decode cX8_empty 3 = .ok (.sipush 171, 3) := by decide +kernel
theorem dX8_empty_6 : decode cX8_empty 6 = .ok (.if_icmp .ge 13, 3) := by decide +kernel
theorem dX8_empty_9 : decode cX8_empty 9 = .ok (.aload_n 0, 1) := by decide +kernel
theorem dX8_empty_10 : decode cX8_empty 10 = .ok (.iload_n 1, 1) := by decide +kernel
theorem dX8_empty_11 : decode cX8_empty 11 = .ok (.iconst 0, 1) := by decide +kernel
theorem dX8_empty_12 : decode cX8_empty 12 = .ok (.iastore, 1) := by decide +kernel
theorem dX8_empty_13 : decode cX8_empty 13 = .ok (.iinc 1 1, 3) := by decide +kernel
theorem dX8_empty_16 : decode cX8_empty 16 = .ok (.goto (-14), 3) := by decide +kernel
theorem dX8_empty_19 : decode cX8_empty 19 = .ok (.return_, 1) := by decide +kernel
theorem dX8_layFresh_0 : decode cX8_layFresh 0 = .ok (.iconst 0, 1) := by decide +kernel
theorem dX8_layFresh_1 : decode cX8_layFresh 1 = .ok (.istore_n 1, 1) := by decide +kernel
theorem dX8_layFresh_2 : decode cX8_layFresh 2 = .ok (.iload_n 1, 1) := by decide +kernel
theorem dX8_layFresh_3 : decode cX8_layFresh 3 = .ok (.sipush 171, 3) := by decide +kernel
theorem dX8_layFresh_6 : decode cX8_layFresh 6 = .ok (.if_icmp .ge 21, 3) := by decide +kernel
theorem dX8_layFresh_9 : decode cX8_layFresh 9 = .ok (.aload_n 0, 1) := by decide +kernel
theorem dX8_layFresh_10 : decode cX8_layFresh 10 = .ok (.getfield 13, 3) := by decide +kernel
theorem dX8_layFresh_13 : decode cX8_layFresh 13 = .ok (.iload_n 1, 1) := by decide +kernel
theorem dX8_layFresh_14 : decode cX8_layFresh 14 = .ok (.aload_n 0, 1) := by decide +kernel
theorem dX8_layFresh_15 : decode cX8_layFresh 15 = .ok (.getfield 7, 3) := by decide +kernel
theorem dX8_layFresh_18 : decode cX8_layFresh 18 = .ok (.iload_n 1, 1) := by decide +kernel
theorem dX8_layFresh_19 : decode cX8_layFresh 19 = .ok (.iaload, 1) := by decide +kernel
theorem dX8_layFresh_20 : decode cX8_layFresh 20 = .ok (.iastore, 1) := by decide +kernel
theorem dX8_layFresh_21 : decode cX8_layFresh 21 = .ok (.iinc 1 1, 3) := by decide +kernel
theorem dX8_layFresh_24 : decode cX8_layFresh 24 = .ok (.goto (-22), 3) := by decide +kernel
theorem dX8_layFresh_27 : decode cX8_layFresh 27 = .ok (.return_, 1) := by decide +kernel
theorem dX8_hall_0 : decode cX8_hall 0 = .ok (.aload_n 0, 1) := by decide +kernel
theorem dX8_hall_1 : decode cX8_hall 1 = .ok (.getfield 7, 3) := by decide +kernel
theorem dX8_hall_4 : decode cX8_hall 4 = .ok (.bipush 8, 2) := by decide +kernel
theorem dX8_hall_6 : decode cX8_hall 6 = .ok (.iaload, 1) := by decide +kernel
theorem dX8_hall_7 : decode cX8_hall 7 = .ok (.istore_n 1, 1) := by decide +kernel
theorem dX8_hall_8 : decode cX8_hall 8 = .ok (.aload_n 0, 1) := by decide +kernel
theorem dX8_hall_9 : decode cX8_hall 9 = .ok (.getfield 7, 3) := by decide +kernel
theorem dX8_hall_12 : decode cX8_hall 12 = .ok (.invokestatic 93, 3) := by decide +kernel
theorem dX8_hall_15 : decode cX8_hall 15 = .ok (.iload_n 1, 1) := by decide +kernel
theorem dX8_hall_16 : decode cX8_hall 16 = .ok (.ireturn, 1) := by decide +kernel
theorem dX8_row_0 : decode cX8_row 0 = .ok (.iload_n 1, 1) := by decide +kernel
theorem dX8_row_1 : decode cX8_row 1 = .ok (.i2l, 1) := by decide +kernel
theorem dX8_row_2 : decode cX8_row 2 = .ok (.lconst 0, 1) := by decide +kernel
theorem dX8_row_3 : decode cX8_row 3 = .ok (.ldc2_w 97, 3) := by decide +kernel
theorem dX8_row_6 : decode cX8_row 6 = .ok (.invokestatic 46, 3) := by decide +kernel
theorem dX8_row_9 : decode cX8_row 9 = .ok (.ifCond .eq 15, 3) := by decide +kernel
theorem dX8_row_12 : decode cX8_row 12 = .ok (.iload_n 2, 1) := by decide +kernel
theorem dX8_row_13 : decode cX8_row 13 = .ok (.i2l, 1) := by decide +kernel
theorem dX8_row_14 : decode cX8_row 14 = .ok (.lconst 0, 1) := by decide +kernel
theorem dX8_row_15 : decode cX8_row 15 = .ok (.ldc2_w 99, 3) := by decide +kernel
theorem dX8_row_18 : decode cX8_row 18 = .ok (.invokestatic 46, 3) := by decide +kernel
theorem dX8_row_21 : decode cX8_row 21 = .ok (.ifCond .ne 8, 3) := by decide +kernel
theorem dX8_row_24 : decode cX8_row 24 = .ok (.aload_n 0, 1) := by decide +kernel
theorem dX8_row_25 : decode cX8_row 25 = .ok (.invokevirtual 101, 3) := by decide +kernel
theorem dX8_row_28 : decode cX8_row 28 = .ok (.ireturn, 1) := by decide +kernel
theorem dX8_row_29 : decode cX8_row 29 = .ok (.aload_n 0, 1) := by decide +kernel
theorem dX8_row_30 : decode cX8_row 30 = .ok (.getfield 7, 3) := by decide +kernel
theorem dX8_row_33 : decode cX8_row 33 = .ok (.iload_n 1, 1) := by decide +kernel
theorem dX8_row_34 : decode cX8_row 34 = .ok (.iaload, 1) := by decide +kernel
theorem dX8_row_35 : decode cX8_row 35 = .ok (.istore_n 3, 1) := by decide +kernel
theorem dX8_row_36 : decode cX8_row 36 = .ok (.aload_n 0, 1) := by decide +kernel
theorem dX8_row_37 : decode cX8_row 37 = .ok (.getfield 7, 3) := by decide +kernel
theorem dX8_row_40 : decode cX8_row 40 = .ok (.iload_n 1, 1) := by decide +kernel
theorem dX8_row_41 : decode cX8_row 41 = .ok (.iload_n 2, 1) := by decide +kernel
theorem dX8_row_42 : decode cX8_row 42 = .ok (.iastore, 1) := by decide +kernel
theorem dX8_row_43 : decode cX8_row 43 = .ok (.aload_n 0, 1) := by decide +kernel
theorem dX8_row_44 : decode cX8_row 44 = .ok (.getfield 7, 3) := by decide +kernel
theorem dX8_row_47 : decode cX8_row 47 = .ok (.bipush 90, 2) := by decide +kernel
theorem dX8_row_49 : decode cX8_row 49 = .ok (.iconst 0, 1) := by decide +kernel
theorem dX8_row_50 : decode cX8_row 50 = .ok (.iastore, 1) := by decide +kernel
theorem dX8_row_51 : decode cX8_row 51 = .ok (.iload_n 3, 1) := by decide +kernel
theorem dX8_row_52 : decode cX8_row 52 = .ok (.ireturn, 1) := by decide +kernel
theorem dX8_comes_0 : decode cX8_comes 0 = .ok (.bipush 9, 2) := by decide +kernel
theorem dX8_comes_2 : decode cX8_comes 2 = .ok (.iconst 3, 1) := by decide +kernel
theorem dX8_comes_3 : decode cX8_comes 3 = .ok (.aload_n 0, 1) := by decide +kernel
theorem dX8_comes_4 : decode cX8_comes 4 = .ok (.bipush 8, 2) := by decide +kernel
theorem dX8_comes_6 : decode cX8_comes 6 = .ok (.iaload, 1) := by decide +kernel
theorem dX8_comes_7 : decode cX8_comes 7 = .ok (.imul, 1) := by decide +kernel
theorem dX8_comes_8 : decode cX8_comes 8 = .ok (.iadd, 1) := by decide +kernel
theorem dX8_comes_9 : decode cX8_comes 9 = .ok (.istore_n 3, 1) := by decide +kernel
theorem dX8_comes_10 : decode cX8_comes 10 = .ok (.aload_n 0, 1) := by decide +kernel
theorem dX8_comes_11 : decode cX8_comes 11 = .ok (.iload_n 3, 1) := by decide +kernel
theorem dX8_comes_12 : decode cX8_comes 12 = .ok (.iload_n 1, 1) := by decide +kernel
theorem dX8_comes_13 : decode cX8_comes 13 = .ok (.iastore, 1) := by decide +kernel
theorem dX8_comes_14 : decode cX8_comes 14 = .ok (.aload_n 0, 1) := by decide +kernel
theorem dX8_comes_15 : decode cX8_comes 15 = .ok (.iload_n 3, 1) := by decide +kernel
theorem dX8_comes_16 : decode cX8_comes 16 = .ok (.iconst 1, 1) := by decide +kernel
theorem dX8_comes_17 : decode cX8_comes 17 = .ok (.iadd, 1) := by decide +kernel
theorem dX8_comes_18 : decode cX8_comes 18 = .ok (.iload_n 2, 1) := by decide +kernel
theorem dX8_comes_19 : decode cX8_comes 19 = .ok (.iastore, 1) := by decide +kernel
theorem dX8_comes_20 : decode cX8_comes 20 = .ok (.aload_n 0, 1) := by decide +kernel
theorem dX8_comes_21 : decode cX8_comes 21 = .ok (.iload_n 3, 1) := by decide +kernel
theorem dX8_comes_22 : decode cX8_comes 22 = .ok (.iconst 2, 1) := by decide +kernel
theorem dX8_comes_23 : decode cX8_comes 23 = .ok (.iadd, 1) := by decide +kernel
theorem dX8_comes_24 : decode cX8_comes 24 = .ok (.iconst 0, 1) := by decide +kernel
theorem dX8_comes_25 : decode cX8_comes 25 = .ok (.iastore, 1) := by decide +kernel
theorem dX8_comes_26 : decode cX8_comes 26 = .ok (.aload_n 0, 1) := by decide +kernel
theorem dX8_comes_27 : decode cX8_comes 27 = .ok (.bipush 8, 2) := by decide +kernel
theorem dX8_comes_29 : decode cX8_comes 29 = .ok (.dup2, 1) := by decide +kernel
theorem dX8_comes_30 : decode cX8_comes 30 = .ok (.iaload, 1) := by decide +kernel
theorem dX8_comes_31 : decode cX8_comes 31 = .ok (.iconst 1, 1) := by decide +kernel
theorem dX8_comes_32 : decode cX8_comes 32 = .ok (.iadd, 1) := by decide +kernel
theorem dX8_comes_33 : decode cX8_comes 33 = .ok (.iastore, 1) := by decide +kernel
theorem dX8_comes_34 : decode cX8_comes 34 = .ok (.return_, 1) := by decide +kernel
theorem dX8_soul_0 : decode cX8_soul 0 = .ok (.iload_n 1, 1) := by decide +kernel
theorem dX8_soul_1 : decode cX8_soul 1 = .ok (.i2l, 1) := by decide +kernel
theorem dX8_soul_2 : decode cX8_soul 2 = .ok (.lconst 0, 1) := by decide +kernel
theorem dX8_soul_3 : decode cX8_soul 3 = .ok (.ldc2_w 99, 3) := by decide +kernel
theorem dX8_soul_6 : decode cX8_soul 6 = .ok (.invokestatic 46, 3) := by decide +kernel
theorem dX8_soul_9 : decode cX8_soul 9 = .ok (.ifCond .eq 10, 3) := by decide +kernel
theorem dX8_soul_12 : decode cX8_soul 12 = .ok (.iload_n 2, 1) := by decide +kernel
theorem dX8_soul_13 : decode cX8_soul 13 = .ok (.invokestatic 105, 3) := by decide +kernel
theorem dX8_soul_16 : decode cX8_soul 16 = .ok (.ifCond .ne 8, 3) := by decide +kernel
theorem dX8_soul_19 : decode cX8_soul 19 = .ok (.aload_n 0, 1) := by decide +kernel
theorem dX8_soul_20 : decode cX8_soul 20 = .ok (.invokevirtual 101, 3) := by decide +kernel
theorem dX8_soul_23 : decode cX8_soul 23 = .ok (.ireturn, 1) := by decide +kernel
theorem dX8_soul_24 : decode cX8_soul 24 = .ok (.aload_n 0, 1) := by decide +kernel
theorem dX8_soul_25 : decode cX8_soul 25 = .ok (.getfield 7, 3) := by decide +kernel
theorem dX8_soul_28 : decode cX8_soul 28 = .ok (.bipush 8, 2) := by decide +kernel
theorem dX8_soul_30 : decode cX8_soul 30 = .ok (.iaload, 1) := by decide +kernel
theorem dX8_soul_31 : decode cX8_soul 31 = .ok (.bipush 7, 2) := by decide +kernel
theorem dX8_soul_33 : decode cX8_soul 33 = .ok (.if_icmp .ne 8, 3) := by decide +kernel
theorem dX8_soul_36 : decode cX8_soul 36 = .ok (.aload_n 0, 1) := by decide +kernel
theorem dX8_soul_37 : decode cX8_soul 37 = .ok (.invokevirtual 109, 3) := by decide +kernel
theorem dX8_soul_40 : decode cX8_soul 40 = .ok (.ireturn, 1) := by decide +kernel
theorem dX8_soul_41 : decode cX8_soul 41 = .ok (.aload_n 0, 1) := by decide +kernel
theorem dX8_soul_42 : decode cX8_soul 42 = .ok (.getfield 7, 3) := by decide +kernel
theorem dX8_soul_45 : decode cX8_soul 45 = .ok (.iload_n 1, 1) := by decide +kernel
theorem dX8_soul_46 : decode cX8_soul 46 = .ok (.iload_n 2, 1) := by decide +kernel
theorem dX8_soul_47 : decode cX8_soul 47 = .ok (.invokestatic 112, 3) := by decide +kernel
theorem dX8_soul_50 : decode cX8_soul 50 = .ok (.aload_n 0, 1) := by decide +kernel
theorem dX8_soul_51 : decode cX8_soul 51 = .ok (.getfield 7, 3) := by decide +kernel
theorem dX8_soul_54 : decode cX8_soul 54 = .ok (.bipush 90, 2) := by decide +kernel
theorem dX8_soul_56 : decode cX8_soul 56 = .ok (.iconst 0, 1) := by decide +kernel
theorem dX8_soul_57 : decode cX8_soul 57 = .ok (.iastore, 1) := by decide +kernel
theorem dX8_soul_58 : decode cX8_soul 58 = .ok (.aload_n 0, 1) := by decide +kernel
theorem dX8_soul_59 : decode cX8_soul 59 = .ok (.getfield 7, 3) := by decide +kernel
theorem dX8_soul_62 : decode cX8_soul 62 = .ok (.bipush 8, 2) := by decide +kernel
theorem dX8_soul_64 : decode cX8_soul 64 = .ok (.iaload, 1) := by decide +kernel
theorem dX8_soul_65 : decode cX8_soul 65 = .ok (.iconst 1, 1) := by decide +kernel
theorem dX8_soul_66 : decode cX8_soul 66 = .ok (.isub, 1) := by decide +kernel
theorem dX8_soul_67 : decode cX8_soul 67 = .ok (.ireturn, 1) := by decide +kernel
theorem dX8_type_0 : decode cX8_type 0 = .ok (.iload_n 1, 1) := by decide +kernel
theorem dX8_type_1 : decode cX8_type 1 = .ok (.i2l, 1) := by decide +kernel
theorem dX8_type_2 : decode cX8_type 2 = .ok (.lconst 0, 1) := by decide +kernel
theorem dX8_type_3 : decode cX8_type 3 = .ok (.ldc2_w 115, 3) := by decide +kernel
theorem dX8_type_6 : decode cX8_type 6 = .ok (.invokestatic 46, 3) := by decide +kernel
theorem dX8_type_9 : decode cX8_type 9 = .ok (.ifCond .ne 8, 3) := by decide +kernel
theorem dX8_type_12 : decode cX8_type 12 = .ok (.aload_n 0, 1) := by decide +kernel
theorem dX8_type_13 : decode cX8_type 13 = .ok (.invokevirtual 101, 3) := by decide +kernel
theorem dX8_type_16 : decode cX8_type 16 = .ok (.ireturn, 1) := by decide +kernel
theorem dX8_type_17 : decode cX8_type 17 = .ok (.aload_n 0, 1) := by decide +kernel
theorem dX8_type_18 : decode cX8_type 18 = .ok (.getfield 117, 3) := by decide +kernel
theorem dX8_type_21 : decode cX8_type 21 = .ok (.sipush 150, 3) := by decide +kernel
theorem dX8_type_24 : decode cX8_type 24 = .ok (.if_icmp .ne 8, 3) := by decide +kernel
theorem dX8_type_27 : decode cX8_type 27 = .ok (.aload_n 0, 1) := by decide +kernel
theorem dX8_type_28 : decode cX8_type 28 = .ok (.invokevirtual 109, 3) := by decide +kernel
theorem dX8_type_31 : decode cX8_type 31 = .ok (.ireturn, 1) := by decide +kernel
theorem dX8_type_32 : decode cX8_type 32 = .ok (.aload_n 0, 1) := by decide +kernel
theorem dX8_type_33 : decode cX8_type 33 = .ok (.getfield 30, 3) := by decide +kernel
theorem dX8_type_36 : decode cX8_type 36 = .ok (.aload_n 0, 1) := by decide +kernel
theorem dX8_type_37 : decode cX8_type 37 = .ok (.getfield 117, 3) := by decide +kernel
theorem dX8_type_40 : decode cX8_type 40 = .ok (.iload_n 1, 1) := by decide +kernel
theorem dX8_type_41 : decode cX8_type 41 = .ok (.iastore, 1) := by decide +kernel
theorem dX8_type_42 : decode cX8_type 42 = .ok (.aload_n 0, 1) := by decide +kernel
theorem dX8_type_43 : decode cX8_type 43 = .ok (.dup, 1) := by decide +kernel
theorem dX8_type_44 : decode cX8_type 44 = .ok (.getfield 117, 3) := by decide +kernel
theorem dX8_type_47 : decode cX8_type 47 = .ok (.iconst 1, 1) := by decide +kernel
theorem dX8_type_48 : decode cX8_type 48 = .ok (.iadd, 1) := by decide +kernel
theorem dX8_type_49 : decode cX8_type 49 = .ok (.putfield 117, 3) := by decide +kernel
theorem dX8_type_52 : decode cX8_type 52 = .ok (.aload_n 0, 1) := by decide +kernel
theorem dX8_type_53 : decode cX8_type 53 = .ok (.getfield 117, 3) := by decide +kernel
theorem dX8_type_56 : decode cX8_type 56 = .ok (.ireturn, 1) := by decide +kernel
theorem dX8_clear_0 : decode cX8_clear 0 = .ok (.aload_n 0, 1) := by decide +kernel
theorem dX8_clear_1 : decode cX8_clear 1 = .ok (.getfield 117, 3) := by decide +kernel
theorem dX8_clear_4 : decode cX8_clear 4 = .ok (.istore_n 1, 1) := by decide +kernel
theorem dX8_clear_5 : decode cX8_clear 5 = .ok (.aload_n 0, 1) := by decide +kernel
theorem dX8_clear_6 : decode cX8_clear 6 = .ok (.iconst 0, 1) := by decide +kernel
theorem dX8_clear_7 : decode cX8_clear 7 = .ok (.putfield 117, 3) := by decide +kernel
theorem dX8_clear_10 : decode cX8_clear 10 = .ok (.iload_n 1, 1) := by decide +kernel
theorem dX8_clear_11 : decode cX8_clear 11 = .ok (.ireturn, 1) := by decide +kernel
theorem dX8_isFigure_0 : decode cX8_isFigure 0 = .ok (.iload_n 0, 1) := by decide +kernel
theorem dX8_isFigure_1 : decode cX8_isFigure 1 = .ok (.bipush 48, 2) := by decide +kernel
theorem dX8_isFigure_3 : decode cX8_isFigure 3 = .ok (.if_icmp .lt 13, 3) := by decide +kernel
theorem dX8_isFigure_6 : decode cX8_isFigure 6 = .ok (.iload_n 0, 1) := by decide +kernel
theorem dX8_isFigure_7 : decode cX8_isFigure 7 = .ok (.bipush 57, 2) := by decide +kernel
theorem dX8_isFigure_9 : decode cX8_isFigure 9 = .ok (.if_icmp .gt 7, 3) := by decide +kernel
theorem dX8_isFigure_12 : decode cX8_isFigure 12 = .ok (.iconst 1, 1) := by decide +kernel
theorem dX8_isFigure_13 : decode cX8_isFigure 13 = .ok (.goto 4, 3) := by decide +kernel
theorem dX8_isFigure_16 : decode cX8_isFigure 16 = .ok (.iconst 0, 1) := by decide +kernel
theorem dX8_isFigure_17 : decode cX8_isFigure 17 = .ok (.ireturn, 1) := by decide +kernel
theorem dX8_isLetter_0 : decode cX8_isLetter 0 = .ok (.iload_n 0, 1) := by decide +kernel
theorem dX8_isLetter_1 : decode cX8_isLetter 1 = .ok (.bipush 97, 2) := by decide +kernel
theorem dX8_isLetter_3 : decode cX8_isLetter 3 = .ok (.if_icmp .lt 13, 3) := by decide +kernel
theorem dX8_isLetter_6 : decode cX8_isLetter 6 = .ok (.iload_n 0, 1) := by decide +kernel
theorem dX8_isLetter_7 : decode cX8_isLetter 7 = .ok (.bipush 122, 2) := by decide +kernel
theorem dX8_isLetter_9 : decode cX8_isLetter 9 = .ok (.if_icmp .gt 7, 3) := by decide +kernel
theorem dX8_isLetter_12 : decode cX8_isLetter 12 = .ok (.iconst 1, 1) := by decide +kernel
theorem dX8_isLetter_13 : decode cX8_isLetter 13 = .ok (.goto 4, 3) := by decide +kernel
theorem dX8_isLetter_16 : decode cX8_isLetter 16 = .ok (.iconst 0, 1) := by decide +kernel
theorem dX8_isLetter_17 : decode cX8_isLetter 17 = .ok (.ireturn, 1) := by decide +kernel
theorem dX8_wordBy_0 : decode cX8_wordBy 0 = .ok (.lconst 0, 1) := by decide +kernel
theorem dX8_wordBy_1 : decode cX8_wordBy 1 = .ok (.lstore_n 2, 1) := by decide +kernel
theorem dX8_wordBy_2 : decode cX8_wordBy 2 = .ok (.aload_n 0, 1) := by decide +kernel
theorem dX8_wordBy_3 : decode cX8_wordBy 3 = .ok (.getfield 120, 3) := by decide +kernel
theorem dX8_wordBy_6 : decode cX8_wordBy 6 = .ok (.istore 4, 2) := by decide +kernel
theorem dX8_wordBy_8 : decode cX8_wordBy 8 = .ok (.iload 4, 2) := by decide +kernel
theorem dX8_wordBy_10 : decode cX8_wordBy 10 = .ok (.iload_n 1, 1) := by decide +kernel
theorem dX8_wordBy_11 : decode cX8_wordBy 11 = .ok (.if_icmp .ge 40, 3) := by decide +kernel
theorem dX8_wordBy_14 : decode cX8_wordBy 14 = .ok (.iload 4, 2) := by decide +kernel
theorem dX8_wordBy_16 : decode cX8_wordBy 16 = .ok (.aload_n 0, 1) := by decide +kernel
theorem dX8_wordBy_17 : decode cX8_wordBy 17 = .ok (.getfield 120, 3) := by decide +kernel
theorem dX8_wordBy_20 : decode cX8_wordBy 20 = .ok (.bipush 7, 2) := by decide +kernel
theorem dX8_wordBy_22 : decode cX8_wordBy 22 = .ok (.iadd, 1) := by decide +kernel
theorem dX8_wordBy_23 : decode cX8_wordBy 23 = .ok (.if_icmp .ge 28, 3) := by decide +kernel
theorem dX8_wordBy_26 : decode cX8_wordBy 26 = .ok (.ldc2_w 123, 3) := by decide +kernel
theorem dX8_wordBy_29 : decode cX8_wordBy 29 = .ok (.lload_n 2, 1) := by decide +kernel
theorem dX8_wordBy_30 : decode cX8_wordBy 30 = .ok (.lmul, 1) := by decide +kernel
theorem dX8_wordBy_31 : decode cX8_wordBy 31 = .ok (.aload_n 0, 1) := by decide +kernel
theorem dX8_wordBy_32 : decode cX8_wordBy 32 = .ok (.getfield 30, 3) := by decide +kernel
theorem dX8_wordBy_35 : decode cX8_wordBy 35 = .ok (.iload 4, 2) := by decide +kernel
theorem dX8_wordBy_37 : decode cX8_wordBy 37 = .ok (.iaload, 1) := by decide +kernel
theorem dX8_wordBy_38 : decode cX8_wordBy 38 = .ok (.i2l, 1) := by decide +kernel
theorem dX8_wordBy_39 : decode cX8_wordBy 39 = .ok (.ladd, 1) := by decide +kernel
theorem dX8_wordBy_40 : decode cX8_wordBy 40 = .ok (.ldc2_w 125, 3) := by decide +kernel
theorem dX8_wordBy_43 : decode cX8_wordBy 43 = .ok (.lsub, 1) := by decide +kernel
theorem dX8_wordBy_44 : decode cX8_wordBy 44 = .ok (.lstore_n 2, 1) := by decide +kernel
theorem dX8_wordBy_45 : decode cX8_wordBy 45 = .ok (.iinc 4 1, 3) := by decide +kernel
theorem dX8_wordBy_48 : decode cX8_wordBy 48 = .ok (.goto (-40), 3) := by decide +kernel
theorem dX8_wordBy_51 : decode cX8_wordBy 51 = .ok (.iload_n 1, 1) := by decide +kernel
theorem dX8_wordBy_52 : decode cX8_wordBy 52 = .ok (.aload_n 0, 1) := by decide +kernel
theorem dX8_wordBy_53 : decode cX8_wordBy 53 = .ok (.getfield 120, 3) := by decide +kernel
theorem dX8_wordBy_56 : decode cX8_wordBy 56 = .ok (.isub, 1) := by decide +kernel
theorem dX8_wordBy_57 : decode cX8_wordBy 57 = .ok (.bipush 7, 2) := by decide +kernel
theorem dX8_wordBy_59 : decode cX8_wordBy 59 = .ok (.if_icmp .le 7, 3) := by decide +kernel
theorem dX8_wordBy_62 : decode cX8_wordBy 62 = .ok (.sipush 300, 3) := by decide +kernel
theorem dX8_wordBy_65 : decode cX8_wordBy 65 = .ok (.ireturn, 1) := by decide +kernel
theorem dX8_wordBy_66 : decode cX8_wordBy 66 = .ok (.lload_n 2, 1) := by decide +kernel
theorem dX8_wordBy_67 : decode cX8_wordBy 67 = .ok (.ldc2_w 127, 3) := by decide +kernel
theorem dX8_wordBy_70 : decode cX8_wordBy 70 = .ok (.lcmp, 1) := by decide +kernel
theorem dX8_wordBy_71 : decode cX8_wordBy 71 = .ok (.ifCond .ne 8, 3) := by decide +kernel
theorem dX8_wordBy_74 : decode cX8_wordBy 74 = .ok (.bipush 100, 2) := by decide +kernel
theorem dX8_wordBy_76 : decode cX8_wordBy 76 = .ok (.goto 71, 3) := by decide +kernel
theorem dX8_wordBy_79 : decode cX8_wordBy 79 = .ok (.lload_n 2, 1) := by decide +kernel
theorem dX8_wordBy_80 : decode cX8_wordBy 80 = .ok (.ldc2_w 129, 3) := by decide +kernel
theorem dX8_wordBy_83 : decode cX8_wordBy 83 = .ok (.lcmp, 1) := by decide +kernel
theorem dX8_wordBy_84 : decode cX8_wordBy 84 = .ok (.ifCond .ne 8, 3) := by decide +kernel
theorem dX8_wordBy_87 : decode cX8_wordBy 87 = .ok (.bipush 101, 2) := by decide +kernel
theorem dX8_wordBy_89 : decode cX8_wordBy 89 = .ok (.goto 58, 3) := by decide +kernel
theorem dX8_wordBy_92 : decode cX8_wordBy 92 = .ok (.lload_n 2, 1) := by decide +kernel
theorem dX8_wordBy_93 : decode cX8_wordBy 93 = .ok (.ldc2_w 131, 3) := by decide +kernel
theorem dX8_wordBy_96 : decode cX8_wordBy 96 = .ok (.lcmp, 1) := by decide +kernel
theorem dX8_wordBy_97 : decode cX8_wordBy 97 = .ok (.ifCond .ne 8, 3) := by decide +kernel
theorem dX8_wordBy_100 : decode cX8_wordBy 100 = .ok (.bipush 102, 2) := by decide +kernel
theorem dX8_wordBy_102 : decode cX8_wordBy 102 = .ok (.goto 45, 3) := by decide +kernel
theorem dX8_wordBy_105 : decode cX8_wordBy 105 = .ok (.lload_n 2, 1) := by decide +kernel
theorem dX8_wordBy_106 : decode cX8_wordBy 106 = .ok (.ldc2_w 133, 3) := by decide +kernel
theorem dX8_wordBy_109 : decode cX8_wordBy 109 = .ok (.lcmp, 1) := by decide +kernel
theorem dX8_wordBy_110 : decode cX8_wordBy 110 = .ok (.ifCond .ne 8, 3) := by decide +kernel
theorem dX8_wordBy_113 : decode cX8_wordBy 113 = .ok (.bipush 103, 2) := by decide +kernel
theorem dX8_wordBy_115 : decode cX8_wordBy 115 = .ok (.goto 32, 3) := by decide +kernel
theorem dX8_wordBy_118 : decode cX8_wordBy 118 = .ok (.lload_n 2, 1) := by decide +kernel
theorem dX8_wordBy_119 : decode cX8_wordBy 119 = .ok (.ldc2_w 135, 3) := by decide +kernel
theorem dX8_wordBy_122 : decode cX8_wordBy 122 = .ok (.lcmp, 1) := by decide +kernel
theorem dX8_wordBy_123 : decode cX8_wordBy 123 = .ok (.ifCond .ne 8, 3) := by decide +kernel
theorem dX8_wordBy_126 : decode cX8_wordBy 126 = .ok (.bipush 104, 2) := by decide +kernel
theorem dX8_wordBy_128 : decode cX8_wordBy 128 = .ok (.goto 19, 3) := by decide +kernel
theorem dX8_wordBy_131 : decode cX8_wordBy 131 = .ok (.lload_n 2, 1) := by decide +kernel
theorem dX8_wordBy_132 : decode cX8_wordBy 132 = .ok (.ldc2_w 137, 3) := by decide +kernel
theorem dX8_wordBy_135 : decode cX8_wordBy 135 = .ok (.lcmp, 1) := by decide +kernel
theorem dX8_wordBy_136 : decode cX8_wordBy 136 = .ok (.ifCond .ne 8, 3) := by decide +kernel
theorem dX8_wordBy_139 : decode cX8_wordBy 139 = .ok (.bipush 105, 2) := by decide +kernel
theorem dX8_wordBy_141 : decode cX8_wordBy 141 = .ok (.goto 6, 3) := by decide +kernel
theorem dX8_wordBy_144 : decode cX8_wordBy 144 = .ok (.sipush 300, 3) := by decide +kernel
theorem dX8_wordBy_147 : decode cX8_wordBy 147 = .ok (.ireturn, 1) := by decide +kernel
theorem dX8_next_0 : decode cX8_next 0 = .ok (.aload_n 0, 1) := by decide +kernel
theorem dX8_next_1 : decode cX8_next 1 = .ok (.getfield 139, 3) := by decide +kernel
theorem dX8_next_4 : decode cX8_next 4 = .ok (.aload_n 0, 1) := by decide +kernel
theorem dX8_next_5 : decode cX8_next 5 = .ok (.getfield 117, 3) := by decide +kernel
theorem dX8_next_8 : decode cX8_next 8 = .ok (.if_icmp .ge 30, 3) := by decide +kernel
theorem dX8_next_11 : decode cX8_next 11 = .ok (.aload_n 0, 1) := by decide +kernel
theorem dX8_next_12 : decode cX8_next 12 = .ok (.getfield 30, 3) := by decide +kernel
theorem dX8_next_15 : decode cX8_next 15 = .ok (.aload_n 0, 1) := by decide +kernel
theorem dX8_next_16 : decode cX8_next 16 = .ok (.getfield 139, 3) := by decide +kernel
theorem dX8_next_19 : decode cX8_next 19 = .ok (.iaload, 1) := by decide +kernel
theorem dX8_next_20 : decode cX8_next 20 = .ok (.bipush 32, 2) := by decide +kernel
theorem dX8_next_22 : decode cX8_next 22 = .ok (.if_icmp .ne 16, 3) := by decide +kernel
theorem dX8_next_25 : decode cX8_next 25 = .ok (.aload_n 0, 1) := by decide +kernel
theorem dX8_next_26 : decode cX8_next 26 = .ok (.dup, 1) := by decide +kernel
theorem dX8_next_27 : decode cX8_next 27 = .ok (.getfield 139, 3) := by decide +kernel
theorem dX8_next_30 : decode cX8_next 30 = .ok (.iconst 1, 1) := by decide +kernel
theorem dX8_next_31 : decode cX8_next 31 = .ok (.iadd, 1) := by decide +kernel
theorem dX8_next_32 : decode cX8_next 32 = .ok (.putfield 139, 3) := by decide +kernel
theorem dX8_next_35 : decode cX8_next 35 = .ok (.goto (-35), 3) := by decide +kernel
theorem dX8_next_38 : decode cX8_next 38 = .ok (.aload_n 0, 1) := by decide +kernel
theorem dX8_next_39 : decode cX8_next 39 = .ok (.aload_n 0, 1) := by decide +kernel
theorem dX8_next_40 : decode cX8_next 40 = .ok (.getfield 139, 3) := by decide +kernel
theorem dX8_next_43 : decode cX8_next 43 = .ok (.putfield 120, 3) := by decide +kernel
theorem dX8_next_46 : decode cX8_next 46 = .ok (.aload_n 0, 1) := by decide +kernel
theorem dX8_next_47 : decode cX8_next 47 = .ok (.getfield 139, 3) := by decide +kernel
theorem dX8_next_50 : decode cX8_next 50 = .ok (.aload_n 0, 1) := by decide +kernel
theorem dX8_next_51 : decode cX8_next 51 = .ok (.getfield 117, 3) := by decide +kernel
theorem dX8_next_54 : decode cX8_next 54 = .ok (.if_icmp .ne 9, 3) := by decide +kernel
theorem dX8_next_57 : decode cX8_next 57 = .ok (.aload_n 0, 1) := by decide +kernel
theorem dX8_next_58 : decode cX8_next 58 = .ok (.iconst (-1), 1) := by decide +kernel
theorem dX8_next_59 : decode cX8_next 59 = .ok (.putfield 142, 3) := by decide +kernel
theorem dX8_next_62 : decode cX8_next 62 = .ok (.return_, 1) := by decide +kernel
theorem dX8_next_63 : decode cX8_next 63 = .ok (.aload_n 0, 1) := by decide +kernel
theorem dX8_next_64 : decode cX8_next 64 = .ok (.getfield 30, 3) := by decide +kernel
theorem dX8_next_67 : decode cX8_next 67 = .ok (.aload_n 0, 1) := by decide +kernel
theorem dX8_next_68 : decode cX8_next 68 = .ok (.getfield 139, 3) := by decide +kernel
theorem dX8_next_71 : decode cX8_next 71 = .ok (.iaload, 1) := by decide +kernel
theorem dX8_next_72 : decode cX8_next 72 = .ok (.istore_n 1, 1) := by decide +kernel
theorem dX8_next_73 : decode cX8_next 73 = .ok (.aload_n 0, 1) := by decide +kernel
theorem dX8_next_74 : decode cX8_next 74 = .ok (.dup, 1) := by decide +kernel
theorem dX8_next_75 : decode cX8_next 75 = .ok (.getfield 139, 3) := by decide +kernel
theorem dX8_next_78 : decode cX8_next 78 = .ok (.iconst 1, 1) := by decide +kernel
theorem dX8_next_79 : decode cX8_next 79 = .ok (.iadd, 1) := by decide +kernel
theorem dX8_next_80 : decode cX8_next 80 = .ok (.putfield 139, 3) := by decide +kernel
theorem dX8_next_83 : decode cX8_next 83 = .ok (.iload_n 1, 1) := by decide +kernel
theorem dX8_next_84 : decode cX8_next 84 = .ok (.invokestatic 145, 3) := by decide +kernel
theorem dX8_next_87 : decode cX8_next 87 = .ok (.ifCond .eq 93, 3) := by decide +kernel
theorem dX8_next_90 : decode cX8_next 90 = .ok (.aload_n 0, 1) := by decide +kernel
theorem dX8_next_91 : decode cX8_next 91 = .ok (.iload_n 1, 1) := by decide +kernel
theorem dX8_next_92 : decode cX8_next 92 = .ok (.bipush 48, 2) := by decide +kernel
theorem dX8_next_94 : decode cX8_next 94 = .ok (.isub, 1) := by decide +kernel
theorem dX8_next_95 : decode cX8_next 95 = .ok (.putfield 142, 3) := by decide +kernel
theorem dX8_next_98 : decode cX8_next 98 = .ok (.aload_n 0, 1) := by decide +kernel
theorem dX8_next_99 : decode cX8_next 99 = .ok (.getfield 139, 3) := by decide +kernel
theorem dX8_next_102 : decode cX8_next 102 = .ok (.aload_n 0, 1) := by decide +kernel
theorem dX8_next_103 : decode cX8_next 103 = .ok (.getfield 117, 3) := by decide +kernel
theorem dX8_next_106 : decode cX8_next 106 = .ok (.if_icmp .ge 154, 3) := by decide +kernel
theorem dX8_next_109 : decode cX8_next 109 = .ok (.aload_n 0, 1) := by decide +kernel
theorem dX8_next_110 : decode cX8_next 110 = .ok (.getfield 30, 3) := by decide +kernel
theorem dX8_next_113 : decode cX8_next 113 = .ok (.aload_n 0, 1) := by decide +kernel
theorem dX8_next_114 : decode cX8_next 114 = .ok (.getfield 139, 3) := by decide +kernel
theorem dX8_next_117 : decode cX8_next 117 = .ok (.iaload, 1) := by decide +kernel
theorem dX8_next_118 : decode cX8_next 118 = .ok (.invokestatic 145, 3) := by decide +kernel
theorem dX8_next_121 : decode cX8_next 121 = .ok (.ifCond .eq 139, 3) := by decide +kernel
theorem dX8_next_124 : decode cX8_next 124 = .ok (.aload_n 0, 1) := by decide +kernel
theorem dX8_next_125 : decode cX8_next 125 = .ok (.aload_n 0, 1) := by decide +kernel
theorem dX8_next_126 : decode cX8_next 126 = .ok (.getfield 139, 3) := by decide +kernel
theorem dX8_next_129 : decode cX8_next 129 = .ok (.aload_n 0, 1) := by decide +kernel
theorem dX8_next_130 : decode cX8_next 130 = .ok (.getfield 120, 3) := by decide +kernel
theorem dX8_next_133 : decode cX8_next 133 = .ok (.iconst 1, 1) := by decide +kernel
theorem dX8_next_134 : decode cX8_next 134 = .ok (.iadd, 1) := by decide +kernel
theorem dX8_next_135 : decode cX8_next 135 = .ok (.if_icmp .ne 26, 3) := by decide +kernel
theorem dX8_next_138 : decode cX8_next 138 = .ok (.bipush 10, 2) := by decide +kernel
theorem dX8_next_140 : decode cX8_next 140 = .ok (.aload_n 0, 1) := by decide +kernel
theorem dX8_next_141 : decode cX8_next 141 = .ok (.getfield 142, 3) := by decide +kernel
theorem dX8_next_144 : decode cX8_next 144 = .ok (.imul, 1) := by decide +kernel
theorem dX8_next_145 : decode cX8_next 145 = .ok (.aload_n 0, 1) := by decide +kernel
theorem dX8_next_146 : decode cX8_next 146 = .ok (.getfield 30, 3) := by decide +kernel
theorem dX8_next_149 : decode cX8_next 149 = .ok (.aload_n 0, 1) := by decide +kernel
theorem dX8_next_150 : decode cX8_next 150 = .ok (.getfield 139, 3) := by decide +kernel
theorem dX8_next_153 : decode cX8_next 153 = .ok (.iaload, 1) := by decide +kernel
theorem dX8_next_154 : decode cX8_next 154 = .ok (.iadd, 1) := by decide +kernel
theorem dX8_next_155 : decode cX8_next 155 = .ok (.bipush 48, 2) := by decide +kernel
theorem dX8_next_157 : decode cX8_next 157 = .ok (.isub, 1) := by decide +kernel
theorem dX8_next_158 : decode cX8_next 158 = .ok (.goto 6, 3) := by decide +kernel
theorem dX8_next_161 : decode cX8_next 161 = .ok (.sipush 300, 3) := by decide +kernel
theorem dX8_next_164 : decode cX8_next 164 = .ok (.putfield 142, 3) := by decide +kernel
theorem dX8_next_167 : decode cX8_next 167 = .ok (.aload_n 0, 1) := by decide +kernel
theorem dX8_next_168 : decode cX8_next 168 = .ok (.dup, 1) := by decide +kernel
theorem dX8_next_169 : decode cX8_next 169 = .ok (.getfield 139, 3) := by decide +kernel
theorem dX8_next_172 : decode cX8_next 172 = .ok (.iconst 1, 1) := by decide +kernel
theorem dX8_next_173 : decode cX8_next 173 = .ok (.iadd, 1) := by decide +kernel
theorem dX8_next_174 : decode cX8_next 174 = .ok (.putfield 139, 3) := by decide +kernel
theorem dX8_next_177 : decode cX8_next 177 = .ok (.goto (-79), 3) := by decide +kernel
theorem dX8_next_180 : decode cX8_next 180 = .ok (.iload_n 1, 1) := by decide +kernel
theorem dX8_next_181 : decode cX8_next 181 = .ok (.invokestatic 148, 3) := by decide +kernel
theorem dX8_next_184 : decode cX8_next 184 = .ok (.ifCond .eq 57, 3) := by decide +kernel
theorem dX8_next_187 : decode cX8_next 187 = .ok (.aload_n 0, 1) := by decide +kernel
theorem dX8_next_188 : decode cX8_next 188 = .ok (.getfield 139, 3) := by decide +kernel
theorem dX8_next_191 : decode cX8_next 191 = .ok (.aload_n 0, 1) := by decide +kernel
theorem dX8_next_192 : decode cX8_next 192 = .ok (.getfield 117, 3) := by decide +kernel
theorem dX8_next_195 : decode cX8_next 195 = .ok (.if_icmp .ge 31, 3) := by decide +kernel
theorem dX8_next_198 : decode cX8_next 198 = .ok (.aload_n 0, 1) := by decide +kernel
theorem dX8_next_199 : decode cX8_next 199 = .ok (.getfield 30, 3) := by decide +kernel
theorem dX8_next_202 : decode cX8_next 202 = .ok (.aload_n 0, 1) := by decide +kernel
theorem dX8_next_203 : decode cX8_next 203 = .ok (.getfield 139, 3) := by decide +kernel
theorem dX8_next_206 : decode cX8_next 206 = .ok (.iaload, 1) := by decide +kernel
theorem dX8_next_207 : decode cX8_next 207 = .ok (.invokestatic 148, 3) := by decide +kernel
theorem dX8_next_210 : decode cX8_next 210 = .ok (.ifCond .eq 16, 3) := by decide +kernel
theorem dX8_next_213 : decode cX8_next 213 = .ok (.aload_n 0, 1) := by decide +kernel
theorem dX8_next_214 : decode cX8_next 214 = .ok (.dup, 1) := by decide +kernel
theorem dX8_next_215 : decode cX8_next 215 = .ok (.getfield 139, 3) := by decide +kernel
theorem dX8_next_218 : decode cX8_next 218 = .ok (.iconst 1, 1) := by decide +kernel
theorem dX8_next_219 : decode cX8_next 219 = .ok (.iadd, 1) := by decide +kernel
theorem dX8_next_220 : decode cX8_next 220 = .ok (.putfield 139, 3) := by decide +kernel
theorem dX8_next_223 : decode cX8_next 223 = .ok (.goto (-36), 3) := by decide +kernel
theorem dX8_next_226 : decode cX8_next 226 = .ok (.aload_n 0, 1) := by decide +kernel
theorem dX8_next_227 : decode cX8_next 227 = .ok (.aload_n 0, 1) := by decide +kernel
theorem dX8_next_228 : decode cX8_next 228 = .ok (.aload_n 0, 1) := by decide +kernel
theorem dX8_next_229 : decode cX8_next 229 = .ok (.getfield 139, 3) := by decide +kernel
theorem dX8_next_232 : decode cX8_next 232 = .ok (.invokevirtual 151, 3) := by decide +kernel
theorem dX8_next_235 : decode cX8_next 235 = .ok (.putfield 142, 3) := by decide +kernel
theorem dX8_next_238 : decode cX8_next 238 = .ok (.goto 22, 3) := by decide +kernel
theorem dX8_next_241 : decode cX8_next 241 = .ok (.aload_n 0, 1) := by decide +kernel
theorem dX8_next_242 : decode cX8_next 242 = .ok (.iload_n 1, 1) := by decide +kernel
theorem dX8_next_243 : decode cX8_next 243 = .ok (.bipush 59, 2) := by decide +kernel
theorem dX8_next_245 : decode cX8_next 245 = .ok (.if_icmp .ne 9, 3) := by decide +kernel
theorem dX8_next_248 : decode cX8_next 248 = .ok (.sipush 200, 3) := by decide +kernel
theorem dX8_next_251 : decode cX8_next 251 = .ok (.goto 6, 3) := by decide +kernel
theorem dX8_next_254 : decode cX8_next 254 = .ok (.sipush 300, 3) := by decide +kernel
theorem dX8_next_257 : decode cX8_next 257 = .ok (.putfield 142, 3) := by decide +kernel
theorem dX8_next_260 : decode cX8_next 260 = .ok (.return_, 1) := by decide +kernel
theorem dX8_must_0 : decode cX8_must 0 = .ok (.iload_n 1, 1) := by decide +kernel
theorem dX8_must_1 : decode cX8_must 1 = .ok (.ifCond .ne 19, 3) := by decide +kernel
theorem dX8_must_4 : decode cX8_must 4 = .ok (.aload_n 0, 1) := by decide +kernel
theorem dX8_must_5 : decode cX8_must 5 = .ok (.getfield 33, 3) := by decide +kernel
theorem dX8_must_8 : decode cX8_must 8 = .ok (.iconst (-1), 1) := by decide +kernel
theorem dX8_must_9 : decode cX8_must 9 = .ok (.if_icmp .ne 11, 3) := by decide +kernel
theorem dX8_must_12 : decode cX8_must 12 = .ok (.aload_n 0, 1) := by decide +kernel
theorem dX8_must_13 : decode cX8_must 13 = .ok (.aload_n 0, 1) := by decide +kernel
theorem dX8_must_14 : decode cX8_must 14 = .ok (.getfield 120, 3) := by decide +kernel
theorem dX8_must_17 : decode cX8_must 17 = .ok (.putfield 33, 3) := by decide +kernel
theorem dX8_must_20 : decode cX8_must 20 = .ok (.return_, 1) := by decide +kernel
theorem dX8_goOnReading_0 : decode cX8_goOnReading 0 = .ok (.aload_n 0, 1) := by decide +kernel
theorem dX8_goOnReading_1 : decode cX8_goOnReading 1 = .ok (.getfield 33, 3) := by decide +kernel
theorem dX8_goOnReading_4 : decode cX8_goOnReading 4 = .ok (.iconst (-1), 1) := by decide +kernel
theorem dX8_goOnReading_5 : decode cX8_goOnReading 5 = .ok (.if_icmp .ne 7, 3) := by decide +kernel
theorem dX8_goOnReading_8 : decode cX8_goOnReading 8 = .ok (.aload_n 0, 1) := by decide +kernel
theorem dX8_goOnReading_9 : decode cX8_goOnReading 9 = .ok (.invokevirtual 155, 3) := by decide +kernel
theorem dX8_goOnReading_12 : decode cX8_goOnReading 12 = .ok (.return_, 1) := by decide +kernel
theorem dX8_number_0 : decode cX8_number 0 = .ok (.aload_n 0, 1) := by decide +kernel
theorem dX8_number_1 : decode cX8_number 1 = .ok (.aload_n 0, 1) := by decide +kernel
theorem dX8_number_2 : decode cX8_number 2 = .ok (.getfield 33, 3) := by decide +kernel
theorem dX8_number_5 : decode cX8_number 5 = .ok (.iconst (-1), 1) := by decide +kernel
theorem dX8_number_6 : decode cX8_number 6 = .ok (.if_icmp .ne 18, 3) := by decide +kernel
theorem dX8_number_9 : decode cX8_number 9 = .ok (.aload_n 0, 1) := by decide +kernel
theorem dX8_number_10 : decode cX8_number 10 = .ok (.getfield 142, 3) := by decide +kernel
theorem dX8_number_13 : decode cX8_number 13 = .ok (.i2l, 1) := by decide +kernel
theorem dX8_number_14 : decode cX8_number 14 = .ok (.iload_n 1, 1) := by decide +kernel
theorem dX8_number_15 : decode cX8_number 15 = .ok (.i2l, 1) := by decide +kernel
theorem dX8_number_16 : decode cX8_number 16 = .ok (.iload_n 2, 1) := by decide +kernel
theorem dX8_number_17 : decode cX8_number 17 = .ok (.i2l, 1) := by decide +kernel
theorem dX8_number_18 : decode cX8_number 18 = .ok (.invokestatic 46, 3) := by decide +kernel
theorem dX8_number_21 : decode cX8_number 21 = .ok (.ifCond .eq 7, 3) := by decide +kernel
theorem dX8_number_24 : decode cX8_number 24 = .ok (.iconst 1, 1) := by decide +kernel
theorem dX8_number_25 : decode cX8_number 25 = .ok (.goto 4, 3) := by decide +kernel
theorem dX8_number_28 : decode cX8_number 28 = .ok (.iconst 0, 1) := by decide +kernel
theorem dX8_number_29 : decode cX8_number 29 = .ok (.invokevirtual 158, 3) := by decide +kernel
theorem dX8_number_32 : decode cX8_number 32 = .ok (.aload_n 0, 1) := by decide +kernel
theorem dX8_number_33 : decode cX8_number 33 = .ok (.getfield 142, 3) := by decide +kernel
theorem dX8_number_36 : decode cX8_number 36 = .ok (.istore_n 3, 1) := by decide +kernel
theorem dX8_number_37 : decode cX8_number 37 = .ok (.aload_n 0, 1) := by decide +kernel
theorem dX8_number_38 : decode cX8_number 38 = .ok (.invokevirtual 162, 3) := by decide +kernel
theorem dX8_number_41 : decode cX8_number 41 = .ok (.iload_n 3, 1) := by decide +kernel
theorem dX8_number_42 : decode cX8_number 42 = .ok (.ireturn, 1) := by decide +kernel
theorem dX8_end_0 : decode cX8_end 0 = .ok (.aload_n 0, 1) := by decide +kernel
theorem dX8_end_1 : decode cX8_end 1 = .ok (.aload_n 0, 1) := by decide +kernel
theorem dX8_end_2 : decode cX8_end 2 = .ok (.getfield 33, 3) := by decide +kernel
theorem dX8_end_5 : decode cX8_end 5 = .ok (.iconst (-1), 1) := by decide +kernel
theorem dX8_end_6 : decode cX8_end 6 = .ok (.if_icmp .ne 13, 3) := by decide +kernel
theorem dX8_end_9 : decode cX8_end 9 = .ok (.aload_n 0, 1) := by decide +kernel
theorem dX8_end_10 : decode cX8_end 10 = .ok (.getfield 142, 3) := by decide +kernel
theorem dX8_end_13 : decode cX8_end 13 = .ok (.sipush 200, 3) := by decide +kernel
theorem dX8_end_16 : decode cX8_end 16 = .ok (.if_icmp .ne 7, 3) := by decide +kernel
theorem dX8_end_19 : decode cX8_end 19 = .ok (.iconst 1, 1) := by decide +kernel
theorem dX8_end_20 : decode cX8_end 20 = .ok (.goto 4, 3) := by decide +kernel
theorem dX8_end_23 : decode cX8_end 23 = .ok (.iconst 0, 1) := by decide +kernel
theorem dX8_end_24 : decode cX8_end 24 = .ok (.invokevirtual 158, 3) := by decide +kernel
theorem dX8_end_27 : decode cX8_end 27 = .ok (.aload_n 0, 1) := by decide +kernel
theorem dX8_end_28 : decode cX8_end 28 = .ok (.invokevirtual 162, 3) := by decide +kernel
theorem dX8_end_31 : decode cX8_end 31 = .ok (.return_, 1) := by decide +kernel
theorem dX8_readSoul_0 : decode cX8_readSoul 0 = .ok (.aload_n 0, 1) := by decide +kernel
theorem dX8_readSoul_1 : decode cX8_readSoul 1 = .ok (.aload_n 0, 1) := by decide +kernel
theorem dX8_readSoul_2 : decode cX8_readSoul 2 = .ok (.getfield 13, 3) := by decide +kernel
theorem dX8_readSoul_5 : decode cX8_readSoul 5 = .ok (.bipush 8, 2) := by decide +kernel
theorem dX8_readSoul_7 : decode cX8_readSoul 7 = .ok (.iaload, 1) := by decide +kernel
theorem dX8_readSoul_8 : decode cX8_readSoul 8 = .ok (.bipush 7, 2) := by decide +kernel
theorem dX8_readSoul_10 : decode cX8_readSoul 10 = .ok (.if_icmp .ge 7, 3) := by decide +kernel
theorem dX8_readSoul_13 : decode cX8_readSoul 13 = .ok (.iconst 1, 1) := by decide +kernel
theorem dX8_readSoul_14 : decode cX8_readSoul 14 = .ok (.goto 4, 3) := by decide +kernel
theorem dX8_readSoul_17 : decode cX8_readSoul 17 = .ok (.iconst 0, 1) := by decide +kernel
theorem dX8_readSoul_18 : decode cX8_readSoul 18 = .ok (.invokevirtual 158, 3) := by decide +kernel
theorem dX8_readSoul_21 : decode cX8_readSoul 21 = .ok (.aload_n 0, 1) := by decide +kernel
theorem dX8_readSoul_22 : decode cX8_readSoul 22 = .ok (.invokevirtual 162, 3) := by decide +kernel
theorem dX8_readSoul_25 : decode cX8_readSoul 25 = .ok (.aload_n 0, 1) := by decide +kernel
theorem dX8_readSoul_26 : decode cX8_readSoul 26 = .ok (.iconst 0, 1) := by decide +kernel
theorem dX8_readSoul_27 : decode cX8_readSoul 27 = .ok (.iconst 5, 1) := by decide +kernel
theorem dX8_readSoul_28 : decode cX8_readSoul 28 = .ok (.invokevirtual 165, 3) := by decide +kernel
theorem dX8_readSoul_31 : decode cX8_readSoul 31 = .ok (.istore_n 1, 1) := by decide +kernel
theorem dX8_readSoul_32 : decode cX8_readSoul 32 = .ok (.aload_n 0, 1) := by decide +kernel
theorem dX8_readSoul_33 : decode cX8_readSoul 33 = .ok (.iconst 0, 1) := by decide +kernel
theorem dX8_readSoul_34 : decode cX8_readSoul 34 = .ok (.bipush 29, 2) := by decide +kernel
theorem dX8_readSoul_36 : decode cX8_readSoul 36 = .ok (.invokevirtual 165, 3) := by decide +kernel
theorem dX8_readSoul_39 : decode cX8_readSoul 39 = .ok (.istore_n 2, 1) := by decide +kernel
theorem dX8_readSoul_40 : decode cX8_readSoul 40 = .ok (.aload_n 0, 1) := by decide +kernel
theorem dX8_readSoul_41 : decode cX8_readSoul 41 = .ok (.invokevirtual 168, 3) := by decide +kernel
theorem dX8_readSoul_44 : decode cX8_readSoul 44 = .ok (.aload_n 0, 1) := by decide +kernel
theorem dX8_readSoul_45 : decode cX8_readSoul 45 = .ok (.getfield 33, 3) := by decide +kernel
theorem dX8_readSoul_48 : decode cX8_readSoul 48 = .ok (.iconst (-1), 1) := by decide +kernel
theorem dX8_readSoul_49 : decode cX8_readSoul 49 = .ok (.if_icmp .ne 12, 3) := by decide +kernel
theorem dX8_readSoul_52 : decode cX8_readSoul 52 = .ok (.aload_n 0, 1) := by decide +kernel
theorem dX8_readSoul_53 : decode cX8_readSoul 53 = .ok (.getfield 13, 3) := by decide +kernel
theorem dX8_readSoul_56 : decode cX8_readSoul 56 = .ok (.iload_n 1, 1) := by decide +kernel
theorem dX8_readSoul_57 : decode cX8_readSoul 57 = .ok (.iload_n 2, 1) := by decide +kernel
theorem dX8_readSoul_58 : decode cX8_readSoul 58 = .ok (.invokestatic 112, 3) := by decide +kernel
theorem dX8_readSoul_61 : decode cX8_readSoul 61 = .ok (.return_, 1) := by decide +kernel
theorem dX8_freeCell_0 : decode cX8_freeCell 0 = .ok (.aload_n 0, 1) := by decide +kernel
theorem dX8_freeCell_1 : decode cX8_freeCell 1 = .ok (.aload_n 0, 1) := by decide +kernel
theorem dX8_freeCell_2 : decode cX8_freeCell 2 = .ok (.getfield 33, 3) := by decide +kernel
theorem dX8_freeCell_5 : decode cX8_freeCell 5 = .ok (.iconst (-1), 1) := by decide +kernel
theorem dX8_freeCell_6 : decode cX8_freeCell 6 = .ok (.if_icmp .ne 32, 3) := by decide +kernel
theorem dX8_freeCell_9 : decode cX8_freeCell 9 = .ok (.aload_n 0, 1) := by decide +kernel
theorem dX8_freeCell_10 : decode cX8_freeCell 10 = .ok (.getfield 142, 3) := by decide +kernel
theorem dX8_freeCell_13 : decode cX8_freeCell 13 = .ok (.i2l, 1) := by decide +kernel
theorem dX8_freeCell_14 : decode cX8_freeCell 14 = .ok (.lconst 0, 1) := by decide +kernel
theorem dX8_freeCell_15 : decode cX8_freeCell 15 = .ok (.ldc2_w 50, 3) := by decide +kernel
theorem dX8_freeCell_18 : decode cX8_freeCell 18 = .ok (.invokestatic 46, 3) := by decide +kernel
theorem dX8_freeCell_21 : decode cX8_freeCell 21 = .ok (.ifCond .eq 21, 3) := by decide +kernel
theorem dX8_freeCell_24 : decode cX8_freeCell 24 = .ok (.aload_n 0, 1) := by decide +kernel
theorem dX8_freeCell_25 : decode cX8_freeCell 25 = .ok (.getfield 13, 3) := by decide +kernel
theorem dX8_freeCell_28 : decode cX8_freeCell 28 = .ok (.aload_n 0, 1) := by decide +kernel
theorem dX8_freeCell_29 : decode cX8_freeCell 29 = .ok (.getfield 142, 3) := by decide +kernel
theorem dX8_freeCell_32 : decode cX8_freeCell 32 = .ok (.invokestatic 171, 3) := by decide +kernel
theorem dX8_freeCell_35 : decode cX8_freeCell 35 = .ok (.ifCond .eq 7, 3) := by decide +kernel
theorem dX8_freeCell_38 : decode cX8_freeCell 38 = .ok (.iconst 1, 1) := by decide +kernel
theorem dX8_freeCell_39 : decode cX8_freeCell 39 = .ok (.goto 4, 3) := by decide +kernel
theorem dX8_freeCell_42 : decode cX8_freeCell 42 = .ok (.iconst 0, 1) := by decide +kernel
theorem dX8_freeCell_43 : decode cX8_freeCell 43 = .ok (.invokevirtual 158, 3) := by decide +kernel
theorem dX8_freeCell_46 : decode cX8_freeCell 46 = .ok (.aload_n 0, 1) := by decide +kernel
theorem dX8_freeCell_47 : decode cX8_freeCell 47 = .ok (.getfield 142, 3) := by decide +kernel
theorem dX8_freeCell_50 : decode cX8_freeCell 50 = .ok (.istore_n 1, 1) := by decide +kernel
theorem dX8_freeCell_51 : decode cX8_freeCell 51 = .ok (.aload_n 0, 1) := by decide +kernel
theorem dX8_freeCell_52 : decode cX8_freeCell 52 = .ok (.invokevirtual 162, 3) := by decide +kernel
theorem dX8_freeCell_55 : decode cX8_freeCell 55 = .ok (.iload_n 1, 1) := by decide +kernel
theorem dX8_freeCell_56 : decode cX8_freeCell 56 = .ok (.ireturn, 1) := by decide +kernel
theorem dX8_readCoat_0 : decode cX8_readCoat 0 = .ok (.aload_n 0, 1) := by decide +kernel
theorem dX8_readCoat_1 : decode cX8_readCoat 1 = .ok (.invokevirtual 155, 3) := by decide +kernel
theorem dX8_readCoat_4 : decode cX8_readCoat 4 = .ok (.aload_n 0, 1) := by decide +kernel
theorem dX8_readCoat_5 : decode cX8_readCoat 5 = .ok (.invokevirtual 175, 3) := by decide +kernel
theorem dX8_readCoat_8 : decode cX8_readCoat 8 = .ok (.istore_n 1, 1) := by decide +kernel
theorem dX8_readCoat_9 : decode cX8_readCoat 9 = .ok (.aload_n 0, 1) := by decide +kernel
theorem dX8_readCoat_10 : decode cX8_readCoat 10 = .ok (.invokevirtual 168, 3) := by decide +kernel
theorem dX8_readCoat_13 : decode cX8_readCoat 13 = .ok (.aload_n 0, 1) := by decide +kernel
theorem dX8_readCoat_14 : decode cX8_readCoat 14 = .ok (.getfield 33, 3) := by decide +kernel
theorem dX8_readCoat_17 : decode cX8_readCoat 17 = .ok (.iconst (-1), 1) := by decide +kernel
theorem dX8_readCoat_18 : decode cX8_readCoat 18 = .ok (.if_icmp .ne 15, 3) := by decide +kernel
theorem dX8_readCoat_21 : decode cX8_readCoat 21 = .ok (.aload_n 0, 1) := by decide +kernel
theorem dX8_readCoat_22 : decode cX8_readCoat 22 = .ok (.getfield 13, 3) := by decide +kernel
theorem dX8_readCoat_25 : decode cX8_readCoat 25 = .ok (.iconst 5, 1) := by decide +kernel
theorem dX8_readCoat_26 : decode cX8_readCoat 26 = .ok (.dup2, 1) := by decide +kernel
theorem dX8_readCoat_27 : decode cX8_readCoat 27 = .ok (.iaload, 1) := by decide +kernel
theorem dX8_readCoat_28 : decode cX8_readCoat 28 = .ok (.iconst 1, 1) := by decide +kernel
theorem dX8_readCoat_29 : decode cX8_readCoat 29 = .ok (.iload_n 1, 1) := by decide +kernel
theorem dX8_readCoat_30 : decode cX8_readCoat 30 = .ok (.ishl, 1) := by decide +kernel
theorem dX8_readCoat_31 : decode cX8_readCoat 31 = .ok (.ior, 1) := by decide +kernel
theorem dX8_readCoat_32 : decode cX8_readCoat 32 = .ok (.iastore, 1) := by decide +kernel
theorem dX8_readCoat_33 : decode cX8_readCoat 33 = .ok (.return_, 1) := by decide +kernel
theorem dX8_soulThat_0 : decode cX8_soulThat 0 = .ok (.aload_n 0, 1) := by decide +kernel
theorem dX8_soulThat_1 : decode cX8_soulThat 1 = .ok (.aload_n 0, 1) := by decide +kernel
theorem dX8_soulThat_2 : decode cX8_soulThat 2 = .ok (.getfield 142, 3) := by decide +kernel
theorem dX8_soulThat_5 : decode cX8_soulThat 5 = .ok (.i2l, 1) := by decide +kernel
theorem dX8_soulThat_6 : decode cX8_soulThat 6 = .ok (.lconst 0, 1) := by decide +kernel
theorem dX8_soulThat_7 : decode cX8_soulThat 7 = .ok (.aload_n 0, 1) := by decide +kernel
theorem dX8_soulThat_8 : decode cX8_soulThat 8 = .ok (.getfield 13, 3) := by decide +kernel
theorem dX8_soulThat_11 : decode cX8_soulThat 11 = .ok (.bipush 8, 2) := by decide +kernel
theorem dX8_soulThat_13 : decode cX8_soulThat 13 = .ok (.iaload, 1) := by decide +kernel
theorem dX8_soulThat_14 : decode cX8_soulThat 14 = .ok (.iconst 1, 1) := by decide +kernel
theorem dX8_soulThat_15 : decode cX8_soulThat 15 = .ok (.isub, 1) := by decide +kernel
theorem dX8_soulThat_16 : decode cX8_soulThat 16 = .ok (.i2l, 1) := by decide +kernel
theorem dX8_soulThat_17 : decode cX8_soulThat 17 = .ok (.invokestatic 46, 3) := by decide +kernel
theorem dX8_soulThat_20 : decode cX8_soulThat 20 = .ok (.ifCond .eq 31, 3) := by decide +kernel
theorem dX8_soulThat_23 : decode cX8_soulThat 23 = .ok (.aload_n 0, 1) := by decide +kernel
theorem dX8_soulThat_24 : decode cX8_soulThat 24 = .ok (.getfield 13, 3) := by decide +kernel
theorem dX8_soulThat_27 : decode cX8_soulThat 27 = .ok (.aload_n 0, 1) := by decide +kernel
theorem dX8_soulThat_28 : decode cX8_soulThat 28 = .ok (.getfield 142, 3) := by decide +kernel
theorem dX8_soulThat_31 : decode cX8_soulThat 31 = .ok (.invokestatic 59, 3) := by decide +kernel
theorem dX8_soulThat_34 : decode cX8_soulThat 34 = .ok (.iconst (-1), 1) := by decide +kernel
theorem dX8_soulThat_35 : decode cX8_soulThat 35 = .ok (.if_icmp .eq 7, 3) := by decide +kernel
theorem dX8_soulThat_38 : decode cX8_soulThat 38 = .ok (.iconst 1, 1) := by decide +kernel
theorem dX8_soulThat_39 : decode cX8_soulThat 39 = .ok (.goto 4, 3) := by decide +kernel
theorem dX8_soulThat_42 : decode cX8_soulThat 42 = .ok (.iconst 0, 1) := by decide +kernel
theorem dX8_soulThat_43 : decode cX8_soulThat 43 = .ok (.iload_n 1, 1) := by decide +kernel
theorem dX8_soulThat_44 : decode cX8_soulThat 44 = .ok (.if_icmp .ne 7, 3) := by decide +kernel
theorem dX8_soulThat_47 : decode cX8_soulThat 47 = .ok (.iconst 1, 1) := by decide +kernel
theorem dX8_soulThat_48 : decode cX8_soulThat 48 = .ok (.goto 4, 3) := by decide +kernel
theorem dX8_soulThat_51 : decode cX8_soulThat 51 = .ok (.iconst 0, 1) := by decide +kernel
theorem dX8_soulThat_52 : decode cX8_soulThat 52 = .ok (.invokevirtual 158, 3) := by decide +kernel
theorem dX8_soulThat_55 : decode cX8_soulThat 55 = .ok (.aload_n 0, 1) := by decide +kernel
theorem dX8_soulThat_56 : decode cX8_soulThat 56 = .ok (.getfield 142, 3) := by decide +kernel
theorem dX8_soulThat_59 : decode cX8_soulThat 59 = .ok (.istore_n 2, 1) := by decide +kernel
theorem dX8_soulThat_60 : decode cX8_soulThat 60 = .ok (.aload_n 0, 1) := by decide +kernel
theorem dX8_soulThat_61 : decode cX8_soulThat 61 = .ok (.invokevirtual 162, 3) := by decide +kernel
theorem dX8_soulThat_64 : decode cX8_soulThat 64 = .ok (.iload_n 2, 1) := by decide +kernel
theorem dX8_soulThat_65 : decode cX8_soulThat 65 = .ok (.ireturn, 1) := by decide +kernel
theorem dX8_readSit_0 : decode cX8_readSit 0 = .ok (.aload_n 0, 1) := by decide +kernel
theorem dX8_readSit_1 : decode cX8_readSit 1 = .ok (.invokevirtual 155, 3) := by decide +kernel
theorem dX8_readSit_4 : decode cX8_readSit 4 = .ok (.aload_n 0, 1) := by decide +kernel
theorem dX8_readSit_5 : decode cX8_readSit 5 = .ok (.iconst 0, 1) := by decide +kernel
theorem dX8_readSit_6 : decode cX8_readSit 6 = .ok (.invokevirtual 178, 3) := by decide +kernel
theorem dX8_readSit_9 : decode cX8_readSit 9 = .ok (.istore_n 1, 1) := by decide +kernel
theorem dX8_readSit_10 : decode cX8_readSit 10 = .ok (.aload_n 0, 1) := by decide +kernel
theorem dX8_readSit_11 : decode cX8_readSit 11 = .ok (.invokevirtual 175, 3) := by decide +kernel
theorem dX8_readSit_14 : decode cX8_readSit 14 = .ok (.istore_n 2, 1) := by decide +kernel
theorem dX8_readSit_15 : decode cX8_readSit 15 = .ok (.aload_n 0, 1) := by decide +kernel
theorem dX8_readSit_16 : decode cX8_readSit 16 = .ok (.invokevirtual 168, 3) := by decide +kernel
theorem dX8_readSit_19 : decode cX8_readSit 19 = .ok (.aload_n 0, 1) := by decide +kernel
theorem dX8_readSit_20 : decode cX8_readSit 20 = .ok (.getfield 33, 3) := by decide +kernel
theorem dX8_readSit_23 : decode cX8_readSit 23 = .ok (.iconst (-1), 1) := by decide +kernel
theorem dX8_readSit_24 : decode cX8_readSit 24 = .ok (.if_icmp .ne 13, 3) := by decide +kernel
theorem dX8_readSit_27 : decode cX8_readSit 27 = .ok (.aload_n 0, 1) := by decide +kernel
theorem dX8_readSit_28 : decode cX8_readSit 28 = .ok (.getfield 13, 3) := by decide +kernel
theorem dX8_readSit_31 : decode cX8_readSit 31 = .ok (.iload_n 1, 1) := by decide +kernel
theorem dX8_readSit_32 : decode cX8_readSit 32 = .ok (.iload_n 2, 1) := by decide +kernel
theorem dX8_readSit_33 : decode cX8_readSit 33 = .ok (.invokestatic 182, 3) := by decide +kernel
theorem dX8_readSit_36 : decode cX8_readSit 36 = .ok (.pop, 1) := by decide +kernel
theorem dX8_readSit_37 : decode cX8_readSit 37 = .ok (.return_, 1) := by decide +kernel
theorem dX8_readOut_0 : decode cX8_readOut 0 = .ok (.aload_n 0, 1) := by decide +kernel
theorem dX8_readOut_1 : decode cX8_readOut 1 = .ok (.invokevirtual 155, 3) := by decide +kernel
theorem dX8_readOut_4 : decode cX8_readOut 4 = .ok (.aload_n 0, 1) := by decide +kernel
theorem dX8_readOut_5 : decode cX8_readOut 5 = .ok (.iconst 1, 1) := by decide +kernel
theorem dX8_readOut_6 : decode cX8_readOut 6 = .ok (.invokevirtual 178, 3) := by decide +kernel
theorem dX8_readOut_9 : decode cX8_readOut 9 = .ok (.istore_n 1, 1) := by decide +kernel
theorem dX8_readOut_10 : decode cX8_readOut 10 = .ok (.aload_n 0, 1) := by decide +kernel
theorem dX8_readOut_11 : decode cX8_readOut 11 = .ok (.invokevirtual 168, 3) := by decide +kernel
theorem dX8_readOut_14 : decode cX8_readOut 14 = .ok (.aload_n 0, 1) := by decide +kernel
theorem dX8_readOut_15 : decode cX8_readOut 15 = .ok (.getfield 33, 3) := by decide +kernel
theorem dX8_readOut_18 : decode cX8_readOut 18 = .ok (.iconst (-1), 1) := by decide +kernel
theorem dX8_readOut_19 : decode cX8_readOut 19 = .ok (.if_icmp .ne 13, 3) := by decide +kernel
theorem dX8_readOut_22 : decode cX8_readOut 22 = .ok (.aload_n 0, 1) := by decide +kernel
theorem dX8_readOut_23 : decode cX8_readOut 23 = .ok (.getfield 13, 3) := by decide +kernel
theorem dX8_readOut_26 : decode cX8_readOut 26 = .ok (.iload_n 1, 1) := by decide +kernel
theorem dX8_readOut_27 : decode cX8_readOut 27 = .ok (.iconst (-1), 1) := by decide +kernel
theorem dX8_readOut_28 : decode cX8_readOut 28 = .ok (.invokestatic 182, 3) := by decide +kernel
theorem dX8_readOut_31 : decode cX8_readOut 31 = .ok (.pop, 1) := by decide +kernel
theorem dX8_readOut_32 : decode cX8_readOut 32 = .ok (.return_, 1) := by decide +kernel
theorem dX8_readMinutes_0 : decode cX8_readMinutes 0 = .ok (.aload_n 0, 1) := by decide +kernel
theorem dX8_readMinutes_1 : decode cX8_readMinutes 1 = .ok (.invokevirtual 155, 3) := by decide +kernel
theorem dX8_readMinutes_4 : decode cX8_readMinutes 4 = .ok (.aload_n 0, 1) := by decide +kernel
theorem dX8_readMinutes_5 : decode cX8_readMinutes 5 = .ok (.iconst 1, 1) := by decide +kernel
theorem dX8_readMinutes_6 : decode cX8_readMinutes 6 = .ok (.bipush 99, 2) := by decide +kernel
theorem dX8_readMinutes_8 : decode cX8_readMinutes 8 = .ok (.invokevirtual 165, 3) := by decide +kernel
theorem dX8_readMinutes_11 : decode cX8_readMinutes 11 = .ok (.istore_n 1, 1) := by decide +kernel
theorem dX8_readMinutes_12 : decode cX8_readMinutes 12 = .ok (.aload_n 0, 1) := by decide +kernel
theorem dX8_readMinutes_13 : decode cX8_readMinutes 13 = .ok (.invokevirtual 168, 3) := by decide +kernel
theorem dX8_readMinutes_16 : decode cX8_readMinutes 16 = .ok (.aload_n 0, 1) := by decide +kernel
theorem dX8_readMinutes_17 : decode cX8_readMinutes 17 = .ok (.getfield 33, 3) := by decide +kernel
theorem dX8_readMinutes_20 : decode cX8_readMinutes 20 = .ok (.iconst (-1), 1) := by decide +kernel
theorem dX8_readMinutes_21 : decode cX8_readMinutes 21 = .ok (.if_icmp .ne 14, 3) := by decide +kernel
theorem dX8_readMinutes_24 : decode cX8_readMinutes 24 = .ok (.aload_n 0, 1) := by decide +kernel
theorem dX8_readMinutes_25 : decode cX8_readMinutes 25 = .ok (.getfield 13, 3) := by decide +kernel
theorem dX8_readMinutes_28 : decode cX8_readMinutes 28 = .ok (.bipush 6, 2) := by decide +kernel
theorem dX8_readMinutes_30 : decode cX8_readMinutes 30 = .ok (.dup2, 1) := by decide +kernel
theorem dX8_readMinutes_31 : decode cX8_readMinutes 31 = .ok (.iaload, 1) := by decide +kernel
theorem dX8_readMinutes_32 : decode cX8_readMinutes 32 = .ok (.iload_n 1, 1) := by decide +kernel
theorem dX8_readMinutes_33 : decode cX8_readMinutes 33 = .ok (.iadd, 1) := by decide +kernel
theorem dX8_readMinutes_34 : decode cX8_readMinutes 34 = .ok (.iastore, 1) := by decide +kernel
theorem dX8_readMinutes_35 : decode cX8_readMinutes 35 = .ok (.return_, 1) := by decide +kernel
theorem dX8_read_0 : decode cX8_read 0 = .ok (.aload_n 0, 1) := by decide +kernel
theorem dX8_read_1 : decode cX8_read 1 = .ok (.getfield 13, 3) := by decide +kernel
theorem dX8_read_4 : decode cX8_read 4 = .ok (.invokestatic 93, 3) := by decide +kernel
theorem dX8_read_7 : decode cX8_read 7 = .ok (.aload_n 0, 1) := by decide +kernel
theorem dX8_read_8 : decode cX8_read 8 = .ok (.iconst 0, 1) := by decide +kernel
theorem dX8_read_9 : decode cX8_read 9 = .ok (.putfield 139, 3) := by decide +kernel
theorem dX8_read_12 : decode cX8_read 12 = .ok (.aload_n 0, 1) := by decide +kernel
theorem dX8_read_13 : decode cX8_read 13 = .ok (.iconst (-1), 1) := by decide +kernel
theorem dX8_read_14 : decode cX8_read 14 = .ok (.putfield 33, 3) := by decide +kernel
theorem dX8_read_17 : decode cX8_read 17 = .ok (.aload_n 0, 1) := by decide +kernel
theorem dX8_read_18 : decode cX8_read 18 = .ok (.invokevirtual 155, 3) := by decide +kernel
theorem dX8_read_21 : decode cX8_read 21 = .ok (.aload_n 0, 1) := by decide +kernel
theorem dX8_read_22 : decode cX8_read 22 = .ok (.aload_n 0, 1) := by decide +kernel
theorem dX8_read_23 : decode cX8_read 23 = .ok (.getfield 142, 3) := by decide +kernel
theorem dX8_read_26 : decode cX8_read 26 = .ok (.bipush 100, 2) := by decide +kernel
theorem dX8_read_28 : decode cX8_read 28 = .ok (.if_icmp .ne 7, 3) := by decide +kernel
theorem dX8_read_31 : decode cX8_read 31 = .ok (.iconst 1, 1) := by decide +kernel
theorem dX8_read_32 : decode cX8_read 32 = .ok (.goto 4, 3) := by decide +kernel
theorem dX8_read_35 : decode cX8_read 35 = .ok (.iconst 0, 1) := by decide +kernel
theorem dX8_read_36 : decode cX8_read 36 = .ok (.invokevirtual 158, 3) := by decide +kernel
theorem dX8_read_39 : decode cX8_read 39 = .ok (.aload_n 0, 1) := by decide +kernel
theorem dX8_read_40 : decode cX8_read 40 = .ok (.invokevirtual 162, 3) := by decide +kernel
theorem dX8_read_43 : decode cX8_read 43 = .ok (.iconst 0, 1) := by decide +kernel
theorem dX8_read_44 : decode cX8_read 44 = .ok (.istore_n 1, 1) := by decide +kernel
theorem dX8_read_45 : decode cX8_read 45 = .ok (.iload_n 1, 1) := by decide +kernel
theorem dX8_read_46 : decode cX8_read 46 = .ok (.iconst 5, 1) := by decide +kernel
theorem dX8_read_47 : decode cX8_read 47 = .ok (.if_icmp .ge 35, 3) := by decide +kernel
theorem dX8_read_50 : decode cX8_read 50 = .ok (.aload_n 0, 1) := by decide +kernel
theorem dX8_read_51 : decode cX8_read 51 = .ok (.iconst 0, 1) := by decide +kernel
theorem dX8_read_52 : decode cX8_read 52 = .ok (.iconst 5, 1) := by decide +kernel
theorem dX8_read_53 : decode cX8_read 53 = .ok (.invokevirtual 165, 3) := by decide +kernel
theorem dX8_read_56 : decode cX8_read 56 = .ok (.istore_n 2, 1) := by decide +kernel
theorem dX8_read_57 : decode cX8_read 57 = .ok (.aload_n 0, 1) := by decide +kernel
theorem dX8_read_58 : decode cX8_read 58 = .ok (.getfield 13, 3) := by decide +kernel
theorem dX8_read_61 : decode cX8_read 61 = .ok (.iload_n 1, 1) := by decide +kernel
theorem dX8_read_62 : decode cX8_read 62 = .ok (.aload_n 0, 1) := by decide +kernel
theorem dX8_read_63 : decode cX8_read 63 = .ok (.getfield 33, 3) := by decide +kernel
theorem dX8_read_66 : decode cX8_read 66 = .ok (.iconst (-1), 1) := by decide +kernel
theorem dX8_read_67 : decode cX8_read 67 = .ok (.if_icmp .ne 7, 3) := by decide +kernel
theorem dX8_read_70 : decode cX8_read 70 = .ok (.iload_n 2, 1) := by decide +kernel
theorem dX8_read_71 : decode cX8_read 71 = .ok (.goto 4, 3) := by decide +kernel
theorem dX8_read_74 : decode cX8_read 74 = .ok (.iconst 0, 1) := by decide +kernel
theorem dX8_read_75 : decode cX8_read 75 = .ok (.iastore, 1) := by decide +kernel
theorem dX8_read_76 : decode cX8_read 76 = .ok (.iinc 1 1, 3) := by decide +kernel
theorem dX8_read_79 : decode cX8_read 79 = .ok (.goto (-34), 3) := by decide +kernel
theorem dX8_read_82 : decode cX8_read 82 = .ok (.aload_n 0, 1) := by decide +kernel
theorem dX8_read_83 : decode cX8_read 83 = .ok (.invokevirtual 168, 3) := by decide +kernel
theorem dX8_read_86 : decode cX8_read 86 = .ok (.iconst 1, 1) := by decide +kernel
theorem dX8_read_87 : decode cX8_read 87 = .ok (.istore_n 1, 1) := by decide +kernel
theorem dX8_read_88 : decode cX8_read 88 = .ok (.aload_n 0, 1) := by decide +kernel
theorem dX8_read_89 : decode cX8_read 89 = .ok (.getfield 33, 3) := by decide +kernel
theorem dX8_read_92 : decode cX8_read 92 = .ok (.iconst (-1), 1) := by decide +kernel
theorem dX8_read_93 : decode cX8_read 93 = .ok (.if_icmp .ne 97, 3) := by decide +kernel
theorem dX8_read_96 : decode cX8_read 96 = .ok (.aload_n 0, 1) := by decide +kernel
theorem dX8_read_97 : decode cX8_read 97 = .ok (.getfield 142, 3) := by decide +kernel
theorem dX8_read_100 : decode cX8_read 100 = .ok (.iconst (-1), 1) := by decide +kernel
theorem dX8_read_101 : decode cX8_read 101 = .ok (.if_icmp .eq 89, 3) := by decide +kernel
theorem dX8_read_104 : decode cX8_read 104 = .ok (.aload_n 0, 1) := by decide +kernel
theorem dX8_read_105 : decode cX8_read 105 = .ok (.getfield 142, 3) := by decide +kernel
theorem dX8_read_108 : decode cX8_read 108 = .ok (.tableswitch 71 101 105 #[36, 43, 50, 57, 64], 36) := by decide +kernel
theorem dX8_read_144 : decode cX8_read 144 = .ok (.aload_n 0, 1) := by decide +kernel
theorem dX8_read_145 : decode cX8_read 145 = .ok (.invokevirtual 185, 3) := by decide +kernel
theorem dX8_read_148 : decode cX8_read 148 = .ok (.goto 36, 3) := by decide +kernel
theorem dX8_read_151 : decode cX8_read 151 = .ok (.aload_n 0, 1) := by decide +kernel
theorem dX8_read_152 : decode cX8_read 152 = .ok (.invokevirtual 188, 3) := by decide +kernel
theorem dX8_read_155 : decode cX8_read 155 = .ok (.goto 29, 3) := by decide +kernel
theorem dX8_read_158 : decode cX8_read 158 = .ok (.aload_n 0, 1) := by decide +kernel
theorem dX8_read_159 : decode cX8_read 159 = .ok (.invokevirtual 191, 3) := by decide +kernel
theorem dX8_read_162 : decode cX8_read 162 = .ok (.goto 22, 3) := by decide +kernel
theorem dX8_read_165 : decode cX8_read 165 = .ok (.aload_n 0, 1) := by decide +kernel
theorem dX8_read_166 : decode cX8_read 166 = .ok (.invokevirtual 194, 3) := by decide +kernel
theorem dX8_read_169 : decode cX8_read 169 = .ok (.goto 15, 3) := by decide +kernel
theorem dX8_read_172 : decode cX8_read 172 = .ok (.aload_n 0, 1) := by decide +kernel
theorem dX8_read_173 : decode cX8_read 173 = .ok (.invokevirtual 197, 3) := by decide +kernel
theorem dX8_read_176 : decode cX8_read 176 = .ok (.goto 8, 3) := by decide +kernel
theorem dX8_read_179 : decode cX8_read 179 = .ok (.aload_n 0, 1) := by decide +kernel
theorem dX8_read_180 : decode cX8_read 180 = .ok (.iconst 0, 1) := by decide +kernel
theorem dX8_read_181 : decode cX8_read 181 = .ok (.invokevirtual 158, 3) := by decide +kernel
theorem dX8_read_184 : decode cX8_read 184 = .ok (.iinc 1 1, 3) := by decide +kernel
theorem dX8_read_187 : decode cX8_read 187 = .ok (.goto (-99), 3) := by decide +kernel
theorem dX8_read_190 : decode cX8_read 190 = .ok (.aload_n 0, 1) := by decide +kernel
theorem dX8_read_191 : decode cX8_read 191 = .ok (.getfield 33, 3) := by decide +kernel
theorem dX8_read_194 : decode cX8_read 194 = .ok (.iconst (-1), 1) := by decide +kernel
theorem dX8_read_195 : decode cX8_read 195 = .ok (.if_icmp .eq 11, 3) := by decide +kernel
theorem dX8_read_198 : decode cX8_read 198 = .ok (.bipush (-10), 2) := by decide +kernel
theorem dX8_read_200 : decode cX8_read 200 = .ok (.aload_n 0, 1) := by decide +kernel
theorem dX8_read_201 : decode cX8_read 201 = .ok (.getfield 33, 3) := by decide +kernel
theorem dX8_read_204 : decode cX8_read 204 = .ok (.isub, 1) := by decide +kernel
theorem dX8_read_205 : decode cX8_read 205 = .ok (.ireturn, 1) := by decide +kernel
theorem dX8_read_206 : decode cX8_read 206 = .ok (.iconst 0, 1) := by decide +kernel
theorem dX8_read_207 : decode cX8_read 207 = .ok (.istore_n 2, 1) := by decide +kernel
theorem dX8_read_208 : decode cX8_read 208 = .ok (.iload_n 2, 1) := by decide +kernel
theorem dX8_read_209 : decode cX8_read 209 = .ok (.sipush 171, 3) := by decide +kernel
theorem dX8_read_212 : decode cX8_read 212 = .ok (.if_icmp .ge 21, 3) := by decide +kernel
theorem dX8_read_215 : decode cX8_read 215 = .ok (.aload_n 0, 1) := by decide +kernel
theorem dX8_read_216 : decode cX8_read 216 = .ok (.getfield 7, 3) := by decide +kernel
theorem dX8_read_219 : decode cX8_read 219 = .ok (.iload_n 2, 1) := by decide +kernel
theorem dX8_read_220 : decode cX8_read 220 = .ok (.aload_n 0, 1) := by decide +kernel
theorem dX8_read_221 : decode cX8_read 221 = .ok (.getfield 13, 3) := by decide +kernel
theorem dX8_read_224 : decode cX8_read 224 = .ok (.iload_n 2, 1) := by decide +kernel
theorem dX8_read_225 : decode cX8_read 225 = .ok (.iaload, 1) := by decide +kernel
theorem dX8_read_226 : decode cX8_read 226 = .ok (.iastore, 1) := by decide +kernel
theorem dX8_read_227 : decode cX8_read 227 = .ok (.iinc 2 1, 3) := by decide +kernel
theorem dX8_read_230 : decode cX8_read 230 = .ok (.goto (-22), 3) := by decide +kernel
theorem dX8_read_233 : decode cX8_read 233 = .ok (.iload_n 1, 1) := by decide +kernel
theorem dX8_read_234 : decode cX8_read 234 = .ok (.ireturn, 1) := by decide +kernel
theorem dX8_keep_0 : decode cX8_keep 0 = .ok (.aload_n 0, 1) := by decide +kernel
theorem dX8_keep_1 : decode cX8_keep 1 = .ok (.getfield 7, 3) := by decide +kernel
theorem dX8_keep_4 : decode cX8_keep 4 = .ok (.bipush 90, 2) := by decide +kernel
theorem dX8_keep_6 : decode cX8_keep 6 = .ok (.iaload, 1) := by decide +kernel
theorem dX8_keep_7 : decode cX8_keep 7 = .ok (.bipush 8, 2) := by decide +kernel
theorem dX8_keep_9 : decode cX8_keep 9 = .ok (.if_icmp .ne 49, 3) := by decide +kernel
theorem dX8_keep_12 : decode cX8_keep 12 = .ok (.iconst 0, 1) := by decide +kernel
theorem dX8_keep_13 : decode cX8_keep 13 = .ok (.istore_n 1, 1) := by decide +kernel
theorem dX8_keep_14 : decode cX8_keep 14 = .ok (.iload_n 1, 1) := by decide +kernel
theorem dX8_keep_15 : decode cX8_keep 15 = .ok (.bipush 70, 2) := by decide +kernel
theorem dX8_keep_17 : decode cX8_keep 17 = .ok (.if_icmp .ge 30, 3) := by decide +kernel
theorem dX8_keep_20 : decode cX8_keep 20 = .ok (.aload_n 0, 1) := by decide +kernel
theorem dX8_keep_21 : decode cX8_keep 21 = .ok (.getfield 7, 3) := by decide +kernel
theorem dX8_keep_24 : decode cX8_keep 24 = .ok (.bipush 91, 2) := by decide +kernel
theorem dX8_keep_26 : decode cX8_keep 26 = .ok (.iload_n 1, 1) := by decide +kernel
theorem dX8_keep_27 : decode cX8_keep 27 = .ok (.iadd, 1) := by decide +kernel
theorem dX8_keep_28 : decode cX8_keep 28 = .ok (.aload_n 0, 1) := by decide +kernel
theorem dX8_keep_29 : decode cX8_keep 29 = .ok (.getfield 7, 3) := by decide +kernel
theorem dX8_keep_32 : decode cX8_keep 32 = .ok (.bipush 91, 2) := by decide +kernel
theorem dX8_keep_34 : decode cX8_keep 34 = .ok (.iload_n 1, 1) := by decide +kernel
theorem dX8_keep_35 : decode cX8_keep 35 = .ok (.iadd, 1) := by decide +kernel
theorem dX8_keep_36 : decode cX8_keep 36 = .ok (.bipush 10, 2) := by decide +kernel
theorem dX8_keep_38 : decode cX8_keep 38 = .ok (.iadd, 1) := by decide +kernel
theorem dX8_keep_39 : decode cX8_keep 39 = .ok (.iaload, 1) := by decide +kernel
theorem dX8_keep_40 : decode cX8_keep 40 = .ok (.iastore, 1) := by decide +kernel
theorem dX8_keep_41 : decode cX8_keep 41 = .ok (.iinc 1 1, 3) := by decide +kernel
theorem dX8_keep_44 : decode cX8_keep 44 = .ok (.goto (-30), 3) := by decide +kernel
theorem dX8_keep_47 : decode cX8_keep 47 = .ok (.aload_n 0, 1) := by decide +kernel
theorem dX8_keep_48 : decode cX8_keep 48 = .ok (.getfield 7, 3) := by decide +kernel
theorem dX8_keep_51 : decode cX8_keep 51 = .ok (.bipush 90, 2) := by decide +kernel
theorem dX8_keep_53 : decode cX8_keep 53 = .ok (.dup2, 1) := by decide +kernel
theorem dX8_keep_54 : decode cX8_keep 54 = .ok (.iaload, 1) := by decide +kernel
theorem dX8_keep_55 : decode cX8_keep 55 = .ok (.iconst 1, 1) := by decide +kernel
theorem dX8_keep_56 : decode cX8_keep 56 = .ok (.isub, 1) := by decide +kernel
theorem dX8_keep_57 : decode cX8_keep 57 = .ok (.iastore, 1) := by decide +kernel
theorem dX8_keep_58 : decode cX8_keep 58 = .ok (.bipush 91, 2) := by decide +kernel
theorem dX8_keep_60 : decode cX8_keep 60 = .ok (.bipush 10, 2) := by decide +kernel
theorem dX8_keep_62 : decode cX8_keep 62 = .ok (.aload_n 0, 1) := by decide +kernel
theorem dX8_keep_63 : decode cX8_keep 63 = .ok (.getfield 7, 3) := by decide +kernel
theorem dX8_keep_66 : decode cX8_keep 66 = .ok (.bipush 90, 2) := by decide +kernel
theorem dX8_keep_68 : decode cX8_keep 68 = .ok (.iaload, 1) := by decide +kernel
theorem dX8_keep_69 : decode cX8_keep 69 = .ok (.imul, 1) := by decide +kernel
theorem dX8_keep_70 : decode cX8_keep 70 = .ok (.iadd, 1) := by decide +kernel
theorem dX8_keep_71 : decode cX8_keep 71 = .ok (.istore_n 1, 1) := by decide +kernel
theorem dX8_keep_72 : decode cX8_keep 72 = .ok (.iconst 0, 1) := by decide +kernel
theorem dX8_keep_73 : decode cX8_keep 73 = .ok (.istore_n 2, 1) := by decide +kernel
theorem dX8_keep_74 : decode cX8_keep 74 = .ok (.iload_n 2, 1) := by decide +kernel
theorem dX8_keep_75 : decode cX8_keep 75 = .ok (.iconst 3, 1) := by decide +kernel
theorem dX8_keep_76 : decode cX8_keep 76 = .ok (.if_icmp .ge 25, 3) := by decide +kernel
theorem dX8_keep_79 : decode cX8_keep 79 = .ok (.aload_n 0, 1) := by decide +kernel
theorem dX8_keep_80 : decode cX8_keep 80 = .ok (.getfield 7, 3) := by decide +kernel
theorem dX8_keep_83 : decode cX8_keep 83 = .ok (.iload_n 1, 1) := by decide +kernel
theorem dX8_keep_84 : decode cX8_keep 84 = .ok (.iload_n 2, 1) := by decide +kernel
theorem dX8_keep_85 : decode cX8_keep 85 = .ok (.iadd, 1) := by decide +kernel
theorem dX8_keep_86 : decode cX8_keep 86 = .ok (.aload_n 0, 1) := by decide +kernel
theorem dX8_keep_87 : decode cX8_keep 87 = .ok (.getfield 7, 3) := by decide +kernel
theorem dX8_keep_90 : decode cX8_keep 90 = .ok (.iconst 5, 1) := by decide +kernel
theorem dX8_keep_91 : decode cX8_keep 91 = .ok (.iload_n 2, 1) := by decide +kernel
theorem dX8_keep_92 : decode cX8_keep 92 = .ok (.iadd, 1) := by decide +kernel
theorem dX8_keep_93 : decode cX8_keep 93 = .ok (.iaload, 1) := by decide +kernel
theorem dX8_keep_94 : decode cX8_keep 94 = .ok (.iastore, 1) := by decide +kernel
theorem dX8_keep_95 : decode cX8_keep 95 = .ok (.iinc 2 1, 3) := by decide +kernel
theorem dX8_keep_98 : decode cX8_keep 98 = .ok (.goto (-24), 3) := by decide +kernel
theorem dX8_keep_101 : decode cX8_keep 101 = .ok (.iconst 0, 1) := by decide +kernel
theorem dX8_keep_102 : decode cX8_keep 102 = .ok (.istore_n 2, 1) := by decide +kernel
theorem dX8_keep_103 : decode cX8_keep 103 = .ok (.iload_n 2, 1) := by decide +kernel
theorem dX8_keep_104 : decode cX8_keep 104 = .ok (.bipush 7, 2) := by decide +kernel
theorem dX8_keep_106 : decode cX8_keep 106 = .ok (.if_icmp .ge 28, 3) := by decide +kernel
theorem dX8_keep_109 : decode cX8_keep 109 = .ok (.aload_n 0, 1) := by decide +kernel
theorem dX8_keep_110 : decode cX8_keep 110 = .ok (.getfield 7, 3) := by decide +kernel
theorem dX8_keep_113 : decode cX8_keep 113 = .ok (.iload_n 1, 1) := by decide +kernel
theorem dX8_keep_114 : decode cX8_keep 114 = .ok (.iconst 3, 1) := by decide +kernel
theorem dX8_keep_115 : decode cX8_keep 115 = .ok (.iadd, 1) := by decide +kernel
theorem dX8_keep_116 : decode cX8_keep 116 = .ok (.iload_n 2, 1) := by decide +kernel
theorem dX8_keep_117 : decode cX8_keep 117 = .ok (.iadd, 1) := by decide +kernel
theorem dX8_keep_118 : decode cX8_keep 118 = .ok (.aload_n 0, 1) := by decide +kernel
theorem dX8_keep_119 : decode cX8_keep 119 = .ok (.getfield 7, 3) := by decide +kernel
theorem dX8_keep_122 : decode cX8_keep 122 = .ok (.iload_n 2, 1) := by decide +kernel
theorem dX8_keep_123 : decode cX8_keep 123 = .ok (.iconst 2, 1) := by decide +kernel
theorem dX8_keep_124 : decode cX8_keep 124 = .ok (.invokestatic 55, 3) := by decide +kernel
theorem dX8_keep_127 : decode cX8_keep 127 = .ok (.iastore, 1) := by decide +kernel
theorem dX8_keep_128 : decode cX8_keep 128 = .ok (.iinc 2 1, 3) := by decide +kernel
theorem dX8_keep_131 : decode cX8_keep 131 = .ok (.goto (-28), 3) := by decide +kernel
theorem dX8_keep_134 : decode cX8_keep 134 = .ok (.aload_n 0, 1) := by decide +kernel
theorem dX8_keep_135 : decode cX8_keep 135 = .ok (.getfield 7, 3) := by decide +kernel
theorem dX8_keep_138 : decode cX8_keep 138 = .ok (.bipush 90, 2) := by decide +kernel
theorem dX8_keep_140 : decode cX8_keep 140 = .ok (.dup2, 1) := by decide +kernel
theorem dX8_keep_141 : decode cX8_keep 141 = .ok (.iaload, 1) := by decide +kernel
theorem dX8_keep_142 : decode cX8_keep 142 = .ok (.iconst 1, 1) := by decide +kernel
theorem dX8_keep_143 : decode cX8_keep 143 = .ok (.iadd, 1) := by decide +kernel
theorem dX8_keep_144 : decode cX8_keep 144 = .ok (.iastore, 1) := by decide +kernel
theorem dX8_keep_145 : decode cX8_keep 145 = .ok (.return_, 1) := by decide +kernel
theorem dX8_undo_0 : decode cX8_undo 0 = .ok (.aload_n 0, 1) := by decide +kernel
theorem dX8_undo_1 : decode cX8_undo 1 = .ok (.getfield 7, 3) := by decide +kernel
theorem dX8_undo_4 : decode cX8_undo 4 = .ok (.bipush 90, 2) := by decide +kernel
theorem dX8_undo_6 : decode cX8_undo 6 = .ok (.iaload, 1) := by decide +kernel
theorem dX8_undo_7 : decode cX8_undo 7 = .ok (.ifCond .ne 8, 3) := by decide +kernel
theorem dX8_undo_10 : decode cX8_undo 10 = .ok (.aload_n 0, 1) := by decide +kernel
theorem dX8_undo_11 : decode cX8_undo 11 = .ok (.invokevirtual 200, 3) := by decide +kernel
theorem dX8_undo_14 : decode cX8_undo 14 = .ok (.ireturn, 1) := by decide +kernel
theorem dX8_undo_15 : decode cX8_undo 15 = .ok (.aload_n 0, 1) := by decide +kernel
theorem dX8_undo_16 : decode cX8_undo 16 = .ok (.getfield 7, 3) := by decide +kernel
theorem dX8_undo_19 : decode cX8_undo 19 = .ok (.bipush 90, 2) := by decide +kernel
theorem dX8_undo_21 : decode cX8_undo 21 = .ok (.dup2, 1) := by decide +kernel
