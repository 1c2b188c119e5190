theorem dX8_mark_49 : decode cX8_mark 49 = .ok (.ireturn, 1) := by decide +kernel
theorem dX8_mark_50 : decode cX8_mark 50 = .ok (.aload_n 0, 1) := by decide +kernel
theorem dX8_mark_51 : decode cX8_mark 51 = .ok (.getfield 7, 3) := by decide +kernel
theorem dX8_mark_54 : decode cX8_mark 54 = .ok (.bipush 65, 2) := by decide +kernel
theorem dX8_mark_56 : decode cX8_mark 56 = .ok (.iaload, 1) := by decide +kernel
theorem dX8_mark_57 : decode cX8_mark 57 = .ok (.bipush 6, 2) := by decide +kernel
theorem dX8_mark_59 : decode cX8_mark 59 = .ok (.if_icmp .ne 8, 3) := by decide +kernel
theorem dX8_mark_62 : decode cX8_mark 62 = .ok (.aload_n 0, 1) := by decide +kernel
theorem dX8_mark_63 : decode cX8_mark 63 = .ok (.invokevirtual 109, 3) := by decide +kernel
theorem dX8_mark_66 : decode cX8_mark 66 = .ok (.ireturn, 1) := by decide +kernel
theorem dX8_mark_67 : decode cX8_mark 67 = .ok (.aload_n 0, 1) := by decide +kernel
theorem dX8_mark_68 : decode cX8_mark 68 = .ok (.getfield 7, 3) := by decide +kernel
theorem dX8_mark_71 : decode cX8_mark 71 = .ok (.bipush 65, 2) := by decide +kernel
theorem dX8_mark_73 : decode cX8_mark 73 = .ok (.iconst 4, 1) := by decide +kernel
theorem dX8_mark_74 : decode cX8_mark 74 = .ok (.iload_n 1, 1) := by decide +kernel
theorem dX8_mark_75 : decode cX8_mark 75 = .ok (.iload_n 2, 1) := by decide +kernel
theorem dX8_mark_76 : decode cX8_mark 76 = .ok (.iload_n 3, 1) := by decide +kernel
theorem dX8_mark_77 : decode cX8_mark 77 = .ok (.iload 4, 2) := by decide +kernel
theorem dX8_mark_79 : decode cX8_mark 79 = .ok (.invokestatic 239, 3) := by decide +kernel
theorem dX8_mark_82 : decode cX8_mark 82 = .ok (.aload_n 0, 1) := by decide +kernel
theorem dX8_mark_83 : decode cX8_mark 83 = .ok (.getfield 7, 3) := by decide +kernel
theorem dX8_mark_86 : decode cX8_mark 86 = .ok (.bipush 65, 2) := by decide +kernel
theorem dX8_mark_88 : decode cX8_mark 88 = .ok (.iaload, 1) := by decide +kernel
theorem dX8_mark_89 : decode cX8_mark 89 = .ok (.ireturn, 1) := by decide +kernel
theorem dX8_forget_0 : decode cX8_forget 0 = .ok (.iload_n 1, 1) := by decide +kernel
theorem dX8_forget_1 : decode cX8_forget 1 = .ok (.i2l, 1) := by decide +kernel
theorem dX8_forget_2 : decode cX8_forget 2 = .ok (.lconst 0, 1) := by decide +kernel
theorem dX8_forget_3 : decode cX8_forget 3 = .ok (.ldc2_w 211, 3) := by decide +kernel
theorem dX8_forget_6 : decode cX8_forget 6 = .ok (.invokestatic 46, 3) := by decide +kernel
theorem dX8_forget_9 : decode cX8_forget 9 = .ok (.ifCond .ne 8, 3) := by decide +kernel
theorem dX8_forget_12 : decode cX8_forget 12 = .ok (.aload_n 0, 1) := by decide +kernel
theorem dX8_forget_13 : decode cX8_forget 13 = .ok (.invokevirtual 101, 3) := by decide +kernel
theorem dX8_forget_16 : decode cX8_forget 16 = .ok (.ireturn, 1) := by decide +kernel
theorem dX8_forget_17 : decode cX8_forget 17 = .ok (.iload_n 1, 1) := by decide +kernel
theorem dX8_forget_18 : decode cX8_forget 18 = .ok (.ifCond .ne 8, 3) := by decide +kernel
theorem dX8_forget_21 : decode cX8_forget 21 = .ok (.bipush 30, 2) := by decide +kernel
theorem dX8_forget_23 : decode cX8_forget 23 = .ok (.goto 15, 3) := by decide +kernel
theorem dX8_forget_26 : decode cX8_forget 26 = .ok (.iload_n 1, 1) := by decide +kernel
theorem dX8_forget_27 : decode cX8_forget 27 = .ok (.iconst 1, 1) := by decide +kernel
theorem dX8_forget_28 : decode cX8_forget 28 = .ok (.if_icmp .ne 8, 3) := by decide +kernel
theorem dX8_forget_31 : decode cX8_forget 31 = .ok (.bipush 46, 2) := by decide +kernel
theorem dX8_forget_33 : decode cX8_forget 33 = .ok (.goto 5, 3) := by decide +kernel
theorem dX8_forget_36 : decode cX8_forget 36 = .ok (.bipush 65, 2) := by decide +kernel
theorem dX8_forget_38 : decode cX8_forget 38 = .ok (.istore_n 2, 1) := by decide +kernel
theorem dX8_forget_39 : decode cX8_forget 39 = .ok (.aload_n 0, 1) := by decide +kernel
theorem dX8_forget_40 : decode cX8_forget 40 = .ok (.getfield 7, 3) := by decide +kernel
theorem dX8_forget_43 : decode cX8_forget 43 = .ok (.iload_n 2, 1) := by decide +kernel
theorem dX8_forget_44 : decode cX8_forget 44 = .ok (.iaload, 1) := by decide +kernel
theorem dX8_forget_45 : decode cX8_forget 45 = .ok (.istore_n 3, 1) := by decide +kernel
theorem dX8_forget_46 : decode cX8_forget 46 = .ok (.aload_n 0, 1) := by decide +kernel
theorem dX8_forget_47 : decode cX8_forget 47 = .ok (.getfield 7, 3) := by decide +kernel
theorem dX8_forget_50 : decode cX8_forget 50 = .ok (.iload_n 2, 1) := by decide +kernel
theorem dX8_forget_51 : decode cX8_forget 51 = .ok (.iconst 0, 1) := by decide +kernel
theorem dX8_forget_52 : decode cX8_forget 52 = .ok (.iastore, 1) := by decide +kernel
theorem dX8_forget_53 : decode cX8_forget 53 = .ok (.iload_n 3, 1) := by decide +kernel
theorem dX8_forget_54 : decode cX8_forget 54 = .ok (.ireturn, 1) := by decide +kernel
theorem dX8_isBits_0 : decode cX8_isBits 0 = .ok (.iconst 0, 1) := by decide +kernel
theorem dX8_isBits_1 : decode cX8_isBits 1 = .ok (.istore_n 2, 1) := by decide +kernel
theorem dX8_isBits_2 : decode cX8_isBits 2 = .ok (.iconst 0, 1) := by decide +kernel
theorem dX8_isBits_3 : decode cX8_isBits 3 = .ok (.istore_n 3, 1) := by decide +kernel
theorem dX8_isBits_4 : decode cX8_isBits 4 = .ok (.iload_n 3, 1) := by decide +kernel
theorem dX8_isBits_5 : decode cX8_isBits 5 = .ok (.bipush 6, 2) := by decide +kernel
theorem dX8_isBits_7 : decode cX8_isBits 7 = .ok (.if_icmp .ge 101, 3) := by decide +kernel
theorem dX8_isBits_10 : decode cX8_isBits 10 = .ok (.iconst 1, 1) := by decide +kernel
theorem dX8_isBits_11 : decode cX8_isBits 11 = .ok (.istore 4, 2) := by decide +kernel
theorem dX8_isBits_13 : decode cX8_isBits 13 = .ok (.iconst 0, 1) := by decide +kernel
theorem dX8_isBits_14 : decode cX8_isBits 14 = .ok (.istore 5, 2) := by decide +kernel
theorem dX8_isBits_16 : decode cX8_isBits 16 = .ok (.iload 5, 2) := by decide +kernel
theorem dX8_isBits_18 : decode cX8_isBits 18 = .ok (.aload_n 0, 1) := by decide +kernel
theorem dX8_isBits_19 : decode cX8_isBits 19 = .ok (.getfield 7, 3) := by decide +kernel
theorem dX8_isBits_22 : decode cX8_isBits 22 = .ok (.bipush 46, 2) := by decide +kernel
theorem dX8_isBits_24 : decode cX8_isBits 24 = .ok (.iaload, 1) := by decide +kernel
theorem dX8_isBits_25 : decode cX8_isBits 25 = .ok (.if_icmp .ge 62, 3) := by decide +kernel
theorem dX8_isBits_28 : decode cX8_isBits 28 = .ok (.iload 4, 2) := by decide +kernel
theorem dX8_isBits_30 : decode cX8_isBits 30 = .ok (.ifCond .eq 48, 3) := by decide +kernel
theorem dX8_isBits_33 : decode cX8_isBits 33 = .ok (.aload_n 0, 1) := by decide +kernel
theorem dX8_isBits_34 : decode cX8_isBits 34 = .ok (.bipush 46, 2) := by decide +kernel
theorem dX8_isBits_36 : decode cX8_isBits 36 = .ok (.iconst 3, 1) := by decide +kernel
theorem dX8_isBits_37 : decode cX8_isBits 37 = .ok (.iload 5, 2) := by decide +kernel
theorem dX8_isBits_39 : decode cX8_isBits 39 = .ok (.iconst 0, 1) := by decide +kernel
theorem dX8_isBits_40 : decode cX8_isBits 40 = .ok (.invokevirtual 243, 3) := by decide +kernel
theorem dX8_isBits_43 : decode cX8_isBits 43 = .ok (.iload_n 1, 1) := by decide +kernel
theorem dX8_isBits_44 : decode cX8_isBits 44 = .ok (.if_icmp .ne 30, 3) := by decide +kernel
theorem dX8_isBits_47 : decode cX8_isBits 47 = .ok (.iload_n 3, 1) := by decide +kernel
theorem dX8_isBits_48 : decode cX8_isBits 48 = .ok (.aload_n 0, 1) := by decide +kernel
theorem dX8_isBits_49 : decode cX8_isBits 49 = .ok (.bipush 46, 2) := by decide +kernel
theorem dX8_isBits_51 : decode cX8_isBits 51 = .ok (.iconst 3, 1) := by decide +kernel
theorem dX8_isBits_52 : decode cX8_isBits 52 = .ok (.iload 5, 2) := by decide +kernel
theorem dX8_isBits_54 : decode cX8_isBits 54 = .ok (.iconst 1, 1) := by decide +kernel
theorem dX8_isBits_55 : decode cX8_isBits 55 = .ok (.invokevirtual 243, 3) := by decide +kernel
theorem dX8_isBits_58 : decode cX8_isBits 58 = .ok (.invokestatic 77, 3) := by decide +kernel
theorem dX8_isBits_61 : decode cX8_isBits 61 = .ok (.aload_n 0, 1) := by decide +kernel
theorem dX8_isBits_62 : decode cX8_isBits 62 = .ok (.bipush 46, 2) := by decide +kernel
theorem dX8_isBits_64 : decode cX8_isBits 64 = .ok (.iconst 3, 1) := by decide +kernel
theorem dX8_isBits_65 : decode cX8_isBits 65 = .ok (.iload 5, 2) := by decide +kernel
theorem dX8_isBits_67 : decode cX8_isBits 67 = .ok (.iconst 2, 1) := by decide +kernel
theorem dX8_isBits_68 : decode cX8_isBits 68 = .ok (.invokevirtual 243, 3) := by decide +kernel
theorem dX8_isBits_71 : decode cX8_isBits 71 = .ok (.if_icmp .ne 7, 3) := by decide +kernel
theorem dX8_isBits_74 : decode cX8_isBits 74 = .ok (.iconst 1, 1) := by decide +kernel
theorem dX8_isBits_75 : decode cX8_isBits 75 = .ok (.goto 4, 3) := by decide +kernel
theorem dX8_isBits_78 : decode cX8_isBits 78 = .ok (.iconst 0, 1) := by decide +kernel
theorem dX8_isBits_79 : decode cX8_isBits 79 = .ok (.istore 4, 2) := by decide +kernel
theorem dX8_isBits_81 : decode cX8_isBits 81 = .ok (.iinc 5 1, 3) := by decide +kernel
theorem dX8_isBits_84 : decode cX8_isBits 84 = .ok (.goto (-68), 3) := by decide +kernel
theorem dX8_isBits_87 : decode cX8_isBits 87 = .ok (.iload_n 2, 1) := by decide +kernel
theorem dX8_isBits_88 : decode cX8_isBits 88 = .ok (.iload 4, 2) := by decide +kernel
theorem dX8_isBits_90 : decode cX8_isBits 90 = .ok (.ifCond .eq 9, 3) := by decide +kernel
theorem dX8_isBits_93 : decode cX8_isBits 93 = .ok (.iconst 1, 1) := by decide +kernel
theorem dX8_isBits_94 : decode cX8_isBits 94 = .ok (.iload_n 3, 1) := by decide +kernel
theorem dX8_isBits_95 : decode cX8_isBits 95 = .ok (.ishl, 1) := by decide +kernel
theorem dX8_isBits_96 : decode cX8_isBits 96 = .ok (.goto 4, 3) := by decide +kernel
theorem dX8_isBits_99 : decode cX8_isBits 99 = .ok (.iconst 0, 1) := by decide +kernel
theorem dX8_isBits_100 : decode cX8_isBits 100 = .ok (.ior, 1) := by decide +kernel
theorem dX8_isBits_101 : decode cX8_isBits 101 = .ok (.istore_n 2, 1) := by decide +kernel
theorem dX8_isBits_102 : decode cX8_isBits 102 = .ok (.iinc 3 1, 3) := by decide +kernel
theorem dX8_isBits_105 : decode cX8_isBits 105 = .ok (.goto (-101), 3) := by decide +kernel
theorem dX8_isBits_108 : decode cX8_isBits 108 = .ok (.iload_n 2, 1) := by decide +kernel
theorem dX8_isBits_109 : decode cX8_isBits 109 = .ok (.ireturn, 1) := by decide +kernel
theorem dX8_is_0 : decode cX8_is 0 = .ok (.iload_n 1, 1) := by decide +kernel
theorem dX8_is_1 : decode cX8_is 1 = .ok (.i2l, 1) := by decide +kernel
theorem dX8_is_2 : decode cX8_is 2 = .ok (.lconst 0, 1) := by decide +kernel
theorem dX8_is_3 : decode cX8_is 3 = .ok (.ldc2_w 97, 3) := by decide +kernel
theorem dX8_is_6 : decode cX8_is 6 = .ok (.invokestatic 46, 3) := by decide +kernel
theorem dX8_is_9 : decode cX8_is 9 = .ok (.ifCond .eq 11, 3) := by decide +kernel
theorem dX8_is_12 : decode cX8_is 12 = .ok (.aload_n 0, 1) := by decide +kernel
theorem dX8_is_13 : decode cX8_is 13 = .ok (.iload_n 1, 1) := by decide +kernel
theorem dX8_is_14 : decode cX8_is 14 = .ok (.invokevirtual 261, 3) := by decide +kernel
theorem dX8_is_17 : decode cX8_is 17 = .ok (.goto 7, 3) := by decide +kernel
theorem dX8_is_20 : decode cX8_is 20 = .ok (.aload_n 0, 1) := by decide +kernel
theorem dX8_is_21 : decode cX8_is 21 = .ok (.invokevirtual 101, 3) := by decide +kernel
theorem dX8_is_24 : decode cX8_is 24 = .ok (.ireturn, 1) := by decide +kernel
theorem dX8_look_0 : decode cX8_look 0 = .ok (.iload_n 1, 1) := by decide +kernel
theorem dX8_look_1 : decode cX8_look 1 = .ok (.i2l, 1) := by decide +kernel
theorem dX8_look_2 : decode cX8_look 2 = .ok (.lconst 0, 1) := by decide +kernel
theorem dX8_look_3 : decode cX8_look 3 = .ok (.ldc2_w 97, 3) := by decide +kernel
theorem dX8_look_6 : decode cX8_look 6 = .ok (.invokestatic 46, 3) := by decide +kernel
theorem dX8_look_9 : decode cX8_look 9 = .ok (.ifCond .ne 8, 3) := by decide +kernel
theorem dX8_look_12 : decode cX8_look 12 = .ok (.aload_n 0, 1) := by decide +kernel
theorem dX8_look_13 : decode cX8_look 13 = .ok (.invokevirtual 101, 3) := by decide +kernel
theorem dX8_look_16 : decode cX8_look 16 = .ok (.ireturn, 1) := by decide +kernel
theorem dX8_look_17 : decode cX8_look 17 = .ok (.aload_n 0, 1) := by decide +kernel
theorem dX8_look_18 : decode cX8_look 18 = .ok (.iload_n 1, 1) := by decide +kernel
theorem dX8_look_19 : decode cX8_look 19 = .ok (.invokevirtual 261, 3) := by decide +kernel
theorem dX8_look_22 : decode cX8_look 22 = .ok (.istore_n 2, 1) := by decide +kernel
theorem dX8_look_23 : decode cX8_look 23 = .ok (.iconst (-1), 1) := by decide +kernel
theorem dX8_look_24 : decode cX8_look 24 = .ok (.istore_n 3, 1) := by decide +kernel
theorem dX8_look_25 : decode cX8_look 25 = .ok (.bipush 9, 2) := by decide +kernel
theorem dX8_look_27 : decode cX8_look 27 = .ok (.istore 4, 2) := by decide +kernel
theorem dX8_look_29 : decode cX8_look 29 = .ok (.iconst 0, 1) := by decide +kernel
theorem dX8_look_30 : decode cX8_look 30 = .ok (.istore 5, 2) := by decide +kernel
theorem dX8_look_32 : decode cX8_look 32 = .ok (.iload 5, 2) := by decide +kernel
theorem dX8_look_34 : decode cX8_look 34 = .ok (.bipush 6, 2) := by decide +kernel
theorem dX8_look_36 : decode cX8_look 36 = .ok (.if_icmp .ge 76, 3) := by decide +kernel
theorem dX8_look_39 : decode cX8_look 39 = .ok (.iload_n 2, 1) := by decide +kernel
theorem dX8_look_40 : decode cX8_look 40 = .ok (.ifCond .eq 72, 3) := by decide +kernel
theorem dX8_look_43 : decode cX8_look 43 = .ok (.aload_n 0, 1) := by decide +kernel
theorem dX8_look_44 : decode cX8_look 44 = .ok (.invokevirtual 253, 3) := by decide +kernel
theorem dX8_look_47 : decode cX8_look 47 = .ok (.iconst 0, 1) := by decide +kernel
theorem dX8_look_48 : decode cX8_look 48 = .ok (.istore 6, 2) := by decide +kernel
theorem dX8_look_50 : decode cX8_look 50 = .ok (.iload 6, 2) := by decide +kernel
theorem dX8_look_52 : decode cX8_look 52 = .ok (.bipush 6, 2) := by decide +kernel
theorem dX8_look_54 : decode cX8_look 54 = .ok (.if_icmp .ge 34, 3) := by decide +kernel
theorem dX8_look_57 : decode cX8_look 57 = .ok (.iload_n 2, 1) := by decide +kernel
theorem dX8_look_58 : decode cX8_look 58 = .ok (.iload 6, 2) := by decide +kernel
theorem dX8_look_60 : decode cX8_look 60 = .ok (.invokestatic 66, 3) := by decide +kernel
theorem dX8_look_63 : decode cX8_look 63 = .ok (.ifCond .eq 19, 3) := by decide +kernel
theorem dX8_look_66 : decode cX8_look 66 = .ok (.aload_n 0, 1) := by decide +kernel
theorem dX8_look_67 : decode cX8_look 67 = .ok (.getfield 43, 3) := by decide +kernel
theorem dX8_look_70 : decode cX8_look 70 = .ok (.iload 6, 2) := by decide +kernel
theorem dX8_look_72 : decode cX8_look 72 = .ok (.iload 5, 2) := by decide +kernel
theorem dX8_look_74 : decode cX8_look 74 = .ok (.invokestatic 77, 3) := by decide +kernel
theorem dX8_look_77 : decode cX8_look 77 = .ok (.dup2, 1) := by decide +kernel
theorem dX8_look_78 : decode cX8_look 78 = .ok (.iaload, 1) := by decide +kernel
theorem dX8_look_79 : decode cX8_look 79 = .ok (.iconst 1, 1) := by decide +kernel
theorem dX8_look_80 : decode cX8_look 80 = .ok (.iadd, 1) := by decide +kernel
theorem dX8_look_81 : decode cX8_look 81 = .ok (.iastore, 1) := by decide +kernel
theorem dX8_look_82 : decode cX8_look 82 = .ok (.iinc 6 1, 3) := by decide +kernel
theorem dX8_look_85 : decode cX8_look 85 = .ok (.goto (-35), 3) := by decide +kernel
theorem dX8_look_88 : decode cX8_look 88 = .ok (.aload_n 0, 1) := by decide +kernel
theorem dX8_look_89 : decode cX8_look 89 = .ok (.invokevirtual 256, 3) := by decide +kernel
theorem dX8_look_92 : decode cX8_look 92 = .ok (.iload 4, 2) := by decide +kernel
theorem dX8_look_94 : decode cX8_look 94 = .ok (.if_icmp .ge 12, 3) := by decide +kernel
theorem dX8_look_97 : decode cX8_look 97 = .ok (.aload_n 0, 1) := by decide +kernel
theorem dX8_look_98 : decode cX8_look 98 = .ok (.invokevirtual 256, 3) := by decide +kernel
theorem dX8_look_101 : decode cX8_look 101 = .ok (.istore 4, 2) := by decide +kernel
theorem dX8_look_103 : decode cX8_look 103 = .ok (.iload 5, 2) := by decide +kernel
theorem dX8_look_105 : decode cX8_look 105 = .ok (.istore_n 3, 1) := by decide +kernel
theorem dX8_look_106 : decode cX8_look 106 = .ok (.iinc 5 1, 3) := by decide +kernel
theorem dX8_look_109 : decode cX8_look 109 = .ok (.goto (-77), 3) := by decide +kernel
theorem dX8_look_112 : decode cX8_look 112 = .ok (.iload_n 3, 1) := by decide +kernel
theorem dX8_look_113 : decode cX8_look 113 = .ok (.ireturn, 1) := by decide +kernel
theorem dX8_whatBits_0 : decode cX8_whatBits 0 = .ok (.iconst 0, 1) := by decide +kernel
theorem dX8_whatBits_1 : decode cX8_whatBits 1 = .ok (.istore_n 2, 1) := by decide +kernel
theorem dX8_whatBits_2 : decode cX8_whatBits 2 = .ok (.iconst 0, 1) := by decide +kernel
theorem dX8_whatBits_3 : decode cX8_whatBits 3 = .ok (.istore_n 3, 1) := by decide +kernel
theorem dX8_whatBits_4 : decode cX8_whatBits 4 = .ok (.iload_n 3, 1) := by decide +kernel
theorem dX8_whatBits_5 : decode cX8_whatBits 5 = .ok (.bipush 6, 2) := by decide +kernel
theorem dX8_whatBits_7 : decode cX8_whatBits 7 = .ok (.if_icmp .ge 111, 3) := by decide +kernel
theorem dX8_whatBits_10 : decode cX8_whatBits 10 = .ok (.iconst 1, 1) := by decide +kernel
theorem dX8_whatBits_11 : decode cX8_whatBits 11 = .ok (.istore 4, 2) := by decide +kernel
theorem dX8_whatBits_13 : decode cX8_whatBits 13 = .ok (.iconst 0, 1) := by decide +kernel
theorem dX8_whatBits_14 : decode cX8_whatBits 14 = .ok (.istore 5, 2) := by decide +kernel
theorem dX8_whatBits_16 : decode cX8_whatBits 16 = .ok (.iload 5, 2) := by decide +kernel
theorem dX8_whatBits_18 : decode cX8_whatBits 18 = .ok (.aload_n 0, 1) := by decide +kernel
theorem dX8_whatBits_19 : decode cX8_whatBits 19 = .ok (.getfield 7, 3) := by decide +kernel
theorem dX8_whatBits_22 : decode cX8_whatBits 22 = .ok (.bipush 65, 2) := by decide +kernel
theorem dX8_whatBits_24 : decode cX8_whatBits 24 = .ok (.iaload, 1) := by decide +kernel
theorem dX8_whatBits_25 : decode cX8_whatBits 25 = .ok (.if_icmp .ge 72, 3) := by decide +kernel
theorem dX8_whatBits_28 : decode cX8_whatBits 28 = .ok (.iload 4, 2) := by decide +kernel
theorem dX8_whatBits_30 : decode cX8_whatBits 30 = .ok (.ifCond .eq 58, 3) := by decide +kernel
theorem dX8_whatBits_33 : decode cX8_whatBits 33 = .ok (.aload_n 0, 1) := by decide +kernel
theorem dX8_whatBits_34 : decode cX8_whatBits 34 = .ok (.bipush 65, 2) := by decide +kernel
theorem dX8_whatBits_36 : decode cX8_whatBits 36 = .ok (.iconst 4, 1) := by decide +kernel
theorem dX8_whatBits_37 : decode cX8_whatBits 37 = .ok (.iload 5, 2) := by decide +kernel
theorem dX8_whatBits_39 : decode cX8_whatBits 39 = .ok (.iconst 0, 1) := by decide +kernel
theorem dX8_whatBits_40 : decode cX8_whatBits 40 = .ok (.invokevirtual 243, 3) := by decide +kernel
theorem dX8_whatBits_43 : decode cX8_whatBits 43 = .ok (.iload_n 1, 1) := by decide +kernel
theorem dX8_whatBits_44 : decode cX8_whatBits 44 = .ok (.if_icmp .ne 40, 3) := by decide +kernel
theorem dX8_whatBits_47 : decode cX8_whatBits 47 = .ok (.iload_n 3, 1) := by decide +kernel
theorem dX8_whatBits_48 : decode cX8_whatBits 48 = .ok (.aload_n 0, 1) := by decide +kernel
theorem dX8_whatBits_49 : decode cX8_whatBits 49 = .ok (.bipush 65, 2) := by decide +kernel
theorem dX8_whatBits_51 : decode cX8_whatBits 51 = .ok (.iconst 4, 1) := by decide +kernel
theorem dX8_whatBits_52 : decode cX8_whatBits 52 = .ok (.iload 5, 2) := by decide +kernel
theorem dX8_whatBits_54 : decode cX8_whatBits 54 = .ok (.iconst 1, 1) := by decide +kernel
theorem dX8_whatBits_55 : decode cX8_whatBits 55 = .ok (.invokevirtual 243, 3) := by decide +kernel
theorem dX8_whatBits_58 : decode cX8_whatBits 58 = .ok (.aload_n 0, 1) := by decide +kernel
theorem dX8_whatBits_59 : decode cX8_whatBits 59 = .ok (.bipush 65, 2) := by decide +kernel
theorem dX8_whatBits_61 : decode cX8_whatBits 61 = .ok (.iconst 4, 1) := by decide +kernel
theorem dX8_whatBits_62 : decode cX8_whatBits 62 = .ok (.iload 5, 2) := by decide +kernel
theorem dX8_whatBits_64 : decode cX8_whatBits 64 = .ok (.iconst 2, 1) := by decide +kernel
theorem dX8_whatBits_65 : decode cX8_whatBits 65 = .ok (.invokevirtual 243, 3) := by decide +kernel
theorem dX8_whatBits_68 : decode cX8_whatBits 68 = .ok (.invokestatic 73, 3) := by decide +kernel
theorem dX8_whatBits_71 : decode cX8_whatBits 71 = .ok (.aload_n 0, 1) := by decide +kernel
theorem dX8_whatBits_72 : decode cX8_whatBits 72 = .ok (.bipush 65, 2) := by decide +kernel
theorem dX8_whatBits_74 : decode cX8_whatBits 74 = .ok (.iconst 4, 1) := by decide +kernel
theorem dX8_whatBits_75 : decode cX8_whatBits 75 = .ok (.iload 5, 2) := by decide +kernel
theorem dX8_whatBits_77 : decode cX8_whatBits 77 = .ok (.iconst 3, 1) := by decide +kernel
theorem dX8_whatBits_78 : decode cX8_whatBits 78 = .ok (.invokevirtual 243, 3) := by decide +kernel
theorem dX8_whatBits_81 : decode cX8_whatBits 81 = .ok (.if_icmp .ne 7, 3) := by decide +kernel
theorem dX8_whatBits_84 : decode cX8_whatBits 84 = .ok (.iconst 1, 1) := by decide +kernel
theorem dX8_whatBits_85 : decode cX8_whatBits 85 = .ok (.goto 4, 3) := by decide +kernel
theorem dX8_whatBits_88 : decode cX8_whatBits 88 = .ok (.iconst 0, 1) := by decide +kernel
theorem dX8_whatBits_89 : decode cX8_whatBits 89 = .ok (.istore 4, 2) := by decide +kernel
theorem dX8_whatBits_91 : decode cX8_whatBits 91 = .ok (.iinc 5 1, 3) := by decide +kernel
theorem dX8_whatBits_94 : decode cX8_whatBits 94 = .ok (.goto (-78), 3) := by decide +kernel
theorem dX8_whatBits_97 : decode cX8_whatBits 97 = .ok (.iload_n 2, 1) := by decide +kernel
theorem dX8_whatBits_98 : decode cX8_whatBits 98 = .ok (.iload 4, 2) := by decide +kernel
theorem dX8_whatBits_100 : decode cX8_whatBits 100 = .ok (.ifCond .eq 9, 3) := by decide +kernel
theorem dX8_whatBits_103 : decode cX8_whatBits 103 = .ok (.iconst 1, 1) := by decide +kernel
theorem dX8_whatBits_104 : decode cX8_whatBits 104 = .ok (.iload_n 3, 1) := by decide +kernel
theorem dX8_whatBits_105 : decode cX8_whatBits 105 = .ok (.ishl, 1) := by decide +kernel
theorem dX8_whatBits_106 : decode cX8_whatBits 106 = .ok (.goto 4, 3) := by decide +kernel
theorem dX8_whatBits_109 : decode cX8_whatBits 109 = .ok (.iconst 0, 1) := by decide +kernel
theorem dX8_whatBits_110 : decode cX8_whatBits 110 = .ok (.ior, 1) := by decide +kernel
theorem dX8_whatBits_111 : decode cX8_whatBits 111 = .ok (.istore_n 2, 1) := by decide +kernel
theorem dX8_whatBits_112 : decode cX8_whatBits 112 = .ok (.iinc 3 1, 3) := by decide +kernel
theorem dX8_whatBits_115 : decode cX8_whatBits 115 = .ok (.goto (-111), 3) := by decide +kernel
theorem dX8_whatBits_118 : decode cX8_whatBits 118 = .ok (.iload_n 2, 1) := by decide +kernel
theorem dX8_whatBits_119 : decode cX8_whatBits 119 = .ok (.ireturn, 1) := by decide +kernel
theorem dX8_kinds_0 : decode cX8_kinds 0 = .ok (.aload_n 0, 1) := by decide +kernel
theorem dX8_kinds_1 : decode cX8_kinds 1 = .ok (.iload_n 1, 1) := by decide +kernel
theorem dX8_kinds_2 : decode cX8_kinds 2 = .ok (.invokevirtual 203, 3) := by decide +kernel
theorem dX8_kinds_5 : decode cX8_kinds 5 = .ok (.ifCond .eq 11, 3) := by decide +kernel
theorem dX8_kinds_8 : decode cX8_kinds 8 = .ok (.aload_n 0, 1) := by decide +kernel
theorem dX8_kinds_9 : decode cX8_kinds 9 = .ok (.iload_n 1, 1) := by decide +kernel
theorem dX8_kinds_10 : decode cX8_kinds 10 = .ok (.invokevirtual 264, 3) := by decide +kernel
theorem dX8_kinds_13 : decode cX8_kinds 13 = .ok (.goto 7, 3) := by decide +kernel
theorem dX8_kinds_16 : decode cX8_kinds 16 = .ok (.aload_n 0, 1) := by decide +kernel
theorem dX8_kinds_17 : decode cX8_kinds 17 = .ok (.invokevirtual 101, 3) := by decide +kernel
theorem dX8_kinds_20 : decode cX8_kinds 20 = .ok (.ireturn, 1) := by decide +kernel
theorem dX8_ask_0 : decode cX8_ask 0 = .ok (.aload_n 0, 1) := by decide +kernel
theorem dX8_ask_1 : decode cX8_ask 1 = .ok (.iload_n 1, 1) := by decide +kernel
theorem dX8_ask_2 : decode cX8_ask 2 = .ok (.invokevirtual 203, 3) := by decide +kernel
theorem dX8_ask_5 : decode cX8_ask 5 = .ok (.ifCond .ne 8, 3) := by decide +kernel
theorem dX8_ask_8 : decode cX8_ask 8 = .ok (.aload_n 0, 1) := by decide +kernel
theorem dX8_ask_9 : decode cX8_ask 9 = .ok (.invokevirtual 101, 3) := by decide +kernel
theorem dX8_ask_12 : decode cX8_ask 12 = .ok (.ireturn, 1) := by decide +kernel
theorem dX8_ask_13 : decode cX8_ask 13 = .ok (.aload_n 0, 1) := by decide +kernel
theorem dX8_ask_14 : decode cX8_ask 14 = .ok (.iload_n 1, 1) := by decide +kernel
theorem dX8_ask_15 : decode cX8_ask 15 = .ok (.invokevirtual 264, 3) := by decide +kernel
theorem dX8_ask_18 : decode cX8_ask 18 = .ok (.istore_n 2, 1) := by decide +kernel
theorem dX8_ask_19 : decode cX8_ask 19 = .ok (.iconst (-1), 1) := by decide +kernel
theorem dX8_ask_20 : decode cX8_ask 20 = .ok (.istore_n 3, 1) := by decide +kernel
theorem dX8_ask_21 : decode cX8_ask 21 = .ok (.bipush 9, 2) := by decide +kernel
theorem dX8_ask_23 : decode cX8_ask 23 = .ok (.istore 4, 2) := by decide +kernel
theorem dX8_ask_25 : decode cX8_ask 25 = .ok (.iconst 0, 1) := by decide +kernel
theorem dX8_ask_26 : decode cX8_ask 26 = .ok (.istore 5, 2) := by decide +kernel
theorem dX8_ask_28 : decode cX8_ask 28 = .ok (.iload 5, 2) := by decide +kernel
theorem dX8_ask_30 : decode cX8_ask 30 = .ok (.bipush 6, 2) := by decide +kernel
theorem dX8_ask_32 : decode cX8_ask 32 = .ok (.if_icmp .ge 100, 3) := by decide +kernel
theorem dX8_ask_35 : decode cX8_ask 35 = .ok (.iconst 0, 1) := by decide +kernel
theorem dX8_ask_36 : decode cX8_ask 36 = .ok (.istore 6, 2) := by decide +kernel
theorem dX8_ask_38 : decode cX8_ask 38 = .ok (.iload 6, 2) := by decide +kernel
theorem dX8_ask_40 : decode cX8_ask 40 = .ok (.bipush 11, 2) := by decide +kernel
theorem dX8_ask_42 : decode cX8_ask 42 = .ok (.if_icmp .ge 84, 3) := by decide +kernel
theorem dX8_ask_45 : decode cX8_ask 45 = .ok (.iload_n 2, 1) := by decide +kernel
theorem dX8_ask_46 : decode cX8_ask 46 = .ok (.ifCond .eq 80, 3) := by decide +kernel
theorem dX8_ask_49 : decode cX8_ask 49 = .ok (.aload_n 0, 1) := by decide +kernel
theorem dX8_ask_50 : decode cX8_ask 50 = .ok (.invokevirtual 253, 3) := by decide +kernel
theorem dX8_ask_53 : decode cX8_ask 53 = .ok (.iconst 0, 1) := by decide +kernel
theorem dX8_ask_54 : decode cX8_ask 54 = .ok (.istore 7, 2) := by decide +kernel
theorem dX8_ask_56 : decode cX8_ask 56 = .ok (.iload 7, 2) := by decide +kernel
theorem dX8_ask_58 : decode cX8_ask 58 = .ok (.bipush 6, 2) := by decide +kernel
theorem dX8_ask_60 : decode cX8_ask 60 = .ok (.if_icmp .ge 36, 3) := by decide +kernel
theorem dX8_ask_63 : decode cX8_ask 63 = .ok (.iload_n 2, 1) := by decide +kernel
theorem dX8_ask_64 : decode cX8_ask 64 = .ok (.iload 7, 2) := by decide +kernel
theorem dX8_ask_66 : decode cX8_ask 66 = .ok (.invokestatic 66, 3) := by decide +kernel
theorem dX8_ask_69 : decode cX8_ask 69 = .ok (.ifCond .eq 21, 3) := by decide +kernel
theorem dX8_ask_72 : decode cX8_ask 72 = .ok (.aload_n 0, 1) := by decide +kernel
theorem dX8_ask_73 : decode cX8_ask 73 = .ok (.getfield 43, 3) := by decide +kernel
theorem dX8_ask_76 : decode cX8_ask 76 = .ok (.iload 7, 2) := by decide +kernel
theorem dX8_ask_78 : decode cX8_ask 78 = .ok (.iload 5, 2) := by decide +kernel
theorem dX8_ask_80 : decode cX8_ask 80 = .ok (.iload 6, 2) := by decide +kernel
theorem dX8_ask_82 : decode cX8_ask 82 = .ok (.invokestatic 73, 3) := by decide +kernel
theorem dX8_ask_85 : decode cX8_ask 85 = .ok (.dup2, 1) := by decide +kernel
theorem dX8_ask_86 : decode cX8_ask 86 = .ok (.iaload, 1) := by decide +kernel
theorem dX8_ask_87 : decode cX8_ask 87 = .ok (.iconst 1, 1) := by decide +kernel
theorem dX8_ask_88 : decode cX8_ask 88 = .ok (.iadd, 1) := by decide +kernel
theorem dX8_ask_89 : decode cX8_ask 89 = .ok (.iastore, 1) := by decide +kernel
theorem dX8_ask_90 : decode cX8_ask 90 = .ok (.iinc 7 1, 3) := by decide +kernel
theorem dX8_ask_93 : decode cX8_ask 93 = .ok (.goto (-37), 3) := by decide +kernel
theorem dX8_ask_96 : decode cX8_ask 96 = .ok (.aload_n 0, 1) := by decide +kernel
theorem dX8_ask_97 : decode cX8_ask 97 = .ok (.invokevirtual 256, 3) := by decide +kernel
theorem dX8_ask_100 : decode cX8_ask 100 = .ok (.iload 4, 2) := by decide +kernel
theorem dX8_ask_102 : decode cX8_ask 102 = .ok (.if_icmp .ge 18, 3) := by decide +kernel
theorem dX8_ask_105 : decode cX8_ask 105 = .ok (.aload_n 0, 1) := by decide +kernel
theorem dX8_ask_106 : decode cX8_ask 106 = .ok (.invokevirtual 256, 3) := by decide +kernel
theorem dX8_ask_109 : decode cX8_ask 109 = .ok (.istore 4, 2) := by decide +kernel
theorem dX8_ask_111 : decode cX8_ask 111 = .ok (.bipush 100, 2) := by decide +kernel
theorem dX8_ask_113 : decode cX8_ask 113 = .ok (.iload 5, 2) := by decide +kernel
theorem dX8_ask_115 : decode cX8_ask 115 = .ok (.imul, 1) := by decide +kernel
theorem dX8_ask_116 : decode cX8_ask 116 = .ok (.iload 6, 2) := by decide +kernel
theorem dX8_ask_118 : decode cX8_ask 118 = .ok (.iadd, 1) := by decide +kernel
theorem dX8_ask_119 : decode cX8_ask 119 = .ok (.istore_n 3, 1) := by decide +kernel
theorem dX8_ask_120 : decode cX8_ask 120 = .ok (.iinc 6 1, 3) := by decide +kernel
theorem dX8_ask_123 : decode cX8_ask 123 = .ok (.goto (-85), 3) := by decide +kernel
theorem dX8_ask_126 : decode cX8_ask 126 = .ok (.iinc 5 1, 3) := by decide +kernel
theorem dX8_ask_129 : decode cX8_ask 129 = .ok (.goto (-101), 3) := by decide +kernel
theorem dX8_ask_132 : decode cX8_ask 132 = .ok (.iload_n 3, 1) := by decide +kernel
theorem dX8_ask_133 : decode cX8_ask 133 = .ok (.ireturn, 1) := by decide +kernel
theorem dX8_has0_0 : decode cX8_has0 0 = .ok (.aload_n 0, 1) := by decide +kernel
theorem dX8_has0_1 : decode cX8_has0 1 = .ok (.getfield 7, 3) := by decide +kernel
theorem dX8_has0_4 : decode cX8_has0 4 = .ok (.iload_n 2, 1) := by decide +kernel
theorem dX8_has0_5 : decode cX8_has0 5 = .ok (.invokestatic 213, 3) := by decide +kernel
theorem dX8_has0_8 : decode cX8_has0 8 = .ok (.istore 5, 2) := by decide +kernel
theorem dX8_has0_10 : decode cX8_has0 10 = .ok (.iload_n 3, 1) := by decide +kernel
theorem dX8_has0_11 : decode cX8_has0 11 = .ok (.ifCond .eq 17, 3) := by decide +kernel
theorem dX8_has0_14 : decode cX8_has0 14 = .ok (.iload 4, 2) := by decide +kernel
theorem dX8_has0_16 : decode cX8_has0 16 = .ok (.ifCond .eq 10, 3) := by decide +kernel
theorem dX8_has0_19 : decode cX8_has0 19 = .ok (.iload 5, 2) := by decide +kernel
theorem dX8_has0_21 : decode cX8_has0 21 = .ok (.iconst 2, 1) := by decide +kernel
theorem dX8_has0_22 : decode cX8_has0 22 = .ok (.idiv, 1) := by decide +kernel
theorem dX8_has0_23 : decode cX8_has0 23 = .ok (.goto 4, 3) := by decide +kernel
theorem dX8_has0_26 : decode cX8_has0 26 = .ok (.iconst 2, 1) := by decide +kernel
theorem dX8_has0_27 : decode cX8_has0 27 = .ok (.ireturn, 1) := by decide +kernel
theorem dX8_has0_28 : decode cX8_has0 28 = .ok (.iload 4, 2) := by decide +kernel
theorem dX8_has0_30 : decode cX8_has0 30 = .ok (.ifCond .eq 8, 3) := by decide +kernel
theorem dX8_has0_33 : decode cX8_has0 33 = .ok (.iload 5, 2) := by decide +kernel
theorem dX8_has0_35 : decode cX8_has0 35 = .ok (.goto 28, 3) := by decide +kernel
theorem dX8_has0_38 : decode cX8_has0 38 = .ok (.aload_n 0, 1) := by decide +kernel
theorem dX8_has0_39 : decode cX8_has0 39 = .ok (.getfield 7, 3) := by decide +kernel
theorem dX8_has0_42 : decode cX8_has0 42 = .ok (.iload_n 1, 1) := by decide +kernel
theorem dX8_has0_43 : decode cX8_has0 43 = .ok (.iconst 0, 1) := by decide +kernel
theorem dX8_has0_44 : decode cX8_has0 44 = .ok (.invokestatic 55, 3) := by decide +kernel
theorem dX8_has0_47 : decode cX8_has0 47 = .ok (.aload_n 0, 1) := by decide +kernel
theorem dX8_has0_48 : decode cX8_has0 48 = .ok (.iload_n 2, 1) := by decide +kernel
theorem dX8_has0_49 : decode cX8_has0 49 = .ok (.invokevirtual 247, 3) := by decide +kernel
theorem dX8_has0_52 : decode cX8_has0 52 = .ok (.aload_n 0, 1) := by decide +kernel
theorem dX8_has0_53 : decode cX8_has0 53 = .ok (.getfield 7, 3) := by decide +kernel
theorem dX8_has0_56 : decode cX8_has0 56 = .ok (.bipush 6, 2) := by decide +kernel
theorem dX8_has0_58 : decode cX8_has0 58 = .ok (.iaload, 1) := by decide +kernel
theorem dX8_has0_59 : decode cX8_has0 59 = .ok (.invokestatic 73, 3) := by decide +kernel
theorem dX8_has0_62 : decode cX8_has0 62 = .ok (.ineg, 1) := by decide +kernel
theorem dX8_has0_63 : decode cX8_has0 63 = .ok (.ireturn, 1) := by decide +kernel
theorem dX8_whispers_0 : decode cX8_whispers 0 = .ok (.aload_n 0, 1) := by decide +kernel
theorem dX8_whispers_1 : decode cX8_whispers 1 = .ok (.iload_n 1, 1) := by decide +kernel
theorem dX8_whispers_2 : decode cX8_whispers 2 = .ok (.invokevirtual 203, 3) := by decide +kernel
theorem dX8_whispers_5 : decode cX8_whispers 5 = .ok (.ifCond .eq 23, 3) := by decide +kernel
theorem dX8_whispers_8 : decode cX8_whispers 8 = .ok (.aload_n 0, 1) := by decide +kernel
theorem dX8_whispers_9 : decode cX8_whispers 9 = .ok (.iload_n 2, 1) := by decide +kernel
theorem dX8_whispers_10 : decode cX8_whispers 10 = .ok (.invokevirtual 203, 3) := by decide +kernel
theorem dX8_whispers_13 : decode cX8_whispers 13 = .ok (.ifCond .eq 15, 3) := by decide +kernel
theorem dX8_whispers_16 : decode cX8_whispers 16 = .ok (.iload_n 1, 1) := by decide +kernel
theorem dX8_whispers_17 : decode cX8_whispers 17 = .ok (.iload_n 2, 1) := by decide +kernel
theorem dX8_whispers_18 : decode cX8_whispers 18 = .ok (.if_icmp .eq 10, 3) := by decide +kernel
theorem dX8_whispers_21 : decode cX8_whispers 21 = .ok (.iload_n 3, 1) := by decide +kernel
theorem dX8_whispers_22 : decode cX8_whispers 22 = .ok (.invokestatic 105, 3) := by decide +kernel
theorem dX8_whispers_25 : decode cX8_whispers 25 = .ok (.ifCond .ne 8, 3) := by decide +kernel
theorem dX8_whispers_28 : decode cX8_whispers 28 = .ok (.aload_n 0, 1) := by decide +kernel
theorem dX8_whispers_29 : decode cX8_whispers 29 = .ok (.invokevirtual 101, 3) := by decide +kernel
theorem dX8_whispers_32 : decode cX8_whispers 32 = .ok (.ireturn, 1) := by decide +kernel
theorem dX8_whispers_33 : decode cX8_whispers 33 = .ok (.iconst 0, 1) := by decide +kernel
theorem dX8_whispers_34 : decode cX8_whispers 34 = .ok (.istore 4, 2) := by decide +kernel
theorem dX8_whispers_36 : decode cX8_whispers 36 = .ok (.iconst 0, 1) := by decide +kernel
theorem dX8_whispers_37 : decode cX8_whispers 37 = .ok (.istore 5, 2) := by decide +kernel
theorem dX8_whispers_39 : decode cX8_whispers 39 = .ok (.iload 5, 2) := by decide +kernel
theorem dX8_whispers_41 : decode cX8_whispers 41 = .ok (.iconst 4, 1) := by decide +kernel
theorem dX8_whispers_42 : decode cX8_whispers 42 = .ok (.if_icmp .ge 124, 3) := by decide +kernel
theorem dX8_whispers_45 : decode cX8_whispers 45 = .ok (.iload 5, 2) := by decide +kernel
theorem dX8_whispers_47 : decode cX8_whispers 47 = .ok (.iconst 1, 1) := by decide +kernel
theorem dX8_whispers_48 : decode cX8_whispers 48 = .ok (.iand, 1) := by decide +kernel
theorem dX8_whispers_49 : decode cX8_whispers 49 = .ok (.ifCond .ne 7, 3) := by decide +kernel
theorem dX8_whispers_52 : decode cX8_whispers 52 = .ok (.iconst 1, 1) := by decide +kernel
theorem dX8_whispers_53 : decode cX8_whispers 53 = .ok (.goto 4, 3) := by decide +kernel
theorem dX8_whispers_56 : decode cX8_whispers 56 = .ok (.iconst 0, 1) := by decide +kernel
theorem dX8_whispers_57 : decode cX8_whispers 57 = .ok (.istore 6, 2) := by decide +kernel
theorem dX8_whispers_59 : decode cX8_whispers 59 = .ok (.iload 5, 2) := by decide +kernel
theorem dX8_whispers_61 : decode cX8_whispers 61 = .ok (.iconst 2, 1) := by decide +kernel
theorem dX8_whispers_62 : decode cX8_whispers 62 = .ok (.iand, 1) := by decide +kernel
theorem dX8_whispers_63 : decode cX8_whispers 63 = .ok (.ifCond .ne 7, 3) := by decide +kernel
theorem dX8_whispers_66 : decode cX8_whispers 66 = .ok (.iconst 1, 1) := by decide +kernel
theorem dX8_whispers_67 : decode cX8_whispers 67 = .ok (.goto 4, 3) := by decide +kernel
theorem dX8_whispers_70 : decode cX8_whispers 70 = .ok (.iconst 0, 1) := by decide +kernel
theorem dX8_whispers_71 : decode cX8_whispers 71 = .ok (.istore 7, 2) := by decide +kernel
theorem dX8_whispers_73 : decode cX8_whispers 73 = .ok (.aload_n 0, 1) := by decide +kernel
theorem dX8_whispers_74 : decode cX8_whispers 74 = .ok (.iload_n 1, 1) := by decide +kernel
theorem dX8_whispers_75 : decode cX8_whispers 75 = .ok (.iload_n 3, 1) := by decide +kernel
theorem dX8_whispers_76 : decode cX8_whispers 76 = .ok (.iload 6, 2) := by decide +kernel
theorem dX8_whispers_78 : decode cX8_whispers 78 = .ok (.iload 7, 2) := by decide +kernel
theorem dX8_whispers_80 : decode cX8_whispers 80 = .ok (.invokevirtual 267, 3) := by decide +kernel
theorem dX8_whispers_83 : decode cX8_whispers 83 = .ok (.aload_n 0, 1) := by decide +kernel
theorem dX8_whispers_84 : decode cX8_whispers 84 = .ok (.iload_n 1, 1) := by decide +kernel
theorem dX8_whispers_85 : decode cX8_whispers 85 = .ok (.iload_n 3, 1) := by decide +kernel
theorem dX8_whispers_86 : decode cX8_whispers 86 = .ok (.iload 6, 2) := by decide +kernel
theorem dX8_whispers_88 : decode cX8_whispers 88 = .ok (.ifCond .ne 7, 3) := by decide +kernel
theorem dX8_whispers_91 : decode cX8_whispers 91 = .ok (.iconst 1, 1) := by decide +kernel
theorem dX8_whispers_92 : decode cX8_whispers 92 = .ok (.goto 4, 3) := by decide +kernel
theorem dX8_whispers_95 : decode cX8_whispers 95 = .ok (.iconst 0, 1) := by decide +kernel
theorem dX8_whispers_96 : decode cX8_whispers 96 = .ok (.iload 7, 2) := by decide +kernel
theorem dX8_whispers_98 : decode cX8_whispers 98 = .ok (.invokevirtual 267, 3) := by decide +kernel
theorem dX8_whispers_101 : decode cX8_whispers 101 = .ok (.if_icmp .lt 38, 3) := by decide +kernel
theorem dX8_whispers_104 : decode cX8_whispers 104 = .ok (.aload_n 0, 1) := by decide +kernel
theorem dX8_whispers_105 : decode cX8_whispers 105 = .ok (.iload_n 2, 1) := by decide +kernel
theorem dX8_whispers_106 : decode cX8_whispers 106 = .ok (.iload_n 3, 1) := by decide +kernel
theorem dX8_whispers_107 : decode cX8_whispers 107 = .ok (.iload 7, 2) := by decide +kernel
theorem dX8_whispers_109 : decode cX8_whispers 109 = .ok (.iload 6, 2) := by decide +kernel
theorem dX8_whispers_111 : decode cX8_whispers 111 = .ok (.invokevirtual 267, 3) := by decide +kernel
theorem dX8_whispers_114 : decode cX8_whispers 114 = .ok (.aload_n 0, 1) := by decide +kernel
theorem dX8_whispers_115 : decode cX8_whispers 115 = .ok (.iload_n 2, 1) := by decide +kernel
theorem dX8_whispers_116 : decode cX8_whispers 116 = .ok (.iload_n 3, 1) := by decide +kernel
theorem dX8_whispers_117 : decode cX8_whispers 117 = .ok (.iload 7, 2) := by decide +kernel
theorem dX8_whispers_119 : decode cX8_whispers 119 = .ok (.ifCond .ne 7, 3) := by decide +kernel
theorem dX8_whispers_122 : decode cX8_whispers 122 = .ok (.iconst 1, 1) := by decide +kernel
theorem dX8_whispers_123 : decode cX8_whispers 123 = .ok (.goto 4, 3) := by decide +kernel
theorem dX8_whispers_126 : decode cX8_whispers 126 = .ok (.iconst 0, 1) := by decide +kernel
theorem dX8_whispers_127 : decode cX8_whispers 127 = .ok (.iload 6, 2) := by decide +kernel
theorem dX8_whispers_129 : decode cX8_whispers 129 = .ok (.invokevirtual 267, 3) := by decide +kernel
theorem dX8_whispers_132 : decode cX8_whispers 132 = .ok (.if_icmp .lt 7, 3) := by decide +kernel
theorem dX8_whispers_135 : decode cX8_whispers 135 = .ok (.iconst 1, 1) := by decide +kernel
theorem dX8_whispers_136 : decode cX8_whispers 136 = .ok (.goto 4, 3) := by decide +kernel
theorem dX8_whispers_139 : decode cX8_whispers 139 = .ok (.iconst 0, 1) := by decide +kernel
theorem dX8_whispers_140 : decode cX8_whispers 140 = .ok (.istore 8, 2) := by decide +kernel
theorem dX8_whispers_142 : decode cX8_whispers 142 = .ok (.iload 4, 2) := by decide +kernel
theorem dX8_whispers_144 : decode cX8_whispers 144 = .ok (.iload 8, 2) := by decide +kernel
theorem dX8_whispers_146 : decode cX8_whispers 146 = .ok (.ifCond .eq 10, 3) := by decide +kernel
theorem dX8_whispers_149 : decode cX8_whispers 149 = .ok (.iconst 1, 1) := by decide +kernel
theorem dX8_whispers_150 : decode cX8_whispers 150 = .ok (.iload 5, 2) := by decide +kernel
theorem dX8_whispers_152 : decode cX8_whispers 152 = .ok (.ishl, 1) := by decide +kernel
theorem dX8_whispers_153 : decode cX8_whispers 153 = .ok (.goto 4, 3) := by decide +kernel
theorem dX8_whispers_156 : decode cX8_whispers 156 = .ok (.iconst 0, 1) := by decide +kernel
theorem dX8_whispers_157 : decode cX8_whispers 157 = .ok (.ior, 1) := by decide +kernel
theorem dX8_whispers_158 : decode cX8_whispers 158 = .ok (.istore 4, 2) := by decide +kernel
theorem dX8_whispers_160 : decode cX8_whispers 160 = .ok (.iinc 5 1, 3) := by decide +kernel
theorem dX8_whispers_163 : decode cX8_whispers 163 = .ok (.goto (-124), 3) := by decide +kernel
theorem dX8_whispers_166 : decode cX8_whispers 166 = .ok (.iload 4, 2) := by decide +kernel
theorem dX8_whispers_168 : decode cX8_whispers 168 = .ok (.ireturn, 1) := by decide +kernel
theorem dX8_wet_0 : decode cX8_wet 0 = .ok (.aload_n 0, 1) := by decide +kernel
theorem dX8_wet_1 : decode cX8_wet 1 = .ok (.iload_n 1, 1) := by decide +kernel
theorem dX8_wet_2 : decode cX8_wet 2 = .ok (.invokevirtual 203, 3) := by decide +kernel
theorem dX8_wet_5 : decode cX8_wet 5 = .ok (.ifCond .eq 15, 3) := by decide +kernel
theorem dX8_wet_8 : decode cX8_wet 8 = .ok (.iload_n 2, 1) := by decide +kernel
theorem dX8_wet_9 : decode cX8_wet 9 = .ok (.i2l, 1) := by decide +kernel
theorem dX8_wet_10 : decode cX8_wet 10 = .ok (.lconst 0, 1) := by decide +kernel
theorem dX8_wet_11 : decode cX8_wet 11 = .ok (.ldc2_w 271, 3) := by decide +kernel
theorem dX8_wet_14 : decode cX8_wet 14 = .ok (.invokestatic 46, 3) := by decide +kernel
theorem dX8_wet_17 : decode cX8_wet 17 = .ok (.ifCond .ne 8, 3) := by decide +kernel
theorem dX8_wet_20 : decode cX8_wet 20 = .ok (.aload_n 0, 1) := by decide +kernel
theorem dX8_wet_21 : decode cX8_wet 21 = .ok (.invokevirtual 101, 3) := by decide +kernel
theorem dX8_wet_24 : decode cX8_wet 24 = .ok (.ireturn, 1) := by decide +kernel
theorem dX8_wet_25 : decode cX8_wet 25 = .ok (.aload_n 0, 1) := by decide +kernel
theorem dX8_wet_26 : decode cX8_wet 26 = .ok (.iload_n 1, 1) := by decide +kernel
theorem dX8_wet_27 : decode cX8_wet 27 = .ok (.invokevirtual 216, 3) := by decide +kernel
theorem dX8_wet_30 : decode cX8_wet 30 = .ok (.ifCond .ne 8, 3) := by decide +kernel
theorem dX8_wet_33 : decode cX8_wet 33 = .ok (.aload_n 0, 1) := by decide +kernel
theorem dX8_wet_34 : decode cX8_wet 34 = .ok (.invokevirtual 200, 3) := by decide +kernel
theorem dX8_wet_37 : decode cX8_wet 37 = .ok (.ireturn, 1) := by decide +kernel
theorem dX8_wet_38 : decode cX8_wet 38 = .ok (.aload_n 0, 1) := by decide +kernel
theorem dX8_wet_39 : decode cX8_wet 39 = .ok (.getfield 7, 3) := by decide +kernel
theorem dX8_wet_42 : decode cX8_wet 42 = .ok (.iload_n 1, 1) := by decide +kernel
theorem dX8_wet_43 : decode cX8_wet 43 = .ok (.iconst 1, 1) := by decide +kernel
theorem dX8_wet_44 : decode cX8_wet 44 = .ok (.invokestatic 55, 3) := by decide +kernel
theorem dX8_wet_47 : decode cX8_wet 47 = .ok (.istore_n 3, 1) := by decide +kernel
theorem dX8_wet_48 : decode cX8_wet 48 = .ok (.ldc2_w 271, 3) := by decide +kernel
theorem dX8_wet_51 : decode cX8_wet 51 = .ok (.iload_n 2, 1) := by decide +kernel
theorem dX8_wet_52 : decode cX8_wet 52 = .ok (.i2l, 1) := by decide +kernel
theorem dX8_wet_53 : decode cX8_wet 53 = .ok (.lsub, 1) := by decide +kernel
theorem dX8_wet_54 : decode cX8_wet 54 = .ok (.aload_n 0, 1) := by decide +kernel
theorem dX8_wet_55 : decode cX8_wet 55 = .ok (.getfield 7, 3) := by decide +kernel
theorem dX8_wet_58 : decode cX8_wet 58 = .ok (.iload_n 1, 1) := by decide +kernel
theorem dX8_wet_59 : decode cX8_wet 59 = .ok (.iload_n 3, 1) := by decide +kernel
theorem dX8_wet_60 : decode cX8_wet 60 = .ok (.invokestatic 82, 3) := by decide +kernel
theorem dX8_wet_63 : decode cX8_wet 63 = .ok (.i2l, 1) := by decide +kernel
theorem dX8_wet_64 : decode cX8_wet 64 = .ok (.lmul, 1) := by decide +kernel
theorem dX8_wet_65 : decode cX8_wet 65 = .ok (.iload_n 2, 1) := by decide +kernel
theorem dX8_wet_66 : decode cX8_wet 66 = .ok (.i2l, 1) := by decide +kernel
theorem dX8_wet_67 : decode cX8_wet 67 = .ok (.aload_n 0, 1) := by decide +kernel
theorem dX8_wet_68 : decode cX8_wet 68 = .ok (.getfield 7, 3) := by decide +kernel
theorem dX8_wet_71 : decode cX8_wet 71 = .ok (.iload_n 1, 1) := by decide +kernel
theorem dX8_wet_72 : decode cX8_wet 72 = .ok (.iload_n 3, 1) := by decide +kernel
theorem dX8_wet_73 : decode cX8_wet 73 = .ok (.bipush 24, 2) := by decide +kernel
theorem dX8_wet_75 : decode cX8_wet 75 = .ok (.if_icmp .ge 10, 3) := by decide +kernel
theorem dX8_wet_78 : decode cX8_wet 78 = .ok (.iload_n 3, 1) := by decide +kernel
theorem dX8_wet_79 : decode cX8_wet 79 = .ok (.bipush 6, 2) := by decide +kernel
theorem dX8_wet_81 : decode cX8_wet 81 = .ok (.iadd, 1) := by decide +kernel
theorem dX8_wet_82 : decode cX8_wet 82 = .ok (.goto 4, 3) := by decide +kernel
theorem dX8_wet_85 : decode cX8_wet 85 = .ok (.iload_n 3, 1) := by decide +kernel
theorem dX8_wet_86 : decode cX8_wet 86 = .ok (.invokestatic 82, 3) := by decide +kernel
theorem dX8_wet_89 : decode cX8_wet 89 = .ok (.i2l, 1) := by decide +kernel
theorem dX8_wet_90 : decode cX8_wet 90 = .ok (.lmul, 1) := by decide +kernel
theorem dX8_wet_91 : decode cX8_wet 91 = .ok (.ladd, 1) := by decide +kernel
theorem dX8_wet_92 : decode cX8_wet 92 = .ok (.lstore 4, 2) := by decide +kernel
theorem dX8_wet_94 : decode cX8_wet 94 = .ok (.aload_n 0, 1) := by decide +kernel
theorem dX8_wet_95 : decode cX8_wet 95 = .ok (.lload 4, 2) := by decide +kernel
theorem dX8_wet_97 : decode cX8_wet 97 = .ok (.ldc2_w 271, 3) := by decide +kernel
theorem dX8_wet_100 : decode cX8_wet 100 = .ok (.invokevirtual 273, 3) := by decide +kernel
theorem dX8_wet_103 : decode cX8_wet 103 = .ok (.ireturn, 1) := by decide +kernel
theorem dX8_evenings_0 : decode cX8_evenings 0 = .ok (.iload_n 1, 1) := by decide +kernel
theorem dX8_evenings_1 : decode cX8_evenings 1 = .ok (.i2l, 1) := by decide +kernel
theorem dX8_evenings_2 : decode cX8_evenings 2 = .ok (.lconst 0, 1) := by decide +kernel
theorem dX8_evenings_3 : decode cX8_evenings 3 = .ok (.ldc2_w 277, 3) := by decide +kernel
theorem dX8_evenings_6 : decode cX8_evenings 6 = .ok (.invokestatic 46, 3) := by decide +kernel
theorem dX8_evenings_9 : decode cX8_evenings 9 = .ok (.ifCond .eq 15, 3) := by decide +kernel
theorem dX8_evenings_12 : decode cX8_evenings 12 = .ok (.iload_n 2, 1) := by decide +kernel
theorem dX8_evenings_13 : decode cX8_evenings 13 = .ok (.i2l, 1) := by decide +kernel
theorem dX8_evenings_14 : decode cX8_evenings 14 = .ok (.lconst 0, 1) := by decide +kernel
theorem dX8_evenings_15 : decode cX8_evenings 15 = .ok (.ldc2_w 279, 3) := by decide +kernel
theorem dX8_evenings_18 : decode cX8_evenings 18 = .ok (.invokestatic 46, 3) := by decide +kernel
theorem dX8_evenings_21 : decode cX8_evenings 21 = .ok (.ifCond .ne 8, 3) := by decide +kernel
theorem dX8_evenings_24 : decode cX8_evenings 24 = .ok (.aload_n 0, 1) := by decide +kernel
theorem dX8_evenings_25 : decode cX8_evenings 25 = .ok (.invokevirtual 101, 3) := by decide +kernel
theorem dX8_evenings_28 : decode cX8_evenings 28 = .ok (.ireturn, 1) := by decide +kernel
theorem dX8_evenings_29 : decode cX8_evenings 29 = .ok (.aload_n 0, 1) := by decide +kernel
theorem dX8_evenings_30 : decode cX8_evenings 30 = .ok (.invokevirtual 225, 3) := by decide +kernel
theorem dX8_evenings_33 : decode cX8_evenings 33 = .ok (.iload_n 1, 1) := by decide +kernel
theorem dX8_evenings_34 : decode cX8_evenings 34 = .ok (.i2l, 1) := by decide +kernel
theorem dX8_evenings_35 : decode cX8_evenings 35 = .ok (.lstore_n 3, 1) := by decide +kernel
theorem dX8_evenings_36 : decode cX8_evenings 36 = .ok (.iconst 0, 1) := by decide +kernel
theorem dX8_evenings_37 : decode cX8_evenings 37 = .ok (.istore 5, 2) := by decide +kernel
theorem dX8_evenings_39 : decode cX8_evenings 39 = .ok (.iconst 0, 1) := by decide +kernel
theorem dX8_evenings_40 : decode cX8_evenings 40 = .ok (.istore 6, 2) := by decide +kernel
theorem dX8_evenings_42 : decode cX8_evenings 42 = .ok (.iload 6, 2) := by decide +kernel
theorem dX8_evenings_44 : decode cX8_evenings 44 = .ok (.iload_n 2, 1) := by decide +kernel
theorem dX8_evenings_45 : decode cX8_evenings 45 = .ok (.if_icmp .ge 149, 3) := by decide +kernel
theorem dX8_evenings_48 : decode cX8_evenings 48 = .ok (.lload_n 3, 1) := by decide +kernel
theorem dX8_evenings_49 : decode cX8_evenings 49 = .ok (.ldc2_w 281, 3) := by decide +kernel
theorem dX8_evenings_52 : decode cX8_evenings 52 = .ok (.lmul, 1) := by decide +kernel
theorem dX8_evenings_53 : decode cX8_evenings 53 = .ok (.ldc2_w 283, 3) := by decide +kernel
theorem dX8_evenings_56 : decode cX8_evenings 56 = .ok (.ladd, 1) := by decide +kernel
theorem dX8_evenings_57 : decode cX8_evenings 57 = .ok (.ldc2_w 285, 3) := by decide +kernel
theorem dX8_evenings_60 : decode cX8_evenings 60 = .ok (.lrem, 1) := by decide +kernel
theorem dX8_evenings_61 : decode cX8_evenings 61 = .ok (.lstore_n 3, 1) := by decide +kernel
theorem dX8_evenings_62 : decode cX8_evenings 62 = .ok (.lload_n 3, 1) := by decide +kernel
theorem dX8_evenings_63 : decode cX8_evenings 63 = .ok (.ldc2_w 287, 3) := by decide +kernel
theorem dX8_evenings_66 : decode cX8_evenings 66 = .ok (.ldiv, 1) := by decide +kernel
theorem dX8_evenings_67 : decode cX8_evenings 67 = .ok (.ldc2_w 289, 3) := by decide +kernel
theorem dX8_evenings_70 : decode cX8_evenings 70 = .ok (.lrem, 1) := by decide +kernel
theorem dX8_evenings_71 : decode cX8_evenings 71 = .ok (.l2i, 1) := by decide +kernel
theorem dX8_evenings_72 : decode cX8_evenings 72 = .ok (.istore 7, 2) := by decide +kernel
theorem dX8_evenings_74 : decode cX8_evenings 74 = .ok (.lload_n 3, 1) := by decide +kernel
theorem dX8_evenings_75 : decode cX8_evenings 75 = .ok (.ldc2_w 291, 3) := by decide +kernel
theorem dX8_evenings_78 : decode cX8_evenings 78 = .ok (.ldiv, 1) := by decide +kernel
theorem dX8_evenings_79 : decode cX8_evenings 79 = .ok (.ldc2_w 293, 3) := by decide +kernel
theorem dX8_evenings_82 : decode cX8_evenings 82 = .ok (.lrem, 1) := by decide +kernel
theorem dX8_evenings_83 : decode cX8_evenings 83 = .ok (.l2i, 1) := by decide +kernel
theorem dX8_evenings_84 : decode cX8_evenings 84 = .ok (.istore 8, 2) := by decide +kernel
theorem dX8_evenings_86 : decode cX8_evenings 86 = .ok (.iload 7, 2) := by decide +kernel
theorem dX8_evenings_88 : decode cX8_evenings 88 = .ok (.aload_n 0, 1) := by decide +kernel
theorem dX8_evenings_89 : decode cX8_evenings 89 = .ok (.getfield 13, 3) := by decide +kernel
theorem dX8_evenings_92 : decode cX8_evenings 92 = .ok (.bipush 8, 2) := by decide +kernel
theorem dX8_evenings_94 : decode cX8_evenings 94 = .ok (.iaload, 1) := by decide +kernel
theorem dX8_evenings_95 : decode cX8_evenings 95 = .ok (.if_icmp .ge 7, 3) := by decide +kernel
theorem dX8_evenings_98 : decode cX8_evenings 98 = .ok (.iconst 1, 1) := by decide +kernel
theorem dX8_evenings_99 : decode cX8_evenings 99 = .ok (.goto 4, 3) := by decide +kernel
theorem dX8_evenings_102 : decode cX8_evenings 102 = .ok (.iconst 0, 1) := by decide +kernel
theorem dX8_evenings_103 : decode cX8_evenings 103 = .ok (.istore 9, 2) := by decide +kernel
theorem dX8_evenings_105 : decode cX8_evenings 105 = .ok (.iload 9, 2) := by decide +kernel
theorem dX8_evenings_107 : decode cX8_evenings 107 = .ok (.ifCond .eq 34, 3) := by decide +kernel
theorem dX8_evenings_110 : decode cX8_evenings 110 = .ok (.aload_n 0, 1) := by decide +kernel
theorem dX8_evenings_111 : decode cX8_evenings 111 = .ok (.getfield 13, 3) := by decide +kernel
theorem dX8_evenings_114 : decode cX8_evenings 114 = .ok (.iload 7, 2) := by decide +kernel
theorem dX8_evenings_116 : decode cX8_evenings 116 = .ok (.invokestatic 59, 3) := by decide +kernel
theorem dX8_evenings_119 : decode cX8_evenings 119 = .ok (.iconst (-1), 1) := by decide +kernel
theorem dX8_evenings_120 : decode cX8_evenings 120 = .ok (.if_icmp .eq 21, 3) := by decide +kernel
theorem dX8_evenings_123 : decode cX8_evenings 123 = .ok (.iload 5, 2) := by decide +kernel
theorem dX8_evenings_125 : decode cX8_evenings 125 = .ok (.aload_n 0, 1) := by decide +kernel
theorem dX8_evenings_126 : decode cX8_evenings 126 = .ok (.getfield 13, 3) := by decide +kernel
theorem dX8_evenings_129 : decode cX8_evenings 129 = .ok (.iload 7, 2) := by decide +kernel
theorem dX8_evenings_131 : decode cX8_evenings 131 = .ok (.iconst (-1), 1) := by decide +kernel
theorem dX8_evenings_132 : decode cX8_evenings 132 = .ok (.invokestatic 182, 3) := by decide +kernel
theorem dX8_evenings_135 : decode cX8_evenings 135 = .ok (.iadd, 1) := by decide +kernel
theorem dX8_evenings_136 : decode cX8_evenings 136 = .ok (.istore 5, 2) := by decide +kernel
theorem dX8_evenings_138 : decode cX8_evenings 138 = .ok (.goto 50, 3) := by decide +kernel
theorem dX8_evenings_141 : decode cX8_evenings 141 = .ok (.iload 9, 2) := by decide +kernel
theorem dX8_evenings_143 : decode cX8_evenings 143 = .ok (.ifCond .eq 34, 3) := by decide +kernel
theorem dX8_evenings_146 : decode cX8_evenings 146 = .ok (.aload_n 0, 1) := by decide +kernel
theorem dX8_evenings_147 : decode cX8_evenings 147 = .ok (.getfield 13, 3) := by decide +kernel
theorem dX8_evenings_150 : decode cX8_evenings 150 = .ok (.iload 8, 2) := by decide +kernel
theorem dX8_evenings_152 : decode cX8_evenings 152 = .ok (.invokestatic 171, 3) := by decide +kernel
theorem dX8_evenings_155 : decode cX8_evenings 155 = .ok (.ifCond .eq 22, 3) := by decide +kernel
theorem dX8_evenings_158 : decode cX8_evenings 158 = .ok (.iload 5, 2) := by decide +kernel
theorem dX8_evenings_160 : decode cX8_evenings 160 = .ok (.aload_n 0, 1) := by decide +kernel
theorem dX8_evenings_161 : decode cX8_evenings 161 = .ok (.getfield 13, 3) := by decide +kernel
theorem dX8_evenings_164 : decode cX8_evenings 164 = .ok (.iload 7, 2) := by decide +kernel
theorem dX8_evenings_166 : decode cX8_evenings 166 = .ok (.iload 8, 2) := by decide +kernel
theorem dX8_evenings_168 : decode cX8_evenings 168 = .ok (.invokestatic 182, 3) := by decide +kernel
theorem dX8_evenings_171 : decode cX8_evenings 171 = .ok (.iadd, 1) := by decide +kernel
theorem dX8_evenings_172 : decode cX8_evenings 172 = .ok (.istore 5, 2) := by decide +kernel
theorem dX8_evenings_174 : decode cX8_evenings 174 = .ok (.goto 14, 3) := by decide +kernel
theorem dX8_evenings_177 : decode cX8_evenings 177 = .ok (.aload_n 0, 1) := by decide +kernel
theorem dX8_evenings_178 : decode cX8_evenings 178 = .ok (.getfield 13, 3) := by decide +kernel
theorem dX8_evenings_181 : decode cX8_evenings 181 = .ok (.bipush 6, 2) := by decide +kernel
theorem dX8_evenings_183 : decode cX8_evenings 183 = .ok (.dup2, 1) := by decide +kernel
theorem dX8_evenings_184 : decode cX8_evenings 184 = .ok (.iaload, 1) := by decide +kernel
theorem dX8_evenings_185 : decode cX8_evenings 185 = .ok (.iconst 1, 1) := by decide +kernel
theorem dX8_evenings_186 : decode cX8_evenings 186 = .ok (.iadd, 1) := by decide +kernel
theorem dX8_evenings_187 : decode cX8_evenings 187 = .ok (.iastore, 1) := by decide +kernel
theorem dX8_evenings_188 : decode cX8_evenings 188 = .ok (.iinc 6 1, 3) := by decide +kernel
theorem dX8_evenings_191 : decode cX8_evenings 191 = .ok (.goto (-149), 3) := by decide +kernel
theorem dX8_evenings_194 : decode cX8_evenings 194 = .ok (.iload 5, 2) := by decide +kernel
theorem dX8_evenings_196 : decode cX8_evenings 196 = .ok (.ireturn, 1) := by decide +kernel
theorem dX8_part_0 : decode cX8_part 0 = .ok (.iload_n 1, 1) := by decide +kernel
theorem dX8_part_1 : decode cX8_part 1 = .ok (.i2l, 1) := by decide +kernel
theorem dX8_part_2 : decode cX8_part 2 = .ok (.lconst 0, 1) := by decide +kernel
theorem dX8_part_3 : decode cX8_part 3 = .ok (.lconst 1, 1) := by decide +kernel
theorem dX8_part_4 : decode cX8_part 4 = .ok (.invokestatic 46, 3) := by decide +kernel
theorem dX8_part_7 : decode cX8_part 7 = .ok (.ifCond .eq 21, 3) := by decide +kernel
theorem dX8_part_10 : decode cX8_part 10 = .ok (.iload_n 1, 1) := by decide +kernel
theorem dX8_part_11 : decode cX8_part 11 = .ok (.ifCond .ne 10, 3) := by decide +kernel
theorem dX8_part_14 : decode cX8_part 14 = .ok (.aload_n 0, 1) := by decide +kernel
theorem dX8_part_15 : decode cX8_part 15 = .ok (.getfield 52, 3) := by decide +kernel
theorem dX8_part_18 : decode cX8_part 18 = .ok (.goto 15, 3) := by decide +kernel
theorem dX8_part_21 : decode cX8_part 21 = .ok (.aload_n 0, 1) := by decide +kernel
theorem dX8_part_22 : decode cX8_part 22 = .ok (.getfield 23, 3) := by decide +kernel
theorem dX8_part_25 : decode cX8_part 25 = .ok (.goto 8, 3) := by decide +kernel
theorem dX8_part_28 : decode cX8_part 28 = .ok (.aload_n 0, 1) := by decide +kernel
theorem dX8_part_29 : decode cX8_part 29 = .ok (.invokevirtual 101, 3) := by decide +kernel
theorem dX8_part_32 : decode cX8_part 32 = .ok (.i2l, 1) := by decide +kernel
theorem dX8_part_33 : decode cX8_part 33 = .ok (.lreturn, 1) := by decide +kernel
theorem dX8_image_0 : decode cX8_image 0 = .ok (.iload_n 1, 1) := by decide +kernel
theorem dX8_image_1 : decode cX8_image 1 = .ok (.i2l, 1) := by decide +kernel
theorem dX8_image_2 : decode cX8_image 2 = .ok (.lconst 0, 1) := by decide +kernel
theorem dX8_image_3 : decode cX8_image 3 = .ok (.lconst 1, 1) := by decide +kernel
theorem dX8_image_4 : decode cX8_image 4 = .ok (.invokestatic 46, 3) := by decide +kernel
theorem dX8_image_7 : decode cX8_image 7 = .ok (.ifCond .ne 8, 3) := by decide +kernel
theorem dX8_image_10 : decode cX8_image 10 = .ok (.aload_n 0, 1) := by decide +kernel
theorem dX8_image_11 : decode cX8_image 11 = .ok (.invokevirtual 101, 3) := by decide +kernel
theorem dX8_image_14 : decode cX8_image 14 = .ok (.ireturn, 1) := by decide +kernel
theorem dX8_image_15 : decode cX8_image 15 = .ok (.iconst 0, 1) := by decide +kernel
theorem dX8_image_16 : decode cX8_image 16 = .ok (.istore_n 2, 1) := by decide +kernel
theorem dX8_image_17 : decode cX8_image 17 = .ok (.iload_n 2, 1) := by decide +kernel
theorem dX8_image_18 : decode cX8_image 18 = .ok (.sipush 171, 3) := by decide +kernel
theorem dX8_image_21 : decode cX8_image 21 = .ok (.if_icmp .ge 27, 3) := by decide +kernel
theorem dX8_image_24 : decode cX8_image 24 = .ok (.aload_n 0, 1) := by decide +kernel
theorem dX8_image_25 : decode cX8_image 25 = .ok (.getfield 16, 3) := by decide +kernel
theorem dX8_image_28 : decode cX8_image 28 = .ok (.sipush 171, 3) := by decide +kernel
theorem dX8_image_31 : decode cX8_image 31 = .ok (.iload_n 1, 1) := by decide +kernel
theorem dX8_image_32 : decode cX8_image 32 = .ok (.imul, 1) := by decide +kernel
theorem dX8_image_33 : decode cX8_image 33 = .ok (.iload_n 2, 1) := by decide +kernel
theorem dX8_image_34 : decode cX8_image 34 = .ok (.iadd, 1) := by decide +kernel
theorem dX8_image_35 : decode cX8_image 35 = .ok (.aload_n 0, 1) := by decide +kernel
theorem dX8_image_36 : decode cX8_image 36 = .ok (.getfield 7, 3) := by decide +kernel
theorem dX8_image_39 : decode cX8_image 39 = .ok (.iload_n 2, 1) := by decide +kernel
theorem dX8_image_40 : decode cX8_image 40 = .ok (.iaload, 1) := by decide +kernel
theorem dX8_image_41 : decode cX8_image 41 = .ok (.iastore, 1) := by decide +kernel
theorem dX8_image_42 : decode cX8_image 42 = .ok (.iinc 2 1, 3) := by decide +kernel
theorem dX8_image_45 : decode cX8_image 45 = .ok (.goto (-28), 3) := by decide +kernel
theorem dX8_image_48 : decode cX8_image 48 = .ok (.aload_n 0, 1) := by decide +kernel
theorem dX8_image_49 : decode cX8_image 49 = .ok (.getfield 19, 3) := by decide +kernel
theorem dX8_image_52 : decode cX8_image 52 = .ok (.iload_n 1, 1) := by decide +kernel
theorem dX8_image_53 : decode cX8_image 53 = .ok (.iconst 1, 1) := by decide +kernel
theorem dX8_image_54 : decode cX8_image 54 = .ok (.bastore, 1) := by decide +kernel
theorem dX8_image_55 : decode cX8_image 55 = .ok (.iconst 1, 1) := by decide +kernel
theorem dX8_image_56 : decode cX8_image 56 = .ok (.ireturn, 1) := by decide +kernel
theorem dX8_from_0 : decode cX8_from 0 = .ok (.iload_n 1, 1) := by decide +kernel
theorem dX8_from_1 : decode cX8_from 1 = .ok (.i2l, 1) := by decide +kernel
theorem dX8_from_2 : decode cX8_from 2 = .ok (.lconst 0, 1) := by decide +kernel
theorem dX8_from_3 : decode cX8_from 3 = .ok (.lconst 1, 1) := by decide +kernel
theorem dX8_from_4 : decode cX8_from 4 = .ok (.invokestatic 46, 3) := by decide +kernel
theorem dX8_from_7 : decode cX8_from 7 = .ok (.ifCond .ne 8, 3) := by decide +kernel
theorem dX8_from_10 : decode cX8_from 10 = .ok (.aload_n 0, 1) := by decide +kernel
theorem dX8_from_11 : decode cX8_from 11 = .ok (.invokevirtual 101, 3) := by decide +kernel
theorem dX8_from_14 : decode cX8_from 14 = .ok (.ireturn, 1) := by decide +kernel
theorem dX8_from_15 : decode cX8_from 15 = .ok (.aload_n 0, 1) := by decide +kernel
theorem dX8_from_16 : decode cX8_from 16 = .ok (.getfield 19, 3) := by decide +kernel
theorem dX8_from_19 : decode cX8_from 19 = .ok (.iload_n 1, 1) := by decide +kernel
theorem dX8_from_20 : decode cX8_from 20 = .ok (.baload, 1) := by decide +kernel
theorem dX8_from_21 : decode cX8_from 21 = .ok (.ifCond .ne 8, 3) := by decide +kernel
theorem dX8_from_24 : decode cX8_from 24 = .ok (.aload_n 0, 1) := by decide +kernel
theorem dX8_from_25 : decode cX8_from 25 = .ok (.invokevirtual 200, 3) := by decide +kernel
theorem dX8_from_28 : decode cX8_from 28 = .ok (.ireturn, 1) := by decide +kernel
theorem dX8_from_29 : decode cX8_from 29 = .ok (.iconst 0, 1) := by decide +kernel
theorem dX8_from_30 : decode cX8_from 30 = .ok (.istore_n 2, 1) := by decide +kernel
theorem dX8_from_31 : decode cX8_from 31 = .ok (.iload_n 2, 1) := by decide +kernel
theorem dX8_from_32 : decode cX8_from 32 = .ok (.sipush 171, 3) := by decide +kernel
theorem dX8_from_35 : decode cX8_from 35 = .ok (.if_icmp .ge 27, 3) := by decide +kernel
theorem dX8_from_38 : decode cX8_from 38 = .ok (.aload_n 0, 1) := by decide +kernel
theorem dX8_from_39 : decode cX8_from 39 = .ok (.getfield 7, 3) := by decide +kernel
theorem dX8_from_42 : decode cX8_from 42 = .ok (.iload_n 2, 1) := by decide +kernel
theorem dX8_from_43 : decode cX8_from 43 = .ok (.aload_n 0, 1) := by decide +kernel
theorem dX8_from_44 : decode cX8_from 44 = .ok (.getfield 16, 3) := by decide +kernel
theorem dX8_from_47 : decode cX8_from 47 = .ok (.sipush 171, 3) := by decide +kernel
theorem dX8_from_50 : decode cX8_from 50 = .ok (.iload_n 1, 1) := by decide +kernel
theorem dX8_from_51 : decode cX8_from 51 = .ok (.imul, 1) := by decide +kernel
theorem dX8_from_52 : decode cX8_from 52 = .ok (.iload_n 2, 1) := by decide +kernel
theorem dX8_from_53 : decode cX8_from 53 = .ok (.iadd, 1) := by decide +kernel
theorem dX8_from_54 : decode cX8_from 54 = .ok (.iaload, 1) := by decide +kernel
theorem dX8_from_55 : decode cX8_from 55 = .ok (.iastore, 1) := by decide +kernel
theorem dX8_from_56 : decode cX8_from 56 = .ok (.iinc 2 1, 3) := by decide +kernel
theorem dX8_from_59 : decode cX8_from 59 = .ok (.goto (-28), 3) := by decide +kernel
theorem dX8_from_62 : decode cX8_from 62 = .ok (.iconst 1, 1) := by decide +kernel
theorem dX8_from_63 : decode cX8_from 63 = .ok (.ireturn, 1) := by decide +kernel
theorem dX8_status_0 : decode cX8_status 0 = .ok (.iload_n 1, 1) := by decide +kernel
theorem dX8_status_1 : decode cX8_status 1 = .ok (.i2l, 1) := by decide +kernel
theorem dX8_status_2 : decode cX8_status 2 = .ok (.lconst 0, 1) := by decide +kernel
theorem dX8_status_3 : decode cX8_status 3 = .ok (.ldc2_w 211, 3) := by decide +kernel
theorem dX8_status_6 : decode cX8_status 6 = .ok (.invokestatic 46, 3) := by decide +kernel
theorem dX8_status_9 : decode cX8_status 9 = .ok (.ifCond .ne 15, 3) := by decide +kernel
theorem dX8_status_12 : decode cX8_status 12 = .ok (.aload_n 0, 1) := by decide +kernel
theorem dX8_status_13 : decode cX8_status 13 = .ok (.getfield 27, 3) := by decide +kernel
theorem dX8_status_16 : decode cX8_status 16 = .ok (.iconst 0, 1) := by decide +kernel
theorem dX8_status_17 : decode cX8_status 17 = .ok (.dup2, 1) := by decide +kernel
theorem dX8_status_18 : decode cX8_status 18 = .ok (.iaload, 1) := by decide +kernel
theorem dX8_status_19 : decode cX8_status 19 = .ok (.iconst 1, 1) := by decide +kernel
theorem dX8_status_20 : decode cX8_status 20 = .ok (.iadd, 1) := by decide +kernel
theorem dX8_status_21 : decode cX8_status 21 = .ok (.iastore, 1) := by decide +kernel
theorem dX8_status_22 : decode cX8_status 22 = .ok (.iconst (-1), 1) := by decide +kernel
theorem dX8_status_23 : decode cX8_status 23 = .ok (.ireturn, 1) := by decide +kernel
theorem dX8_status_24 : decode cX8_status 24 = .ok (.aload_n 0, 1) := by decide +kernel
theorem dX8_status_25 : decode cX8_status 25 = .ok (.getfield 27, 3) := by decide +kernel
theorem dX8_status_28 : decode cX8_status 28 = .ok (.iload_n 1, 1) := by decide +kernel
theorem dX8_status_29 : decode cX8_status 29 = .ok (.iaload, 1) := by decide +kernel
theorem dX8_status_30 : decode cX8_status 30 = .ok (.ireturn, 1) := by decide +kernel
theorem dX8_counted_0 : decode cX8_counted 0 = .ok (.iconst 0, 1) := by decide +kernel
theorem dX8_counted_1 : decode cX8_counted 1 = .ok (.istore_n 2, 1) := by decide +kernel
theorem dX8_counted_2 : decode cX8_counted 2 = .ok (.iconst 0, 1) := by decide +kernel
theorem dX8_counted_3 : decode cX8_counted 3 = .ok (.istore_n 3, 1) := by decide +kernel
theorem dX8_counted_4 : decode cX8_counted 4 = .ok (.iload_n 3, 1) := by decide +kernel
theorem dX8_counted_5 : decode cX8_counted 5 = .ok (.aload_n 0, 1) := by decide +kernel
theorem dX8_counted_6 : decode cX8_counted 6 = .ok (.getfield 7, 3) := by decide +kernel
theorem dX8_counted_9 : decode cX8_counted 9 = .ok (.bipush 8, 2) := by decide +kernel
theorem dX8_counted_11 : decode cX8_counted 11 = .ok (.iaload, 1) := by decide +kernel
theorem dX8_counted_12 : decode cX8_counted 12 = .ok (.if_icmp .ge 25, 3) := by decide +kernel
theorem dX8_counted_15 : decode cX8_counted 15 = .ok (.iload_n 2, 1) := by decide +kernel
theorem dX8_counted_16 : decode cX8_counted 16 = .ok (.aload_n 0, 1) := by decide +kernel
theorem dX8_counted_17 : decode cX8_counted 17 = .ok (.iload_n 3, 1) := by decide +kernel
theorem dX8_counted_18 : decode cX8_counted 18 = .ok (.invokevirtual 216, 3) := by decide +kernel
theorem dX8_counted_21 : decode cX8_counted 21 = .ok (.ifCond .eq 7, 3) := by decide +kernel
theorem dX8_counted_24 : decode cX8_counted 24 = .ok (.iconst 0, 1) := by decide +kernel
theorem dX8_counted_25 : decode cX8_counted 25 = .ok (.goto 4, 3) := by decide +kernel
theorem dX8_counted_28 : decode cX8_counted 28 = .ok (.iconst 1, 1) := by decide +kernel
theorem dX8_counted_29 : decode cX8_counted 29 = .ok (.iadd, 1) := by decide +kernel
theorem dX8_counted_30 : decode cX8_counted 30 = .ok (.istore_n 2, 1) := by decide +kernel
theorem dX8_counted_31 : decode cX8_counted 31 = .ok (.iinc 3 1, 3) := by decide +kernel
theorem dX8_counted_34 : decode cX8_counted 34 = .ok (.goto (-30), 3) := by decide +kernel
theorem dX8_counted_37 : decode cX8_counted 37 = .ok (.iconst 0, 1) := by decide +kernel
theorem dX8_counted_38 : decode cX8_counted 38 = .ok (.istore_n 3, 1) := by decide +kernel
theorem dX8_counted_39 : decode cX8_counted 39 = .ok (.iconst 0, 1) := by decide +kernel
theorem dX8_counted_40 : decode cX8_counted 40 = .ok (.istore 4, 2) := by decide +kernel
theorem dX8_counted_42 : decode cX8_counted 42 = .ok (.iload 4, 2) := by decide +kernel
theorem dX8_counted_44 : decode cX8_counted 44 = .ok (.bipush 30, 2) := by decide +kernel
theorem dX8_counted_46 : decode cX8_counted 46 = .ok (.if_icmp .ge 31, 3) := by decide +kernel
theorem dX8_counted_49 : decode cX8_counted 49 = .ok (.iload_n 3, 1) := by decide +kernel
theorem dX8_counted_50 : decode cX8_counted 50 = .ok (.aload_n 0, 1) := by decide +kernel
theorem dX8_counted_51 : decode cX8_counted 51 = .ok (.getfield 7, 3) := by decide +kernel
theorem dX8_counted_54 : decode cX8_counted 54 = .ok (.iconst 5, 1) := by decide +kernel
theorem dX8_counted_55 : decode cX8_counted 55 = .ok (.iaload, 1) := by decide +kernel
theorem dX8_counted_56 : decode cX8_counted 56 = .ok (.iload 4, 2) := by decide +kernel
theorem dX8_counted_58 : decode cX8_counted 58 = .ok (.invokestatic 66, 3) := by decide +kernel
theorem dX8_counted_61 : decode cX8_counted 61 = .ok (.ifCond .eq 7, 3) := by decide +kernel
theorem dX8_counted_64 : decode cX8_counted 64 = .ok (.iconst 1, 1) := by decide +kernel
theorem dX8_counted_65 : decode cX8_counted 65 = .ok (.goto 4, 3) := by decide +kernel
theorem dX8_counted_68 : decode cX8_counted 68 = .ok (.iconst 0, 1) := by decide +kernel
theorem dX8_counted_69 : decode cX8_counted 69 = .ok (.iadd, 1) := by decide +kernel
theorem dX8_counted_70 : decode cX8_counted 70 = .ok (.istore_n 3, 1) := by decide +kernel
theorem dX8_counted_71 : decode cX8_counted 71 = .ok (.iinc 4 1, 3) := by decide +kernel
theorem dX8_counted_74 : decode cX8_counted 74 = .ok (.goto (-32), 3) := by decide +kernel
theorem dX8_counted_77 : decode cX8_counted 77 = .ok (.iload_n 1, 1) := by decide +kernel
theorem dX8_counted_78 : decode cX8_counted 78 = .ok (.tableswitch 110 0 8 #[50, 58, 60, 62, 70, 78, 86, 94, 102], 50) := by decide +kernel
theorem dX8_counted_128 : decode cX8_counted 128 = .ok (.aload_n 0, 1) := by decide +kernel
theorem dX8_counted_129 : decode cX8_counted 129 = .ok (.getfield 7, 3) := by decide +kernel
theorem dX8_counted_132 : decode cX8_counted 132 = .ok (.bipush 8, 2) := by decide +kernel
theorem dX8_counted_134 : decode cX8_counted 134 = .ok (.iaload, 1) := by decide +kernel
theorem dX8_counted_135 : decode cX8_counted 135 = .ok (.ireturn, 1) := by decide +kernel
theorem dX8_counted_136 : decode cX8_counted 136 = .ok (.iload_n 2, 1) := by decide +kernel
theorem dX8_counted_137 : decode cX8_counted 137 = .ok (.ireturn, 1) := by decide +kernel
theorem dX8_counted_138 : decode cX8_counted 138 = .ok (.iload_n 3, 1) := by decide +kernel
theorem dX8_counted_139 : decode cX8_counted 139 = .ok (.ireturn, 1) := by decide +kernel
theorem dX8_counted_140 : decode cX8_counted 140 = .ok (.aload_n 0, 1) := by decide +kernel
theorem dX8_counted_141 : decode cX8_counted 141 = .ok (.getfield 7, 3) := by decide +kernel
theorem dX8_counted_144 : decode cX8_counted 144 = .ok (.bipush 6, 2) := by decide +kernel
theorem dX8_counted_146 : decode cX8_counted 146 = .ok (.iaload, 1) := by decide +kernel
theorem dX8_counted_147 : decode cX8_counted 147 = .ok (.ireturn, 1) := by decide +kernel
theorem dX8_counted_148 : decode cX8_counted 148 = .ok (.aload_n 0, 1) := by decide +kernel
theorem dX8_counted_149 : decode cX8_counted 149 = .ok (.getfield 7, 3) := by decide +kernel
theorem dX8_counted_152 : decode cX8_counted 152 = .ok (.bipush 7, 2) := by decide +kernel
theorem dX8_counted_154 : decode cX8_counted 154 = .ok (.iaload, 1) := by decide +kernel
theorem dX8_counted_155 : decode cX8_counted 155 = .ok (.ireturn, 1) := by decide +kernel
theorem dX8_counted_156 : decode cX8_counted 156 = .ok (.aload_n 0, 1) := by decide +kernel
theorem dX8_counted_157 : decode cX8_counted 157 = .ok (.getfield 7, 3) := by decide +kernel
theorem dX8_counted_160 : decode cX8_counted 160 = .ok (.bipush 30, 2) := by decide +kernel
theorem dX8_counted_162 : decode cX8_counted 162 = .ok (.iaload, 1) := by decide +kernel
theorem dX8_counted_163 : decode cX8_counted 163 = .ok (.ireturn, 1) := by decide +kernel
theorem dX8_counted_164 : decode cX8_counted 164 = .ok (.aload_n 0, 1) := by decide +kernel
theorem dX8_counted_165 : decode cX8_counted 165 = .ok (.getfield 7, 3) := by decide +kernel
theorem dX8_counted_168 : decode cX8_counted 168 = .ok (.bipush 46, 2) := by decide +kernel
theorem dX8_counted_170 : decode cX8_counted 170 = .ok (.iaload, 1) := by decide +kernel
theorem dX8_counted_171 : decode cX8_counted 171 = .ok (.ireturn, 1) := by decide +kernel
theorem dX8_counted_172 : decode cX8_counted 172 = .ok (.aload_n 0, 1) := by decide +kernel
theorem dX8_counted_173 : decode cX8_counted 173 = .ok (.getfield 7, 3) := by decide +kernel
theorem dX8_counted_176 : decode cX8_counted 176 = .ok (.bipush 65, 2) := by decide +kernel
theorem dX8_counted_178 : decode cX8_counted 178 = .ok (.iaload, 1) := by decide +kernel
theorem dX8_counted_179 : decode cX8_counted 179 = .ok (.ireturn, 1) := by decide +kernel
theorem dX8_counted_180 : decode cX8_counted 180 = .ok (.aload_n 0, 1) := by decide +kernel
theorem dX8_counted_181 : decode cX8_counted 181 = .ok (.getfield 7, 3) := by decide +kernel
theorem dX8_counted_184 : decode cX8_counted 184 = .ok (.bipush 90, 2) := by decide +kernel
theorem dX8_counted_186 : decode cX8_counted 186 = .ok (.iaload, 1) := by decide +kernel
theorem dX8_counted_187 : decode cX8_counted 187 = .ok (.ireturn, 1) := by decide +kernel
theorem dX8_counted_188 : decode cX8_counted 188 = .ok (.aload_n 0, 1) := by decide +kernel
theorem dX8_counted_189 : decode cX8_counted 189 = .ok (.getfield 117, 3) := by decide +kernel
theorem dX8_counted_192 : decode cX8_counted 192 = .ok (.ireturn, 1) := by decide +kernel
theorem dX8_count_0 : decode cX8_count 0 = .ok (.iload_n 1, 1) := by decide +kernel
theorem dX8_count_1 : decode cX8_count 1 = .ok (.i2l, 1) := by decide +kernel
theorem dX8_count_2 : decode cX8_count 2 = .ok (.lconst 0, 1) := by decide +kernel
theorem dX8_count_3 : decode cX8_count 3 = .ok (.ldc2_w 295, 3) := by decide +kernel
theorem dX8_count_6 : decode cX8_count 6 = .ok (.invokestatic 46, 3) := by decide +kernel
theorem dX8_count_9 : decode cX8_count 9 = .ok (.ifCond .eq 11, 3) := by decide +kernel
theorem dX8_count_12 : decode cX8_count 12 = .ok (.aload_n 0, 1) := by decide +kernel
theorem dX8_count_13 : decode cX8_count 13 = .ok (.iload_n 1, 1) := by decide +kernel
theorem dX8_count_14 : decode cX8_count 14 = .ok (.invokevirtual 297, 3) := by decide +kernel
theorem dX8_count_17 : decode cX8_count 17 = .ok (.goto 7, 3) := by decide +kernel
theorem dX8_count_20 : decode cX8_count 20 = .ok (.aload_n 0, 1) := by decide +kernel
theorem dX8_count_21 : decode cX8_count 21 = .ok (.invokevirtual 101, 3) := by decide +kernel
theorem dX8_count_24 : decode cX8_count 24 = .ok (.ireturn, 1) := by decide +kernel
theorem dX8_digestOf_0 : decode cX8_digestOf 0 = .ok (.lload_n 1, 1) := by decide +kernel
theorem dX8_digestOf_1 : decode cX8_digestOf 1 = .ok (.lstore 5, 2) := by decide +kernel
theorem dX8_digestOf_3 : decode cX8_digestOf 3 = .ok (.iconst 0, 1) := by decide +kernel
theorem dX8_digestOf_4 : decode cX8_digestOf 4 = .ok (.istore 7, 2) := by decide +kernel
theorem dX8_digestOf_6 : decode cX8_digestOf 6 = .ok (.iload 7, 2) := by decide +kernel
theorem dX8_digestOf_8 : decode cX8_digestOf 8 = .ok (.iload 4, 2) := by decide +kernel
theorem dX8_digestOf_10 : decode cX8_digestOf 10 = .ok (.if_icmp .ge 28, 3) := by decide +kernel
theorem dX8_digestOf_13 : decode cX8_digestOf 13 = .ok (.ldc2_w 300, 3) := by decide +kernel
theorem dX8_digestOf_16 : decode cX8_digestOf 16 = .ok (.lload 5, 2) := by decide +kernel
theorem dX8_digestOf_18 : decode cX8_digestOf 18 = .ok (.lmul, 1) := by decide +kernel
theorem dX8_digestOf_19 : decode cX8_digestOf 19 = .ok (.aload_n 0, 1) := by decide +kernel
theorem dX8_digestOf_20 : decode cX8_digestOf 20 = .ok (.getfield 7, 3) := by decide +kernel
theorem dX8_digestOf_23 : decode cX8_digestOf 23 = .ok (.iload_n 3, 1) := by decide +kernel
theorem dX8_digestOf_24 : decode cX8_digestOf 24 = .ok (.iload 7, 2) := by decide +kernel
theorem dX8_digestOf_26 : decode cX8_digestOf 26 = .ok (.iadd, 1) := by decide +kernel
theorem dX8_digestOf_27 : decode cX8_digestOf 27 = .ok (.iaload, 1) := by decide +kernel
theorem dX8_digestOf_28 : decode cX8_digestOf 28 = .ok (.i2l, 1) := by decide +kernel
theorem dX8_digestOf_29 : decode cX8_digestOf 29 = .ok (.ladd, 1) := by decide +kernel
theorem dX8_digestOf_30 : decode cX8_digestOf 30 = .ok (.lstore 5, 2) := by decide +kernel
theorem dX8_digestOf_32 : decode cX8_digestOf 32 = .ok (.iinc 7 1, 3) := by decide +kernel
theorem dX8_digestOf_35 : decode cX8_digestOf 35 = .ok (.goto (-29), 3) := by decide +kernel
theorem dX8_digestOf_38 : decode cX8_digestOf 38 = .ok (.lload 5, 2) := by decide +kernel
theorem dX8_digestOf_40 : decode cX8_digestOf 40 = .ok (.lreturn, 1) := by decide +kernel
theorem dX8_digest_0 : decode cX8_digest 0 = .ok (.ldc2_w 302, 3) := by decide +kernel
theorem dX8_digest_3 : decode cX8_digest 3 = .ok (.lstore_n 1, 1) := by decide +kernel
theorem dX8_digest_4 : decode cX8_digest 4 = .ok (.iconst 0, 1) := by decide +kernel
theorem dX8_digest_5 : decode cX8_digest 5 = .ok (.istore_n 3, 1) := by decide +kernel
theorem dX8_digest_6 : decode cX8_digest 6 = .ok (.iload_n 3, 1) := by decide +kernel
theorem dX8_digest_7 : decode cX8_digest 7 = .ok (.bipush 10, 2) := by decide +kernel
theorem dX8_digest_9 : decode cX8_digest 9 = .ok (.if_icmp .ge 22, 3) := by decide +kernel
theorem dX8_digest_12 : decode cX8_digest 12 = .ok (.ldc2_w 300, 3) := by decide +kernel
theorem dX8_digest_15 : decode cX8_digest 15 = .ok (.lload_n 1, 1) := by decide +kernel
theorem dX8_digest_16 : decode cX8_digest 16 = .ok (.lmul, 1) := by decide +kernel
theorem dX8_digest_17 : decode cX8_digest 17 = .ok (.aload_n 0, 1) := by decide +kernel
theorem dX8_digest_18 : decode cX8_digest 18 = .ok (.iload_n 3, 1) := by decide +kernel
theorem dX8_digest_19 : decode cX8_digest 19 = .ok (.invokevirtual 297, 3) := by decide +kernel
theorem dX8_digest_22 : decode cX8_digest 22 = .ok (.i2l, 1) := by decide +kernel
theorem dX8_digest_23 : decode cX8_digest 23 = .ok (.ladd, 1) := by decide +kernel
theorem dX8_digest_24 : decode cX8_digest 24 = .ok (.lstore_n 1, 1) := by decide +kernel
theorem dX8_digest_25 : decode cX8_digest 25 = .ok (.iinc 3 1, 3) := by decide +kernel
theorem dX8_digest_28 : decode cX8_digest 28 = .ok (.goto (-22), 3) := by decide +kernel
theorem dX8_digest_31 : decode cX8_digest 31 = .ok (.aload_n 0, 1) := by decide +kernel
theorem dX8_digest_32 : decode cX8_digest 32 = .ok (.lload_n 1, 1) := by decide +kernel
theorem dX8_digest_33 : decode cX8_digest 33 = .ok (.iconst 0, 1) := by decide +kernel
theorem dX8_digest_34 : decode cX8_digest 34 = .ok (.bipush 6, 2) := by decide +kernel
theorem dX8_digest_36 : decode cX8_digest 36 = .ok (.invokevirtual 304, 3) := by decide +kernel
theorem dX8_digest_39 : decode cX8_digest 39 = .ok (.lstore_n 1, 1) := by decide +kernel
theorem dX8_digest_40 : decode cX8_digest 40 = .ok (.iconst 0, 1) := by decide +kernel
theorem dX8_digest_41 : decode cX8_digest 41 = .ok (.istore_n 3, 1) := by decide +kernel
theorem dX8_digest_42 : decode cX8_digest 42 = .ok (.iload_n 3, 1) := by decide +kernel
theorem dX8_digest_43 : decode cX8_digest 43 = .ok (.aload_n 0, 1) := by decide +kernel
theorem dX8_digest_44 : decode cX8_digest 44 = .ok (.getfield 7, 3) := by decide +kernel
theorem dX8_digest_47 : decode cX8_digest 47 = .ok (.bipush 8, 2) := by decide +kernel
theorem dX8_digest_49 : decode cX8_digest 49 = .ok (.iaload, 1) := by decide +kernel
theorem dX8_digest_50 : decode cX8_digest 50 = .ok (.if_icmp .ge 38, 3) := by decide +kernel
theorem dX8_digest_53 : decode cX8_digest 53 = .ok (.aload_n 0, 1) := by decide +kernel
theorem dX8_digest_54 : decode cX8_digest 54 = .ok (.lload_n 1, 1) := by decide +kernel
theorem dX8_digest_55 : decode cX8_digest 55 = .ok (.bipush 9, 2) := by decide +kernel
theorem dX8_digest_57 : decode cX8_digest 57 = .ok (.iconst 3, 1) := by decide +kernel
theorem dX8_digest_58 : decode cX8_digest 58 = .ok (.iload_n 3, 1) := by decide +kernel
theorem dX8_digest_59 : decode cX8_digest 59 = .ok (.imul, 1) := by decide +kernel
theorem dX8_digest_60 : decode cX8_digest 60 = .ok (.iadd, 1) := by decide +kernel
theorem dX8_digest_61 : decode cX8_digest 61 = .ok (.iconst 2, 1) := by decide +kernel
theorem dX8_digest_62 : decode cX8_digest 62 = .ok (.invokevirtual 304, 3) := by decide +kernel
theorem dX8_digest_65 : decode cX8_digest 65 = .ok (.lstore_n 1, 1) := by decide +kernel
theorem dX8_digest_66 : decode cX8_digest 66 = .ok (.ldc2_w 300, 3) := by decide +kernel
theorem dX8_digest_69 : decode cX8_digest 69 = .ok (.lload_n 1, 1) := by decide +kernel
theorem dX8_digest_70 : decode cX8_digest 70 = .ok (.lmul, 1) := by decide +kernel
theorem dX8_digest_71 : decode cX8_digest 71 = .ok (.aload_n 0, 1) := by decide +kernel
theorem dX8_digest_72 : decode cX8_digest 72 = .ok (.getfield 7, 3) := by decide +kernel
theorem dX8_digest_75 : decode cX8_digest 75 = .ok (.iload_n 3, 1) := by decide +kernel
theorem dX8_digest_76 : decode cX8_digest 76 = .ok (.invokestatic 59, 3) := by decide +kernel
theorem dX8_digest_79 : decode cX8_digest 79 = .ok (.i2l, 1) := by decide +kernel
theorem dX8_digest_80 : decode cX8_digest 80 = .ok (.ladd, 1) := by decide +kernel
theorem dX8_digest_81 : decode cX8_digest 81 = .ok (.lstore_n 1, 1) := by decide +kernel
theorem dX8_digest_82 : decode cX8_digest 82 = .ok (.iinc 3 1, 3) := by decide +kernel
theorem dX8_digest_85 : decode cX8_digest 85 = .ok (.goto (-43), 3) := by decide +kernel
theorem dX8_digest_88 : decode cX8_digest 88 = .ok (.aload_n 0, 1) := by decide +kernel
theorem dX8_digest_89 : decode cX8_digest 89 = .ok (.lload_n 1, 1) := by decide +kernel
theorem dX8_digest_90 : decode cX8_digest 90 = .ok (.bipush 31, 2) := by decide +kernel
theorem dX8_digest_92 : decode cX8_digest 92 = .ok (.iconst 3, 1) := by decide +kernel
theorem dX8_digest_93 : decode cX8_digest 93 = .ok (.aload_n 0, 1) := by decide +kernel
theorem dX8_digest_94 : decode cX8_digest 94 = .ok (.getfield 7, 3) := by decide +kernel
theorem dX8_digest_97 : decode cX8_digest 97 = .ok (.bipush 30, 2) := by decide +kernel
theorem dX8_digest_99 : decode cX8_digest 99 = .ok (.iaload, 1) := by decide +kernel
theorem dX8_digest_100 : decode cX8_digest 100 = .ok (.imul, 1) := by decide +kernel
theorem dX8_digest_101 : decode cX8_digest 101 = .ok (.invokevirtual 304, 3) := by decide +kernel
theorem dX8_digest_104 : decode cX8_digest 104 = .ok (.lstore_n 1, 1) := by decide +kernel
theorem dX8_digest_105 : decode cX8_digest 105 = .ok (.aload_n 0, 1) := by decide +kernel
theorem dX8_digest_106 : decode cX8_digest 106 = .ok (.lload_n 1, 1) := by decide +kernel
theorem dX8_digest_107 : decode cX8_digest 107 = .ok (.bipush 47, 2) := by decide +kernel
theorem dX8_digest_109 : decode cX8_digest 109 = .ok (.iconst 3, 1) := by decide +kernel
theorem dX8_digest_110 : decode cX8_digest 110 = .ok (.aload_n 0, 1) := by decide +kernel
theorem dX8_digest_111 : decode cX8_digest 111 = .ok (.getfield 7, 3) := by decide +kernel
theorem dX8_digest_114 : decode cX8_digest 114 = .ok (.bipush 46, 2) := by decide +kernel
theorem dX8_digest_116 : decode cX8_digest 116 = .ok (.iaload, 1) := by decide +kernel
theorem dX8_digest_117 : decode cX8_digest 117 = .ok (.imul, 1) := by decide +kernel
theorem dX8_digest_118 : decode cX8_digest 118 = .ok (.invokevirtual 304, 3) := by decide +kernel
theorem dX8_digest_121 : decode cX8_digest 121 = .ok (.lstore_n 1, 1) := by decide +kernel
theorem dX8_digest_122 : decode cX8_digest 122 = .ok (.aload_n 0, 1) := by decide +kernel
theorem dX8_digest_123 : decode cX8_digest 123 = .ok (.lload_n 1, 1) := by decide +kernel
theorem dX8_digest_124 : decode cX8_digest 124 = .ok (.bipush 66, 2) := by decide +kernel
theorem dX8_digest_126 : decode cX8_digest 126 = .ok (.iconst 4, 1) := by decide +kernel
theorem dX8_digest_127 : decode cX8_digest 127 = .ok (.aload_n 0, 1) := by decide +kernel
theorem dX8_digest_128 : decode cX8_digest 128 = .ok (.getfield 7, 3) := by decide +kernel
theorem dX8_digest_131 : decode cX8_digest 131 = .ok (.bipush 65, 2) := by decide +kernel
theorem dX8_digest_133 : decode cX8_digest 133 = .ok (.iaload, 1) := by decide +kernel
theorem dX8_digest_134 : decode cX8_digest 134 = .ok (.imul, 1) := by decide +kernel
theorem dX8_digest_135 : decode cX8_digest 135 = .ok (.invokevirtual 304, 3) := by decide +kernel
theorem dX8_digest_138 : decode cX8_digest 138 = .ok (.lstore_n 1, 1) := by decide +kernel
theorem dX8_digest_139 : decode cX8_digest 139 = .ok (.ldc2_w 300, 3) := by decide +kernel
theorem dX8_digest_142 : decode cX8_digest 142 = .ok (.ldc2_w 300, 3) := by decide +kernel
theorem dX8_digest_145 : decode cX8_digest 145 = .ok (.lload_n 1, 1) := by decide +kernel
theorem dX8_digest_146 : decode cX8_digest 146 = .ok (.lmul, 1) := by decide +kernel
theorem dX8_digest_147 : decode cX8_digest 147 = .ok (.aload_n 0, 1) := by decide +kernel
theorem dX8_digest_148 : decode cX8_digest 148 = .ok (.getfield 52, 3) := by decide +kernel
theorem dX8_digest_151 : decode cX8_digest 151 = .ok (.ladd, 1) := by decide +kernel
theorem dX8_digest_152 : decode cX8_digest 152 = .ok (.lmul, 1) := by decide +kernel
theorem dX8_digest_153 : decode cX8_digest 153 = .ok (.aload_n 0, 1) := by decide +kernel
theorem dX8_digest_154 : decode cX8_digest 154 = .ok (.getfield 23, 3) := by decide +kernel
theorem dX8_digest_157 : decode cX8_digest 157 = .ok (.ladd, 1) := by decide +kernel
theorem dX8_digest_158 : decode cX8_digest 158 = .ok (.lreturn, 1) := by decide +kernel
