theorem dX8_undo_22 : decode cX8_undo 22 = .ok (.iaload, 1) := by decide +kernel
theorem dX8_undo_23 : decode cX8_undo 23 = .ok (.iconst 1, 1) := by decide +kernel
theorem dX8_undo_24 : decode cX8_undo 24 = .ok (.isub, 1) := by decide +kernel
theorem dX8_undo_25 : decode cX8_undo 25 = .ok (.iastore, 1) := by decide +kernel
theorem dX8_undo_26 : decode cX8_undo 26 = .ok (.bipush 91, 2) := by decide +kernel
theorem dX8_undo_28 : decode cX8_undo 28 = .ok (.bipush 10, 2) := by decide +kernel
theorem dX8_undo_30 : decode cX8_undo 30 = .ok (.aload_n 0, 1) := by decide +kernel
theorem dX8_undo_31 : decode cX8_undo 31 = .ok (.getfield 7, 3) := by decide +kernel
theorem dX8_undo_34 : decode cX8_undo 34 = .ok (.bipush 90, 2) := by decide +kernel
theorem dX8_undo_36 : decode cX8_undo 36 = .ok (.iaload, 1) := by decide +kernel
theorem dX8_undo_37 : decode cX8_undo 37 = .ok (.imul, 1) := by decide +kernel
theorem dX8_undo_38 : decode cX8_undo 38 = .ok (.iadd, 1) := by decide +kernel
theorem dX8_undo_39 : decode cX8_undo 39 = .ok (.istore_n 1, 1) := by decide +kernel
theorem dX8_undo_40 : decode cX8_undo 40 = .ok (.iconst 0, 1) := by decide +kernel
theorem dX8_undo_41 : decode cX8_undo 41 = .ok (.istore_n 2, 1) := by decide +kernel
theorem dX8_undo_42 : decode cX8_undo 42 = .ok (.iload_n 2, 1) := by decide +kernel
theorem dX8_undo_43 : decode cX8_undo 43 = .ok (.iconst 3, 1) := by decide +kernel
theorem dX8_undo_44 : decode cX8_undo 44 = .ok (.if_icmp .ge 25, 3) := by decide +kernel
theorem dX8_undo_47 : decode cX8_undo 47 = .ok (.aload_n 0, 1) := by decide +kernel
theorem dX8_undo_48 : decode cX8_undo 48 = .ok (.getfield 7, 3) := by decide +kernel
theorem dX8_undo_51 : decode cX8_undo 51 = .ok (.iconst 5, 1) := by decide +kernel
theorem dX8_undo_52 : decode cX8_undo 52 = .ok (.iload_n 2, 1) := by decide +kernel
theorem dX8_undo_53 : decode cX8_undo 53 = .ok (.iadd, 1) := by decide +kernel
theorem dX8_undo_54 : decode cX8_undo 54 = .ok (.aload_n 0, 1) := by decide +kernel
theorem dX8_undo_55 : decode cX8_undo 55 = .ok (.getfield 7, 3) := by decide +kernel
theorem dX8_undo_58 : decode cX8_undo 58 = .ok (.iload_n 1, 1) := by decide +kernel
theorem dX8_undo_59 : decode cX8_undo 59 = .ok (.iload_n 2, 1) := by decide +kernel
theorem dX8_undo_60 : decode cX8_undo 60 = .ok (.iadd, 1) := by decide +kernel
theorem dX8_undo_61 : decode cX8_undo 61 = .ok (.iaload, 1) := by decide +kernel
theorem dX8_undo_62 : decode cX8_undo 62 = .ok (.iastore, 1) := by decide +kernel
theorem dX8_undo_63 : decode cX8_undo 63 = .ok (.iinc 2 1, 3) := by decide +kernel
theorem dX8_undo_66 : decode cX8_undo 66 = .ok (.goto (-24), 3) := by decide +kernel
theorem dX8_undo_69 : decode cX8_undo 69 = .ok (.iconst 0, 1) := by decide +kernel
theorem dX8_undo_70 : decode cX8_undo 70 = .ok (.istore_n 2, 1) := by decide +kernel
theorem dX8_undo_71 : decode cX8_undo 71 = .ok (.iload_n 2, 1) := by decide +kernel
theorem dX8_undo_72 : decode cX8_undo 72 = .ok (.aload_n 0, 1) := by decide +kernel
theorem dX8_undo_73 : decode cX8_undo 73 = .ok (.getfield 7, 3) := by decide +kernel
theorem dX8_undo_76 : decode cX8_undo 76 = .ok (.bipush 8, 2) := by decide +kernel
theorem dX8_undo_78 : decode cX8_undo 78 = .ok (.iaload, 1) := by decide +kernel
theorem dX8_undo_79 : decode cX8_undo 79 = .ok (.if_icmp .ge 30, 3) := by decide +kernel
theorem dX8_undo_82 : decode cX8_undo 82 = .ok (.aload_n 0, 1) := by decide +kernel
theorem dX8_undo_83 : decode cX8_undo 83 = .ok (.getfield 7, 3) := by decide +kernel
theorem dX8_undo_86 : decode cX8_undo 86 = .ok (.bipush 11, 2) := by decide +kernel
theorem dX8_undo_88 : decode cX8_undo 88 = .ok (.iconst 3, 1) := by decide +kernel
theorem dX8_undo_89 : decode cX8_undo 89 = .ok (.iload_n 2, 1) := by decide +kernel
theorem dX8_undo_90 : decode cX8_undo 90 = .ok (.imul, 1) := by decide +kernel
theorem dX8_undo_91 : decode cX8_undo 91 = .ok (.iadd, 1) := by decide +kernel
theorem dX8_undo_92 : decode cX8_undo 92 = .ok (.aload_n 0, 1) := by decide +kernel
theorem dX8_undo_93 : decode cX8_undo 93 = .ok (.getfield 7, 3) := by decide +kernel
theorem dX8_undo_96 : decode cX8_undo 96 = .ok (.iload_n 1, 1) := by decide +kernel
theorem dX8_undo_97 : decode cX8_undo 97 = .ok (.iconst 3, 1) := by decide +kernel
theorem dX8_undo_98 : decode cX8_undo 98 = .ok (.iadd, 1) := by decide +kernel
theorem dX8_undo_99 : decode cX8_undo 99 = .ok (.iload_n 2, 1) := by decide +kernel
theorem dX8_undo_100 : decode cX8_undo 100 = .ok (.iadd, 1) := by decide +kernel
theorem dX8_undo_101 : decode cX8_undo 101 = .ok (.iaload, 1) := by decide +kernel
theorem dX8_undo_102 : decode cX8_undo 102 = .ok (.iastore, 1) := by decide +kernel
theorem dX8_undo_103 : decode cX8_undo 103 = .ok (.iinc 2 1, 3) := by decide +kernel
theorem dX8_undo_106 : decode cX8_undo 106 = .ok (.goto (-35), 3) := by decide +kernel
theorem dX8_undo_109 : decode cX8_undo 109 = .ok (.aload_n 0, 1) := by decide +kernel
theorem dX8_undo_110 : decode cX8_undo 110 = .ok (.getfield 7, 3) := by decide +kernel
theorem dX8_undo_113 : decode cX8_undo 113 = .ok (.bipush 6, 2) := by decide +kernel
theorem dX8_undo_115 : decode cX8_undo 115 = .ok (.iaload, 1) := by decide +kernel
theorem dX8_undo_116 : decode cX8_undo 116 = .ok (.ireturn, 1) := by decide +kernel
theorem dX8_shows_0 : decode cX8_shows 0 = .ok (.aload_n 0, 1) := by decide +kernel
theorem dX8_shows_1 : decode cX8_shows 1 = .ok (.iload_n 1, 1) := by decide +kernel
theorem dX8_shows_2 : decode cX8_shows 2 = .ok (.invokevirtual 203, 3) := by decide +kernel
theorem dX8_shows_5 : decode cX8_shows 5 = .ok (.ifCond .eq 10, 3) := by decide +kernel
theorem dX8_shows_8 : decode cX8_shows 8 = .ok (.iload_n 2, 1) := by decide +kernel
theorem dX8_shows_9 : decode cX8_shows 9 = .ok (.invokestatic 105, 3) := by decide +kernel
theorem dX8_shows_12 : decode cX8_shows 12 = .ok (.ifCond .ne 8, 3) := by decide +kernel
theorem dX8_shows_15 : decode cX8_shows 15 = .ok (.aload_n 0, 1) := by decide +kernel
theorem dX8_shows_16 : decode cX8_shows 16 = .ok (.invokevirtual 101, 3) := by decide +kernel
theorem dX8_shows_19 : decode cX8_shows 19 = .ok (.ireturn, 1) := by decide +kernel
theorem dX8_shows_20 : decode cX8_shows 20 = .ok (.aload_n 0, 1) := by decide +kernel
theorem dX8_shows_21 : decode cX8_shows 21 = .ok (.getfield 7, 3) := by decide +kernel
theorem dX8_shows_24 : decode cX8_shows 24 = .ok (.iload_n 1, 1) := by decide +kernel
theorem dX8_shows_25 : decode cX8_shows 25 = .ok (.invokestatic 59, 3) := by decide +kernel
theorem dX8_shows_28 : decode cX8_shows 28 = .ok (.iconst (-1), 1) := by decide +kernel
theorem dX8_shows_29 : decode cX8_shows 29 = .ok (.if_icmp .ne 27, 3) := by decide +kernel
theorem dX8_shows_32 : decode cX8_shows 32 = .ok (.aload_n 0, 1) := by decide +kernel
theorem dX8_shows_33 : decode cX8_shows 33 = .ok (.getfield 7, 3) := by decide +kernel
theorem dX8_shows_36 : decode cX8_shows 36 = .ok (.iload_n 2, 1) := by decide +kernel
theorem dX8_shows_37 : decode cX8_shows 37 = .ok (.invokestatic 171, 3) := by decide +kernel
theorem dX8_shows_40 : decode cX8_shows 40 = .ok (.ifCond .eq 16, 3) := by decide +kernel
theorem dX8_shows_43 : decode cX8_shows 43 = .ok (.aload_n 0, 1) := by decide +kernel
theorem dX8_shows_44 : decode cX8_shows 44 = .ok (.getfield 7, 3) := by decide +kernel
theorem dX8_shows_47 : decode cX8_shows 47 = .ok (.bipush 6, 2) := by decide +kernel
theorem dX8_shows_49 : decode cX8_shows 49 = .ok (.iaload, 1) := by decide +kernel
theorem dX8_shows_50 : decode cX8_shows 50 = .ok (.sipush 9999, 3) := by decide +kernel
theorem dX8_shows_53 : decode cX8_shows 53 = .ok (.if_icmp .ne 8, 3) := by decide +kernel
theorem dX8_shows_56 : decode cX8_shows 56 = .ok (.aload_n 0, 1) := by decide +kernel
theorem dX8_shows_57 : decode cX8_shows 57 = .ok (.invokevirtual 200, 3) := by decide +kernel
theorem dX8_shows_60 : decode cX8_shows 60 = .ok (.ireturn, 1) := by decide +kernel
theorem dX8_shows_61 : decode cX8_shows 61 = .ok (.aload_n 0, 1) := by decide +kernel
theorem dX8_shows_62 : decode cX8_shows 62 = .ok (.invokevirtual 206, 3) := by decide +kernel
theorem dX8_shows_65 : decode cX8_shows 65 = .ok (.aload_n 0, 1) := by decide +kernel
theorem dX8_shows_66 : decode cX8_shows 66 = .ok (.getfield 7, 3) := by decide +kernel
theorem dX8_shows_69 : decode cX8_shows 69 = .ok (.iload_n 1, 1) := by decide +kernel
theorem dX8_shows_70 : decode cX8_shows 70 = .ok (.iload_n 2, 1) := by decide +kernel
theorem dX8_shows_71 : decode cX8_shows 71 = .ok (.invokestatic 182, 3) := by decide +kernel
theorem dX8_shows_74 : decode cX8_shows 74 = .ok (.ireturn, 1) := by decide +kernel
theorem dX8_moves_0 : decode cX8_moves 0 = .ok (.aload_n 0, 1) := by decide +kernel
theorem dX8_moves_1 : decode cX8_moves 1 = .ok (.iload_n 1, 1) := by decide +kernel
theorem dX8_moves_2 : decode cX8_moves 2 = .ok (.invokevirtual 203, 3) := by decide +kernel
theorem dX8_moves_5 : decode cX8_moves 5 = .ok (.ifCond .eq 10, 3) := by decide +kernel
theorem dX8_moves_8 : decode cX8_moves 8 = .ok (.iload_n 2, 1) := by decide +kernel
theorem dX8_moves_9 : decode cX8_moves 9 = .ok (.invokestatic 105, 3) := by decide +kernel
theorem dX8_moves_12 : decode cX8_moves 12 = .ok (.ifCond .ne 8, 3) := by decide +kernel
theorem dX8_moves_15 : decode cX8_moves 15 = .ok (.aload_n 0, 1) := by decide +kernel
theorem dX8_moves_16 : decode cX8_moves 16 = .ok (.invokevirtual 101, 3) := by decide +kernel
theorem dX8_moves_19 : decode cX8_moves 19 = .ok (.ireturn, 1) := by decide +kernel
theorem dX8_moves_20 : decode cX8_moves 20 = .ok (.aload_n 0, 1) := by decide +kernel
theorem dX8_moves_21 : decode cX8_moves 21 = .ok (.getfield 7, 3) := by decide +kernel
theorem dX8_moves_24 : decode cX8_moves 24 = .ok (.iload_n 1, 1) := by decide +kernel
theorem dX8_moves_25 : decode cX8_moves 25 = .ok (.invokestatic 59, 3) := by decide +kernel
theorem dX8_moves_28 : decode cX8_moves 28 = .ok (.iconst (-1), 1) := by decide +kernel
theorem dX8_moves_29 : decode cX8_moves 29 = .ok (.if_icmp .eq 27, 3) := by decide +kernel
theorem dX8_moves_32 : decode cX8_moves 32 = .ok (.aload_n 0, 1) := by decide +kernel
theorem dX8_moves_33 : decode cX8_moves 33 = .ok (.getfield 7, 3) := by decide +kernel
theorem dX8_moves_36 : decode cX8_moves 36 = .ok (.iload_n 2, 1) := by decide +kernel
theorem dX8_moves_37 : decode cX8_moves 37 = .ok (.invokestatic 171, 3) := by decide +kernel
theorem dX8_moves_40 : decode cX8_moves 40 = .ok (.ifCond .eq 16, 3) := by decide +kernel
theorem dX8_moves_43 : decode cX8_moves 43 = .ok (.aload_n 0, 1) := by decide +kernel
theorem dX8_moves_44 : decode cX8_moves 44 = .ok (.getfield 7, 3) := by decide +kernel
theorem dX8_moves_47 : decode cX8_moves 47 = .ok (.bipush 6, 2) := by decide +kernel
theorem dX8_moves_49 : decode cX8_moves 49 = .ok (.iaload, 1) := by decide +kernel
theorem dX8_moves_50 : decode cX8_moves 50 = .ok (.sipush 9999, 3) := by decide +kernel
theorem dX8_moves_53 : decode cX8_moves 53 = .ok (.if_icmp .ne 8, 3) := by decide +kernel
theorem dX8_moves_56 : decode cX8_moves 56 = .ok (.aload_n 0, 1) := by decide +kernel
theorem dX8_moves_57 : decode cX8_moves 57 = .ok (.invokevirtual 200, 3) := by decide +kernel
theorem dX8_moves_60 : decode cX8_moves 60 = .ok (.ireturn, 1) := by decide +kernel
theorem dX8_moves_61 : decode cX8_moves 61 = .ok (.aload_n 0, 1) := by decide +kernel
theorem dX8_moves_62 : decode cX8_moves 62 = .ok (.invokevirtual 206, 3) := by decide +kernel
theorem dX8_moves_65 : decode cX8_moves 65 = .ok (.aload_n 0, 1) := by decide +kernel
theorem dX8_moves_66 : decode cX8_moves 66 = .ok (.getfield 7, 3) := by decide +kernel
theorem dX8_moves_69 : decode cX8_moves 69 = .ok (.iload_n 1, 1) := by decide +kernel
theorem dX8_moves_70 : decode cX8_moves 70 = .ok (.iload_n 2, 1) := by decide +kernel
theorem dX8_moves_71 : decode cX8_moves 71 = .ok (.invokestatic 182, 3) := by decide +kernel
theorem dX8_moves_74 : decode cX8_moves 74 = .ok (.ireturn, 1) := by decide +kernel
theorem dX8_sends_0 : decode cX8_sends 0 = .ok (.aload_n 0, 1) := by decide +kernel
theorem dX8_sends_1 : decode cX8_sends 1 = .ok (.iload_n 1, 1) := by decide +kernel
theorem dX8_sends_2 : decode cX8_sends 2 = .ok (.invokevirtual 203, 3) := by decide +kernel
theorem dX8_sends_5 : decode cX8_sends 5 = .ok (.ifCond .ne 8, 3) := by decide +kernel
theorem dX8_sends_8 : decode cX8_sends 8 = .ok (.aload_n 0, 1) := by decide +kernel
theorem dX8_sends_9 : decode cX8_sends 9 = .ok (.invokevirtual 101, 3) := by decide +kernel
theorem dX8_sends_12 : decode cX8_sends 12 = .ok (.ireturn, 1) := by decide +kernel
theorem dX8_sends_13 : decode cX8_sends 13 = .ok (.aload_n 0, 1) := by decide +kernel
theorem dX8_sends_14 : decode cX8_sends 14 = .ok (.getfield 7, 3) := by decide +kernel
theorem dX8_sends_17 : decode cX8_sends 17 = .ok (.iload_n 1, 1) := by decide +kernel
theorem dX8_sends_18 : decode cX8_sends 18 = .ok (.invokestatic 59, 3) := by decide +kernel
theorem dX8_sends_21 : decode cX8_sends 21 = .ok (.iconst (-1), 1) := by decide +kernel
theorem dX8_sends_22 : decode cX8_sends 22 = .ok (.if_icmp .eq 16, 3) := by decide +kernel
theorem dX8_sends_25 : decode cX8_sends 25 = .ok (.aload_n 0, 1) := by decide +kernel
theorem dX8_sends_26 : decode cX8_sends 26 = .ok (.getfield 7, 3) := by decide +kernel
theorem dX8_sends_29 : decode cX8_sends 29 = .ok (.bipush 6, 2) := by decide +kernel
theorem dX8_sends_31 : decode cX8_sends 31 = .ok (.iaload, 1) := by decide +kernel
theorem dX8_sends_32 : decode cX8_sends 32 = .ok (.sipush 9999, 3) := by decide +kernel
theorem dX8_sends_35 : decode cX8_sends 35 = .ok (.if_icmp .ne 8, 3) := by decide +kernel
theorem dX8_sends_38 : decode cX8_sends 38 = .ok (.aload_n 0, 1) := by decide +kernel
theorem dX8_sends_39 : decode cX8_sends 39 = .ok (.invokevirtual 200, 3) := by decide +kernel
theorem dX8_sends_42 : decode cX8_sends 42 = .ok (.ireturn, 1) := by decide +kernel
theorem dX8_sends_43 : decode cX8_sends 43 = .ok (.aload_n 0, 1) := by decide +kernel
theorem dX8_sends_44 : decode cX8_sends 44 = .ok (.invokevirtual 206, 3) := by decide +kernel
theorem dX8_sends_47 : decode cX8_sends 47 = .ok (.aload_n 0, 1) := by decide +kernel
theorem dX8_sends_48 : decode cX8_sends 48 = .ok (.getfield 7, 3) := by decide +kernel
theorem dX8_sends_51 : decode cX8_sends 51 = .ok (.iload_n 1, 1) := by decide +kernel
theorem dX8_sends_52 : decode cX8_sends 52 = .ok (.iconst (-1), 1) := by decide +kernel
theorem dX8_sends_53 : decode cX8_sends 53 = .ok (.invokestatic 182, 3) := by decide +kernel
theorem dX8_sends_56 : decode cX8_sends 56 = .ok (.ireturn, 1) := by decide +kernel
theorem dX8_coat_0 : decode cX8_coat 0 = .ok (.iload_n 1, 1) := by decide +kernel
theorem dX8_coat_1 : decode cX8_coat 1 = .ok (.invokestatic 105, 3) := by decide +kernel
theorem dX8_coat_4 : decode cX8_coat 4 = .ok (.ifCond .eq 13, 3) := by decide +kernel
theorem dX8_coat_7 : decode cX8_coat 7 = .ok (.iload_n 2, 1) := by decide +kernel
theorem dX8_coat_8 : decode cX8_coat 8 = .ok (.i2l, 1) := by decide +kernel
theorem dX8_coat_9 : decode cX8_coat 9 = .ok (.lconst 0, 1) := by decide +kernel
theorem dX8_coat_10 : decode cX8_coat 10 = .ok (.lconst 1, 1) := by decide +kernel
theorem dX8_coat_11 : decode cX8_coat 11 = .ok (.invokestatic 46, 3) := by decide +kernel
theorem dX8_coat_14 : decode cX8_coat 14 = .ok (.ifCond .ne 8, 3) := by decide +kernel
theorem dX8_coat_17 : decode cX8_coat 17 = .ok (.aload_n 0, 1) := by decide +kernel
theorem dX8_coat_18 : decode cX8_coat 18 = .ok (.invokevirtual 101, 3) := by decide +kernel
theorem dX8_coat_21 : decode cX8_coat 21 = .ok (.ireturn, 1) := by decide +kernel
theorem dX8_coat_22 : decode cX8_coat 22 = .ok (.aload_n 0, 1) := by decide +kernel
theorem dX8_coat_23 : decode cX8_coat 23 = .ok (.getfield 7, 3) := by decide +kernel
theorem dX8_coat_26 : decode cX8_coat 26 = .ok (.iconst 5, 1) := by decide +kernel
theorem dX8_coat_27 : decode cX8_coat 27 = .ok (.iaload, 1) := by decide +kernel
theorem dX8_coat_28 : decode cX8_coat 28 = .ok (.iload_n 1, 1) := by decide +kernel
theorem dX8_coat_29 : decode cX8_coat 29 = .ok (.invokestatic 66, 3) := by decide +kernel
theorem dX8_coat_32 : decode cX8_coat 32 = .ok (.iload_n 2, 1) := by decide +kernel
theorem dX8_coat_33 : decode cX8_coat 33 = .ok (.iconst 1, 1) := by decide +kernel
theorem dX8_coat_34 : decode cX8_coat 34 = .ok (.if_icmp .ne 7, 3) := by decide +kernel
theorem dX8_coat_37 : decode cX8_coat 37 = .ok (.iconst 1, 1) := by decide +kernel
theorem dX8_coat_38 : decode cX8_coat 38 = .ok (.goto 4, 3) := by decide +kernel
theorem dX8_coat_41 : decode cX8_coat 41 = .ok (.iconst 0, 1) := by decide +kernel
theorem dX8_coat_42 : decode cX8_coat 42 = .ok (.if_icmp .eq 15, 3) := by decide +kernel
theorem dX8_coat_45 : decode cX8_coat 45 = .ok (.aload_n 0, 1) := by decide +kernel
theorem dX8_coat_46 : decode cX8_coat 46 = .ok (.getfield 7, 3) := by decide +kernel
theorem dX8_coat_49 : decode cX8_coat 49 = .ok (.iload_n 1, 1) := by decide +kernel
theorem dX8_coat_50 : decode cX8_coat 50 = .ok (.invokestatic 63, 3) := by decide +kernel
theorem dX8_coat_53 : decode cX8_coat 53 = .ok (.iconst (-1), 1) := by decide +kernel
theorem dX8_coat_54 : decode cX8_coat 54 = .ok (.if_icmp .eq 8, 3) := by decide +kernel
theorem dX8_coat_57 : decode cX8_coat 57 = .ok (.aload_n 0, 1) := by decide +kernel
theorem dX8_coat_58 : decode cX8_coat 58 = .ok (.invokevirtual 200, 3) := by decide +kernel
theorem dX8_coat_61 : decode cX8_coat 61 = .ok (.ireturn, 1) := by decide +kernel
theorem dX8_coat_62 : decode cX8_coat 62 = .ok (.aload_n 0, 1) := by decide +kernel
theorem dX8_coat_63 : decode cX8_coat 63 = .ok (.invokevirtual 206, 3) := by decide +kernel
theorem dX8_coat_66 : decode cX8_coat 66 = .ok (.aload_n 0, 1) := by decide +kernel
theorem dX8_coat_67 : decode cX8_coat 67 = .ok (.getfield 7, 3) := by decide +kernel
theorem dX8_coat_70 : decode cX8_coat 70 = .ok (.iconst 5, 1) := by decide +kernel
theorem dX8_coat_71 : decode cX8_coat 71 = .ok (.dup2, 1) := by decide +kernel
theorem dX8_coat_72 : decode cX8_coat 72 = .ok (.iaload, 1) := by decide +kernel
theorem dX8_coat_73 : decode cX8_coat 73 = .ok (.iconst 1, 1) := by decide +kernel
theorem dX8_coat_74 : decode cX8_coat 74 = .ok (.iload_n 1, 1) := by decide +kernel
theorem dX8_coat_75 : decode cX8_coat 75 = .ok (.ishl, 1) := by decide +kernel
theorem dX8_coat_76 : decode cX8_coat 76 = .ok (.ixor, 1) := by decide +kernel
theorem dX8_coat_77 : decode cX8_coat 77 = .ok (.iastore, 1) := by decide +kernel
theorem dX8_coat_78 : decode cX8_coat 78 = .ok (.iconst 1, 1) := by decide +kernel
theorem dX8_coat_79 : decode cX8_coat 79 = .ok (.ireturn, 1) := by decide +kernel
theorem dX8_minutes_0 : decode cX8_minutes 0 = .ok (.iload_n 1, 1) := by decide +kernel
theorem dX8_minutes_1 : decode cX8_minutes 1 = .ok (.i2l, 1) := by decide +kernel
theorem dX8_minutes_2 : decode cX8_minutes 2 = .ok (.lconst 1, 1) := by decide +kernel
theorem dX8_minutes_3 : decode cX8_minutes 3 = .ok (.ldc2_w 209, 3) := by decide +kernel
theorem dX8_minutes_6 : decode cX8_minutes 6 = .ok (.invokestatic 46, 3) := by decide +kernel
theorem dX8_minutes_9 : decode cX8_minutes 9 = .ok (.ifCond .ne 8, 3) := by decide +kernel
theorem dX8_minutes_12 : decode cX8_minutes 12 = .ok (.aload_n 0, 1) := by decide +kernel
theorem dX8_minutes_13 : decode cX8_minutes 13 = .ok (.invokevirtual 101, 3) := by decide +kernel
theorem dX8_minutes_16 : decode cX8_minutes 16 = .ok (.ireturn, 1) := by decide +kernel
theorem dX8_minutes_17 : decode cX8_minutes 17 = .ok (.aload_n 0, 1) := by decide +kernel
theorem dX8_minutes_18 : decode cX8_minutes 18 = .ok (.invokevirtual 206, 3) := by decide +kernel
theorem dX8_minutes_21 : decode cX8_minutes 21 = .ok (.aload_n 0, 1) := by decide +kernel
theorem dX8_minutes_22 : decode cX8_minutes 22 = .ok (.getfield 7, 3) := by decide +kernel
theorem dX8_minutes_25 : decode cX8_minutes 25 = .ok (.bipush 6, 2) := by decide +kernel
theorem dX8_minutes_27 : decode cX8_minutes 27 = .ok (.aload_n 0, 1) := by decide +kernel
theorem dX8_minutes_28 : decode cX8_minutes 28 = .ok (.getfield 7, 3) := by decide +kernel
theorem dX8_minutes_31 : decode cX8_minutes 31 = .ok (.bipush 6, 2) := by decide +kernel
theorem dX8_minutes_33 : decode cX8_minutes 33 = .ok (.iaload, 1) := by decide +kernel
theorem dX8_minutes_34 : decode cX8_minutes 34 = .ok (.iload_n 1, 1) := by decide +kernel
theorem dX8_minutes_35 : decode cX8_minutes 35 = .ok (.iadd, 1) := by decide +kernel
theorem dX8_minutes_36 : decode cX8_minutes 36 = .ok (.sipush 9999, 3) := by decide +kernel
theorem dX8_minutes_39 : decode cX8_minutes 39 = .ok (.if_icmp .le 9, 3) := by decide +kernel
theorem dX8_minutes_42 : decode cX8_minutes 42 = .ok (.sipush 9999, 3) := by decide +kernel
theorem dX8_minutes_45 : decode cX8_minutes 45 = .ok (.goto 12, 3) := by decide +kernel
theorem dX8_minutes_48 : decode cX8_minutes 48 = .ok (.aload_n 0, 1) := by decide +kernel
theorem dX8_minutes_49 : decode cX8_minutes 49 = .ok (.getfield 7, 3) := by decide +kernel
theorem dX8_minutes_52 : decode cX8_minutes 52 = .ok (.bipush 6, 2) := by decide +kernel
theorem dX8_minutes_54 : decode cX8_minutes 54 = .ok (.iaload, 1) := by decide +kernel
theorem dX8_minutes_55 : decode cX8_minutes 55 = .ok (.iload_n 1, 1) := by decide +kernel
theorem dX8_minutes_56 : decode cX8_minutes 56 = .ok (.iadd, 1) := by decide +kernel
theorem dX8_minutes_57 : decode cX8_minutes 57 = .ok (.iastore, 1) := by decide +kernel
theorem dX8_minutes_58 : decode cX8_minutes 58 = .ok (.aload_n 0, 1) := by decide +kernel
theorem dX8_minutes_59 : decode cX8_minutes 59 = .ok (.getfield 7, 3) := by decide +kernel
theorem dX8_minutes_62 : decode cX8_minutes 62 = .ok (.bipush 6, 2) := by decide +kernel
theorem dX8_minutes_64 : decode cX8_minutes 64 = .ok (.iaload, 1) := by decide +kernel
theorem dX8_minutes_65 : decode cX8_minutes 65 = .ok (.ireturn, 1) := by decide +kernel
theorem dX8_of_0 : decode cX8_of 0 = .ok (.aload_n 0, 1) := by decide +kernel
theorem dX8_of_1 : decode cX8_of 1 = .ok (.iload_n 1, 1) := by decide +kernel
theorem dX8_of_2 : decode cX8_of 2 = .ok (.invokevirtual 203, 3) := by decide +kernel
theorem dX8_of_5 : decode cX8_of 5 = .ok (.ifCond .eq 15, 3) := by decide +kernel
theorem dX8_of_8 : decode cX8_of 8 = .ok (.iload_n 2, 1) := by decide +kernel
theorem dX8_of_9 : decode cX8_of 9 = .ok (.i2l, 1) := by decide +kernel
theorem dX8_of_10 : decode cX8_of 10 = .ok (.lconst 0, 1) := by decide +kernel
theorem dX8_of_11 : decode cX8_of 11 = .ok (.ldc2_w 211, 3) := by decide +kernel
theorem dX8_of_14 : decode cX8_of 14 = .ok (.invokestatic 46, 3) := by decide +kernel
theorem dX8_of_17 : decode cX8_of 17 = .ok (.ifCond .ne 8, 3) := by decide +kernel
theorem dX8_of_20 : decode cX8_of 20 = .ok (.aload_n 0, 1) := by decide +kernel
theorem dX8_of_21 : decode cX8_of 21 = .ok (.invokevirtual 101, 3) := by decide +kernel
theorem dX8_of_24 : decode cX8_of 24 = .ok (.ireturn, 1) := by decide +kernel
theorem dX8_of_25 : decode cX8_of 25 = .ok (.iload_n 2, 1) := by decide +kernel
theorem dX8_of_26 : decode cX8_of 26 = .ok (.iconst 2, 1) := by decide +kernel
theorem dX8_of_27 : decode cX8_of 27 = .ok (.if_icmp .ge 15, 3) := by decide +kernel
theorem dX8_of_30 : decode cX8_of 30 = .ok (.aload_n 0, 1) := by decide +kernel
theorem dX8_of_31 : decode cX8_of 31 = .ok (.getfield 7, 3) := by decide +kernel
theorem dX8_of_34 : decode cX8_of 34 = .ok (.iload_n 1, 1) := by decide +kernel
theorem dX8_of_35 : decode cX8_of 35 = .ok (.iload_n 2, 1) := by decide +kernel
theorem dX8_of_36 : decode cX8_of 36 = .ok (.invokestatic 55, 3) := by decide +kernel
theorem dX8_of_39 : decode cX8_of 39 = .ok (.goto 11, 3) := by decide +kernel
theorem dX8_of_42 : decode cX8_of 42 = .ok (.aload_n 0, 1) := by decide +kernel
theorem dX8_of_43 : decode cX8_of 43 = .ok (.getfield 7, 3) := by decide +kernel
theorem dX8_of_46 : decode cX8_of 46 = .ok (.iload_n 1, 1) := by decide +kernel
theorem dX8_of_47 : decode cX8_of 47 = .ok (.invokestatic 59, 3) := by decide +kernel
theorem dX8_of_50 : decode cX8_of 50 = .ok (.ireturn, 1) := by decide +kernel
theorem dX8_about_0 : decode cX8_about 0 = .ok (.iload_n 1, 1) := by decide +kernel
theorem dX8_about_1 : decode cX8_about 1 = .ok (.invokestatic 105, 3) := by decide +kernel
theorem dX8_about_4 : decode cX8_about 4 = .ok (.ifCond .ne 8, 3) := by decide +kernel
theorem dX8_about_7 : decode cX8_about 7 = .ok (.aload_n 0, 1) := by decide +kernel
theorem dX8_about_8 : decode cX8_about 8 = .ok (.invokevirtual 101, 3) := by decide +kernel
theorem dX8_about_11 : decode cX8_about 11 = .ok (.ireturn, 1) := by decide +kernel
theorem dX8_about_12 : decode cX8_about 12 = .ok (.iload_n 2, 1) := by decide +kernel
theorem dX8_about_13 : decode cX8_about 13 = .ok (.tableswitch 92 0 4 #[35, 45, 54, 73, 83], 35) := by decide +kernel
theorem dX8_about_48 : decode cX8_about 48 = .ok (.aload_n 0, 1) := by decide +kernel
theorem dX8_about_49 : decode cX8_about 49 = .ok (.getfield 7, 3) := by decide +kernel
theorem dX8_about_52 : decode cX8_about 52 = .ok (.iload_n 1, 1) := by decide +kernel
theorem dX8_about_53 : decode cX8_about 53 = .ok (.bipush 6, 2) := by decide +kernel
theorem dX8_about_55 : decode cX8_about 55 = .ok (.idiv, 1) := by decide +kernel
theorem dX8_about_56 : decode cX8_about 56 = .ok (.iaload, 1) := by decide +kernel
theorem dX8_about_57 : decode cX8_about 57 = .ok (.ireturn, 1) := by decide +kernel
theorem dX8_about_58 : decode cX8_about 58 = .ok (.aload_n 0, 1) := by decide +kernel
theorem dX8_about_59 : decode cX8_about 59 = .ok (.getfield 7, 3) := by decide +kernel
theorem dX8_about_62 : decode cX8_about 62 = .ok (.iload_n 1, 1) := by decide +kernel
theorem dX8_about_63 : decode cX8_about 63 = .ok (.invokestatic 63, 3) := by decide +kernel
theorem dX8_about_66 : decode cX8_about 66 = .ok (.ireturn, 1) := by decide +kernel
theorem dX8_about_67 : decode cX8_about 67 = .ok (.aload_n 0, 1) := by decide +kernel
theorem dX8_about_68 : decode cX8_about 68 = .ok (.getfield 7, 3) := by decide +kernel
theorem dX8_about_71 : decode cX8_about 71 = .ok (.iconst 5, 1) := by decide +kernel
theorem dX8_about_72 : decode cX8_about 72 = .ok (.iaload, 1) := by decide +kernel
theorem dX8_about_73 : decode cX8_about 73 = .ok (.iload_n 1, 1) := by decide +kernel
theorem dX8_about_74 : decode cX8_about 74 = .ok (.invokestatic 66, 3) := by decide +kernel
theorem dX8_about_77 : decode cX8_about 77 = .ok (.ifCond .eq 7, 3) := by decide +kernel
theorem dX8_about_80 : decode cX8_about 80 = .ok (.iconst 1, 1) := by decide +kernel
theorem dX8_about_81 : decode cX8_about 81 = .ok (.goto 4, 3) := by decide +kernel
theorem dX8_about_84 : decode cX8_about 84 = .ok (.iconst 0, 1) := by decide +kernel
theorem dX8_about_85 : decode cX8_about 85 = .ok (.ireturn, 1) := by decide +kernel
theorem dX8_about_86 : decode cX8_about 86 = .ok (.aload_n 0, 1) := by decide +kernel
theorem dX8_about_87 : decode cX8_about 87 = .ok (.getfield 7, 3) := by decide +kernel
theorem dX8_about_90 : decode cX8_about 90 = .ok (.iload_n 1, 1) := by decide +kernel
theorem dX8_about_91 : decode cX8_about 91 = .ok (.iconst (-1), 1) := by decide +kernel
theorem dX8_about_92 : decode cX8_about 92 = .ok (.invokestatic 70, 3) := by decide +kernel
theorem dX8_about_95 : decode cX8_about 95 = .ok (.ireturn, 1) := by decide +kernel
theorem dX8_about_96 : decode cX8_about 96 = .ok (.aload_n 0, 1) := by decide +kernel
theorem dX8_about_97 : decode cX8_about 97 = .ok (.getfield 7, 3) := by decide +kernel
theorem dX8_about_100 : decode cX8_about 100 = .ok (.iload_n 1, 1) := by decide +kernel
theorem dX8_about_101 : decode cX8_about 101 = .ok (.invokestatic 213, 3) := by decide +kernel
theorem dX8_about_104 : decode cX8_about 104 = .ok (.ireturn, 1) := by decide +kernel
theorem dX8_about_105 : decode cX8_about 105 = .ok (.aload_n 0, 1) := by decide +kernel
theorem dX8_about_106 : decode cX8_about 106 = .ok (.invokevirtual 101, 3) := by decide +kernel
theorem dX8_about_109 : decode cX8_about 109 = .ok (.ireturn, 1) := by decide +kernel
theorem dX8_isOut_0 : decode cX8_isOut 0 = .ok (.aload_n 0, 1) := by decide +kernel
theorem dX8_isOut_1 : decode cX8_isOut 1 = .ok (.getfield 7, 3) := by decide +kernel
theorem dX8_isOut_4 : decode cX8_isOut 4 = .ok (.iload_n 1, 1) := by decide +kernel
theorem dX8_isOut_5 : decode cX8_isOut 5 = .ok (.invokestatic 59, 3) := by decide +kernel
theorem dX8_isOut_8 : decode cX8_isOut 8 = .ok (.iconst (-1), 1) := by decide +kernel
theorem dX8_isOut_9 : decode cX8_isOut 9 = .ok (.if_icmp .ne 7, 3) := by decide +kernel
theorem dX8_isOut_12 : decode cX8_isOut 12 = .ok (.iconst 1, 1) := by decide +kernel
theorem dX8_isOut_13 : decode cX8_isOut 13 = .ok (.goto 4, 3) := by decide +kernel
theorem dX8_isOut_16 : decode cX8_isOut 16 = .ok (.iconst 0, 1) := by decide +kernel
theorem dX8_isOut_17 : decode cX8_isOut 17 = .ok (.ireturn, 1) := by decide +kernel
theorem dX8_makes_0 : decode cX8_makes 0 = .ok (.aload_n 0, 1) := by decide +kernel
theorem dX8_makes_1 : decode cX8_makes 1 = .ok (.iload_n 1, 1) := by decide +kernel
theorem dX8_makes_2 : decode cX8_makes 2 = .ok (.invokevirtual 203, 3) := by decide +kernel
theorem dX8_makes_5 : decode cX8_makes 5 = .ok (.ifCond .eq 10, 3) := by decide +kernel
theorem dX8_makes_8 : decode cX8_makes 8 = .ok (.iload_n 2, 1) := by decide +kernel
theorem dX8_makes_9 : decode cX8_makes 9 = .ok (.invokestatic 105, 3) := by decide +kernel
theorem dX8_makes_12 : decode cX8_makes 12 = .ok (.ifCond .ne 8, 3) := by decide +kernel
theorem dX8_makes_15 : decode cX8_makes 15 = .ok (.aload_n 0, 1) := by decide +kernel
theorem dX8_makes_16 : decode cX8_makes 16 = .ok (.invokevirtual 101, 3) := by decide +kernel
theorem dX8_makes_19 : decode cX8_makes 19 = .ok (.ireturn, 1) := by decide +kernel
theorem dX8_makes_20 : decode cX8_makes 20 = .ok (.aload_n 0, 1) := by decide +kernel
theorem dX8_makes_21 : decode cX8_makes 21 = .ok (.iload_n 1, 1) := by decide +kernel
theorem dX8_makes_22 : decode cX8_makes 22 = .ok (.invokevirtual 216, 3) := by decide +kernel
theorem dX8_makes_25 : decode cX8_makes 25 = .ok (.ifCond .eq 15, 3) := by decide +kernel
theorem dX8_makes_28 : decode cX8_makes 28 = .ok (.aload_n 0, 1) := by decide +kernel
theorem dX8_makes_29 : decode cX8_makes 29 = .ok (.getfield 7, 3) := by decide +kernel
theorem dX8_makes_32 : decode cX8_makes 32 = .ok (.iload_n 1, 1) := by decide +kernel
theorem dX8_makes_33 : decode cX8_makes 33 = .ok (.iload_n 2, 1) := by decide +kernel
theorem dX8_makes_34 : decode cX8_makes 34 = .ok (.invokestatic 82, 3) := by decide +kernel
theorem dX8_makes_37 : decode cX8_makes 37 = .ok (.goto 7, 3) := by decide +kernel
theorem dX8_makes_40 : decode cX8_makes 40 = .ok (.aload_n 0, 1) := by decide +kernel
theorem dX8_makes_41 : decode cX8_makes 41 = .ok (.invokevirtual 200, 3) := by decide +kernel
theorem dX8_makes_44 : decode cX8_makes 44 = .ok (.ireturn, 1) := by decide +kernel
theorem dX8_nextOrder_0 : decode cX8_nextOrder 0 = .ok (.iload_n 1, 1) := by decide +kernel
theorem dX8_nextOrder_1 : decode cX8_nextOrder 1 = .ok (.iconst 2, 1) := by decide +kernel
theorem dX8_nextOrder_2 : decode cX8_nextOrder 2 = .ok (.isub, 1) := by decide +kernel
theorem dX8_nextOrder_3 : decode cX8_nextOrder 3 = .ok (.istore_n 2, 1) := by decide +kernel
theorem dX8_nextOrder_4 : decode cX8_nextOrder 4 = .ok (.iload_n 2, 1) := by decide +kernel
theorem dX8_nextOrder_5 : decode cX8_nextOrder 5 = .ok (.ifCond .lt 26, 3) := by decide +kernel
theorem dX8_nextOrder_8 : decode cX8_nextOrder 8 = .ok (.aload_n 0, 1) := by decide +kernel
theorem dX8_nextOrder_9 : decode cX8_nextOrder 9 = .ok (.getfield 37, 3) := by decide +kernel
theorem dX8_nextOrder_12 : decode cX8_nextOrder 12 = .ok (.iload_n 2, 1) := by decide +kernel
theorem dX8_nextOrder_13 : decode cX8_nextOrder 13 = .ok (.iaload, 1) := by decide +kernel
theorem dX8_nextOrder_14 : decode cX8_nextOrder 14 = .ok (.aload_n 0, 1) := by decide +kernel
theorem dX8_nextOrder_15 : decode cX8_nextOrder 15 = .ok (.getfield 37, 3) := by decide +kernel
theorem dX8_nextOrder_18 : decode cX8_nextOrder 18 = .ok (.iload_n 2, 1) := by decide +kernel
theorem dX8_nextOrder_19 : decode cX8_nextOrder 19 = .ok (.iconst 1, 1) := by decide +kernel
theorem dX8_nextOrder_20 : decode cX8_nextOrder 20 = .ok (.iadd, 1) := by decide +kernel
theorem dX8_nextOrder_21 : decode cX8_nextOrder 21 = .ok (.iaload, 1) := by decide +kernel
theorem dX8_nextOrder_22 : decode cX8_nextOrder 22 = .ok (.if_icmp .le 9, 3) := by decide +kernel
theorem dX8_nextOrder_25 : decode cX8_nextOrder 25 = .ok (.iinc 2 (-1), 3) := by decide +kernel
theorem dX8_nextOrder_28 : decode cX8_nextOrder 28 = .ok (.goto (-24), 3) := by decide +kernel
theorem dX8_nextOrder_31 : decode cX8_nextOrder 31 = .ok (.iload_n 2, 1) := by decide +kernel
theorem dX8_nextOrder_32 : decode cX8_nextOrder 32 = .ok (.ifCond .ge 5, 3) := by decide +kernel
theorem dX8_nextOrder_35 : decode cX8_nextOrder 35 = .ok (.iconst 0, 1) := by decide +kernel
theorem dX8_nextOrder_36 : decode cX8_nextOrder 36 = .ok (.ireturn, 1) := by decide +kernel
theorem dX8_nextOrder_37 : decode cX8_nextOrder 37 = .ok (.iload_n 1, 1) := by decide +kernel
theorem dX8_nextOrder_38 : decode cX8_nextOrder 38 = .ok (.iconst 1, 1) := by decide +kernel
theorem dX8_nextOrder_39 : decode cX8_nextOrder 39 = .ok (.isub, 1) := by decide +kernel
theorem dX8_nextOrder_40 : decode cX8_nextOrder 40 = .ok (.istore_n 3, 1) := by decide +kernel
theorem dX8_nextOrder_41 : decode cX8_nextOrder 41 = .ok (.aload_n 0, 1) := by decide +kernel
theorem dX8_nextOrder_42 : decode cX8_nextOrder 42 = .ok (.getfield 37, 3) := by decide +kernel
theorem dX8_nextOrder_45 : decode cX8_nextOrder 45 = .ok (.iload_n 3, 1) := by decide +kernel
theorem dX8_nextOrder_46 : decode cX8_nextOrder 46 = .ok (.iaload, 1) := by decide +kernel
theorem dX8_nextOrder_47 : decode cX8_nextOrder 47 = .ok (.aload_n 0, 1) := by decide +kernel
theorem dX8_nextOrder_48 : decode cX8_nextOrder 48 = .ok (.getfield 37, 3) := by decide +kernel
theorem dX8_nextOrder_51 : decode cX8_nextOrder 51 = .ok (.iload_n 2, 1) := by decide +kernel
theorem dX8_nextOrder_52 : decode cX8_nextOrder 52 = .ok (.iaload, 1) := by decide +kernel
theorem dX8_nextOrder_53 : decode cX8_nextOrder 53 = .ok (.if_icmp .ge 9, 3) := by decide +kernel
theorem dX8_nextOrder_56 : decode cX8_nextOrder 56 = .ok (.iinc 3 (-1), 3) := by decide +kernel
theorem dX8_nextOrder_59 : decode cX8_nextOrder 59 = .ok (.goto (-18), 3) := by decide +kernel
theorem dX8_nextOrder_62 : decode cX8_nextOrder 62 = .ok (.aload_n 0, 1) := by decide +kernel
theorem dX8_nextOrder_63 : decode cX8_nextOrder 63 = .ok (.getfield 37, 3) := by decide +kernel
theorem dX8_nextOrder_66 : decode cX8_nextOrder 66 = .ok (.iload_n 2, 1) := by decide +kernel
theorem dX8_nextOrder_67 : decode cX8_nextOrder 67 = .ok (.iaload, 1) := by decide +kernel
theorem dX8_nextOrder_68 : decode cX8_nextOrder 68 = .ok (.istore 4, 2) := by decide +kernel
theorem dX8_nextOrder_70 : decode cX8_nextOrder 70 = .ok (.aload_n 0, 1) := by decide +kernel
theorem dX8_nextOrder_71 : decode cX8_nextOrder 71 = .ok (.getfield 37, 3) := by decide +kernel
theorem dX8_nextOrder_74 : decode cX8_nextOrder 74 = .ok (.iload_n 2, 1) := by decide +kernel
theorem dX8_nextOrder_75 : decode cX8_nextOrder 75 = .ok (.aload_n 0, 1) := by decide +kernel
theorem dX8_nextOrder_76 : decode cX8_nextOrder 76 = .ok (.getfield 37, 3) := by decide +kernel
theorem dX8_nextOrder_79 : decode cX8_nextOrder 79 = .ok (.iload_n 3, 1) := by decide +kernel
theorem dX8_nextOrder_80 : decode cX8_nextOrder 80 = .ok (.iaload, 1) := by decide +kernel
theorem dX8_nextOrder_81 : decode cX8_nextOrder 81 = .ok (.iastore, 1) := by decide +kernel
theorem dX8_nextOrder_82 : decode cX8_nextOrder 82 = .ok (.aload_n 0, 1) := by decide +kernel
theorem dX8_nextOrder_83 : decode cX8_nextOrder 83 = .ok (.getfield 37, 3) := by decide +kernel
theorem dX8_nextOrder_86 : decode cX8_nextOrder 86 = .ok (.iload_n 3, 1) := by decide +kernel
theorem dX8_nextOrder_87 : decode cX8_nextOrder 87 = .ok (.iload 4, 2) := by decide +kernel
theorem dX8_nextOrder_89 : decode cX8_nextOrder 89 = .ok (.iastore, 1) := by decide +kernel
theorem dX8_nextOrder_90 : decode cX8_nextOrder 90 = .ok (.iload_n 2, 1) := by decide +kernel
theorem dX8_nextOrder_91 : decode cX8_nextOrder 91 = .ok (.iconst 1, 1) := by decide +kernel
theorem dX8_nextOrder_92 : decode cX8_nextOrder 92 = .ok (.iadd, 1) := by decide +kernel
theorem dX8_nextOrder_93 : decode cX8_nextOrder 93 = .ok (.istore 5, 2) := by decide +kernel
theorem dX8_nextOrder_95 : decode cX8_nextOrder 95 = .ok (.iload_n 1, 1) := by decide +kernel
theorem dX8_nextOrder_96 : decode cX8_nextOrder 96 = .ok (.iconst 1, 1) := by decide +kernel
theorem dX8_nextOrder_97 : decode cX8_nextOrder 97 = .ok (.isub, 1) := by decide +kernel
theorem dX8_nextOrder_98 : decode cX8_nextOrder 98 = .ok (.istore 6, 2) := by decide +kernel
theorem dX8_nextOrder_100 : decode cX8_nextOrder 100 = .ok (.iload 6, 2) := by decide +kernel
theorem dX8_nextOrder_102 : decode cX8_nextOrder 102 = .ok (.iload 5, 2) := by decide +kernel
theorem dX8_nextOrder_104 : decode cX8_nextOrder 104 = .ok (.if_icmp .le 44, 3) := by decide +kernel
theorem dX8_nextOrder_107 : decode cX8_nextOrder 107 = .ok (.aload_n 0, 1) := by decide +kernel
theorem dX8_nextOrder_108 : decode cX8_nextOrder 108 = .ok (.getfield 37, 3) := by decide +kernel
theorem dX8_nextOrder_111 : decode cX8_nextOrder 111 = .ok (.iload 5, 2) := by decide +kernel
theorem dX8_nextOrder_113 : decode cX8_nextOrder 113 = .ok (.iaload, 1) := by decide +kernel
theorem dX8_nextOrder_114 : decode cX8_nextOrder 114 = .ok (.istore 4, 2) := by decide +kernel
theorem dX8_nextOrder_116 : decode cX8_nextOrder 116 = .ok (.aload_n 0, 1) := by decide +kernel
theorem dX8_nextOrder_117 : decode cX8_nextOrder 117 = .ok (.getfield 37, 3) := by decide +kernel
theorem dX8_nextOrder_120 : decode cX8_nextOrder 120 = .ok (.iload 5, 2) := by decide +kernel
theorem dX8_nextOrder_122 : decode cX8_nextOrder 122 = .ok (.aload_n 0, 1) := by decide +kernel
theorem dX8_nextOrder_123 : decode cX8_nextOrder 123 = .ok (.getfield 37, 3) := by decide +kernel
theorem dX8_nextOrder_126 : decode cX8_nextOrder 126 = .ok (.iload 6, 2) := by decide +kernel
theorem dX8_nextOrder_128 : decode cX8_nextOrder 128 = .ok (.iaload, 1) := by decide +kernel
theorem dX8_nextOrder_129 : decode cX8_nextOrder 129 = .ok (.iastore, 1) := by decide +kernel
theorem dX8_nextOrder_130 : decode cX8_nextOrder 130 = .ok (.aload_n 0, 1) := by decide +kernel
theorem dX8_nextOrder_131 : decode cX8_nextOrder 131 = .ok (.getfield 37, 3) := by decide +kernel
theorem dX8_nextOrder_134 : decode cX8_nextOrder 134 = .ok (.iload 6, 2) := by decide +kernel
theorem dX8_nextOrder_136 : decode cX8_nextOrder 136 = .ok (.iload 4, 2) := by decide +kernel
theorem dX8_nextOrder_138 : decode cX8_nextOrder 138 = .ok (.iastore, 1) := by decide +kernel
theorem dX8_nextOrder_139 : decode cX8_nextOrder 139 = .ok (.iinc 5 1, 3) := by decide +kernel
theorem dX8_nextOrder_142 : decode cX8_nextOrder 142 = .ok (.iinc 6 (-1), 3) := by decide +kernel
theorem dX8_nextOrder_145 : decode cX8_nextOrder 145 = .ok (.goto (-45), 3) := by decide +kernel
theorem dX8_nextOrder_148 : decode cX8_nextOrder 148 = .ok (.iconst 1, 1) := by decide +kernel
theorem dX8_nextOrder_149 : decode cX8_nextOrder 149 = .ok (.ireturn, 1) := by decide +kernel
theorem dX8_layTried_0 : decode cX8_layTried 0 = .ok (.iconst 0, 1) := by decide +kernel
theorem dX8_layTried_1 : decode cX8_layTried 1 = .ok (.istore_n 1, 1) := by decide +kernel
theorem dX8_layTried_2 : decode cX8_layTried 2 = .ok (.iconst 0, 1) := by decide +kernel
theorem dX8_layTried_3 : decode cX8_layTried 3 = .ok (.istore_n 2, 1) := by decide +kernel
theorem dX8_layTried_4 : decode cX8_layTried 4 = .ok (.iload_n 2, 1) := by decide +kernel
theorem dX8_layTried_5 : decode cX8_layTried 5 = .ok (.aload_n 0, 1) := by decide +kernel
theorem dX8_layTried_6 : decode cX8_layTried 6 = .ok (.getfield 7, 3) := by decide +kernel
theorem dX8_layTried_9 : decode cX8_layTried 9 = .ok (.bipush 8, 2) := by decide +kernel
theorem dX8_layTried_11 : decode cX8_layTried 11 = .ok (.iaload, 1) := by decide +kernel
theorem dX8_layTried_12 : decode cX8_layTried 12 = .ok (.if_icmp .ge 108, 3) := by decide +kernel
theorem dX8_layTried_15 : decode cX8_layTried 15 = .ok (.aload_n 0, 1) := by decide +kernel
theorem dX8_layTried_16 : decode cX8_layTried 16 = .ok (.iload_n 2, 1) := by decide +kernel
theorem dX8_layTried_17 : decode cX8_layTried 17 = .ok (.invokevirtual 216, 3) := by decide +kernel
theorem dX8_layTried_20 : decode cX8_layTried 20 = .ok (.ifCond .eq 26, 3) := by decide +kernel
theorem dX8_layTried_23 : decode cX8_layTried 23 = .ok (.aload_n 0, 1) := by decide +kernel
theorem dX8_layTried_24 : decode cX8_layTried 24 = .ok (.getfield 7, 3) := by decide +kernel
theorem dX8_layTried_27 : decode cX8_layTried 27 = .ok (.aload_n 0, 1) := by decide +kernel
theorem dX8_layTried_28 : decode cX8_layTried 28 = .ok (.getfield 7, 3) := by decide +kernel
theorem dX8_layTried_31 : decode cX8_layTried 31 = .ok (.iload_n 2, 1) := by decide +kernel
theorem dX8_layTried_32 : decode cX8_layTried 32 = .ok (.iconst 1, 1) := by decide +kernel
theorem dX8_layTried_33 : decode cX8_layTried 33 = .ok (.invokestatic 55, 3) := by decide +kernel
theorem dX8_layTried_36 : decode cX8_layTried 36 = .ok (.invokestatic 171, 3) := by decide +kernel
theorem dX8_layTried_39 : decode cX8_layTried 39 = .ok (.ifCond .eq 7, 3) := by decide +kernel
theorem dX8_layTried_42 : decode cX8_layTried 42 = .ok (.iconst 1, 1) := by decide +kernel
theorem dX8_layTried_43 : decode cX8_layTried 43 = .ok (.goto 4, 3) := by decide +kernel
theorem dX8_layTried_46 : decode cX8_layTried 46 = .ok (.iconst 0, 1) := by decide +kernel
theorem dX8_layTried_47 : decode cX8_layTried 47 = .ok (.istore_n 3, 1) := by decide +kernel
theorem dX8_layTried_48 : decode cX8_layTried 48 = .ok (.iconst 0, 1) := by decide +kernel
theorem dX8_layTried_49 : decode cX8_layTried 49 = .ok (.istore 4, 2) := by decide +kernel
theorem dX8_layTried_51 : decode cX8_layTried 51 = .ok (.iload 4, 2) := by decide +kernel
theorem dX8_layTried_53 : decode cX8_layTried 53 = .ok (.iload_n 1, 1) := by decide +kernel
theorem dX8_layTried_54 : decode cX8_layTried 54 = .ok (.if_icmp .ge 46, 3) := by decide +kernel
theorem dX8_layTried_57 : decode cX8_layTried 57 = .ok (.iload_n 3, 1) := by decide +kernel
theorem dX8_layTried_58 : decode cX8_layTried 58 = .ok (.ifCond .eq 34, 3) := by decide +kernel
theorem dX8_layTried_61 : decode cX8_layTried 61 = .ok (.aload_n 0, 1) := by decide +kernel
theorem dX8_layTried_62 : decode cX8_layTried 62 = .ok (.getfield 7, 3) := by decide +kernel
theorem dX8_layTried_65 : decode cX8_layTried 65 = .ok (.aload_n 0, 1) := by decide +kernel
theorem dX8_layTried_66 : decode cX8_layTried 66 = .ok (.getfield 37, 3) := by decide +kernel
theorem dX8_layTried_69 : decode cX8_layTried 69 = .ok (.iload 4, 2) := by decide +kernel
theorem dX8_layTried_71 : decode cX8_layTried 71 = .ok (.iaload, 1) := by decide +kernel
theorem dX8_layTried_72 : decode cX8_layTried 72 = .ok (.iconst 1, 1) := by decide +kernel
theorem dX8_layTried_73 : decode cX8_layTried 73 = .ok (.invokestatic 55, 3) := by decide +kernel
theorem dX8_layTried_76 : decode cX8_layTried 76 = .ok (.aload_n 0, 1) := by decide +kernel
theorem dX8_layTried_77 : decode cX8_layTried 77 = .ok (.getfield 7, 3) := by decide +kernel
theorem dX8_layTried_80 : decode cX8_layTried 80 = .ok (.iload_n 2, 1) := by decide +kernel
theorem dX8_layTried_81 : decode cX8_layTried 81 = .ok (.iconst 1, 1) := by decide +kernel
theorem dX8_layTried_82 : decode cX8_layTried 82 = .ok (.invokestatic 55, 3) := by decide +kernel
theorem dX8_layTried_85 : decode cX8_layTried 85 = .ok (.if_icmp .eq 7, 3) := by decide +kernel
theorem dX8_layTried_88 : decode cX8_layTried 88 = .ok (.iconst 1, 1) := by decide +kernel
theorem dX8_layTried_89 : decode cX8_layTried 89 = .ok (.goto 4, 3) := by decide +kernel
theorem dX8_layTried_92 : decode cX8_layTried 92 = .ok (.iconst 0, 1) := by decide +kernel
theorem dX8_layTried_93 : decode cX8_layTried 93 = .ok (.istore_n 3, 1) := by decide +kernel
theorem dX8_layTried_94 : decode cX8_layTried 94 = .ok (.iinc 4 1, 3) := by decide +kernel
theorem dX8_layTried_97 : decode cX8_layTried 97 = .ok (.goto (-46), 3) := by decide +kernel
theorem dX8_layTried_100 : decode cX8_layTried 100 = .ok (.iload_n 3, 1) := by decide +kernel
theorem dX8_layTried_101 : decode cX8_layTried 101 = .ok (.ifCond .eq 13, 3) := by decide +kernel
theorem dX8_layTried_104 : decode cX8_layTried 104 = .ok (.aload_n 0, 1) := by decide +kernel
theorem dX8_layTried_105 : decode cX8_layTried 105 = .ok (.getfield 37, 3) := by decide +kernel
theorem dX8_layTried_108 : decode cX8_layTried 108 = .ok (.iload_n 1, 1) := by decide +kernel
theorem dX8_layTried_109 : decode cX8_layTried 109 = .ok (.iload_n 2, 1) := by decide +kernel
theorem dX8_layTried_110 : decode cX8_layTried 110 = .ok (.iastore, 1) := by decide +kernel
theorem dX8_layTried_111 : decode cX8_layTried 111 = .ok (.iinc 1 1, 3) := by decide +kernel
theorem dX8_layTried_114 : decode cX8_layTried 114 = .ok (.iinc 2 1, 3) := by decide +kernel
theorem dX8_layTried_117 : decode cX8_layTried 117 = .ok (.goto (-113), 3) := by decide +kernel
theorem dX8_layTried_120 : decode cX8_layTried 120 = .ok (.iload_n 1, 1) := by decide +kernel
theorem dX8_layTried_121 : decode cX8_layTried 121 = .ok (.ireturn, 1) := by decide +kernel
theorem dX8_order_0 : decode cX8_order 0 = .ok (.iload_n 1, 1) := by decide +kernel
theorem dX8_order_1 : decode cX8_order 1 = .ok (.iconst (-1), 1) := by decide +kernel
theorem dX8_order_2 : decode cX8_order 2 = .ok (.if_icmp .ge 10, 3) := by decide +kernel
theorem dX8_order_5 : decode cX8_order 5 = .ok (.aload_n 0, 1) := by decide +kernel
theorem dX8_order_6 : decode cX8_order 6 = .ok (.bipush (-10), 2) := by decide +kernel
theorem dX8_order_8 : decode cX8_order 8 = .ok (.invokevirtual 219, 3) := by decide +kernel
theorem dX8_order_11 : decode cX8_order 11 = .ok (.ireturn, 1) := by decide +kernel
theorem dX8_order_12 : decode cX8_order 12 = .ok (.aload_n 0, 1) := by decide +kernel
theorem dX8_order_13 : decode cX8_order 13 = .ok (.invokevirtual 222, 3) := by decide +kernel
theorem dX8_order_16 : decode cX8_order 16 = .ok (.istore_n 2, 1) := by decide +kernel
theorem dX8_order_17 : decode cX8_order 17 = .ok (.iload_n 1, 1) := by decide +kernel
theorem dX8_order_18 : decode cX8_order 18 = .ok (.iload_n 2, 1) := by decide +kernel
theorem dX8_order_19 : decode cX8_order 19 = .ok (.if_icmp .lt 6, 3) := by decide +kernel
theorem dX8_order_22 : decode cX8_order 22 = .ok (.bipush (-5), 2) := by decide +kernel
theorem dX8_order_24 : decode cX8_order 24 = .ok (.ireturn, 1) := by decide +kernel
theorem dX8_order_25 : decode cX8_order 25 = .ok (.sipush 9999, 3) := by decide +kernel
theorem dX8_order_28 : decode cX8_order 28 = .ok (.istore_n 3, 1) := by decide +kernel
theorem dX8_order_29 : decode cX8_order 29 = .ok (.iconst 1, 1) := by decide +kernel
theorem dX8_order_30 : decode cX8_order 30 = .ok (.istore 4, 2) := by decide +kernel
theorem dX8_order_32 : decode cX8_order 32 = .ok (.iload 4, 2) := by decide +kernel
theorem dX8_order_34 : decode cX8_order 34 = .ok (.ifCond .eq 107, 3) := by decide +kernel
theorem dX8_order_37 : decode cX8_order 37 = .ok (.aload_n 0, 1) := by decide +kernel
theorem dX8_order_38 : decode cX8_order 38 = .ok (.invokevirtual 225, 3) := by decide +kernel
theorem dX8_order_41 : decode cX8_order 41 = .ok (.iconst 0, 1) := by decide +kernel
theorem dX8_order_42 : decode cX8_order 42 = .ok (.istore 5, 2) := by decide +kernel
theorem dX8_order_44 : decode cX8_order 44 = .ok (.iconst 0, 1) := by decide +kernel
theorem dX8_order_45 : decode cX8_order 45 = .ok (.istore 6, 2) := by decide +kernel
theorem dX8_order_47 : decode cX8_order 47 = .ok (.iload 6, 2) := by decide +kernel
theorem dX8_order_49 : decode cX8_order 49 = .ok (.iload_n 2, 1) := by decide +kernel
theorem dX8_order_50 : decode cX8_order 50 = .ok (.if_icmp .ge 43, 3) := by decide +kernel
theorem dX8_order_53 : decode cX8_order 53 = .ok (.iload 5, 2) := by decide +kernel
theorem dX8_order_55 : decode cX8_order 55 = .ok (.aload_n 0, 1) := by decide +kernel
theorem dX8_order_56 : decode cX8_order 56 = .ok (.getfield 13, 3) := by decide +kernel
theorem dX8_order_59 : decode cX8_order 59 = .ok (.aload_n 0, 1) := by decide +kernel
theorem dX8_order_60 : decode cX8_order 60 = .ok (.getfield 37, 3) := by decide +kernel
theorem dX8_order_63 : decode cX8_order 63 = .ok (.iload 6, 2) := by decide +kernel
theorem dX8_order_65 : decode cX8_order 65 = .ok (.iaload, 1) := by decide +kernel
theorem dX8_order_66 : decode cX8_order 66 = .ok (.aload_n 0, 1) := by decide +kernel
theorem dX8_order_67 : decode cX8_order 67 = .ok (.getfield 7, 3) := by decide +kernel
theorem dX8_order_70 : decode cX8_order 70 = .ok (.aload_n 0, 1) := by decide +kernel
theorem dX8_order_71 : decode cX8_order 71 = .ok (.getfield 37, 3) := by decide +kernel
theorem dX8_order_74 : decode cX8_order 74 = .ok (.iload 6, 2) := by decide +kernel
theorem dX8_order_76 : decode cX8_order 76 = .ok (.iaload, 1) := by decide +kernel
theorem dX8_order_77 : decode cX8_order 77 = .ok (.iconst 1, 1) := by decide +kernel
theorem dX8_order_78 : decode cX8_order 78 = .ok (.invokestatic 55, 3) := by decide +kernel
theorem dX8_order_81 : decode cX8_order 81 = .ok (.invokestatic 182, 3) := by decide +kernel
theorem dX8_order_84 : decode cX8_order 84 = .ok (.iadd, 1) := by decide +kernel
theorem dX8_order_85 : decode cX8_order 85 = .ok (.istore 5, 2) := by decide +kernel
theorem dX8_order_87 : decode cX8_order 87 = .ok (.iinc 6 1, 3) := by decide +kernel
theorem dX8_order_90 : decode cX8_order 90 = .ok (.goto (-43), 3) := by decide +kernel
theorem dX8_order_93 : decode cX8_order 93 = .ok (.iload 5, 2) := by decide +kernel
theorem dX8_order_95 : decode cX8_order 95 = .ok (.iload_n 3, 1) := by decide +kernel
theorem dX8_order_96 : decode cX8_order 96 = .ok (.if_icmp .ge 35, 3) := by decide +kernel
theorem dX8_order_99 : decode cX8_order 99 = .ok (.iload 5, 2) := by decide +kernel
theorem dX8_order_101 : decode cX8_order 101 = .ok (.istore_n 3, 1) := by decide +kernel
theorem dX8_order_102 : decode cX8_order 102 = .ok (.iconst 0, 1) := by decide +kernel
theorem dX8_order_103 : decode cX8_order 103 = .ok (.istore 6, 2) := by decide +kernel
theorem dX8_order_105 : decode cX8_order 105 = .ok (.iload 6, 2) := by decide +kernel
theorem dX8_order_107 : decode cX8_order 107 = .ok (.iload_n 2, 1) := by decide +kernel
theorem dX8_order_108 : decode cX8_order 108 = .ok (.if_icmp .ge 23, 3) := by decide +kernel
theorem dX8_order_111 : decode cX8_order 111 = .ok (.aload_n 0, 1) := by decide +kernel
theorem dX8_order_112 : decode cX8_order 112 = .ok (.getfield 40, 3) := by decide +kernel
theorem dX8_order_115 : decode cX8_order 115 = .ok (.iload 6, 2) := by decide +kernel
theorem dX8_order_117 : decode cX8_order 117 = .ok (.aload_n 0, 1) := by decide +kernel
theorem dX8_order_118 : decode cX8_order 118 = .ok (.getfield 37, 3) := by decide +kernel
theorem dX8_order_121 : decode cX8_order 121 = .ok (.iload 6, 2) := by decide +kernel
theorem dX8_order_123 : decode cX8_order 123 = .ok (.iaload, 1) := by decide +kernel
theorem dX8_order_124 : decode cX8_order 124 = .ok (.iastore, 1) := by decide +kernel
theorem dX8_order_125 : decode cX8_order 125 = .ok (.iinc 6 1, 3) := by decide +kernel
theorem dX8_order_128 : decode cX8_order 128 = .ok (.goto (-23), 3) := by decide +kernel
theorem dX8_order_131 : decode cX8_order 131 = .ok (.aload_n 0, 1) := by decide +kernel
theorem dX8_order_132 : decode cX8_order 132 = .ok (.iload_n 2, 1) := by decide +kernel
theorem dX8_order_133 : decode cX8_order 133 = .ok (.invokevirtual 228, 3) := by decide +kernel
theorem dX8_order_136 : decode cX8_order 136 = .ok (.istore 4, 2) := by decide +kernel
theorem dX8_order_138 : decode cX8_order 138 = .ok (.goto (-106), 3) := by decide +kernel
theorem dX8_order_141 : decode cX8_order 141 = .ok (.iload_n 1, 1) := by decide +kernel
theorem dX8_order_142 : decode cX8_order 142 = .ok (.iconst (-1), 1) := by decide +kernel
theorem dX8_order_143 : decode cX8_order 143 = .ok (.if_icmp .ne 7, 3) := by decide +kernel
theorem dX8_order_146 : decode cX8_order 146 = .ok (.iload_n 3, 1) := by decide +kernel
theorem dX8_order_147 : decode cX8_order 147 = .ok (.goto 9, 3) := by decide +kernel
theorem dX8_order_150 : decode cX8_order 150 = .ok (.aload_n 0, 1) := by decide +kernel
theorem dX8_order_151 : decode cX8_order 151 = .ok (.getfield 40, 3) := by decide +kernel
theorem dX8_order_154 : decode cX8_order 154 = .ok (.iload_n 1, 1) := by decide +kernel
theorem dX8_order_155 : decode cX8_order 155 = .ok (.iaload, 1) := by decide +kernel
theorem dX8_order_156 : decode cX8_order 156 = .ok (.ireturn, 1) := by decide +kernel
theorem dX8_best_0 : decode cX8_best 0 = .ok (.aload_n 0, 1) := by decide +kernel
theorem dX8_best_1 : decode cX8_best 1 = .ok (.iload_n 1, 1) := by decide +kernel
theorem dX8_best_2 : decode cX8_best 2 = .ok (.invokevirtual 203, 3) := by decide +kernel
theorem dX8_best_5 : decode cX8_best 5 = .ok (.ifCond .eq 13, 3) := by decide +kernel
theorem dX8_best_8 : decode cX8_best 8 = .ok (.iload_n 2, 1) := by decide +kernel
theorem dX8_best_9 : decode cX8_best 9 = .ok (.i2l, 1) := by decide +kernel
theorem dX8_best_10 : decode cX8_best 10 = .ok (.lconst 0, 1) := by decide +kernel
theorem dX8_best_11 : decode cX8_best 11 = .ok (.lconst 1, 1) := by decide +kernel
theorem dX8_best_12 : decode cX8_best 12 = .ok (.invokestatic 46, 3) := by decide +kernel
theorem dX8_best_15 : decode cX8_best 15 = .ok (.ifCond .ne 11, 3) := by decide +kernel
theorem dX8_best_18 : decode cX8_best 18 = .ok (.aload_n 0, 1) := by decide +kernel
theorem dX8_best_19 : decode cX8_best 19 = .ok (.sipush (-1001), 3) := by decide +kernel
theorem dX8_best_22 : decode cX8_best 22 = .ok (.invokevirtual 219, 3) := by decide +kernel
theorem dX8_best_25 : decode cX8_best 25 = .ok (.ireturn, 1) := by decide +kernel
theorem dX8_best_26 : decode cX8_best 26 = .ok (.aload_n 0, 1) := by decide +kernel
theorem dX8_best_27 : decode cX8_best 27 = .ok (.iload_n 1, 1) := by decide +kernel
theorem dX8_best_28 : decode cX8_best 28 = .ok (.invokevirtual 216, 3) := by decide +kernel
theorem dX8_best_31 : decode cX8_best 31 = .ok (.ifCond .ne 17, 3) := by decide +kernel
theorem dX8_best_34 : decode cX8_best 34 = .ok (.aload_n 0, 1) := by decide +kernel
theorem dX8_best_35 : decode cX8_best 35 = .ok (.getfield 27, 3) := by decide +kernel
theorem dX8_best_38 : decode cX8_best 38 = .ok (.iconst 1, 1) := by decide +kernel
theorem dX8_best_39 : decode cX8_best 39 = .ok (.dup2, 1) := by decide +kernel
theorem dX8_best_40 : decode cX8_best 40 = .ok (.iaload, 1) := by decide +kernel
theorem dX8_best_41 : decode cX8_best 41 = .ok (.iconst 1, 1) := by decide +kernel
theorem dX8_best_42 : decode cX8_best 42 = .ok (.iadd, 1) := by decide +kernel
theorem dX8_best_43 : decode cX8_best 43 = .ok (.iastore, 1) := by decide +kernel
theorem dX8_best_44 : decode cX8_best 44 = .ok (.sipush (-1002), 3) := by decide +kernel
theorem dX8_best_47 : decode cX8_best 47 = .ok (.ireturn, 1) := by decide +kernel
theorem dX8_best_48 : decode cX8_best 48 = .ok (.sipush (-1000), 3) := by decide +kernel
theorem dX8_best_51 : decode cX8_best 51 = .ok (.istore_n 3, 1) := by decide +kernel
theorem dX8_best_52 : decode cX8_best 52 = .ok (.iconst (-1), 1) := by decide +kernel
theorem dX8_best_53 : decode cX8_best 53 = .ok (.istore 4, 2) := by decide +kernel
theorem dX8_best_55 : decode cX8_best 55 = .ok (.iconst 0, 1) := by decide +kernel
theorem dX8_best_56 : decode cX8_best 56 = .ok (.istore 5, 2) := by decide +kernel
theorem dX8_best_58 : decode cX8_best 58 = .ok (.iload 5, 2) := by decide +kernel
theorem dX8_best_60 : decode cX8_best 60 = .ok (.bipush 30, 2) := by decide +kernel
theorem dX8_best_62 : decode cX8_best 62 = .ok (.if_icmp .ge 56, 3) := by decide +kernel
theorem dX8_best_65 : decode cX8_best 65 = .ok (.aload_n 0, 1) := by decide +kernel
theorem dX8_best_66 : decode cX8_best 66 = .ok (.getfield 7, 3) := by decide +kernel
theorem dX8_best_69 : decode cX8_best 69 = .ok (.iload 5, 2) := by decide +kernel
theorem dX8_best_71 : decode cX8_best 71 = .ok (.invokestatic 213, 3) := by decide +kernel
theorem dX8_best_74 : decode cX8_best 74 = .ok (.aload_n 0, 1) := by decide +kernel
theorem dX8_best_75 : decode cX8_best 75 = .ok (.getfield 7, 3) := by decide +kernel
theorem dX8_best_78 : decode cX8_best 78 = .ok (.iload_n 1, 1) := by decide +kernel
theorem dX8_best_79 : decode cX8_best 79 = .ok (.iload 5, 2) := by decide +kernel
theorem dX8_best_81 : decode cX8_best 81 = .ok (.invokestatic 82, 3) := by decide +kernel
theorem dX8_best_84 : decode cX8_best 84 = .ok (.isub, 1) := by decide +kernel
theorem dX8_best_85 : decode cX8_best 85 = .ok (.istore 6, 2) := by decide +kernel
theorem dX8_best_87 : decode cX8_best 87 = .ok (.aload_n 0, 1) := by decide +kernel
theorem dX8_best_88 : decode cX8_best 88 = .ok (.getfield 7, 3) := by decide +kernel
theorem dX8_best_91 : decode cX8_best 91 = .ok (.iload 5, 2) := by decide +kernel
theorem dX8_best_93 : decode cX8_best 93 = .ok (.invokestatic 171, 3) := by decide +kernel
theorem dX8_best_96 : decode cX8_best 96 = .ok (.ifCond .eq 16, 3) := by decide +kernel
theorem dX8_best_99 : decode cX8_best 99 = .ok (.iload 6, 2) := by decide +kernel
theorem dX8_best_101 : decode cX8_best 101 = .ok (.iload_n 3, 1) := by decide +kernel
theorem dX8_best_102 : decode cX8_best 102 = .ok (.if_icmp .le 10, 3) := by decide +kernel
theorem dX8_best_105 : decode cX8_best 105 = .ok (.iload 6, 2) := by decide +kernel
theorem dX8_best_107 : decode cX8_best 107 = .ok (.istore_n 3, 1) := by decide +kernel
theorem dX8_best_108 : decode cX8_best 108 = .ok (.iload 5, 2) := by decide +kernel
theorem dX8_best_110 : decode cX8_best 110 = .ok (.istore 4, 2) := by decide +kernel
theorem dX8_best_112 : decode cX8_best 112 = .ok (.iinc 5 1, 3) := by decide +kernel
theorem dX8_best_115 : decode cX8_best 115 = .ok (.goto (-57), 3) := by decide +kernel
theorem dX8_best_118 : decode cX8_best 118 = .ok (.iload_n 2, 1) := by decide +kernel
theorem dX8_best_119 : decode cX8_best 119 = .ok (.ifCond .ne 8, 3) := by decide +kernel
theorem dX8_best_122 : decode cX8_best 122 = .ok (.iload 4, 2) := by decide +kernel
theorem dX8_best_124 : decode cX8_best 124 = .ok (.goto 4, 3) := by decide +kernel
theorem dX8_best_127 : decode cX8_best 127 = .ok (.iload_n 3, 1) := by decide +kernel
theorem dX8_best_128 : decode cX8_best 128 = .ok (.ireturn, 1) := by decide +kernel
theorem dX8_beside_0 : decode cX8_beside 0 = .ok (.aload_n 0, 1) := by decide +kernel
theorem dX8_beside_1 : decode cX8_beside 1 = .ok (.iload_n 1, 1) := by decide +kernel
theorem dX8_beside_2 : decode cX8_beside 2 = .ok (.invokevirtual 203, 3) := by decide +kernel
theorem dX8_beside_5 : decode cX8_beside 5 = .ok (.ifCond .eq 26, 3) := by decide +kernel
theorem dX8_beside_8 : decode cX8_beside 8 = .ok (.aload_n 0, 1) := by decide +kernel
theorem dX8_beside_9 : decode cX8_beside 9 = .ok (.iload_n 2, 1) := by decide +kernel
theorem dX8_beside_10 : decode cX8_beside 10 = .ok (.invokevirtual 203, 3) := by decide +kernel
theorem dX8_beside_13 : decode cX8_beside 13 = .ok (.ifCond .eq 18, 3) := by decide +kernel
theorem dX8_beside_16 : decode cX8_beside 16 = .ok (.iload_n 1, 1) := by decide +kernel
theorem dX8_beside_17 : decode cX8_beside 17 = .ok (.iload_n 2, 1) := by decide +kernel
theorem dX8_beside_18 : decode cX8_beside 18 = .ok (.if_icmp .eq 13, 3) := by decide +kernel
theorem dX8_beside_21 : decode cX8_beside 21 = .ok (.iload_n 3, 1) := by decide +kernel
theorem dX8_beside_22 : decode cX8_beside 22 = .ok (.i2l, 1) := by decide +kernel
theorem dX8_beside_23 : decode cX8_beside 23 = .ok (.lconst 0, 1) := by decide +kernel
theorem dX8_beside_24 : decode cX8_beside 24 = .ok (.lconst 1, 1) := by decide +kernel
theorem dX8_beside_25 : decode cX8_beside 25 = .ok (.invokestatic 46, 3) := by decide +kernel
theorem dX8_beside_28 : decode cX8_beside 28 = .ok (.ifCond .ne 8, 3) := by decide +kernel
theorem dX8_beside_31 : decode cX8_beside 31 = .ok (.aload_n 0, 1) := by decide +kernel
theorem dX8_beside_32 : decode cX8_beside 32 = .ok (.invokevirtual 101, 3) := by decide +kernel
theorem dX8_beside_35 : decode cX8_beside 35 = .ok (.ireturn, 1) := by decide +kernel
theorem dX8_beside_36 : decode cX8_beside 36 = .ok (.aload_n 0, 1) := by decide +kernel
theorem dX8_beside_37 : decode cX8_beside 37 = .ok (.iload_n 1, 1) := by decide +kernel
theorem dX8_beside_38 : decode cX8_beside 38 = .ok (.invokevirtual 216, 3) := by decide +kernel
theorem dX8_beside_41 : decode cX8_beside 41 = .ok (.ifCond .eq 11, 3) := by decide +kernel
theorem dX8_beside_44 : decode cX8_beside 44 = .ok (.aload_n 0, 1) := by decide +kernel
theorem dX8_beside_45 : decode cX8_beside 45 = .ok (.iload_n 2, 1) := by decide +kernel
theorem dX8_beside_46 : decode cX8_beside 46 = .ok (.invokevirtual 216, 3) := by decide +kernel
theorem dX8_beside_49 : decode cX8_beside 49 = .ok (.ifCond .ne 8, 3) := by decide +kernel
theorem dX8_beside_52 : decode cX8_beside 52 = .ok (.aload_n 0, 1) := by decide +kernel
theorem dX8_beside_53 : decode cX8_beside 53 = .ok (.invokevirtual 200, 3) := by decide +kernel
theorem dX8_beside_56 : decode cX8_beside 56 = .ok (.ireturn, 1) := by decide +kernel
theorem dX8_beside_57 : decode cX8_beside 57 = .ok (.iconst (-1), 1) := by decide +kernel
theorem dX8_beside_58 : decode cX8_beside 58 = .ok (.istore 4, 2) := by decide +kernel
theorem dX8_beside_60 : decode cX8_beside 60 = .ok (.iconst (-1), 1) := by decide +kernel
theorem dX8_beside_61 : decode cX8_beside 61 = .ok (.istore 5, 2) := by decide +kernel
theorem dX8_beside_63 : decode cX8_beside 63 = .ok (.iconst 0, 1) := by decide +kernel
theorem dX8_beside_64 : decode cX8_beside 64 = .ok (.istore 6, 2) := by decide +kernel
theorem dX8_beside_66 : decode cX8_beside 66 = .ok (.iload 6, 2) := by decide +kernel
theorem dX8_beside_68 : decode cX8_beside 68 = .ok (.bipush 30, 2) := by decide +kernel
theorem dX8_beside_70 : decode cX8_beside 70 = .ok (.if_icmp .ge 140, 3) := by decide +kernel
theorem dX8_beside_73 : decode cX8_beside 73 = .ok (.iload 6, 2) := by decide +kernel
theorem dX8_beside_75 : decode cX8_beside 75 = .ok (.iconst 1, 1) := by decide +kernel
theorem dX8_beside_76 : decode cX8_beside 76 = .ok (.isub, 1) := by decide +kernel
theorem dX8_beside_77 : decode cX8_beside 77 = .ok (.istore 7, 2) := by decide +kernel
theorem dX8_beside_79 : decode cX8_beside 79 = .ok (.iload 7, 2) := by decide +kernel
theorem dX8_beside_81 : decode cX8_beside 81 = .ok (.iload 6, 2) := by decide +kernel
theorem dX8_beside_83 : decode cX8_beside 83 = .ok (.iconst 2, 1) := by decide +kernel
theorem dX8_beside_84 : decode cX8_beside 84 = .ok (.iadd, 1) := by decide +kernel
theorem dX8_beside_85 : decode cX8_beside 85 = .ok (.if_icmp .ge 119, 3) := by decide +kernel
theorem dX8_beside_88 : decode cX8_beside 88 = .ok (.iload 7, 2) := by decide +kernel
theorem dX8_beside_90 : decode cX8_beside 90 = .ok (.iload 6, 2) := by decide +kernel
theorem dX8_beside_92 : decode cX8_beside 92 = .ok (.if_icmp .eq 106, 3) := by decide +kernel
theorem dX8_beside_95 : decode cX8_beside 95 = .ok (.iload 7, 2) := by decide +kernel
theorem dX8_beside_97 : decode cX8_beside 97 = .ok (.invokestatic 105, 3) := by decide +kernel
theorem dX8_beside_100 : decode cX8_beside 100 = .ok (.ifCond .eq 98, 3) := by decide +kernel
theorem dX8_beside_103 : decode cX8_beside 103 = .ok (.iload 7, 2) := by decide +kernel
theorem dX8_beside_105 : decode cX8_beside 105 = .ok (.bipush 6, 2) := by decide +kernel
theorem dX8_beside_107 : decode cX8_beside 107 = .ok (.idiv, 1) := by decide +kernel
theorem dX8_beside_108 : decode cX8_beside 108 = .ok (.iload 6, 2) := by decide +kernel
theorem dX8_beside_110 : decode cX8_beside 110 = .ok (.bipush 6, 2) := by decide +kernel
theorem dX8_beside_112 : decode cX8_beside 112 = .ok (.idiv, 1) := by decide +kernel
theorem dX8_beside_113 : decode cX8_beside 113 = .ok (.if_icmp .ne 85, 3) := by decide +kernel
theorem dX8_beside_116 : decode cX8_beside 116 = .ok (.aload_n 0, 1) := by decide +kernel
theorem dX8_beside_117 : decode cX8_beside 117 = .ok (.getfield 7, 3) := by decide +kernel
theorem dX8_beside_120 : decode cX8_beside 120 = .ok (.iload 6, 2) := by decide +kernel
theorem dX8_beside_122 : decode cX8_beside 122 = .ok (.invokestatic 171, 3) := by decide +kernel
theorem dX8_beside_125 : decode cX8_beside 125 = .ok (.ifCond .eq 73, 3) := by decide +kernel
theorem dX8_beside_128 : decode cX8_beside 128 = .ok (.aload_n 0, 1) := by decide +kernel
theorem dX8_beside_129 : decode cX8_beside 129 = .ok (.getfield 7, 3) := by decide +kernel
theorem dX8_beside_132 : decode cX8_beside 132 = .ok (.iload 7, 2) := by decide +kernel
theorem dX8_beside_134 : decode cX8_beside 134 = .ok (.invokestatic 171, 3) := by decide +kernel
theorem dX8_beside_137 : decode cX8_beside 137 = .ok (.ifCond .eq 61, 3) := by decide +kernel
theorem dX8_beside_140 : decode cX8_beside 140 = .ok (.aload_n 0, 1) := by decide +kernel
theorem dX8_beside_141 : decode cX8_beside 141 = .ok (.invokevirtual 225, 3) := by decide +kernel
theorem dX8_beside_144 : decode cX8_beside 144 = .ok (.aload_n 0, 1) := by decide +kernel
theorem dX8_beside_145 : decode cX8_beside 145 = .ok (.getfield 13, 3) := by decide +kernel
theorem dX8_beside_148 : decode cX8_beside 148 = .ok (.iload_n 1, 1) := by decide +kernel
theorem dX8_beside_149 : decode cX8_beside 149 = .ok (.iload 6, 2) := by decide +kernel
theorem dX8_beside_151 : decode cX8_beside 151 = .ok (.invokestatic 182, 3) := by decide +kernel
theorem dX8_beside_154 : decode cX8_beside 154 = .ok (.istore 8, 2) := by decide +kernel
theorem dX8_beside_156 : decode cX8_beside 156 = .ok (.iload 8, 2) := by decide +kernel
theorem dX8_beside_158 : decode cX8_beside 158 = .ok (.aload_n 0, 1) := by decide +kernel
theorem dX8_beside_159 : decode cX8_beside 159 = .ok (.getfield 13, 3) := by decide +kernel
theorem dX8_beside_162 : decode cX8_beside 162 = .ok (.iload_n 2, 1) := by decide +kernel
theorem dX8_beside_163 : decode cX8_beside 163 = .ok (.iload 7, 2) := by decide +kernel
theorem dX8_beside_165 : decode cX8_beside 165 = .ok (.invokestatic 182, 3) := by decide +kernel
theorem dX8_beside_168 : decode cX8_beside 168 = .ok (.iadd, 1) := by decide +kernel
theorem dX8_beside_169 : decode cX8_beside 169 = .ok (.istore 8, 2) := by decide +kernel
theorem dX8_beside_171 : decode cX8_beside 171 = .ok (.iload 4, 2) := by decide +kernel
theorem dX8_beside_173 : decode cX8_beside 173 = .ok (.iconst (-1), 1) := by decide +kernel
theorem dX8_beside_174 : decode cX8_beside 174 = .ok (.if_icmp .eq 10, 3) := by decide +kernel
theorem dX8_beside_177 : decode cX8_beside 177 = .ok (.iload 8, 2) := by decide +kernel
theorem dX8_beside_179 : decode cX8_beside 179 = .ok (.iload 4, 2) := by decide +kernel
theorem dX8_beside_181 : decode cX8_beside 181 = .ok (.if_icmp .ge 17, 3) := by decide +kernel
theorem dX8_beside_184 : decode cX8_beside 184 = .ok (.iload 8, 2) := by decide +kernel
theorem dX8_beside_186 : decode cX8_beside 186 = .ok (.istore 4, 2) := by decide +kernel
theorem dX8_beside_188 : decode cX8_beside 188 = .ok (.bipush 100, 2) := by decide +kernel
theorem dX8_beside_190 : decode cX8_beside 190 = .ok (.iload 6, 2) := by decide +kernel
theorem dX8_beside_192 : decode cX8_beside 192 = .ok (.imul, 1) := by decide +kernel
theorem dX8_beside_193 : decode cX8_beside 193 = .ok (.iload 7, 2) := by decide +kernel
theorem dX8_beside_195 : decode cX8_beside 195 = .ok (.iadd, 1) := by decide +kernel
theorem dX8_beside_196 : decode cX8_beside 196 = .ok (.istore 5, 2) := by decide +kernel
theorem dX8_beside_198 : decode cX8_beside 198 = .ok (.iinc 7 1, 3) := by decide +kernel
theorem dX8_beside_201 : decode cX8_beside 201 = .ok (.goto (-122), 3) := by decide +kernel
theorem dX8_beside_204 : decode cX8_beside 204 = .ok (.iinc 6 1, 3) := by decide +kernel
theorem dX8_beside_207 : decode cX8_beside 207 = .ok (.goto (-141), 3) := by decide +kernel
theorem dX8_beside_210 : decode cX8_beside 210 = .ok (.iload_n 3, 1) := by decide +kernel
theorem dX8_beside_211 : decode cX8_beside 211 = .ok (.ifCond .ne 8, 3) := by decide +kernel
theorem dX8_beside_214 : decode cX8_beside 214 = .ok (.iload 4, 2) := by decide +kernel
theorem dX8_beside_216 : decode cX8_beside 216 = .ok (.goto 5, 3) := by decide +kernel
theorem dX8_beside_219 : decode cX8_beside 219 = .ok (.iload 5, 2) := by decide +kernel
theorem dX8_beside_221 : decode cX8_beside 221 = .ok (.ireturn, 1) := by decide +kernel
theorem dX8_wrong_0 : decode cX8_wrong 0 = .ok (.iconst 0, 1) := by decide +kernel
theorem dX8_wrong_1 : decode cX8_wrong 1 = .ok (.istore_n 1, 1) := by decide +kernel
theorem dX8_wrong_2 : decode cX8_wrong 2 = .ok (.iconst 0, 1) := by decide +kernel
theorem dX8_wrong_3 : decode cX8_wrong 3 = .ok (.istore_n 2, 1) := by decide +kernel
theorem dX8_wrong_4 : decode cX8_wrong 4 = .ok (.iload_n 2, 1) := by decide +kernel
theorem dX8_wrong_5 : decode cX8_wrong 5 = .ok (.aload_n 0, 1) := by decide +kernel
theorem dX8_wrong_6 : decode cX8_wrong 6 = .ok (.getfield 7, 3) := by decide +kernel
theorem dX8_wrong_9 : decode cX8_wrong 9 = .ok (.bipush 8, 2) := by decide +kernel
theorem dX8_wrong_11 : decode cX8_wrong 11 = .ok (.iaload, 1) := by decide +kernel
theorem dX8_wrong_12 : decode cX8_wrong 12 = .ok (.if_icmp .ge 47, 3) := by decide +kernel
theorem dX8_wrong_15 : decode cX8_wrong 15 = .ok (.iload_n 1, 1) := by decide +kernel
theorem dX8_wrong_16 : decode cX8_wrong 16 = .ok (.aload_n 0, 1) := by decide +kernel
theorem dX8_wrong_17 : decode cX8_wrong 17 = .ok (.iload_n 2, 1) := by decide +kernel
theorem dX8_wrong_18 : decode cX8_wrong 18 = .ok (.invokevirtual 216, 3) := by decide +kernel
theorem dX8_wrong_21 : decode cX8_wrong 21 = .ok (.ifCond .ne 29, 3) := by decide +kernel
theorem dX8_wrong_24 : decode cX8_wrong 24 = .ok (.aload_n 0, 1) := by decide +kernel
theorem dX8_wrong_25 : decode cX8_wrong 25 = .ok (.getfield 7, 3) := by decide +kernel
theorem dX8_wrong_28 : decode cX8_wrong 28 = .ok (.iload_n 2, 1) := by decide +kernel
theorem dX8_wrong_29 : decode cX8_wrong 29 = .ok (.invokestatic 59, 3) := by decide +kernel
theorem dX8_wrong_32 : decode cX8_wrong 32 = .ok (.aload_n 0, 1) := by decide +kernel
theorem dX8_wrong_33 : decode cX8_wrong 33 = .ok (.getfield 7, 3) := by decide +kernel
theorem dX8_wrong_36 : decode cX8_wrong 36 = .ok (.iload_n 2, 1) := by decide +kernel
theorem dX8_wrong_37 : decode cX8_wrong 37 = .ok (.iconst 1, 1) := by decide +kernel
theorem dX8_wrong_38 : decode cX8_wrong 38 = .ok (.invokestatic 55, 3) := by decide +kernel
theorem dX8_wrong_41 : decode cX8_wrong 41 = .ok (.if_icmp .eq 9, 3) := by decide +kernel
theorem dX8_wrong_44 : decode cX8_wrong 44 = .ok (.iconst 1, 1) := by decide +kernel
theorem dX8_wrong_45 : decode cX8_wrong 45 = .ok (.iload_n 2, 1) := by decide +kernel
theorem dX8_wrong_46 : decode cX8_wrong 46 = .ok (.ishl, 1) := by decide +kernel
theorem dX8_wrong_47 : decode cX8_wrong 47 = .ok (.goto 4, 3) := by decide +kernel
theorem dX8_wrong_50 : decode cX8_wrong 50 = .ok (.iconst 0, 1) := by decide +kernel
theorem dX8_wrong_51 : decode cX8_wrong 51 = .ok (.ior, 1) := by decide +kernel
theorem dX8_wrong_52 : decode cX8_wrong 52 = .ok (.istore_n 1, 1) := by decide +kernel
theorem dX8_wrong_53 : decode cX8_wrong 53 = .ok (.iinc 2 1, 3) := by decide +kernel
theorem dX8_wrong_56 : decode cX8_wrong 56 = .ok (.goto (-52), 3) := by decide +kernel
theorem dX8_wrong_59 : decode cX8_wrong 59 = .ok (.iload_n 1, 1) := by decide +kernel
theorem dX8_wrong_60 : decode cX8_wrong 60 = .ok (.ireturn, 1) := by decide +kernel
theorem dX8_isBound_0 : decode cX8_isBound 0 = .ok (.aload_n 0, 1) := by decide +kernel
theorem dX8_isBound_1 : decode cX8_isBound 1 = .ok (.iload_n 1, 1) := by decide +kernel
theorem dX8_isBound_2 : decode cX8_isBound 2 = .ok (.invokevirtual 216, 3) := by decide +kernel
theorem dX8_isBound_5 : decode cX8_isBound 5 = .ok (.ifCond .ne 7, 3) := by decide +kernel
theorem dX8_isBound_8 : decode cX8_isBound 8 = .ok (.iconst 1, 1) := by decide +kernel
theorem dX8_isBound_9 : decode cX8_isBound 9 = .ok (.goto 4, 3) := by decide +kernel
theorem dX8_isBound_12 : decode cX8_isBound 12 = .ok (.iconst 0, 1) := by decide +kernel
theorem dX8_isBound_13 : decode cX8_isBound 13 = .ok (.istore_n 2, 1) := by decide +kernel
theorem dX8_isBound_14 : decode cX8_isBound 14 = .ok (.iconst 0, 1) := by decide +kernel
theorem dX8_isBound_15 : decode cX8_isBound 15 = .ok (.istore_n 3, 1) := by decide +kernel
theorem dX8_isBound_16 : decode cX8_isBound 16 = .ok (.iload_n 3, 1) := by decide +kernel
theorem dX8_isBound_17 : decode cX8_isBound 17 = .ok (.iload_n 1, 1) := by decide +kernel
theorem dX8_isBound_18 : decode cX8_isBound 18 = .ok (.if_icmp .ge 48, 3) := by decide +kernel
theorem dX8_isBound_21 : decode cX8_isBound 21 = .ok (.iload_n 2, 1) := by decide +kernel
theorem dX8_isBound_22 : decode cX8_isBound 22 = .ok (.ifCond .eq 36, 3) := by decide +kernel
theorem dX8_isBound_25 : decode cX8_isBound 25 = .ok (.aload_n 0, 1) := by decide +kernel
theorem dX8_isBound_26 : decode cX8_isBound 26 = .ok (.iload_n 3, 1) := by decide +kernel
theorem dX8_isBound_27 : decode cX8_isBound 27 = .ok (.invokevirtual 216, 3) := by decide +kernel
theorem dX8_isBound_30 : decode cX8_isBound 30 = .ok (.ifCond .ne 24, 3) := by decide +kernel
theorem dX8_isBound_33 : decode cX8_isBound 33 = .ok (.aload_n 0, 1) := by decide +kernel
theorem dX8_isBound_34 : decode cX8_isBound 34 = .ok (.getfield 7, 3) := by decide +kernel
theorem dX8_isBound_37 : decode cX8_isBound 37 = .ok (.iload_n 3, 1) := by decide +kernel
theorem dX8_isBound_38 : decode cX8_isBound 38 = .ok (.iconst 1, 1) := by decide +kernel
theorem dX8_isBound_39 : decode cX8_isBound 39 = .ok (.invokestatic 55, 3) := by decide +kernel
theorem dX8_isBound_42 : decode cX8_isBound 42 = .ok (.aload_n 0, 1) := by decide +kernel
theorem dX8_isBound_43 : decode cX8_isBound 43 = .ok (.getfield 7, 3) := by decide +kernel
theorem dX8_isBound_46 : decode cX8_isBound 46 = .ok (.iload_n 1, 1) := by decide +kernel
theorem dX8_isBound_47 : decode cX8_isBound 47 = .ok (.iconst 1, 1) := by decide +kernel
theorem dX8_isBound_48 : decode cX8_isBound 48 = .ok (.invokestatic 55, 3) := by decide +kernel
theorem dX8_isBound_51 : decode cX8_isBound 51 = .ok (.if_icmp .eq 7, 3) := by decide +kernel
theorem dX8_isBound_54 : decode cX8_isBound 54 = .ok (.iconst 1, 1) := by decide +kernel
theorem dX8_isBound_55 : decode cX8_isBound 55 = .ok (.goto 4, 3) := by decide +kernel
theorem dX8_isBound_58 : decode cX8_isBound 58 = .ok (.iconst 0, 1) := by decide +kernel
theorem dX8_isBound_59 : decode cX8_isBound 59 = .ok (.istore_n 2, 1) := by decide +kernel
theorem dX8_isBound_60 : decode cX8_isBound 60 = .ok (.iinc 3 1, 3) := by decide +kernel
theorem dX8_isBound_63 : decode cX8_isBound 63 = .ok (.goto (-47), 3) := by decide +kernel
theorem dX8_isBound_66 : decode cX8_isBound 66 = .ok (.iload_n 2, 1) := by decide +kernel
theorem dX8_isBound_67 : decode cX8_isBound 67 = .ok (.ireturn, 1) := by decide +kernel
theorem dX8_inStubOf_0 : decode cX8_inStubOf 0 = .ok (.aload_n 0, 1) := by decide +kernel
theorem dX8_inStubOf_1 : decode cX8_inStubOf 1 = .ok (.getfield 7, 3) := by decide +kernel
theorem dX8_inStubOf_4 : decode cX8_inStubOf 4 = .ok (.aload_n 0, 1) := by decide +kernel
theorem dX8_inStubOf_5 : decode cX8_inStubOf 5 = .ok (.getfield 7, 3) := by decide +kernel
theorem dX8_inStubOf_8 : decode cX8_inStubOf 8 = .ok (.iload_n 1, 1) := by decide +kernel
theorem dX8_inStubOf_9 : decode cX8_inStubOf 9 = .ok (.iconst 1, 1) := by decide +kernel
theorem dX8_inStubOf_10 : decode cX8_inStubOf 10 = .ok (.invokestatic 55, 3) := by decide +kernel
theorem dX8_inStubOf_13 : decode cX8_inStubOf 13 = .ok (.invokestatic 63, 3) := by decide +kernel
theorem dX8_inStubOf_16 : decode cX8_inStubOf 16 = .ok (.istore_n 2, 1) := by decide +kernel
theorem dX8_inStubOf_17 : decode cX8_inStubOf 17 = .ok (.iload_n 2, 1) := by decide +kernel
theorem dX8_inStubOf_18 : decode cX8_inStubOf 18 = .ok (.iconst (-1), 1) := by decide +kernel
theorem dX8_inStubOf_19 : decode cX8_inStubOf 19 = .ok (.if_icmp .eq 15, 3) := by decide +kernel
theorem dX8_inStubOf_22 : decode cX8_inStubOf 22 = .ok (.aload_n 0, 1) := by decide +kernel
theorem dX8_inStubOf_23 : decode cX8_inStubOf 23 = .ok (.iload_n 2, 1) := by decide +kernel
theorem dX8_inStubOf_24 : decode cX8_inStubOf 24 = .ok (.invokevirtual 231, 3) := by decide +kernel
theorem dX8_inStubOf_27 : decode cX8_inStubOf 27 = .ok (.ifCond .eq 7, 3) := by decide +kernel
theorem dX8_inStubOf_30 : decode cX8_inStubOf 30 = .ok (.iload_n 2, 1) := by decide +kernel
theorem dX8_inStubOf_31 : decode cX8_inStubOf 31 = .ok (.goto 4, 3) := by decide +kernel
theorem dX8_inStubOf_34 : decode cX8_inStubOf 34 = .ok (.iconst (-1), 1) := by decide +kernel
theorem dX8_inStubOf_35 : decode cX8_inStubOf 35 = .ok (.ireturn, 1) := by decide +kernel
theorem dX8_swaps_0 : decode cX8_swaps 0 = .ok (.iconst 0, 1) := by decide +kernel
theorem dX8_swaps_1 : decode cX8_swaps 1 = .ok (.istore_n 1, 1) := by decide +kernel
theorem dX8_swaps_2 : decode cX8_swaps 2 = .ok (.iconst 0, 1) := by decide +kernel
theorem dX8_swaps_3 : decode cX8_swaps 3 = .ok (.istore_n 2, 1) := by decide +kernel
theorem dX8_swaps_4 : decode cX8_swaps 4 = .ok (.iconst 0, 1) := by decide +kernel
theorem dX8_swaps_5 : decode cX8_swaps 5 = .ok (.istore_n 3, 1) := by decide +kernel
theorem dX8_swaps_6 : decode cX8_swaps 6 = .ok (.iload_n 3, 1) := by decide +kernel
theorem dX8_swaps_7 : decode cX8_swaps 7 = .ok (.aload_n 0, 1) := by decide +kernel
theorem dX8_swaps_8 : decode cX8_swaps 8 = .ok (.getfield 7, 3) := by decide +kernel
theorem dX8_swaps_11 : decode cX8_swaps 11 = .ok (.bipush 8, 2) := by decide +kernel
theorem dX8_swaps_13 : decode cX8_swaps 13 = .ok (.iaload, 1) := by decide +kernel
theorem dX8_swaps_14 : decode cX8_swaps 14 = .ok (.if_icmp .ge 91, 3) := by decide +kernel
theorem dX8_swaps_17 : decode cX8_swaps 17 = .ok (.aload_n 0, 1) := by decide +kernel
theorem dX8_swaps_18 : decode cX8_swaps 18 = .ok (.iload_n 3, 1) := by decide +kernel
theorem dX8_swaps_19 : decode cX8_swaps 19 = .ok (.invokevirtual 231, 3) := by decide +kernel
theorem dX8_swaps_22 : decode cX8_swaps 22 = .ok (.ifCond .eq 77, 3) := by decide +kernel
theorem dX8_swaps_25 : decode cX8_swaps 25 = .ok (.aload_n 0, 1) := by decide +kernel
theorem dX8_swaps_26 : decode cX8_swaps 26 = .ok (.getfield 7, 3) := by decide +kernel
theorem dX8_swaps_29 : decode cX8_swaps 29 = .ok (.iload_n 3, 1) := by decide +kernel
theorem dX8_swaps_30 : decode cX8_swaps 30 = .ok (.invokestatic 59, 3) := by decide +kernel
theorem dX8_swaps_33 : decode cX8_swaps 33 = .ok (.aload_n 0, 1) := by decide +kernel
theorem dX8_swaps_34 : decode cX8_swaps 34 = .ok (.getfield 7, 3) := by decide +kernel
theorem dX8_swaps_37 : decode cX8_swaps 37 = .ok (.iload_n 3, 1) := by decide +kernel
theorem dX8_swaps_38 : decode cX8_swaps 38 = .ok (.iconst 1, 1) := by decide +kernel
theorem dX8_swaps_39 : decode cX8_swaps 39 = .ok (.invokestatic 55, 3) := by decide +kernel
theorem dX8_swaps_42 : decode cX8_swaps 42 = .ok (.if_icmp .eq 57, 3) := by decide +kernel
theorem dX8_swaps_45 : decode cX8_swaps 45 = .ok (.iinc 1 1, 3) := by decide +kernel
theorem dX8_swaps_48 : decode cX8_swaps 48 = .ok (.aload_n 0, 1) := by decide +kernel
theorem dX8_swaps_49 : decode cX8_swaps 49 = .ok (.iload_n 3, 1) := by decide +kernel
theorem dX8_swaps_50 : decode cX8_swaps 50 = .ok (.invokevirtual 234, 3) := by decide +kernel
theorem dX8_swaps_53 : decode cX8_swaps 53 = .ok (.istore 4, 2) := by decide +kernel
theorem dX8_swaps_55 : decode cX8_swaps 55 = .ok (.iconst 0, 1) := by decide +kernel
theorem dX8_swaps_56 : decode cX8_swaps 56 = .ok (.istore 5, 2) := by decide +kernel
theorem dX8_swaps_58 : decode cX8_swaps 58 = .ok (.iload 5, 2) := by decide +kernel
theorem dX8_swaps_60 : decode cX8_swaps 60 = .ok (.bipush 7, 2) := by decide +kernel
theorem dX8_swaps_62 : decode cX8_swaps 62 = .ok (.if_icmp .ge 23, 3) := by decide +kernel
theorem dX8_swaps_65 : decode cX8_swaps 65 = .ok (.iload 4, 2) := by decide +kernel
theorem dX8_swaps_67 : decode cX8_swaps 67 = .ok (.iload_n 3, 1) := by decide +kernel
theorem dX8_swaps_68 : decode cX8_swaps 68 = .ok (.if_icmp .le 17, 3) := by decide +kernel
theorem dX8_swaps_71 : decode cX8_swaps 71 = .ok (.aload_n 0, 1) := by decide +kernel
theorem dX8_swaps_72 : decode cX8_swaps 72 = .ok (.iload 4, 2) := by decide +kernel
theorem dX8_swaps_74 : decode cX8_swaps 74 = .ok (.invokevirtual 234, 3) := by decide +kernel
theorem dX8_swaps_77 : decode cX8_swaps 77 = .ok (.istore 4, 2) := by decide +kernel
theorem dX8_swaps_79 : decode cX8_swaps 79 = .ok (.iinc 5 1, 3) := by decide +kernel
theorem dX8_swaps_82 : decode cX8_swaps 82 = .ok (.goto (-24), 3) := by decide +kernel
theorem dX8_swaps_85 : decode cX8_swaps 85 = .ok (.iload_n 2, 1) := by decide +kernel
theorem dX8_swaps_86 : decode cX8_swaps 86 = .ok (.iload 4, 2) := by decide +kernel
theorem dX8_swaps_88 : decode cX8_swaps 88 = .ok (.iload_n 3, 1) := by decide +kernel
theorem dX8_swaps_89 : decode cX8_swaps 89 = .ok (.if_icmp .ne 7, 3) := by decide +kernel
theorem dX8_swaps_92 : decode cX8_swaps 92 = .ok (.iconst 1, 1) := by decide +kernel
theorem dX8_swaps_93 : decode cX8_swaps 93 = .ok (.goto 4, 3) := by decide +kernel
theorem dX8_swaps_96 : decode cX8_swaps 96 = .ok (.iconst 0, 1) := by decide +kernel
theorem dX8_swaps_97 : decode cX8_swaps 97 = .ok (.iadd, 1) := by decide +kernel
theorem dX8_swaps_98 : decode cX8_swaps 98 = .ok (.istore_n 2, 1) := by decide +kernel
theorem dX8_swaps_99 : decode cX8_swaps 99 = .ok (.iinc 3 1, 3) := by decide +kernel
theorem dX8_swaps_102 : decode cX8_swaps 102 = .ok (.goto (-96), 3) := by decide +kernel
theorem dX8_swaps_105 : decode cX8_swaps 105 = .ok (.iload_n 1, 1) := by decide +kernel
theorem dX8_swaps_106 : decode cX8_swaps 106 = .ok (.iload_n 2, 1) := by decide +kernel
theorem dX8_swaps_107 : decode cX8_swaps 107 = .ok (.isub, 1) := by decide +kernel
theorem dX8_swaps_108 : decode cX8_swaps 108 = .ok (.ireturn, 1) := by decide +kernel
theorem dX8_comesRow_0 : decode cX8_comesRow 0 = .ok (.iload_n 1, 1) := by decide +kernel
theorem dX8_comesRow_1 : decode cX8_comesRow 1 = .ok (.iconst 1, 1) := by decide +kernel
theorem dX8_comesRow_2 : decode cX8_comesRow 2 = .ok (.iadd, 1) := by decide +kernel
theorem dX8_comesRow_3 : decode cX8_comesRow 3 = .ok (.iload_n 2, 1) := by decide +kernel
theorem dX8_comesRow_4 : decode cX8_comesRow 4 = .ok (.aload_n 0, 1) := by decide +kernel
theorem dX8_comesRow_5 : decode cX8_comesRow 5 = .ok (.iload_n 1, 1) := by decide +kernel
theorem dX8_comesRow_6 : decode cX8_comesRow 6 = .ok (.iaload, 1) := by decide +kernel
theorem dX8_comesRow_7 : decode cX8_comesRow 7 = .ok (.imul, 1) := by decide +kernel
theorem dX8_comesRow_8 : decode cX8_comesRow 8 = .ok (.iadd, 1) := by decide +kernel
theorem dX8_comesRow_9 : decode cX8_comesRow 9 = .ok (.istore 7, 2) := by decide +kernel
theorem dX8_comesRow_11 : decode cX8_comesRow 11 = .ok (.aload_n 0, 1) := by decide +kernel
theorem dX8_comesRow_12 : decode cX8_comesRow 12 = .ok (.iload 7, 2) := by decide +kernel
theorem dX8_comesRow_14 : decode cX8_comesRow 14 = .ok (.iload_n 3, 1) := by decide +kernel
theorem dX8_comesRow_15 : decode cX8_comesRow 15 = .ok (.iastore, 1) := by decide +kernel
theorem dX8_comesRow_16 : decode cX8_comesRow 16 = .ok (.aload_n 0, 1) := by decide +kernel
theorem dX8_comesRow_17 : decode cX8_comesRow 17 = .ok (.iload 7, 2) := by decide +kernel
theorem dX8_comesRow_19 : decode cX8_comesRow 19 = .ok (.iconst 1, 1) := by decide +kernel
theorem dX8_comesRow_20 : decode cX8_comesRow 20 = .ok (.iadd, 1) := by decide +kernel
theorem dX8_comesRow_21 : decode cX8_comesRow 21 = .ok (.iload 4, 2) := by decide +kernel
theorem dX8_comesRow_23 : decode cX8_comesRow 23 = .ok (.iastore, 1) := by decide +kernel
theorem dX8_comesRow_24 : decode cX8_comesRow 24 = .ok (.aload_n 0, 1) := by decide +kernel
theorem dX8_comesRow_25 : decode cX8_comesRow 25 = .ok (.iload 7, 2) := by decide +kernel
theorem dX8_comesRow_27 : decode cX8_comesRow 27 = .ok (.iconst 2, 1) := by decide +kernel
theorem dX8_comesRow_28 : decode cX8_comesRow 28 = .ok (.iadd, 1) := by decide +kernel
theorem dX8_comesRow_29 : decode cX8_comesRow 29 = .ok (.iload 5, 2) := by decide +kernel
theorem dX8_comesRow_31 : decode cX8_comesRow 31 = .ok (.iastore, 1) := by decide +kernel
theorem dX8_comesRow_32 : decode cX8_comesRow 32 = .ok (.iload_n 2, 1) := by decide +kernel
theorem dX8_comesRow_33 : decode cX8_comesRow 33 = .ok (.iconst 4, 1) := by decide +kernel
theorem dX8_comesRow_34 : decode cX8_comesRow 34 = .ok (.if_icmp .ne 11, 3) := by decide +kernel
theorem dX8_comesRow_37 : decode cX8_comesRow 37 = .ok (.aload_n 0, 1) := by decide +kernel
theorem dX8_comesRow_38 : decode cX8_comesRow 38 = .ok (.iload 7, 2) := by decide +kernel
theorem dX8_comesRow_40 : decode cX8_comesRow 40 = .ok (.iconst 3, 1) := by decide +kernel
theorem dX8_comesRow_41 : decode cX8_comesRow 41 = .ok (.iadd, 1) := by decide +kernel
theorem dX8_comesRow_42 : decode cX8_comesRow 42 = .ok (.iload 6, 2) := by decide +kernel
theorem dX8_comesRow_44 : decode cX8_comesRow 44 = .ok (.iastore, 1) := by decide +kernel
theorem dX8_comesRow_45 : decode cX8_comesRow 45 = .ok (.aload_n 0, 1) := by decide +kernel
theorem dX8_comesRow_46 : decode cX8_comesRow 46 = .ok (.iload_n 1, 1) := by decide +kernel
theorem dX8_comesRow_47 : decode cX8_comesRow 47 = .ok (.dup2, 1) := by decide +kernel
theorem dX8_comesRow_48 : decode cX8_comesRow 48 = .ok (.iaload, 1) := by decide +kernel
theorem dX8_comesRow_49 : decode cX8_comesRow 49 = .ok (.iconst 1, 1) := by decide +kernel
theorem dX8_comesRow_50 : decode cX8_comesRow 50 = .ok (.iadd, 1) := by decide +kernel
theorem dX8_comesRow_51 : decode cX8_comesRow 51 = .ok (.iastore, 1) := by decide +kernel
theorem dX8_comesRow_52 : decode cX8_comesRow 52 = .ok (.return_, 1) := by decide +kernel
theorem dX8_told_0 : decode cX8_told 0 = .ok (.aload_n 0, 1) := by decide +kernel
theorem dX8_told_1 : decode cX8_told 1 = .ok (.getfield 7, 3) := by decide +kernel
theorem dX8_told_4 : decode cX8_told 4 = .ok (.iload_n 1, 1) := by decide +kernel
theorem dX8_told_5 : decode cX8_told 5 = .ok (.iconst 1, 1) := by decide +kernel
theorem dX8_told_6 : decode cX8_told 6 = .ok (.iadd, 1) := by decide +kernel
theorem dX8_told_7 : decode cX8_told 7 = .ok (.iload_n 2, 1) := by decide +kernel
theorem dX8_told_8 : decode cX8_told 8 = .ok (.iload_n 3, 1) := by decide +kernel
theorem dX8_told_9 : decode cX8_told 9 = .ok (.imul, 1) := by decide +kernel
theorem dX8_told_10 : decode cX8_told 10 = .ok (.iadd, 1) := by decide +kernel
theorem dX8_told_11 : decode cX8_told 11 = .ok (.iload 4, 2) := by decide +kernel
theorem dX8_told_13 : decode cX8_told 13 = .ok (.iadd, 1) := by decide +kernel
theorem dX8_told_14 : decode cX8_told 14 = .ok (.iaload, 1) := by decide +kernel
theorem dX8_told_15 : decode cX8_told 15 = .ok (.ireturn, 1) := by decide +kernel
theorem dX8_seen_0 : decode cX8_seen 0 = .ok (.aload_n 0, 1) := by decide +kernel
theorem dX8_seen_1 : decode cX8_seen 1 = .ok (.iload_n 1, 1) := by decide +kernel
theorem dX8_seen_2 : decode cX8_seen 2 = .ok (.invokevirtual 203, 3) := by decide +kernel
theorem dX8_seen_5 : decode cX8_seen 5 = .ok (.ifCond .eq 27, 3) := by decide +kernel
theorem dX8_seen_8 : decode cX8_seen 8 = .ok (.iload_n 2, 1) := by decide +kernel
theorem dX8_seen_9 : decode cX8_seen 9 = .ok (.i2l, 1) := by decide +kernel
theorem dX8_seen_10 : decode cX8_seen 10 = .ok (.lconst 0, 1) := by decide +kernel
theorem dX8_seen_11 : decode cX8_seen 11 = .ok (.ldc2_w 209, 3) := by decide +kernel
theorem dX8_seen_14 : decode cX8_seen 14 = .ok (.invokestatic 46, 3) := by decide +kernel
theorem dX8_seen_17 : decode cX8_seen 17 = .ok (.ifCond .eq 15, 3) := by decide +kernel
theorem dX8_seen_20 : decode cX8_seen 20 = .ok (.iload_n 3, 1) := by decide +kernel
theorem dX8_seen_21 : decode cX8_seen 21 = .ok (.i2l, 1) := by decide +kernel
theorem dX8_seen_22 : decode cX8_seen 22 = .ok (.lconst 0, 1) := by decide +kernel
theorem dX8_seen_23 : decode cX8_seen 23 = .ok (.ldc2_w 237, 3) := by decide +kernel
theorem dX8_seen_26 : decode cX8_seen 26 = .ok (.invokestatic 46, 3) := by decide +kernel
theorem dX8_seen_29 : decode cX8_seen 29 = .ok (.ifCond .ne 8, 3) := by decide +kernel
theorem dX8_seen_32 : decode cX8_seen 32 = .ok (.aload_n 0, 1) := by decide +kernel
theorem dX8_seen_33 : decode cX8_seen 33 = .ok (.invokevirtual 101, 3) := by decide +kernel
theorem dX8_seen_36 : decode cX8_seen 36 = .ok (.ireturn, 1) := by decide +kernel
theorem dX8_seen_37 : decode cX8_seen 37 = .ok (.aload_n 0, 1) := by decide +kernel
theorem dX8_seen_38 : decode cX8_seen 38 = .ok (.getfield 7, 3) := by decide +kernel
theorem dX8_seen_41 : decode cX8_seen 41 = .ok (.bipush 30, 2) := by decide +kernel
theorem dX8_seen_43 : decode cX8_seen 43 = .ok (.iaload, 1) := by decide +kernel
theorem dX8_seen_44 : decode cX8_seen 44 = .ok (.iconst 5, 1) := by decide +kernel
theorem dX8_seen_45 : decode cX8_seen 45 = .ok (.if_icmp .ne 8, 3) := by decide +kernel
theorem dX8_seen_48 : decode cX8_seen 48 = .ok (.aload_n 0, 1) := by decide +kernel
theorem dX8_seen_49 : decode cX8_seen 49 = .ok (.invokevirtual 109, 3) := by decide +kernel
theorem dX8_seen_52 : decode cX8_seen 52 = .ok (.ireturn, 1) := by decide +kernel
theorem dX8_seen_53 : decode cX8_seen 53 = .ok (.aload_n 0, 1) := by decide +kernel
theorem dX8_seen_54 : decode cX8_seen 54 = .ok (.getfield 7, 3) := by decide +kernel
theorem dX8_seen_57 : decode cX8_seen 57 = .ok (.bipush 30, 2) := by decide +kernel
theorem dX8_seen_59 : decode cX8_seen 59 = .ok (.iconst 3, 1) := by decide +kernel
theorem dX8_seen_60 : decode cX8_seen 60 = .ok (.iload_n 1, 1) := by decide +kernel
theorem dX8_seen_61 : decode cX8_seen 61 = .ok (.iload_n 2, 1) := by decide +kernel
theorem dX8_seen_62 : decode cX8_seen 62 = .ok (.iload_n 3, 1) := by decide +kernel
theorem dX8_seen_63 : decode cX8_seen 63 = .ok (.iconst 0, 1) := by decide +kernel
theorem dX8_seen_64 : decode cX8_seen 64 = .ok (.invokestatic 239, 3) := by decide +kernel
theorem dX8_seen_67 : decode cX8_seen 67 = .ok (.aload_n 0, 1) := by decide +kernel
theorem dX8_seen_68 : decode cX8_seen 68 = .ok (.getfield 7, 3) := by decide +kernel
theorem dX8_seen_71 : decode cX8_seen 71 = .ok (.bipush 30, 2) := by decide +kernel
theorem dX8_seen_73 : decode cX8_seen 73 = .ok (.iaload, 1) := by decide +kernel
theorem dX8_seen_74 : decode cX8_seen 74 = .ok (.ireturn, 1) := by decide +kernel
theorem dX8_passes_0 : decode cX8_passes 0 = .ok (.aload_n 0, 1) := by decide +kernel
theorem dX8_passes_1 : decode cX8_passes 1 = .ok (.getfield 7, 3) := by decide +kernel
theorem dX8_passes_4 : decode cX8_passes 4 = .ok (.iload_n 1, 1) := by decide +kernel
theorem dX8_passes_5 : decode cX8_passes 5 = .ok (.iconst (-1), 1) := by decide +kernel
theorem dX8_passes_6 : decode cX8_passes 6 = .ok (.invokestatic 70, 3) := by decide +kernel
theorem dX8_passes_9 : decode cX8_passes 9 = .ok (.ireturn, 1) := by decide +kernel
theorem dX8_mayBe_0 : decode cX8_mayBe 0 = .ok (.aload_n 0, 1) := by decide +kernel
theorem dX8_mayBe_1 : decode cX8_mayBe 1 = .ok (.getfield 7, 3) := by decide +kernel
theorem dX8_mayBe_4 : decode cX8_mayBe 4 = .ok (.iload_n 2, 1) := by decide +kernel
theorem dX8_mayBe_5 : decode cX8_mayBe 5 = .ok (.invokestatic 171, 3) := by decide +kernel
theorem dX8_mayBe_8 : decode cX8_mayBe 8 = .ok (.istore_n 3, 1) := by decide +kernel
theorem dX8_mayBe_9 : decode cX8_mayBe 9 = .ok (.iconst 0, 1) := by decide +kernel
theorem dX8_mayBe_10 : decode cX8_mayBe 10 = .ok (.istore 4, 2) := by decide +kernel
theorem dX8_mayBe_12 : decode cX8_mayBe 12 = .ok (.iload 4, 2) := by decide +kernel
theorem dX8_mayBe_14 : decode cX8_mayBe 14 = .ok (.aload_n 0, 1) := by decide +kernel
theorem dX8_mayBe_15 : decode cX8_mayBe 15 = .ok (.getfield 7, 3) := by decide +kernel
theorem dX8_mayBe_18 : decode cX8_mayBe 18 = .ok (.bipush 30, 2) := by decide +kernel
theorem dX8_mayBe_20 : decode cX8_mayBe 20 = .ok (.iaload, 1) := by decide +kernel
theorem dX8_mayBe_21 : decode cX8_mayBe 21 = .ok (.if_icmp .ge 73, 3) := by decide +kernel
theorem dX8_mayBe_24 : decode cX8_mayBe 24 = .ok (.iload_n 3, 1) := by decide +kernel
theorem dX8_mayBe_25 : decode cX8_mayBe 25 = .ok (.ifCond .eq 61, 3) := by decide +kernel
theorem dX8_mayBe_28 : decode cX8_mayBe 28 = .ok (.aload_n 0, 1) := by decide +kernel
theorem dX8_mayBe_29 : decode cX8_mayBe 29 = .ok (.bipush 30, 2) := by decide +kernel
theorem dX8_mayBe_31 : decode cX8_mayBe 31 = .ok (.iconst 3, 1) := by decide +kernel
theorem dX8_mayBe_32 : decode cX8_mayBe 32 = .ok (.iload 4, 2) := by decide +kernel
theorem dX8_mayBe_34 : decode cX8_mayBe 34 = .ok (.iconst 0, 1) := by decide +kernel
theorem dX8_mayBe_35 : decode cX8_mayBe 35 = .ok (.invokevirtual 243, 3) := by decide +kernel
theorem dX8_mayBe_38 : decode cX8_mayBe 38 = .ok (.iload_n 1, 1) := by decide +kernel
theorem dX8_mayBe_39 : decode cX8_mayBe 39 = .ok (.if_icmp .ne 43, 3) := by decide +kernel
theorem dX8_mayBe_42 : decode cX8_mayBe 42 = .ok (.aload_n 0, 1) := by decide +kernel
theorem dX8_mayBe_43 : decode cX8_mayBe 43 = .ok (.getfield 7, 3) := by decide +kernel
theorem dX8_mayBe_46 : decode cX8_mayBe 46 = .ok (.iload_n 1, 1) := by decide +kernel
theorem dX8_mayBe_47 : decode cX8_mayBe 47 = .ok (.iconst 0, 1) := by decide +kernel
theorem dX8_mayBe_48 : decode cX8_mayBe 48 = .ok (.invokestatic 55, 3) := by decide +kernel
theorem dX8_mayBe_51 : decode cX8_mayBe 51 = .ok (.aload_n 0, 1) := by decide +kernel
theorem dX8_mayBe_52 : decode cX8_mayBe 52 = .ok (.iload_n 2, 1) := by decide +kernel
theorem dX8_mayBe_53 : decode cX8_mayBe 53 = .ok (.invokevirtual 247, 3) := by decide +kernel
theorem dX8_mayBe_56 : decode cX8_mayBe 56 = .ok (.aload_n 0, 1) := by decide +kernel
theorem dX8_mayBe_57 : decode cX8_mayBe 57 = .ok (.bipush 30, 2) := by decide +kernel
theorem dX8_mayBe_59 : decode cX8_mayBe 59 = .ok (.iconst 3, 1) := by decide +kernel
theorem dX8_mayBe_60 : decode cX8_mayBe 60 = .ok (.iload 4, 2) := by decide +kernel
theorem dX8_mayBe_62 : decode cX8_mayBe 62 = .ok (.iconst 1, 1) := by decide +kernel
theorem dX8_mayBe_63 : decode cX8_mayBe 63 = .ok (.invokevirtual 243, 3) := by decide +kernel
theorem dX8_mayBe_66 : decode cX8_mayBe 66 = .ok (.invokestatic 73, 3) := by decide +kernel
theorem dX8_mayBe_69 : decode cX8_mayBe 69 = .ok (.aload_n 0, 1) := by decide +kernel
theorem dX8_mayBe_70 : decode cX8_mayBe 70 = .ok (.bipush 30, 2) := by decide +kernel
theorem dX8_mayBe_72 : decode cX8_mayBe 72 = .ok (.iconst 3, 1) := by decide +kernel
theorem dX8_mayBe_73 : decode cX8_mayBe 73 = .ok (.iload 4, 2) := by decide +kernel
theorem dX8_mayBe_75 : decode cX8_mayBe 75 = .ok (.iconst 2, 1) := by decide +kernel
theorem dX8_mayBe_76 : decode cX8_mayBe 76 = .ok (.invokevirtual 243, 3) := by decide +kernel
theorem dX8_mayBe_79 : decode cX8_mayBe 79 = .ok (.if_icmp .ne 7, 3) := by decide +kernel
theorem dX8_mayBe_82 : decode cX8_mayBe 82 = .ok (.iconst 1, 1) := by decide +kernel
theorem dX8_mayBe_83 : decode cX8_mayBe 83 = .ok (.goto 4, 3) := by decide +kernel
theorem dX8_mayBe_86 : decode cX8_mayBe 86 = .ok (.iconst 0, 1) := by decide +kernel
theorem dX8_mayBe_87 : decode cX8_mayBe 87 = .ok (.istore_n 3, 1) := by decide +kernel
theorem dX8_mayBe_88 : decode cX8_mayBe 88 = .ok (.iinc 4 1, 3) := by decide +kernel
theorem dX8_mayBe_91 : decode cX8_mayBe 91 = .ok (.goto (-79), 3) := by decide +kernel
theorem dX8_mayBe_94 : decode cX8_mayBe 94 = .ok (.iload_n 3, 1) := by decide +kernel
theorem dX8_mayBe_95 : decode cX8_mayBe 95 = .ok (.ireturn, 1) := by decide +kernel
theorem dX8_where_0 : decode cX8_where 0 = .ok (.aload_n 0, 1) := by decide +kernel
theorem dX8_where_1 : decode cX8_where 1 = .ok (.iload_n 1, 1) := by decide +kernel
theorem dX8_where_2 : decode cX8_where 2 = .ok (.invokevirtual 203, 3) := by decide +kernel
theorem dX8_where_5 : decode cX8_where 5 = .ok (.ifCond .eq 8, 3) := by decide +kernel
theorem dX8_where_8 : decode cX8_where 8 = .ok (.iload_n 2, 1) := by decide +kernel
theorem dX8_where_9 : decode cX8_where 9 = .ok (.iconst (-1), 1) := by decide +kernel
theorem dX8_where_10 : decode cX8_where 10 = .ok (.if_icmp .ge 10, 3) := by decide +kernel
theorem dX8_where_13 : decode cX8_where 13 = .ok (.aload_n 0, 1) := by decide +kernel
theorem dX8_where_14 : decode cX8_where 14 = .ok (.bipush (-10), 2) := by decide +kernel
theorem dX8_where_16 : decode cX8_where 16 = .ok (.invokevirtual 219, 3) := by decide +kernel
theorem dX8_where_19 : decode cX8_where 19 = .ok (.ireturn, 1) := by decide +kernel
theorem dX8_where_20 : decode cX8_where 20 = .ok (.iconst 0, 1) := by decide +kernel
theorem dX8_where_21 : decode cX8_where 21 = .ok (.istore_n 3, 1) := by decide +kernel
theorem dX8_where_22 : decode cX8_where 22 = .ok (.bipush (-5), 2) := by decide +kernel
theorem dX8_where_24 : decode cX8_where 24 = .ok (.istore 4, 2) := by decide +kernel
theorem dX8_where_26 : decode cX8_where 26 = .ok (.iconst 0, 1) := by decide +kernel
theorem dX8_where_27 : decode cX8_where 27 = .ok (.istore 5, 2) := by decide +kernel
theorem dX8_where_29 : decode cX8_where 29 = .ok (.iload 5, 2) := by decide +kernel
theorem dX8_where_31 : decode cX8_where 31 = .ok (.bipush 30, 2) := by decide +kernel
theorem dX8_where_33 : decode cX8_where 33 = .ok (.if_icmp .ge 36, 3) := by decide +kernel
theorem dX8_where_36 : decode cX8_where 36 = .ok (.aload_n 0, 1) := by decide +kernel
theorem dX8_where_37 : decode cX8_where 37 = .ok (.iload_n 1, 1) := by decide +kernel
theorem dX8_where_38 : decode cX8_where 38 = .ok (.iload 5, 2) := by decide +kernel
theorem dX8_where_40 : decode cX8_where 40 = .ok (.invokevirtual 250, 3) := by decide +kernel
theorem dX8_where_43 : decode cX8_where 43 = .ok (.ifCond .eq 20, 3) := by decide +kernel
theorem dX8_where_46 : decode cX8_where 46 = .ok (.iload_n 3, 1) := by decide +kernel
theorem dX8_where_47 : decode cX8_where 47 = .ok (.iload_n 2, 1) := by decide +kernel
theorem dX8_where_48 : decode cX8_where 48 = .ok (.if_icmp .ne 8, 3) := by decide +kernel
theorem dX8_where_51 : decode cX8_where 51 = .ok (.iload 5, 2) := by decide +kernel
theorem dX8_where_53 : decode cX8_where 53 = .ok (.goto 5, 3) := by decide +kernel
theorem dX8_where_56 : decode cX8_where 56 = .ok (.iload 4, 2) := by decide +kernel
theorem dX8_where_58 : decode cX8_where 58 = .ok (.istore 4, 2) := by decide +kernel
theorem dX8_where_60 : decode cX8_where 60 = .ok (.iinc 3 1, 3) := by decide +kernel
theorem dX8_where_63 : decode cX8_where 63 = .ok (.iinc 5 1, 3) := by decide +kernel
theorem dX8_where_66 : decode cX8_where 66 = .ok (.goto (-37), 3) := by decide +kernel
theorem dX8_where_69 : decode cX8_where 69 = .ok (.iload_n 2, 1) := by decide +kernel
theorem dX8_where_70 : decode cX8_where 70 = .ok (.iconst (-1), 1) := by decide +kernel
theorem dX8_where_71 : decode cX8_where 71 = .ok (.if_icmp .ne 7, 3) := by decide +kernel
theorem dX8_where_74 : decode cX8_where 74 = .ok (.iload_n 3, 1) := by decide +kernel
theorem dX8_where_75 : decode cX8_where 75 = .ok (.goto 5, 3) := by decide +kernel
theorem dX8_where_78 : decode cX8_where 78 = .ok (.iload 4, 2) := by decide +kernel
theorem dX8_where_80 : decode cX8_where 80 = .ok (.ireturn, 1) := by decide +kernel
theorem dX8_clearAlike_0 : decode cX8_clearAlike 0 = .ok (.iconst 0, 1) := by decide +kernel
theorem dX8_clearAlike_1 : decode cX8_clearAlike 1 = .ok (.istore_n 1, 1) := by decide +kernel
theorem dX8_clearAlike_2 : decode cX8_clearAlike 2 = .ok (.iload_n 1, 1) := by decide +kernel
theorem dX8_clearAlike_3 : decode cX8_clearAlike 3 = .ok (.bipush 41, 2) := by decide +kernel
theorem dX8_clearAlike_5 : decode cX8_clearAlike 5 = .ok (.if_icmp .ge 16, 3) := by decide +kernel
theorem dX8_clearAlike_8 : decode cX8_clearAlike 8 = .ok (.aload_n 0, 1) := by decide +kernel
theorem dX8_clearAlike_9 : decode cX8_clearAlike 9 = .ok (.getfield 43, 3) := by decide +kernel
theorem dX8_clearAlike_12 : decode cX8_clearAlike 12 = .ok (.iload_n 1, 1) := by decide +kernel
theorem dX8_clearAlike_13 : decode cX8_clearAlike 13 = .ok (.iconst 0, 1) := by decide +kernel
theorem dX8_clearAlike_14 : decode cX8_clearAlike 14 = .ok (.iastore, 1) := by decide +kernel
theorem dX8_clearAlike_15 : decode cX8_clearAlike 15 = .ok (.iinc 1 1, 3) := by decide +kernel
theorem dX8_clearAlike_18 : decode cX8_clearAlike 18 = .ok (.goto (-16), 3) := by decide +kernel
theorem dX8_clearAlike_21 : decode cX8_clearAlike 21 = .ok (.return_, 1) := by decide +kernel
theorem dX8_mostAlike_0 : decode cX8_mostAlike 0 = .ok (.iconst 0, 1) := by decide +kernel
theorem dX8_mostAlike_1 : decode cX8_mostAlike 1 = .ok (.istore_n 1, 1) := by decide +kernel
theorem dX8_mostAlike_2 : decode cX8_mostAlike 2 = .ok (.iconst 0, 1) := by decide +kernel
theorem dX8_mostAlike_3 : decode cX8_mostAlike 3 = .ok (.istore_n 2, 1) := by decide +kernel
theorem dX8_mostAlike_4 : decode cX8_mostAlike 4 = .ok (.iload_n 2, 1) := by decide +kernel
theorem dX8_mostAlike_5 : decode cX8_mostAlike 5 = .ok (.bipush 41, 2) := by decide +kernel
theorem dX8_mostAlike_7 : decode cX8_mostAlike 7 = .ok (.if_icmp .ge 30, 3) := by decide +kernel
theorem dX8_mostAlike_10 : decode cX8_mostAlike 10 = .ok (.aload_n 0, 1) := by decide +kernel
theorem dX8_mostAlike_11 : decode cX8_mostAlike 11 = .ok (.getfield 43, 3) := by decide +kernel
theorem dX8_mostAlike_14 : decode cX8_mostAlike 14 = .ok (.iload_n 2, 1) := by decide +kernel
theorem dX8_mostAlike_15 : decode cX8_mostAlike 15 = .ok (.iaload, 1) := by decide +kernel
theorem dX8_mostAlike_16 : decode cX8_mostAlike 16 = .ok (.iload_n 1, 1) := by decide +kernel
theorem dX8_mostAlike_17 : decode cX8_mostAlike 17 = .ok (.if_icmp .le 12, 3) := by decide +kernel
theorem dX8_mostAlike_20 : decode cX8_mostAlike 20 = .ok (.aload_n 0, 1) := by decide +kernel
theorem dX8_mostAlike_21 : decode cX8_mostAlike 21 = .ok (.getfield 43, 3) := by decide +kernel
theorem dX8_mostAlike_24 : decode cX8_mostAlike 24 = .ok (.iload_n 2, 1) := by decide +kernel
theorem dX8_mostAlike_25 : decode cX8_mostAlike 25 = .ok (.iaload, 1) := by decide +kernel
theorem dX8_mostAlike_26 : decode cX8_mostAlike 26 = .ok (.goto 4, 3) := by decide +kernel
theorem dX8_mostAlike_29 : decode cX8_mostAlike 29 = .ok (.iload_n 1, 1) := by decide +kernel
theorem dX8_mostAlike_30 : decode cX8_mostAlike 30 = .ok (.istore_n 1, 1) := by decide +kernel
theorem dX8_mostAlike_31 : decode cX8_mostAlike 31 = .ok (.iinc 2 1, 3) := by decide +kernel
theorem dX8_mostAlike_34 : decode cX8_mostAlike 34 = .ok (.goto (-30), 3) := by decide +kernel
theorem dX8_mostAlike_37 : decode cX8_mostAlike 37 = .ok (.iload_n 1, 1) := by decide +kernel
theorem dX8_mostAlike_38 : decode cX8_mostAlike 38 = .ok (.ireturn, 1) := by decide +kernel
theorem dX8_tell_0 : decode cX8_tell 0 = .ok (.aload_n 0, 1) := by decide +kernel
theorem dX8_tell_1 : decode cX8_tell 1 = .ok (.iload_n 1, 1) := by decide +kernel
theorem dX8_tell_2 : decode cX8_tell 2 = .ok (.invokevirtual 203, 3) := by decide +kernel
theorem dX8_tell_5 : decode cX8_tell 5 = .ok (.ifCond .ne 8, 3) := by decide +kernel
theorem dX8_tell_8 : decode cX8_tell 8 = .ok (.aload_n 0, 1) := by decide +kernel
theorem dX8_tell_9 : decode cX8_tell 9 = .ok (.invokevirtual 101, 3) := by decide +kernel
theorem dX8_tell_12 : decode cX8_tell 12 = .ok (.ireturn, 1) := by decide +kernel
theorem dX8_tell_13 : decode cX8_tell 13 = .ok (.iconst (-1), 1) := by decide +kernel
theorem dX8_tell_14 : decode cX8_tell 14 = .ok (.istore_n 2, 1) := by decide +kernel
theorem dX8_tell_15 : decode cX8_tell 15 = .ok (.bipush 99, 2) := by decide +kernel
theorem dX8_tell_17 : decode cX8_tell 17 = .ok (.istore_n 3, 1) := by decide +kernel
theorem dX8_tell_18 : decode cX8_tell 18 = .ok (.iconst 0, 1) := by decide +kernel
theorem dX8_tell_19 : decode cX8_tell 19 = .ok (.istore 4, 2) := by decide +kernel
theorem dX8_tell_21 : decode cX8_tell 21 = .ok (.iload 4, 2) := by decide +kernel
theorem dX8_tell_23 : decode cX8_tell 23 = .ok (.bipush 20, 2) := by decide +kernel
theorem dX8_tell_25 : decode cX8_tell 25 = .ok (.if_icmp .ge 91, 3) := by decide +kernel
theorem dX8_tell_28 : decode cX8_tell 28 = .ok (.aload_n 0, 1) := by decide +kernel
theorem dX8_tell_29 : decode cX8_tell 29 = .ok (.invokevirtual 253, 3) := by decide +kernel
theorem dX8_tell_32 : decode cX8_tell 32 = .ok (.iconst 0, 1) := by decide +kernel
theorem dX8_tell_33 : decode cX8_tell 33 = .ok (.istore 5, 2) := by decide +kernel
theorem dX8_tell_35 : decode cX8_tell 35 = .ok (.iload 5, 2) := by decide +kernel
theorem dX8_tell_37 : decode cX8_tell 37 = .ok (.bipush 30, 2) := by decide +kernel
theorem dX8_tell_39 : decode cX8_tell 39 = .ok (.if_icmp .ge 48, 3) := by decide +kernel
theorem dX8_tell_42 : decode cX8_tell 42 = .ok (.aload_n 0, 1) := by decide +kernel
theorem dX8_tell_43 : decode cX8_tell 43 = .ok (.iload_n 1, 1) := by decide +kernel
theorem dX8_tell_44 : decode cX8_tell 44 = .ok (.iload 5, 2) := by decide +kernel
theorem dX8_tell_46 : decode cX8_tell 46 = .ok (.invokevirtual 250, 3) := by decide +kernel
theorem dX8_tell_49 : decode cX8_tell 49 = .ok (.ifCond .eq 32, 3) := by decide +kernel
theorem dX8_tell_52 : decode cX8_tell 52 = .ok (.aload_n 0, 1) := by decide +kernel
theorem dX8_tell_53 : decode cX8_tell 53 = .ok (.getfield 43, 3) := by decide +kernel
theorem dX8_tell_56 : decode cX8_tell 56 = .ok (.aload_n 0, 1) := by decide +kernel
theorem dX8_tell_57 : decode cX8_tell 57 = .ok (.getfield 7, 3) := by decide +kernel
theorem dX8_tell_60 : decode cX8_tell 60 = .ok (.iload_n 1, 1) := by decide +kernel
theorem dX8_tell_61 : decode cX8_tell 61 = .ok (.iconst 0, 1) := by decide +kernel
theorem dX8_tell_62 : decode cX8_tell 62 = .ok (.invokestatic 55, 3) := by decide +kernel
theorem dX8_tell_65 : decode cX8_tell 65 = .ok (.aload_n 0, 1) := by decide +kernel
theorem dX8_tell_66 : decode cX8_tell 66 = .ok (.iload 5, 2) := by decide +kernel
theorem dX8_tell_68 : decode cX8_tell 68 = .ok (.invokevirtual 247, 3) := by decide +kernel
theorem dX8_tell_71 : decode cX8_tell 71 = .ok (.iload 4, 2) := by decide +kernel
theorem dX8_tell_73 : decode cX8_tell 73 = .ok (.invokestatic 73, 3) := by decide +kernel
theorem dX8_tell_76 : decode cX8_tell 76 = .ok (.dup2, 1) := by decide +kernel
theorem dX8_tell_77 : decode cX8_tell 77 = .ok (.iaload, 1) := by decide +kernel
theorem dX8_tell_78 : decode cX8_tell 78 = .ok (.iconst 1, 1) := by decide +kernel
theorem dX8_tell_79 : decode cX8_tell 79 = .ok (.iadd, 1) := by decide +kernel
theorem dX8_tell_80 : decode cX8_tell 80 = .ok (.iastore, 1) := by decide +kernel
theorem dX8_tell_81 : decode cX8_tell 81 = .ok (.iinc 5 1, 3) := by decide +kernel
theorem dX8_tell_84 : decode cX8_tell 84 = .ok (.goto (-49), 3) := by decide +kernel
theorem dX8_tell_87 : decode cX8_tell 87 = .ok (.aload_n 0, 1) := by decide +kernel
theorem dX8_tell_88 : decode cX8_tell 88 = .ok (.invokevirtual 256, 3) := by decide +kernel
theorem dX8_tell_91 : decode cX8_tell 91 = .ok (.ifCond .le 19, 3) := by decide +kernel
theorem dX8_tell_94 : decode cX8_tell 94 = .ok (.aload_n 0, 1) := by decide +kernel
theorem dX8_tell_95 : decode cX8_tell 95 = .ok (.invokevirtual 256, 3) := by decide +kernel
theorem dX8_tell_98 : decode cX8_tell 98 = .ok (.iload_n 3, 1) := by decide +kernel
theorem dX8_tell_99 : decode cX8_tell 99 = .ok (.if_icmp .ge 11, 3) := by decide +kernel
theorem dX8_tell_102 : decode cX8_tell 102 = .ok (.aload_n 0, 1) := by decide +kernel
theorem dX8_tell_103 : decode cX8_tell 103 = .ok (.invokevirtual 256, 3) := by decide +kernel
theorem dX8_tell_106 : decode cX8_tell 106 = .ok (.istore_n 3, 1) := by decide +kernel
theorem dX8_tell_107 : decode cX8_tell 107 = .ok (.iload 4, 2) := by decide +kernel
theorem dX8_tell_109 : decode cX8_tell 109 = .ok (.istore_n 2, 1) := by decide +kernel
theorem dX8_tell_110 : decode cX8_tell 110 = .ok (.iinc 4 1, 3) := by decide +kernel
theorem dX8_tell_113 : decode cX8_tell 113 = .ok (.goto (-92), 3) := by decide +kernel
theorem dX8_tell_116 : decode cX8_tell 116 = .ok (.iload_n 2, 1) := by decide +kernel
theorem dX8_tell_117 : decode cX8_tell 117 = .ok (.ireturn, 1) := by decide +kernel
theorem dX8_note_0 : decode cX8_note 0 = .ok (.iload_n 1, 1) := by decide +kernel
theorem dX8_note_1 : decode cX8_note 1 = .ok (.i2l, 1) := by decide +kernel
theorem dX8_note_2 : decode cX8_note 2 = .ok (.lconst 0, 1) := by decide +kernel
theorem dX8_note_3 : decode cX8_note 3 = .ok (.ldc2_w 97, 3) := by decide +kernel
theorem dX8_note_6 : decode cX8_note 6 = .ok (.invokestatic 46, 3) := by decide +kernel
theorem dX8_note_9 : decode cX8_note 9 = .ok (.ifCond .eq 27, 3) := by decide +kernel
theorem dX8_note_12 : decode cX8_note 12 = .ok (.iload_n 2, 1) := by decide +kernel
theorem dX8_note_13 : decode cX8_note 13 = .ok (.i2l, 1) := by decide +kernel
theorem dX8_note_14 : decode cX8_note 14 = .ok (.lconst 0, 1) := by decide +kernel
theorem dX8_note_15 : decode cX8_note 15 = .ok (.ldc2_w 99, 3) := by decide +kernel
theorem dX8_note_18 : decode cX8_note 18 = .ok (.invokestatic 46, 3) := by decide +kernel
theorem dX8_note_21 : decode cX8_note 21 = .ok (.ifCond .eq 15, 3) := by decide +kernel
theorem dX8_note_24 : decode cX8_note 24 = .ok (.iload_n 3, 1) := by decide +kernel
theorem dX8_note_25 : decode cX8_note 25 = .ok (.i2l, 1) := by decide +kernel
theorem dX8_note_26 : decode cX8_note 26 = .ok (.lconst 0, 1) := by decide +kernel
theorem dX8_note_27 : decode cX8_note 27 = .ok (.ldc2_w 259, 3) := by decide +kernel
theorem dX8_note_30 : decode cX8_note 30 = .ok (.invokestatic 46, 3) := by decide +kernel
theorem dX8_note_33 : decode cX8_note 33 = .ok (.ifCond .ne 8, 3) := by decide +kernel
theorem dX8_note_36 : decode cX8_note 36 = .ok (.aload_n 0, 1) := by decide +kernel
theorem dX8_note_37 : decode cX8_note 37 = .ok (.invokevirtual 101, 3) := by decide +kernel
theorem dX8_note_40 : decode cX8_note 40 = .ok (.ireturn, 1) := by decide +kernel
theorem dX8_note_41 : decode cX8_note 41 = .ok (.aload_n 0, 1) := by decide +kernel
theorem dX8_note_42 : decode cX8_note 42 = .ok (.getfield 7, 3) := by decide +kernel
theorem dX8_note_45 : decode cX8_note 45 = .ok (.bipush 46, 2) := by decide +kernel
theorem dX8_note_47 : decode cX8_note 47 = .ok (.iaload, 1) := by decide +kernel
theorem dX8_note_48 : decode cX8_note 48 = .ok (.bipush 6, 2) := by decide +kernel
theorem dX8_note_50 : decode cX8_note 50 = .ok (.if_icmp .ne 8, 3) := by decide +kernel
theorem dX8_note_53 : decode cX8_note 53 = .ok (.aload_n 0, 1) := by decide +kernel
theorem dX8_note_54 : decode cX8_note 54 = .ok (.invokevirtual 109, 3) := by decide +kernel
theorem dX8_note_57 : decode cX8_note 57 = .ok (.ireturn, 1) := by decide +kernel
theorem dX8_note_58 : decode cX8_note 58 = .ok (.aload_n 0, 1) := by decide +kernel
theorem dX8_note_59 : decode cX8_note 59 = .ok (.getfield 7, 3) := by decide +kernel
theorem dX8_note_62 : decode cX8_note 62 = .ok (.bipush 46, 2) := by decide +kernel
theorem dX8_note_64 : decode cX8_note 64 = .ok (.iconst 3, 1) := by decide +kernel
theorem dX8_note_65 : decode cX8_note 65 = .ok (.iload_n 1, 1) := by decide +kernel
theorem dX8_note_66 : decode cX8_note 66 = .ok (.iload_n 2, 1) := by decide +kernel
theorem dX8_note_67 : decode cX8_note 67 = .ok (.iload_n 3, 1) := by decide +kernel
theorem dX8_note_68 : decode cX8_note 68 = .ok (.iconst 0, 1) := by decide +kernel
theorem dX8_note_69 : decode cX8_note 69 = .ok (.invokestatic 239, 3) := by decide +kernel
theorem dX8_note_72 : decode cX8_note 72 = .ok (.aload_n 0, 1) := by decide +kernel
theorem dX8_note_73 : decode cX8_note 73 = .ok (.getfield 7, 3) := by decide +kernel
theorem dX8_note_76 : decode cX8_note 76 = .ok (.bipush 46, 2) := by decide +kernel
theorem dX8_note_78 : decode cX8_note 78 = .ok (.iaload, 1) := by decide +kernel
theorem dX8_note_79 : decode cX8_note 79 = .ok (.ireturn, 1) := by decide +kernel
theorem dX8_mark_0 : decode cX8_mark 0 = .ok (.aload_n 0, 1) := by decide +kernel
theorem dX8_mark_1 : decode cX8_mark 1 = .ok (.iload_n 1, 1) := by decide +kernel
theorem dX8_mark_2 : decode cX8_mark 2 = .ok (.invokevirtual 203, 3) := by decide +kernel
theorem dX8_mark_5 : decode cX8_mark 5 = .ok (.ifCond .eq 40, 3) := by decide +kernel
theorem dX8_mark_8 : decode cX8_mark 8 = .ok (.iload_n 2, 1) := by decide +kernel
theorem dX8_mark_9 : decode cX8_mark 9 = .ok (.i2l, 1) := by decide +kernel
theorem dX8_mark_10 : decode cX8_mark 10 = .ok (.lconst 0, 1) := by decide +kernel
theorem dX8_mark_11 : decode cX8_mark 11 = .ok (.ldc2_w 99, 3) := by decide +kernel
theorem dX8_mark_14 : decode cX8_mark 14 = .ok (.invokestatic 46, 3) := by decide +kernel
theorem dX8_mark_17 : decode cX8_mark 17 = .ok (.ifCond .eq 28, 3) := by decide +kernel
theorem dX8_mark_20 : decode cX8_mark 20 = .ok (.iload_n 3, 1) := by decide +kernel
theorem dX8_mark_21 : decode cX8_mark 21 = .ok (.i2l, 1) := by decide +kernel
theorem dX8_mark_22 : decode cX8_mark 22 = .ok (.lconst 0, 1) := by decide +kernel
theorem dX8_mark_23 : decode cX8_mark 23 = .ok (.ldc2_w 209, 3) := by decide +kernel
theorem dX8_mark_26 : decode cX8_mark 26 = .ok (.invokestatic 46, 3) := by decide +kernel
theorem dX8_mark_29 : decode cX8_mark 29 = .ok (.ifCond .eq 16, 3) := by decide +kernel
theorem dX8_mark_32 : decode cX8_mark 32 = .ok (.iload 4, 2) := by decide +kernel
theorem dX8_mark_34 : decode cX8_mark 34 = .ok (.i2l, 1) := by decide +kernel
theorem dX8_mark_35 : decode cX8_mark 35 = .ok (.lconst 0, 1) := by decide +kernel
theorem dX8_mark_36 : decode cX8_mark 36 = .ok (.ldc2_w 237, 3) := by decide +kernel
theorem dX8_mark_39 : decode cX8_mark 39 = .ok (.invokestatic 46, 3) := by decide +kernel
theorem dX8_mark_42 : decode cX8_mark 42 = .ok (.ifCond .ne 8, 3) := by decide +kernel
theorem dX8_mark_45 : decode cX8_mark 45 = .ok (.aload_n 0, 1) := by decide +kernel
theorem dX8_mark_46 : decode cX8_mark 46 = .ok (.invokevirtual 101, 3) := by decide +kernel
