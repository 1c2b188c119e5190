theorem dX7_init_0 : decode cX7_init 0 = .ok (.aload_n 0, 1) := by decide +kernel
theorem dX7_init_1 : decode cX7_init 1 = .ok (.invokespecial 1, 3) := by decide +kernel
theorem dX7_init_4 : decode cX7_init 4 = .ok (.aload_n 0, 1) := by decide +kernel
theorem dX7_init_5 : decode cX7_init 5 = .ok (.new 7, 3) := by decide +kernel
theorem dX7_init_8 : decode cX7_init 8 = .ok (.dup, 1) := by decide +kernel
theorem dX7_init_9 : decode cX7_init 9 = .ok (.invokespecial 9, 3) := by decide +kernel
theorem dX7_init_12 : decode cX7_init 12 = .ok (.putfield 10, 3) := by decide +kernel
theorem dX7_init_15 : decode cX7_init 15 = .ok (.aload_n 0, 1) := by decide +kernel
theorem dX7_init_16 : decode cX7_init 16 = .ok (.new 7, 3) := by decide +kernel
theorem dX7_init_19 : decode cX7_init 19 = .ok (.dup, 1) := by decide +kernel
theorem dX7_init_20 : decode cX7_init 20 = .ok (.invokespecial 9, 3) := by decide +kernel
theorem dX7_init_23 : decode cX7_init 23 = .ok (.putfield 16, 3) := by decide +kernel
theorem dX7_init_26 : decode cX7_init 26 = .ok (.aload_n 0, 1) := by decide +kernel
theorem dX7_init_27 : decode cX7_init 27 = .ok (.iconst 2, 1) := by decide +kernel
theorem dX7_init_28 : decode cX7_init 28 = .ok (.anewarray 7, 3) := by decide +kernel
theorem dX7_init_31 : decode cX7_init 31 = .ok (.dup, 1) := by decide +kernel
theorem dX7_init_32 : decode cX7_init 32 = .ok (.iconst 0, 1) := by decide +kernel
theorem dX7_init_33 : decode cX7_init 33 = .ok (.new 7, 3) := by decide +kernel
theorem dX7_init_36 : decode cX7_init 36 = .ok (.dup, 1) := by decide +kernel
theorem dX7_init_37 : decode cX7_init 37 = .ok (.invokespecial 9, 3) := by decide +kernel
theorem dX7_init_40 : decode cX7_init 40 = .ok (.aastore, 1) := by decide +kernel
theorem dX7_init_41 : decode cX7_init 41 = .ok (.dup, 1) := by decide +kernel
theorem dX7_init_42 : decode cX7_init 42 = .ok (.iconst 1, 1) := by decide +kernel
theorem dX7_init_43 : decode cX7_init 43 = .ok (.new 7, 3) := by decide +kernel
theorem dX7_init_46 : decode cX7_init 46 = .ok (.dup, 1) := by decide +kernel
theorem dX7_init_47 : decode cX7_init 47 = .ok (.invokespecial 9, 3) := by decide +kernel
theorem dX7_init_50 : decode cX7_init 50 = .ok (.aastore, 1) := by decide +kernel
theorem dX7_init_51 : decode cX7_init 51 = .ok (.putfield 19, 3) := by decide +kernel
theorem dX7_init_54 : decode cX7_init 54 = .ok (.aload_n 0, 1) := by decide +kernel
theorem dX7_init_55 : decode cX7_init 55 = .ok (.iconst 2, 1) := by decide +kernel
theorem dX7_init_56 : decode cX7_init 56 = .ok (.newarray .boolean, 2) := by decide +kernel
theorem dX7_init_58 : decode cX7_init 58 = .ok (.putfield 23, 3) := by decide +kernel
theorem dX7_init_61 : decode cX7_init 61 = .ok (.aload_n 0, 1) := by decide +kernel
theorem dX7_init_62 : decode cX7_init 62 = .ok (.new 27, 3) := by decide +kernel
theorem dX7_init_65 : decode cX7_init 65 = .ok (.dup, 1) := by decide +kernel
theorem dX7_init_66 : decode cX7_init 66 = .ok (.invokespecial 29, 3) := by decide +kernel
theorem dX7_init_69 : decode cX7_init 69 = .ok (.putfield 30, 3) := by decide +kernel
theorem dX7_init_72 : decode cX7_init 72 = .ok (.aload_n 0, 1) := by decide +kernel
theorem dX7_init_73 : decode cX7_init 73 = .ok (.new 34, 3) := by decide +kernel
theorem dX7_init_76 : decode cX7_init 76 = .ok (.dup, 1) := by decide +kernel
theorem dX7_init_77 : decode cX7_init 77 = .ok (.invokespecial 36, 3) := by decide +kernel
theorem dX7_init_80 : decode cX7_init 80 = .ok (.putfield 37, 3) := by decide +kernel
theorem dX7_init_83 : decode cX7_init 83 = .ok (.aload_n 0, 1) := by decide +kernel
theorem dX7_init_84 : decode cX7_init 84 = .ok (.new 41, 3) := by decide +kernel
theorem dX7_init_87 : decode cX7_init 87 = .ok (.dup, 1) := by decide +kernel
theorem dX7_init_88 : decode cX7_init 88 = .ok (.invokespecial 43, 3) := by decide +kernel
theorem dX7_init_91 : decode cX7_init 91 = .ok (.putfield 44, 3) := by decide +kernel
theorem dX7_init_94 : decode cX7_init 94 = .ok (.aload_n 0, 1) := by decide +kernel
theorem dX7_init_95 : decode cX7_init 95 = .ok (.lconst 1, 1) := by decide +kernel
theorem dX7_init_96 : decode cX7_init 96 = .ok (.putfield 48, 3) := by decide +kernel
theorem dX7_init_99 : decode cX7_init 99 = .ok (.return_, 1) := by decide +kernel
theorem dX7_hall_0 : decode cX7_hall 0 = .ok (.aload_n 0, 1) := by decide +kernel
theorem dX7_hall_1 : decode cX7_hall 1 = .ok (.getfield 10, 3) := by decide +kernel
theorem dX7_hall_4 : decode cX7_hall 4 = .ok (.getfield 52, 3) := by decide +kernel
theorem dX7_hall_7 : decode cX7_hall 7 = .ok (.istore_n 1, 1) := by decide +kernel
theorem dX7_hall_8 : decode cX7_hall 8 = .ok (.aload_n 0, 1) := by decide +kernel
theorem dX7_hall_9 : decode cX7_hall 9 = .ok (.getfield 10, 3) := by decide +kernel
theorem dX7_hall_12 : decode cX7_hall 12 = .ok (.invokevirtual 56, 3) := by decide +kernel
theorem dX7_hall_15 : decode cX7_hall 15 = .ok (.iload_n 1, 1) := by decide +kernel
theorem dX7_hall_16 : decode cX7_hall 16 = .ok (.ireturn, 1) := by decide +kernel
theorem dX7_row_0 : decode cX7_row 0 = .ok (.iload_n 1, 1) := by decide +kernel
theorem dX7_row_1 : decode cX7_row 1 = .ok (.iconst 5, 1) := by decide +kernel
theorem dX7_row_2 : decode cX7_row 2 = .ok (.invokestatic 59, 3) := by decide +kernel
theorem dX7_row_5 : decode cX7_row 5 = .ok (.ifCond .eq 12, 3) := by decide +kernel
theorem dX7_row_8 : decode cX7_row 8 = .ok (.iload_n 2, 1) := by decide +kernel
theorem dX7_row_9 : decode cX7_row 9 = .ok (.bipush 6, 2) := by decide +kernel
theorem dX7_row_11 : decode cX7_row 11 = .ok (.invokestatic 59, 3) := by decide +kernel
theorem dX7_row_14 : decode cX7_row 14 = .ok (.ifCond .ne 10, 3) := by decide +kernel
theorem dX7_row_17 : decode cX7_row 17 = .ok (.aload_n 0, 1) := by decide +kernel
theorem dX7_row_18 : decode cX7_row 18 = .ok (.bipush (-2), 2) := by decide +kernel
theorem dX7_row_20 : decode cX7_row 20 = .ok (.invokevirtual 63, 3) := by decide +kernel
theorem dX7_row_23 : decode cX7_row 23 = .ok (.ireturn, 1) := by decide +kernel
theorem dX7_row_24 : decode cX7_row 24 = .ok (.aload_n 0, 1) := by decide +kernel
theorem dX7_row_25 : decode cX7_row 25 = .ok (.getfield 10, 3) := by decide +kernel
theorem dX7_row_28 : decode cX7_row 28 = .ok (.getfield 67, 3) := by decide +kernel
theorem dX7_row_31 : decode cX7_row 31 = .ok (.iload_n 1, 1) := by decide +kernel
theorem dX7_row_32 : decode cX7_row 32 = .ok (.iaload, 1) := by decide +kernel
theorem dX7_row_33 : decode cX7_row 33 = .ok (.istore_n 3, 1) := by decide +kernel
theorem dX7_row_34 : decode cX7_row 34 = .ok (.aload_n 0, 1) := by decide +kernel
theorem dX7_row_35 : decode cX7_row 35 = .ok (.getfield 10, 3) := by decide +kernel
theorem dX7_row_38 : decode cX7_row 38 = .ok (.getfield 67, 3) := by decide +kernel
theorem dX7_row_41 : decode cX7_row 41 = .ok (.iload_n 1, 1) := by decide +kernel
theorem dX7_row_42 : decode cX7_row 42 = .ok (.iload_n 2, 1) := by decide +kernel
theorem dX7_row_43 : decode cX7_row 43 = .ok (.iastore, 1) := by decide +kernel
theorem dX7_row_44 : decode cX7_row 44 = .ok (.aload_n 0, 1) := by decide +kernel
theorem dX7_row_45 : decode cX7_row 45 = .ok (.getfield 10, 3) := by decide +kernel
theorem dX7_row_48 : decode cX7_row 48 = .ok (.getfield 71, 3) := by decide +kernel
theorem dX7_row_51 : decode cX7_row 51 = .ok (.invokevirtual 75, 3) := by decide +kernel
theorem dX7_row_54 : decode cX7_row 54 = .ok (.pop, 1) := by decide +kernel
theorem dX7_row_55 : decode cX7_row 55 = .ok (.iload_n 3, 1) := by decide +kernel
theorem dX7_row_56 : decode cX7_row 56 = .ok (.ireturn, 1) := by decide +kernel
theorem dX7_soul_0 : decode cX7_soul 0 = .ok (.iload_n 1, 1) := by decide +kernel
theorem dX7_soul_1 : decode cX7_soul 1 = .ok (.bipush 6, 2) := by decide +kernel
theorem dX7_soul_3 : decode cX7_soul 3 = .ok (.invokestatic 59, 3) := by decide +kernel
theorem dX7_soul_6 : decode cX7_soul 6 = .ok (.ifCond .eq 12, 3) := by decide +kernel
theorem dX7_soul_9 : decode cX7_soul 9 = .ok (.iload_n 2, 1) := by decide +kernel
theorem dX7_soul_10 : decode cX7_soul 10 = .ok (.bipush 30, 2) := by decide +kernel
theorem dX7_soul_12 : decode cX7_soul 12 = .ok (.invokestatic 59, 3) := by decide +kernel
theorem dX7_soul_15 : decode cX7_soul 15 = .ok (.ifCond .ne 10, 3) := by decide +kernel
theorem dX7_soul_18 : decode cX7_soul 18 = .ok (.aload_n 0, 1) := by decide +kernel
theorem dX7_soul_19 : decode cX7_soul 19 = .ok (.bipush (-2), 2) := by decide +kernel
theorem dX7_soul_21 : decode cX7_soul 21 = .ok (.invokevirtual 63, 3) := by decide +kernel
theorem dX7_soul_24 : decode cX7_soul 24 = .ok (.ireturn, 1) := by decide +kernel
theorem dX7_soul_25 : decode cX7_soul 25 = .ok (.aload_n 0, 1) := by decide +kernel
theorem dX7_soul_26 : decode cX7_soul 26 = .ok (.getfield 10, 3) := by decide +kernel
theorem dX7_soul_29 : decode cX7_soul 29 = .ok (.getfield 52, 3) := by decide +kernel
theorem dX7_soul_32 : decode cX7_soul 32 = .ok (.bipush 7, 2) := by decide +kernel
theorem dX7_soul_34 : decode cX7_soul 34 = .ok (.if_icmp .lt 8, 3) := by decide +kernel
theorem dX7_soul_37 : decode cX7_soul 37 = .ok (.aload_n 0, 1) := by decide +kernel
theorem dX7_soul_38 : decode cX7_soul 38 = .ok (.invokevirtual 81, 3) := by decide +kernel
theorem dX7_soul_41 : decode cX7_soul 41 = .ok (.ireturn, 1) := by decide +kernel
theorem dX7_soul_42 : decode cX7_soul 42 = .ok (.aload_n 0, 1) := by decide +kernel
theorem dX7_soul_43 : decode cX7_soul 43 = .ok (.getfield 10, 3) := by decide +kernel
theorem dX7_soul_46 : decode cX7_soul 46 = .ok (.getfield 71, 3) := by decide +kernel
theorem dX7_soul_49 : decode cX7_soul 49 = .ok (.invokevirtual 75, 3) := by decide +kernel
theorem dX7_soul_52 : decode cX7_soul 52 = .ok (.pop, 1) := by decide +kernel
theorem dX7_soul_53 : decode cX7_soul 53 = .ok (.aload_n 0, 1) := by decide +kernel
theorem dX7_soul_54 : decode cX7_soul 54 = .ok (.getfield 10, 3) := by decide +kernel
theorem dX7_soul_57 : decode cX7_soul 57 = .ok (.iload_n 1, 1) := by decide +kernel
theorem dX7_soul_58 : decode cX7_soul 58 = .ok (.iload_n 2, 1) := by decide +kernel
theorem dX7_soul_59 : decode cX7_soul 59 = .ok (.invokevirtual 84, 3) := by decide +kernel
theorem dX7_soul_62 : decode cX7_soul 62 = .ok (.ireturn, 1) := by decide +kernel
theorem dX7_type_0 : decode cX7_type 0 = .ok (.iload_n 1, 1) := by decide +kernel
theorem dX7_type_1 : decode cX7_type 1 = .ok (.ifCond .lt 9, 3) := by decide +kernel
theorem dX7_type_4 : decode cX7_type 4 = .ok (.iload_n 1, 1) := by decide +kernel
theorem dX7_type_5 : decode cX7_type 5 = .ok (.bipush 127, 2) := by decide +kernel
theorem dX7_type_7 : decode cX7_type 7 = .ok (.if_icmp .le 10, 3) := by decide +kernel
theorem dX7_type_10 : decode cX7_type 10 = .ok (.aload_n 0, 1) := by decide +kernel
theorem dX7_type_11 : decode cX7_type 11 = .ok (.bipush (-2), 2) := by decide +kernel
theorem dX7_type_13 : decode cX7_type 13 = .ok (.invokevirtual 63, 3) := by decide +kernel
theorem dX7_type_16 : decode cX7_type 16 = .ok (.ireturn, 1) := by decide +kernel
theorem dX7_type_17 : decode cX7_type 17 = .ok (.aload_n 0, 1) := by decide +kernel
theorem dX7_type_18 : decode cX7_type 18 = .ok (.getfield 30, 3) := by decide +kernel
theorem dX7_type_21 : decode cX7_type 21 = .ok (.invokevirtual 88, 3) := by decide +kernel
theorem dX7_type_24 : decode cX7_type 24 = .ok (.ifCond .eq 10, 3) := by decide +kernel
theorem dX7_type_27 : decode cX7_type 27 = .ok (.aload_n 0, 1) := by decide +kernel
theorem dX7_type_28 : decode cX7_type 28 = .ok (.invokevirtual 81, 3) := by decide +kernel
theorem dX7_type_31 : decode cX7_type 31 = .ok (.goto 11, 3) := by decide +kernel
theorem dX7_type_34 : decode cX7_type 34 = .ok (.aload_n 0, 1) := by decide +kernel
theorem dX7_type_35 : decode cX7_type 35 = .ok (.getfield 30, 3) := by decide +kernel
theorem dX7_type_38 : decode cX7_type 38 = .ok (.iload_n 1, 1) := by decide +kernel
theorem dX7_type_39 : decode cX7_type 39 = .ok (.invokevirtual 92, 3) := by decide +kernel
theorem dX7_type_42 : decode cX7_type 42 = .ok (.ireturn, 1) := by decide +kernel
theorem dX7_clear_0 : decode cX7_clear 0 = .ok (.aload_n 0, 1) := by decide +kernel
theorem dX7_clear_1 : decode cX7_clear 1 = .ok (.getfield 30, 3) := by decide +kernel
theorem dX7_clear_4 : decode cX7_clear 4 = .ok (.invokevirtual 95, 3) := by decide +kernel
theorem dX7_clear_7 : decode cX7_clear 7 = .ok (.ireturn, 1) := by decide +kernel
theorem dX7_read_0 : decode cX7_read 0 = .ok (.aload_n 0, 1) := by decide +kernel
theorem dX7_read_1 : decode cX7_read 1 = .ok (.getfield 30, 3) := by decide +kernel
theorem dX7_read_4 : decode cX7_read 4 = .ok (.invokevirtual 96, 3) := by decide +kernel
theorem dX7_read_7 : decode cX7_read 7 = .ok (.istore_n 1, 1) := by decide +kernel
theorem dX7_read_8 : decode cX7_read 8 = .ok (.iload_n 1, 1) := by decide +kernel
theorem dX7_read_9 : decode cX7_read 9 = .ok (.ifCond .le 17, 3) := by decide +kernel
theorem dX7_read_12 : decode cX7_read 12 = .ok (.aload_n 0, 1) := by decide +kernel
theorem dX7_read_13 : decode cX7_read 13 = .ok (.getfield 10, 3) := by decide +kernel
theorem dX7_read_16 : decode cX7_read 16 = .ok (.aload_n 0, 1) := by decide +kernel
theorem dX7_read_17 : decode cX7_read 17 = .ok (.getfield 30, 3) := by decide +kernel
theorem dX7_read_20 : decode cX7_read 20 = .ok (.getfield 99, 3) := by decide +kernel
theorem dX7_read_23 : decode cX7_read 23 = .ok (.invokevirtual 102, 3) := by decide +kernel
theorem dX7_read_26 : decode cX7_read 26 = .ok (.iload_n 1, 1) := by decide +kernel
theorem dX7_read_27 : decode cX7_read 27 = .ok (.ireturn, 1) := by decide +kernel
theorem dX7_shows_0 : decode cX7_shows 0 = .ok (.aload_n 0, 1) := by decide +kernel
theorem dX7_shows_1 : decode cX7_shows 1 = .ok (.getfield 10, 3) := by decide +kernel
theorem dX7_shows_4 : decode cX7_shows 4 = .ok (.iload_n 1, 1) := by decide +kernel
theorem dX7_shows_5 : decode cX7_shows 5 = .ok (.invokevirtual 106, 3) := by decide +kernel
theorem dX7_shows_8 : decode cX7_shows 8 = .ok (.ifCond .eq 12, 3) := by decide +kernel
theorem dX7_shows_11 : decode cX7_shows 11 = .ok (.iload_n 2, 1) := by decide +kernel
theorem dX7_shows_12 : decode cX7_shows 12 = .ok (.bipush 30, 2) := by decide +kernel
theorem dX7_shows_14 : decode cX7_shows 14 = .ok (.invokestatic 59, 3) := by decide +kernel
theorem dX7_shows_17 : decode cX7_shows 17 = .ok (.ifCond .ne 10, 3) := by decide +kernel
theorem dX7_shows_20 : decode cX7_shows 20 = .ok (.aload_n 0, 1) := by decide +kernel
theorem dX7_shows_21 : decode cX7_shows 21 = .ok (.bipush (-2), 2) := by decide +kernel
theorem dX7_shows_23 : decode cX7_shows 23 = .ok (.invokevirtual 63, 3) := by decide +kernel
theorem dX7_shows_26 : decode cX7_shows 26 = .ok (.ireturn, 1) := by decide +kernel
theorem dX7_shows_27 : decode cX7_shows 27 = .ok (.aload_n 0, 1) := by decide +kernel
theorem dX7_shows_28 : decode cX7_shows 28 = .ok (.getfield 10, 3) := by decide +kernel
theorem dX7_shows_31 : decode cX7_shows 31 = .ok (.iload_n 1, 1) := by decide +kernel
theorem dX7_shows_32 : decode cX7_shows 32 = .ok (.invokevirtual 110, 3) := by decide +kernel
theorem dX7_shows_35 : decode cX7_shows 35 = .ok (.ifCond .ne 27, 3) := by decide +kernel
theorem dX7_shows_38 : decode cX7_shows 38 = .ok (.aload_n 0, 1) := by decide +kernel
theorem dX7_shows_39 : decode cX7_shows 39 = .ok (.getfield 10, 3) := by decide +kernel
theorem dX7_shows_42 : decode cX7_shows 42 = .ok (.iload_n 2, 1) := by decide +kernel
theorem dX7_shows_43 : decode cX7_shows 43 = .ok (.invokevirtual 113, 3) := by decide +kernel
theorem dX7_shows_46 : decode cX7_shows 46 = .ok (.ifCond .eq 16, 3) := by decide +kernel
theorem dX7_shows_49 : decode cX7_shows 49 = .ok (.aload_n 0, 1) := by decide +kernel
theorem dX7_shows_50 : decode cX7_shows 50 = .ok (.getfield 10, 3) := by decide +kernel
theorem dX7_shows_53 : decode cX7_shows 53 = .ok (.getfield 116, 3) := by decide +kernel
theorem dX7_shows_56 : decode cX7_shows 56 = .ok (.sipush 9999, 3) := by decide +kernel
theorem dX7_shows_59 : decode cX7_shows 59 = .ok (.if_icmp .lt 10, 3) := by decide +kernel
theorem dX7_shows_62 : decode cX7_shows 62 = .ok (.aload_n 0, 1) := by decide +kernel
theorem dX7_shows_63 : decode cX7_shows 63 = .ok (.bipush (-3), 2) := by decide +kernel
theorem dX7_shows_65 : decode cX7_shows 65 = .ok (.invokevirtual 119, 3) := by decide +kernel
theorem dX7_shows_68 : decode cX7_shows 68 = .ok (.ireturn, 1) := by decide +kernel
theorem dX7_shows_69 : decode cX7_shows 69 = .ok (.aload_n 0, 1) := by decide +kernel
theorem dX7_shows_70 : decode cX7_shows 70 = .ok (.getfield 10, 3) := by decide +kernel
theorem dX7_shows_73 : decode cX7_shows 73 = .ok (.invokevirtual 122, 3) := by decide +kernel
theorem dX7_shows_76 : decode cX7_shows 76 = .ok (.aload_n 0, 1) := by decide +kernel
theorem dX7_shows_77 : decode cX7_shows 77 = .ok (.getfield 10, 3) := by decide +kernel
theorem dX7_shows_80 : decode cX7_shows 80 = .ok (.iload_n 1, 1) := by decide +kernel
theorem dX7_shows_81 : decode cX7_shows 81 = .ok (.iload_n 2, 1) := by decide +kernel
theorem dX7_shows_82 : decode cX7_shows 82 = .ok (.invokevirtual 125, 3) := by decide +kernel
theorem dX7_shows_85 : decode cX7_shows 85 = .ok (.ireturn, 1) := by decide +kernel
theorem dX7_moves_0 : decode cX7_moves 0 = .ok (.aload_n 0, 1) := by decide +kernel
theorem dX7_moves_1 : decode cX7_moves 1 = .ok (.getfield 10, 3) := by decide +kernel
theorem dX7_moves_4 : decode cX7_moves 4 = .ok (.iload_n 1, 1) := by decide +kernel
theorem dX7_moves_5 : decode cX7_moves 5 = .ok (.invokevirtual 106, 3) := by decide +kernel
theorem dX7_moves_8 : decode cX7_moves 8 = .ok (.ifCond .eq 12, 3) := by decide +kernel
theorem dX7_moves_11 : decode cX7_moves 11 = .ok (.iload_n 2, 1) := by decide +kernel
theorem dX7_moves_12 : decode cX7_moves 12 = .ok (.bipush 30, 2) := by decide +kernel
theorem dX7_moves_14 : decode cX7_moves 14 = .ok (.invokestatic 59, 3) := by decide +kernel
theorem dX7_moves_17 : decode cX7_moves 17 = .ok (.ifCond .ne 10, 3) := by decide +kernel
theorem dX7_moves_20 : decode cX7_moves 20 = .ok (.aload_n 0, 1) := by decide +kernel
theorem dX7_moves_21 : decode cX7_moves 21 = .ok (.bipush (-2), 2) := by decide +kernel
theorem dX7_moves_23 : decode cX7_moves 23 = .ok (.invokevirtual 63, 3) := by decide +kernel
theorem dX7_moves_26 : decode cX7_moves 26 = .ok (.ireturn, 1) := by decide +kernel
theorem dX7_moves_27 : decode cX7_moves 27 = .ok (.aload_n 0, 1) := by decide +kernel
theorem dX7_moves_28 : decode cX7_moves 28 = .ok (.getfield 10, 3) := by decide +kernel
theorem dX7_moves_31 : decode cX7_moves 31 = .ok (.iload_n 1, 1) := by decide +kernel
theorem dX7_moves_32 : decode cX7_moves 32 = .ok (.invokevirtual 110, 3) := by decide +kernel
theorem dX7_moves_35 : decode cX7_moves 35 = .ok (.ifCond .eq 27, 3) := by decide +kernel
theorem dX7_moves_38 : decode cX7_moves 38 = .ok (.aload_n 0, 1) := by decide +kernel
theorem dX7_moves_39 : decode cX7_moves 39 = .ok (.getfield 10, 3) := by decide +kernel
theorem dX7_moves_42 : decode cX7_moves 42 = .ok (.iload_n 2, 1) := by decide +kernel
theorem dX7_moves_43 : decode cX7_moves 43 = .ok (.invokevirtual 113, 3) := by decide +kernel
theorem dX7_moves_46 : decode cX7_moves 46 = .ok (.ifCond .eq 16, 3) := by decide +kernel
theorem dX7_moves_49 : decode cX7_moves 49 = .ok (.aload_n 0, 1) := by decide +kernel
theorem dX7_moves_50 : decode cX7_moves 50 = .ok (.getfield 10, 3) := by decide +kernel
theorem dX7_moves_53 : decode cX7_moves 53 = .ok (.getfield 116, 3) := by decide +kernel
theorem dX7_moves_56 : decode cX7_moves 56 = .ok (.sipush 9999, 3) := by decide +kernel
theorem dX7_moves_59 : decode cX7_moves 59 = .ok (.if_icmp .lt 10, 3) := by decide +kernel
theorem dX7_moves_62 : decode cX7_moves 62 = .ok (.aload_n 0, 1) := by decide +kernel
theorem dX7_moves_63 : decode cX7_moves 63 = .ok (.bipush (-3), 2) := by decide +kernel
theorem dX7_moves_65 : decode cX7_moves 65 = .ok (.invokevirtual 119, 3) := by decide +kernel
theorem dX7_moves_68 : decode cX7_moves 68 = .ok (.ireturn, 1) := by decide +kernel
theorem dX7_moves_69 : decode cX7_moves 69 = .ok (.aload_n 0, 1) := by decide +kernel
theorem dX7_moves_70 : decode cX7_moves 70 = .ok (.getfield 10, 3) := by decide +kernel
theorem dX7_moves_73 : decode cX7_moves 73 = .ok (.invokevirtual 122, 3) := by decide +kernel
theorem dX7_moves_76 : decode cX7_moves 76 = .ok (.aload_n 0, 1) := by decide +kernel
theorem dX7_moves_77 : decode cX7_moves 77 = .ok (.getfield 10, 3) := by decide +kernel
theorem dX7_moves_80 : decode cX7_moves 80 = .ok (.iload_n 1, 1) := by decide +kernel
theorem dX7_moves_81 : decode cX7_moves 81 = .ok (.iload_n 2, 1) := by decide +kernel
theorem dX7_moves_82 : decode cX7_moves 82 = .ok (.invokevirtual 128, 3) := by decide +kernel
theorem dX7_moves_85 : decode cX7_moves 85 = .ok (.ireturn, 1) := by decide +kernel
theorem dX7_sends_0 : decode cX7_sends 0 = .ok (.aload_n 0, 1) := by decide +kernel
theorem dX7_sends_1 : decode cX7_sends 1 = .ok (.getfield 10, 3) := by decide +kernel
theorem dX7_sends_4 : decode cX7_sends 4 = .ok (.iload_n 1, 1) := by decide +kernel
theorem dX7_sends_5 : decode cX7_sends 5 = .ok (.invokevirtual 106, 3) := by decide +kernel
theorem dX7_sends_8 : decode cX7_sends 8 = .ok (.ifCond .ne 10, 3) := by decide +kernel
theorem dX7_sends_11 : decode cX7_sends 11 = .ok (.aload_n 0, 1) := by decide +kernel
theorem dX7_sends_12 : decode cX7_sends 12 = .ok (.bipush (-2), 2) := by decide +kernel
theorem dX7_sends_14 : decode cX7_sends 14 = .ok (.invokevirtual 63, 3) := by decide +kernel
theorem dX7_sends_17 : decode cX7_sends 17 = .ok (.ireturn, 1) := by decide +kernel
theorem dX7_sends_18 : decode cX7_sends 18 = .ok (.aload_n 0, 1) := by decide +kernel
theorem dX7_sends_19 : decode cX7_sends 19 = .ok (.getfield 10, 3) := by decide +kernel
theorem dX7_sends_22 : decode cX7_sends 22 = .ok (.iload_n 1, 1) := by decide +kernel
theorem dX7_sends_23 : decode cX7_sends 23 = .ok (.invokevirtual 110, 3) := by decide +kernel
theorem dX7_sends_26 : decode cX7_sends 26 = .ok (.ifCond .eq 16, 3) := by decide +kernel
theorem dX7_sends_29 : decode cX7_sends 29 = .ok (.aload_n 0, 1) := by decide +kernel
theorem dX7_sends_30 : decode cX7_sends 30 = .ok (.getfield 10, 3) := by decide +kernel
theorem dX7_sends_33 : decode cX7_sends 33 = .ok (.getfield 116, 3) := by decide +kernel
theorem dX7_sends_36 : decode cX7_sends 36 = .ok (.sipush 9999, 3) := by decide +kernel
theorem dX7_sends_39 : decode cX7_sends 39 = .ok (.if_icmp .lt 10, 3) := by decide +kernel
theorem dX7_sends_42 : decode cX7_sends 42 = .ok (.aload_n 0, 1) := by decide +kernel
theorem dX7_sends_43 : decode cX7_sends 43 = .ok (.bipush (-3), 2) := by decide +kernel
theorem dX7_sends_45 : decode cX7_sends 45 = .ok (.invokevirtual 119, 3) := by decide +kernel
theorem dX7_sends_48 : decode cX7_sends 48 = .ok (.ireturn, 1) := by decide +kernel
theorem dX7_sends_49 : decode cX7_sends 49 = .ok (.aload_n 0, 1) := by decide +kernel
theorem dX7_sends_50 : decode cX7_sends 50 = .ok (.getfield 10, 3) := by decide +kernel
theorem dX7_sends_53 : decode cX7_sends 53 = .ok (.invokevirtual 122, 3) := by decide +kernel
theorem dX7_sends_56 : decode cX7_sends 56 = .ok (.aload_n 0, 1) := by decide +kernel
theorem dX7_sends_57 : decode cX7_sends 57 = .ok (.getfield 10, 3) := by decide +kernel
theorem dX7_sends_60 : decode cX7_sends 60 = .ok (.iload_n 1, 1) := by decide +kernel
theorem dX7_sends_61 : decode cX7_sends 61 = .ok (.invokevirtual 131, 3) := by decide +kernel
theorem dX7_sends_64 : decode cX7_sends 64 = .ok (.ireturn, 1) := by decide +kernel
theorem dX7_coat_0 : decode cX7_coat 0 = .ok (.iload_n 1, 1) := by decide +kernel
theorem dX7_coat_1 : decode cX7_coat 1 = .ok (.bipush 30, 2) := by decide +kernel
theorem dX7_coat_3 : decode cX7_coat 3 = .ok (.invokestatic 59, 3) := by decide +kernel
theorem dX7_coat_6 : decode cX7_coat 6 = .ok (.ifCond .eq 11, 3) := by decide +kernel
theorem dX7_coat_9 : decode cX7_coat 9 = .ok (.iload_n 2, 1) := by decide +kernel
theorem dX7_coat_10 : decode cX7_coat 10 = .ok (.iconst 2, 1) := by decide +kernel
theorem dX7_coat_11 : decode cX7_coat 11 = .ok (.invokestatic 59, 3) := by decide +kernel
theorem dX7_coat_14 : decode cX7_coat 14 = .ok (.ifCond .ne 10, 3) := by decide +kernel
theorem dX7_coat_17 : decode cX7_coat 17 = .ok (.aload_n 0, 1) := by decide +kernel
theorem dX7_coat_18 : decode cX7_coat 18 = .ok (.bipush (-2), 2) := by decide +kernel
theorem dX7_coat_20 : decode cX7_coat 20 = .ok (.invokevirtual 63, 3) := by decide +kernel
theorem dX7_coat_23 : decode cX7_coat 23 = .ok (.ireturn, 1) := by decide +kernel
theorem dX7_coat_24 : decode cX7_coat 24 = .ok (.aload_n 0, 1) := by decide +kernel
theorem dX7_coat_25 : decode cX7_coat 25 = .ok (.getfield 10, 3) := by decide +kernel
theorem dX7_coat_28 : decode cX7_coat 28 = .ok (.iload_n 1, 1) := by decide +kernel
theorem dX7_coat_29 : decode cX7_coat 29 = .ok (.invokevirtual 134, 3) := by decide +kernel
theorem dX7_coat_32 : decode cX7_coat 32 = .ok (.iload_n 2, 1) := by decide +kernel
theorem dX7_coat_33 : decode cX7_coat 33 = .ok (.iconst 1, 1) := by decide +kernel
theorem dX7_coat_34 : decode cX7_coat 34 = .ok (.if_icmp .ne 7, 3) := by decide +kernel
theorem dX7_coat_37 : decode cX7_coat 37 = .ok (.iconst 1, 1) := by decide +kernel
theorem dX7_coat_38 : decode cX7_coat 38 = .ok (.goto 4, 3) := by decide +kernel
theorem dX7_coat_41 : decode cX7_coat 41 = .ok (.iconst 0, 1) := by decide +kernel
theorem dX7_coat_42 : decode cX7_coat 42 = .ok (.if_icmp .eq 15, 3) := by decide +kernel
theorem dX7_coat_45 : decode cX7_coat 45 = .ok (.aload_n 0, 1) := by decide +kernel
theorem dX7_coat_46 : decode cX7_coat 46 = .ok (.getfield 10, 3) := by decide +kernel
theorem dX7_coat_49 : decode cX7_coat 49 = .ok (.iload_n 1, 1) := by decide +kernel
theorem dX7_coat_50 : decode cX7_coat 50 = .ok (.invokevirtual 137, 3) := by decide +kernel
theorem dX7_coat_53 : decode cX7_coat 53 = .ok (.iconst (-1), 1) := by decide +kernel
theorem dX7_coat_54 : decode cX7_coat 54 = .ok (.if_icmp .eq 10, 3) := by decide +kernel
theorem dX7_coat_57 : decode cX7_coat 57 = .ok (.aload_n 0, 1) := by decide +kernel
theorem dX7_coat_58 : decode cX7_coat 58 = .ok (.bipush (-3), 2) := by decide +kernel
theorem dX7_coat_60 : decode cX7_coat 60 = .ok (.invokevirtual 119, 3) := by decide +kernel
theorem dX7_coat_63 : decode cX7_coat 63 = .ok (.ireturn, 1) := by decide +kernel
theorem dX7_coat_64 : decode cX7_coat 64 = .ok (.aload_n 0, 1) := by decide +kernel
theorem dX7_coat_65 : decode cX7_coat 65 = .ok (.getfield 10, 3) := by decide +kernel
theorem dX7_coat_68 : decode cX7_coat 68 = .ok (.invokevirtual 122, 3) := by decide +kernel
theorem dX7_coat_71 : decode cX7_coat 71 = .ok (.aload_n 0, 1) := by decide +kernel
theorem dX7_coat_72 : decode cX7_coat 72 = .ok (.getfield 10, 3) := by decide +kernel
theorem dX7_coat_75 : decode cX7_coat 75 = .ok (.dup, 1) := by decide +kernel
theorem dX7_coat_76 : decode cX7_coat 76 = .ok (.getfield 140, 3) := by decide +kernel
theorem dX7_coat_79 : decode cX7_coat 79 = .ok (.iconst 1, 1) := by decide +kernel
theorem dX7_coat_80 : decode cX7_coat 80 = .ok (.iload_n 1, 1) := by decide +kernel
theorem dX7_coat_81 : decode cX7_coat 81 = .ok (.ishl, 1) := by decide +kernel
theorem dX7_coat_82 : decode cX7_coat 82 = .ok (.ixor, 1) := by decide +kernel
theorem dX7_coat_83 : decode cX7_coat 83 = .ok (.putfield 140, 3) := by decide +kernel
theorem dX7_coat_86 : decode cX7_coat 86 = .ok (.iconst 1, 1) := by decide +kernel
theorem dX7_coat_87 : decode cX7_coat 87 = .ok (.ireturn, 1) := by decide +kernel
theorem dX7_minutes_0 : decode cX7_minutes 0 = .ok (.iload_n 1, 1) := by decide +kernel
theorem dX7_minutes_1 : decode cX7_minutes 1 = .ok (.iconst 1, 1) := by decide +kernel
theorem dX7_minutes_2 : decode cX7_minutes 2 = .ok (.if_icmp .lt 9, 3) := by decide +kernel
theorem dX7_minutes_5 : decode cX7_minutes 5 = .ok (.iload_n 1, 1) := by decide +kernel
theorem dX7_minutes_6 : decode cX7_minutes 6 = .ok (.bipush 99, 2) := by decide +kernel
theorem dX7_minutes_8 : decode cX7_minutes 8 = .ok (.if_icmp .le 10, 3) := by decide +kernel
theorem dX7_minutes_11 : decode cX7_minutes 11 = .ok (.aload_n 0, 1) := by decide +kernel
theorem dX7_minutes_12 : decode cX7_minutes 12 = .ok (.bipush (-2), 2) := by decide +kernel
theorem dX7_minutes_14 : decode cX7_minutes 14 = .ok (.invokevirtual 63, 3) := by decide +kernel
theorem dX7_minutes_17 : decode cX7_minutes 17 = .ok (.ireturn, 1) := by decide +kernel
theorem dX7_minutes_18 : decode cX7_minutes 18 = .ok (.aload_n 0, 1) := by decide +kernel
theorem dX7_minutes_19 : decode cX7_minutes 19 = .ok (.getfield 10, 3) := by decide +kernel
theorem dX7_minutes_22 : decode cX7_minutes 22 = .ok (.invokevirtual 122, 3) := by decide +kernel
theorem dX7_minutes_25 : decode cX7_minutes 25 = .ok (.aload_n 0, 1) := by decide +kernel
theorem dX7_minutes_26 : decode cX7_minutes 26 = .ok (.getfield 10, 3) := by decide +kernel
theorem dX7_minutes_29 : decode cX7_minutes 29 = .ok (.sipush 9999, 3) := by decide +kernel
theorem dX7_minutes_32 : decode cX7_minutes 32 = .ok (.aload_n 0, 1) := by decide +kernel
theorem dX7_minutes_33 : decode cX7_minutes 33 = .ok (.getfield 10, 3) := by decide +kernel
theorem dX7_minutes_36 : decode cX7_minutes 36 = .ok (.getfield 116, 3) := by decide +kernel
theorem dX7_minutes_39 : decode cX7_minutes 39 = .ok (.iload_n 1, 1) := by decide +kernel
theorem dX7_minutes_40 : decode cX7_minutes 40 = .ok (.iadd, 1) := by decide +kernel
theorem dX7_minutes_41 : decode cX7_minutes 41 = .ok (.invokestatic 143, 3) := by decide +kernel
theorem dX7_minutes_44 : decode cX7_minutes 44 = .ok (.putfield 116, 3) := by decide +kernel
theorem dX7_minutes_47 : decode cX7_minutes 47 = .ok (.aload_n 0, 1) := by decide +kernel
theorem dX7_minutes_48 : decode cX7_minutes 48 = .ok (.getfield 10, 3) := by decide +kernel
theorem dX7_minutes_51 : decode cX7_minutes 51 = .ok (.getfield 116, 3) := by decide +kernel
theorem dX7_minutes_54 : decode cX7_minutes 54 = .ok (.ireturn, 1) := by decide +kernel
theorem dX7_undo_0 : decode cX7_undo 0 = .ok (.aload_n 0, 1) := by decide +kernel
theorem dX7_undo_1 : decode cX7_undo 1 = .ok (.getfield 10, 3) := by decide +kernel
theorem dX7_undo_4 : decode cX7_undo 4 = .ok (.getfield 71, 3) := by decide +kernel
theorem dX7_undo_7 : decode cX7_undo 7 = .ok (.getfield 148, 3) := by decide +kernel
theorem dX7_undo_10 : decode cX7_undo 10 = .ok (.ifCond .ne 10, 3) := by decide +kernel
theorem dX7_undo_13 : decode cX7_undo 13 = .ok (.aload_n 0, 1) := by decide +kernel
theorem dX7_undo_14 : decode cX7_undo 14 = .ok (.bipush (-3), 2) := by decide +kernel
theorem dX7_undo_16 : decode cX7_undo 16 = .ok (.invokevirtual 119, 3) := by decide +kernel
theorem dX7_undo_19 : decode cX7_undo 19 = .ok (.ireturn, 1) := by decide +kernel
theorem dX7_undo_20 : decode cX7_undo 20 = .ok (.aload_n 0, 1) := by decide +kernel
theorem dX7_undo_21 : decode cX7_undo 21 = .ok (.getfield 10, 3) := by decide +kernel
theorem dX7_undo_24 : decode cX7_undo 24 = .ok (.invokevirtual 151, 3) := by decide +kernel
theorem dX7_undo_27 : decode cX7_undo 27 = .ok (.aload_n 0, 1) := by decide +kernel
theorem dX7_undo_28 : decode cX7_undo 28 = .ok (.getfield 10, 3) := by decide +kernel
theorem dX7_undo_31 : decode cX7_undo 31 = .ok (.getfield 116, 3) := by decide +kernel
theorem dX7_undo_34 : decode cX7_undo 34 = .ok (.ireturn, 1) := by decide +kernel
theorem dX7_of_0 : decode cX7_of 0 = .ok (.aload_n 0, 1) := by decide +kernel
theorem dX7_of_1 : decode cX7_of 1 = .ok (.getfield 10, 3) := by decide +kernel
theorem dX7_of_4 : decode cX7_of 4 = .ok (.iload_n 1, 1) := by decide +kernel
theorem dX7_of_5 : decode cX7_of 5 = .ok (.invokevirtual 106, 3) := by decide +kernel
theorem dX7_of_8 : decode cX7_of 8 = .ok (.ifCond .eq 11, 3) := by decide +kernel
theorem dX7_of_11 : decode cX7_of 11 = .ok (.iload_n 2, 1) := by decide +kernel
theorem dX7_of_12 : decode cX7_of 12 = .ok (.iconst 3, 1) := by decide +kernel
theorem dX7_of_13 : decode cX7_of 13 = .ok (.invokestatic 59, 3) := by decide +kernel
theorem dX7_of_16 : decode cX7_of 16 = .ok (.ifCond .ne 10, 3) := by decide +kernel
theorem dX7_of_19 : decode cX7_of 19 = .ok (.aload_n 0, 1) := by decide +kernel
theorem dX7_of_20 : decode cX7_of 20 = .ok (.bipush (-2), 2) := by decide +kernel
theorem dX7_of_22 : decode cX7_of 22 = .ok (.invokevirtual 63, 3) := by decide +kernel
theorem dX7_of_25 : decode cX7_of 25 = .ok (.ireturn, 1) := by decide +kernel
theorem dX7_of_26 : decode cX7_of 26 = .ok (.iload_n 2, 1) := by decide +kernel
theorem dX7_of_27 : decode cX7_of 27 = .ok (.lookupswitch 45 #[(0, 25), (1, 35)], 25) := by decide +kernel
theorem dX7_of_52 : decode cX7_of 52 = .ok (.aload_n 0, 1) := by decide +kernel
theorem dX7_of_53 : decode cX7_of 53 = .ok (.getfield 10, 3) := by decide +kernel
theorem dX7_of_56 : decode cX7_of 56 = .ok (.getfield 154, 3) := by decide +kernel
theorem dX7_of_59 : decode cX7_of 59 = .ok (.iload_n 1, 1) := by decide +kernel
theorem dX7_of_60 : decode cX7_of 60 = .ok (.iaload, 1) := by decide +kernel
theorem dX7_of_61 : decode cX7_of 61 = .ok (.ireturn, 1) := by decide +kernel
theorem dX7_of_62 : decode cX7_of 62 = .ok (.aload_n 0, 1) := by decide +kernel
theorem dX7_of_63 : decode cX7_of 63 = .ok (.getfield 10, 3) := by decide +kernel
theorem dX7_of_66 : decode cX7_of 66 = .ok (.getfield 157, 3) := by decide +kernel
theorem dX7_of_69 : decode cX7_of 69 = .ok (.iload_n 1, 1) := by decide +kernel
theorem dX7_of_70 : decode cX7_of 70 = .ok (.iaload, 1) := by decide +kernel
theorem dX7_of_71 : decode cX7_of 71 = .ok (.ireturn, 1) := by decide +kernel
theorem dX7_of_72 : decode cX7_of 72 = .ok (.aload_n 0, 1) := by decide +kernel
theorem dX7_of_73 : decode cX7_of 73 = .ok (.getfield 10, 3) := by decide +kernel
theorem dX7_of_76 : decode cX7_of 76 = .ok (.getfield 160, 3) := by decide +kernel
theorem dX7_of_79 : decode cX7_of 79 = .ok (.iload_n 1, 1) := by decide +kernel
theorem dX7_of_80 : decode cX7_of 80 = .ok (.iaload, 1) := by decide +kernel
theorem dX7_of_81 : decode cX7_of 81 = .ok (.ireturn, 1) := by decide +kernel
theorem dX7_about_0 : decode cX7_about 0 = .ok (.iload_n 1, 1) := by decide +kernel
theorem dX7_about_1 : decode cX7_about 1 = .ok (.bipush 30, 2) := by decide +kernel
theorem dX7_about_3 : decode cX7_about 3 = .ok (.invokestatic 59, 3) := by decide +kernel
theorem dX7_about_6 : decode cX7_about 6 = .ok (.ifCond .eq 11, 3) := by decide +kernel
theorem dX7_about_9 : decode cX7_about 9 = .ok (.iload_n 2, 1) := by decide +kernel
theorem dX7_about_10 : decode cX7_about 10 = .ok (.iconst 5, 1) := by decide +kernel
theorem dX7_about_11 : decode cX7_about 11 = .ok (.invokestatic 59, 3) := by decide +kernel
theorem dX7_about_14 : decode cX7_about 14 = .ok (.ifCond .ne 10, 3) := by decide +kernel
theorem dX7_about_17 : decode cX7_about 17 = .ok (.aload_n 0, 1) := by decide +kernel
theorem dX7_about_18 : decode cX7_about 18 = .ok (.bipush (-2), 2) := by decide +kernel
theorem dX7_about_20 : decode cX7_about 20 = .ok (.invokevirtual 63, 3) := by decide +kernel
theorem dX7_about_23 : decode cX7_about 23 = .ok (.ireturn, 1) := by decide +kernel
theorem dX7_about_24 : decode cX7_about 24 = .ok (.iload_n 2, 1) := by decide +kernel
theorem dX7_about_25 : decode cX7_about 25 = .ok (.tableswitch 79 0 3 #[31, 44, 53, 70], 31) := by decide +kernel
theorem dX7_about_56 : decode cX7_about 56 = .ok (.aload_n 0, 1) := by decide +kernel
theorem dX7_about_57 : decode cX7_about 57 = .ok (.getfield 10, 3) := by decide +kernel
theorem dX7_about_60 : decode cX7_about 60 = .ok (.getfield 67, 3) := by decide +kernel
theorem dX7_about_63 : decode cX7_about 63 = .ok (.iload_n 1, 1) := by decide +kernel
theorem dX7_about_64 : decode cX7_about 64 = .ok (.bipush 6, 2) := by decide +kernel
theorem dX7_about_66 : decode cX7_about 66 = .ok (.idiv, 1) := by decide +kernel
theorem dX7_about_67 : decode cX7_about 67 = .ok (.iaload, 1) := by decide +kernel
theorem dX7_about_68 : decode cX7_about 68 = .ok (.ireturn, 1) := by decide +kernel
theorem dX7_about_69 : decode cX7_about 69 = .ok (.aload_n 0, 1) := by decide +kernel
theorem dX7_about_70 : decode cX7_about 70 = .ok (.getfield 10, 3) := by decide +kernel
theorem dX7_about_73 : decode cX7_about 73 = .ok (.iload_n 1, 1) := by decide +kernel
theorem dX7_about_74 : decode cX7_about 74 = .ok (.invokevirtual 137, 3) := by decide +kernel
theorem dX7_about_77 : decode cX7_about 77 = .ok (.ireturn, 1) := by decide +kernel
theorem dX7_about_78 : decode cX7_about 78 = .ok (.aload_n 0, 1) := by decide +kernel
theorem dX7_about_79 : decode cX7_about 79 = .ok (.getfield 10, 3) := by decide +kernel
theorem dX7_about_82 : decode cX7_about 82 = .ok (.iload_n 1, 1) := by decide +kernel
theorem dX7_about_83 : decode cX7_about 83 = .ok (.invokevirtual 134, 3) := by decide +kernel
theorem dX7_about_86 : decode cX7_about 86 = .ok (.ifCond .eq 7, 3) := by decide +kernel
theorem dX7_about_89 : decode cX7_about 89 = .ok (.iconst 1, 1) := by decide +kernel
theorem dX7_about_90 : decode cX7_about 90 = .ok (.goto 4, 3) := by decide +kernel
theorem dX7_about_93 : decode cX7_about 93 = .ok (.iconst 0, 1) := by decide +kernel
theorem dX7_about_94 : decode cX7_about 94 = .ok (.ireturn, 1) := by decide +kernel
theorem dX7_about_95 : decode cX7_about 95 = .ok (.aload_n 0, 1) := by decide +kernel
theorem dX7_about_96 : decode cX7_about 96 = .ok (.getfield 10, 3) := by decide +kernel
theorem dX7_about_99 : decode cX7_about 99 = .ok (.iload_n 1, 1) := by decide +kernel
theorem dX7_about_100 : decode cX7_about 100 = .ok (.invokevirtual 163, 3) := by decide +kernel
theorem dX7_about_103 : decode cX7_about 103 = .ok (.ireturn, 1) := by decide +kernel
theorem dX7_about_104 : decode cX7_about 104 = .ok (.aload_n 0, 1) := by decide +kernel
theorem dX7_about_105 : decode cX7_about 105 = .ok (.getfield 10, 3) := by decide +kernel
theorem dX7_about_108 : decode cX7_about 108 = .ok (.iload_n 1, 1) := by decide +kernel
theorem dX7_about_109 : decode cX7_about 109 = .ok (.invokevirtual 166, 3) := by decide +kernel
theorem dX7_about_112 : decode cX7_about 112 = .ok (.ireturn, 1) := by decide +kernel
theorem dX7_makes_0 : decode cX7_makes 0 = .ok (.aload_n 0, 1) := by decide +kernel
theorem dX7_makes_1 : decode cX7_makes 1 = .ok (.getfield 10, 3) := by decide +kernel
theorem dX7_makes_4 : decode cX7_makes 4 = .ok (.iload_n 1, 1) := by decide +kernel
theorem dX7_makes_5 : decode cX7_makes 5 = .ok (.invokevirtual 106, 3) := by decide +kernel
theorem dX7_makes_8 : decode cX7_makes 8 = .ok (.ifCond .eq 12, 3) := by decide +kernel
theorem dX7_makes_11 : decode cX7_makes 11 = .ok (.iload_n 2, 1) := by decide +kernel
theorem dX7_makes_12 : decode cX7_makes 12 = .ok (.bipush 30, 2) := by decide +kernel
theorem dX7_makes_14 : decode cX7_makes 14 = .ok (.invokestatic 59, 3) := by decide +kernel
theorem dX7_makes_17 : decode cX7_makes 17 = .ok (.ifCond .ne 10, 3) := by decide +kernel
theorem dX7_makes_20 : decode cX7_makes 20 = .ok (.aload_n 0, 1) := by decide +kernel
theorem dX7_makes_21 : decode cX7_makes 21 = .ok (.bipush (-2), 2) := by decide +kernel
theorem dX7_makes_23 : decode cX7_makes 23 = .ok (.invokevirtual 63, 3) := by decide +kernel
theorem dX7_makes_26 : decode cX7_makes 26 = .ok (.ireturn, 1) := by decide +kernel
theorem dX7_makes_27 : decode cX7_makes 27 = .ok (.aload_n 0, 1) := by decide +kernel
theorem dX7_makes_28 : decode cX7_makes 28 = .ok (.getfield 10, 3) := by decide +kernel
theorem dX7_makes_31 : decode cX7_makes 31 = .ok (.iload_n 1, 1) := by decide +kernel
theorem dX7_makes_32 : decode cX7_makes 32 = .ok (.invokevirtual 110, 3) := by decide +kernel
theorem dX7_makes_35 : decode cX7_makes 35 = .ok (.ifCond .eq 10, 3) := by decide +kernel
theorem dX7_makes_38 : decode cX7_makes 38 = .ok (.aload_n 0, 1) := by decide +kernel
theorem dX7_makes_39 : decode cX7_makes 39 = .ok (.bipush (-3), 2) := by decide +kernel
theorem dX7_makes_41 : decode cX7_makes 41 = .ok (.invokevirtual 119, 3) := by decide +kernel
theorem dX7_makes_44 : decode cX7_makes 44 = .ok (.ireturn, 1) := by decide +kernel
theorem dX7_makes_45 : decode cX7_makes 45 = .ok (.aload_n 0, 1) := by decide +kernel
theorem dX7_makes_46 : decode cX7_makes 46 = .ok (.getfield 10, 3) := by decide +kernel
theorem dX7_makes_49 : decode cX7_makes 49 = .ok (.iload_n 1, 1) := by decide +kernel
theorem dX7_makes_50 : decode cX7_makes 50 = .ok (.iload_n 2, 1) := by decide +kernel
theorem dX7_makes_51 : decode cX7_makes 51 = .ok (.invokevirtual 169, 3) := by decide +kernel
theorem dX7_makes_54 : decode cX7_makes 54 = .ok (.ireturn, 1) := by decide +kernel
theorem dX7_order_0 : decode cX7_order 0 = .ok (.iload_n 1, 1) := by decide +kernel
theorem dX7_order_1 : decode cX7_order 1 = .ok (.iconst (-1), 1) := by decide +kernel
theorem dX7_order_2 : decode cX7_order 2 = .ok (.if_icmp .ge 10, 3) := by decide +kernel
theorem dX7_order_5 : decode cX7_order 5 = .ok (.aload_n 0, 1) := by decide +kernel
theorem dX7_order_6 : decode cX7_order 6 = .ok (.bipush (-10), 2) := by decide +kernel
theorem dX7_order_8 : decode cX7_order 8 = .ok (.invokevirtual 63, 3) := by decide +kernel
theorem dX7_order_11 : decode cX7_order 11 = .ok (.ireturn, 1) := by decide +kernel
theorem dX7_order_12 : decode cX7_order 12 = .ok (.aload_n 0, 1) := by decide +kernel
theorem dX7_order_13 : decode cX7_order 13 = .ok (.getfield 37, 3) := by decide +kernel
theorem dX7_order_16 : decode cX7_order 16 = .ok (.aload_n 0, 1) := by decide +kernel
theorem dX7_order_17 : decode cX7_order 17 = .ok (.getfield 10, 3) := by decide +kernel
theorem dX7_order_20 : decode cX7_order 20 = .ok (.invokevirtual 172, 3) := by decide +kernel
theorem dX7_order_23 : decode cX7_order 23 = .ok (.iload_n 1, 1) := by decide +kernel
theorem dX7_order_24 : decode cX7_order 24 = .ok (.iconst (-1), 1) := by decide +kernel
theorem dX7_order_25 : decode cX7_order 25 = .ok (.if_icmp .ne 11, 3) := by decide +kernel
theorem dX7_order_28 : decode cX7_order 28 = .ok (.aload_n 0, 1) := by decide +kernel
theorem dX7_order_29 : decode cX7_order 29 = .ok (.getfield 37, 3) := by decide +kernel
theorem dX7_order_32 : decode cX7_order 32 = .ok (.invokevirtual 175, 3) := by decide +kernel
theorem dX7_order_35 : decode cX7_order 35 = .ok (.ireturn, 1) := by decide +kernel
theorem dX7_order_36 : decode cX7_order 36 = .ok (.iload_n 1, 1) := by decide +kernel
theorem dX7_order_37 : decode cX7_order 37 = .ok (.aload_n 0, 1) := by decide +kernel
theorem dX7_order_38 : decode cX7_order 38 = .ok (.getfield 37, 3) := by decide +kernel
theorem dX7_order_41 : decode cX7_order 41 = .ok (.invokevirtual 178, 3) := by decide +kernel
theorem dX7_order_44 : decode cX7_order 44 = .ok (.if_icmp .ge 18, 3) := by decide +kernel
theorem dX7_order_47 : decode cX7_order 47 = .ok (.aload_n 0, 1) := by decide +kernel
theorem dX7_order_48 : decode cX7_order 48 = .ok (.getfield 37, 3) := by decide +kernel
theorem dX7_order_51 : decode cX7_order 51 = .ok (.aload_n 0, 1) := by decide +kernel
theorem dX7_order_52 : decode cX7_order 52 = .ok (.getfield 10, 3) := by decide +kernel
theorem dX7_order_55 : decode cX7_order 55 = .ok (.iload_n 1, 1) := by decide +kernel
theorem dX7_order_56 : decode cX7_order 56 = .ok (.invokevirtual 180, 3) := by decide +kernel
theorem dX7_order_59 : decode cX7_order 59 = .ok (.goto 5, 3) := by decide +kernel
theorem dX7_order_62 : decode cX7_order 62 = .ok (.bipush (-5), 2) := by decide +kernel
theorem dX7_order_64 : decode cX7_order 64 = .ok (.ireturn, 1) := by decide +kernel
theorem dX7_best_0 : decode cX7_best 0 = .ok (.aload_n 0, 1) := by decide +kernel
theorem dX7_best_1 : decode cX7_best 1 = .ok (.getfield 10, 3) := by decide +kernel
theorem dX7_best_4 : decode cX7_best 4 = .ok (.iload_n 1, 1) := by decide +kernel
theorem dX7_best_5 : decode cX7_best 5 = .ok (.invokevirtual 106, 3) := by decide +kernel
theorem dX7_best_8 : decode cX7_best 8 = .ok (.ifCond .eq 11, 3) := by decide +kernel
theorem dX7_best_11 : decode cX7_best 11 = .ok (.iload_n 2, 1) := by decide +kernel
theorem dX7_best_12 : decode cX7_best 12 = .ok (.iconst 2, 1) := by decide +kernel
theorem dX7_best_13 : decode cX7_best 13 = .ok (.invokestatic 59, 3) := by decide +kernel
theorem dX7_best_16 : decode cX7_best 16 = .ok (.ifCond .ne 11, 3) := by decide +kernel
theorem dX7_best_19 : decode cX7_best 19 = .ok (.aload_n 0, 1) := by decide +kernel
theorem dX7_best_20 : decode cX7_best 20 = .ok (.sipush (-1001), 3) := by decide +kernel
theorem dX7_best_23 : decode cX7_best 23 = .ok (.invokevirtual 63, 3) := by decide +kernel
theorem dX7_best_26 : decode cX7_best 26 = .ok (.ireturn, 1) := by decide +kernel
theorem dX7_best_27 : decode cX7_best 27 = .ok (.aload_n 0, 1) := by decide +kernel
theorem dX7_best_28 : decode cX7_best 28 = .ok (.getfield 10, 3) := by decide +kernel
theorem dX7_best_31 : decode cX7_best 31 = .ok (.iload_n 1, 1) := by decide +kernel
theorem dX7_best_32 : decode cX7_best 32 = .ok (.invokevirtual 110, 3) := by decide +kernel
theorem dX7_best_35 : decode cX7_best 35 = .ok (.ifCond .eq 11, 3) := by decide +kernel
theorem dX7_best_38 : decode cX7_best 38 = .ok (.aload_n 0, 1) := by decide +kernel
theorem dX7_best_39 : decode cX7_best 39 = .ok (.sipush (-1002), 3) := by decide +kernel
theorem dX7_best_42 : decode cX7_best 42 = .ok (.invokevirtual 119, 3) := by decide +kernel
theorem dX7_best_45 : decode cX7_best 45 = .ok (.ireturn, 1) := by decide +kernel
theorem dX7_best_46 : decode cX7_best 46 = .ok (.aload_n 0, 1) := by decide +kernel
theorem dX7_best_47 : decode cX7_best 47 = .ok (.iload_n 1, 1) := by decide +kernel
theorem dX7_best_48 : decode cX7_best 48 = .ok (.invokevirtual 184, 3) := by decide +kernel
theorem dX7_best_51 : decode cX7_best 51 = .ok (.istore_n 3, 1) := by decide +kernel
theorem dX7_best_52 : decode cX7_best 52 = .ok (.iload_n 2, 1) := by decide +kernel
theorem dX7_best_53 : decode cX7_best 53 = .ok (.ifCond .ne 5, 3) := by decide +kernel
theorem dX7_best_56 : decode cX7_best 56 = .ok (.iload_n 3, 1) := by decide +kernel
theorem dX7_best_57 : decode cX7_best 57 = .ok (.ireturn, 1) := by decide +kernel
theorem dX7_best_58 : decode cX7_best 58 = .ok (.iload_n 3, 1) := by decide +kernel
theorem dX7_best_59 : decode cX7_best 59 = .ok (.iconst (-1), 1) := by decide +kernel
theorem dX7_best_60 : decode cX7_best 60 = .ok (.if_icmp .ne 9, 3) := by decide +kernel
theorem dX7_best_63 : decode cX7_best 63 = .ok (.sipush (-1000), 3) := by decide +kernel
theorem dX7_best_66 : decode cX7_best 66 = .ok (.goto 9, 3) := by decide +kernel
theorem dX7_best_69 : decode cX7_best 69 = .ok (.aload_n 0, 1) := by decide +kernel
theorem dX7_best_70 : decode cX7_best 70 = .ok (.iload_n 1, 1) := by decide +kernel
theorem dX7_best_71 : decode cX7_best 71 = .ok (.iload_n 3, 1) := by decide +kernel
theorem dX7_best_72 : decode cX7_best 72 = .ok (.invokevirtual 187, 3) := by decide +kernel
theorem dX7_best_75 : decode cX7_best 75 = .ok (.ireturn, 1) := by decide +kernel
theorem dX7_beside_0 : decode cX7_beside 0 = .ok (.aload_n 0, 1) := by decide +kernel
theorem dX7_beside_1 : decode cX7_beside 1 = .ok (.getfield 10, 3) := by decide +kernel
theorem dX7_beside_4 : decode cX7_beside 4 = .ok (.iload_n 1, 1) := by decide +kernel
theorem dX7_beside_5 : decode cX7_beside 5 = .ok (.invokevirtual 106, 3) := by decide +kernel
theorem dX7_beside_8 : decode cX7_beside 8 = .ok (.ifCond .eq 27, 3) := by decide +kernel
theorem dX7_beside_11 : decode cX7_beside 11 = .ok (.aload_n 0, 1) := by decide +kernel
theorem dX7_beside_12 : decode cX7_beside 12 = .ok (.getfield 10, 3) := by decide +kernel
theorem dX7_beside_15 : decode cX7_beside 15 = .ok (.iload_n 2, 1) := by decide +kernel
theorem dX7_beside_16 : decode cX7_beside 16 = .ok (.invokevirtual 106, 3) := by decide +kernel
theorem dX7_beside_19 : decode cX7_beside 19 = .ok (.ifCond .eq 16, 3) := by decide +kernel
theorem dX7_beside_22 : decode cX7_beside 22 = .ok (.iload_n 1, 1) := by decide +kernel
theorem dX7_beside_23 : decode cX7_beside 23 = .ok (.iload_n 2, 1) := by decide +kernel
theorem dX7_beside_24 : decode cX7_beside 24 = .ok (.if_icmp .eq 11, 3) := by decide +kernel
theorem dX7_beside_27 : decode cX7_beside 27 = .ok (.iload_n 3, 1) := by decide +kernel
theorem dX7_beside_28 : decode cX7_beside 28 = .ok (.iconst 2, 1) := by decide +kernel
theorem dX7_beside_29 : decode cX7_beside 29 = .ok (.invokestatic 59, 3) := by decide +kernel
theorem dX7_beside_32 : decode cX7_beside 32 = .ok (.ifCond .ne 10, 3) := by decide +kernel
theorem dX7_beside_35 : decode cX7_beside 35 = .ok (.aload_n 0, 1) := by decide +kernel
theorem dX7_beside_36 : decode cX7_beside 36 = .ok (.bipush (-2), 2) := by decide +kernel
theorem dX7_beside_38 : decode cX7_beside 38 = .ok (.invokevirtual 63, 3) := by decide +kernel
theorem dX7_beside_41 : decode cX7_beside 41 = .ok (.ireturn, 1) := by decide +kernel
theorem dX7_beside_42 : decode cX7_beside 42 = .ok (.aload_n 0, 1) := by decide +kernel
theorem dX7_beside_43 : decode cX7_beside 43 = .ok (.getfield 10, 3) := by decide +kernel
theorem dX7_beside_46 : decode cX7_beside 46 = .ok (.iload_n 1, 1) := by decide +kernel
theorem dX7_beside_47 : decode cX7_beside 47 = .ok (.invokevirtual 110, 3) := by decide +kernel
theorem dX7_beside_50 : decode cX7_beside 50 = .ok (.ifCond .ne 14, 3) := by decide +kernel
theorem dX7_beside_53 : decode cX7_beside 53 = .ok (.aload_n 0, 1) := by decide +kernel
theorem dX7_beside_54 : decode cX7_beside 54 = .ok (.getfield 10, 3) := by decide +kernel
theorem dX7_beside_57 : decode cX7_beside 57 = .ok (.iload_n 2, 1) := by decide +kernel
theorem dX7_beside_58 : decode cX7_beside 58 = .ok (.invokevirtual 110, 3) := by decide +kernel
theorem dX7_beside_61 : decode cX7_beside 61 = .ok (.ifCond .eq 10, 3) := by decide +kernel
theorem dX7_beside_64 : decode cX7_beside 64 = .ok (.aload_n 0, 1) := by decide +kernel
theorem dX7_beside_65 : decode cX7_beside 65 = .ok (.bipush (-3), 2) := by decide +kernel
theorem dX7_beside_67 : decode cX7_beside 67 = .ok (.invokevirtual 119, 3) := by decide +kernel
theorem dX7_beside_70 : decode cX7_beside 70 = .ok (.ireturn, 1) := by decide +kernel
theorem dX7_beside_71 : decode cX7_beside 71 = .ok (.aload_n 0, 1) := by decide +kernel
theorem dX7_beside_72 : decode cX7_beside 72 = .ok (.iload_n 1, 1) := by decide +kernel
theorem dX7_beside_73 : decode cX7_beside 73 = .ok (.iload_n 2, 1) := by decide +kernel
theorem dX7_beside_74 : decode cX7_beside 74 = .ok (.invokevirtual 190, 3) := by decide +kernel
theorem dX7_beside_77 : decode cX7_beside 77 = .ok (.istore 4, 2) := by decide +kernel
theorem dX7_beside_79 : decode cX7_beside 79 = .ok (.iload 4, 2) := by decide +kernel
theorem dX7_beside_81 : decode cX7_beside 81 = .ok (.iconst (-1), 1) := by decide +kernel
theorem dX7_beside_82 : decode cX7_beside 82 = .ok (.if_icmp .eq 8, 3) := by decide +kernel
theorem dX7_beside_85 : decode cX7_beside 85 = .ok (.iload_n 3, 1) := by decide +kernel
theorem dX7_beside_86 : decode cX7_beside 86 = .ok (.iconst 1, 1) := by decide +kernel
theorem dX7_beside_87 : decode cX7_beside 87 = .ok (.if_icmp .ne 6, 3) := by decide +kernel
theorem dX7_beside_90 : decode cX7_beside 90 = .ok (.iload 4, 2) := by decide +kernel
theorem dX7_beside_92 : decode cX7_beside 92 = .ok (.ireturn, 1) := by decide +kernel
theorem dX7_beside_93 : decode cX7_beside 93 = .ok (.aload_n 0, 1) := by decide +kernel
theorem dX7_beside_94 : decode cX7_beside 94 = .ok (.iload_n 1, 1) := by decide +kernel
theorem dX7_beside_95 : decode cX7_beside 95 = .ok (.iload_n 2, 1) := by decide +kernel
theorem dX7_beside_96 : decode cX7_beside 96 = .ok (.iload 4, 2) := by decide +kernel
theorem dX7_beside_98 : decode cX7_beside 98 = .ok (.bipush 100, 2) := by decide +kernel
theorem dX7_beside_100 : decode cX7_beside 100 = .ok (.idiv, 1) := by decide +kernel
theorem dX7_beside_101 : decode cX7_beside 101 = .ok (.iload 4, 2) := by decide +kernel
theorem dX7_beside_103 : decode cX7_beside 103 = .ok (.bipush 100, 2) := by decide +kernel
theorem dX7_beside_105 : decode cX7_beside 105 = .ok (.irem, 1) := by decide +kernel
theorem dX7_beside_106 : decode cX7_beside 106 = .ok (.invokevirtual 193, 3) := by decide +kernel
theorem dX7_beside_109 : decode cX7_beside 109 = .ok (.ireturn, 1) := by decide +kernel
theorem dX7_wrong_0 : decode cX7_wrong 0 = .ok (.iconst 0, 1) := by decide +kernel
theorem dX7_wrong_1 : decode cX7_wrong 1 = .ok (.istore_n 1, 1) := by decide +kernel
theorem dX7_wrong_2 : decode cX7_wrong 2 = .ok (.iconst 0, 1) := by decide +kernel
theorem dX7_wrong_3 : decode cX7_wrong 3 = .ok (.istore_n 2, 1) := by decide +kernel
theorem dX7_wrong_4 : decode cX7_wrong 4 = .ok (.iload_n 2, 1) := by decide +kernel
theorem dX7_wrong_5 : decode cX7_wrong 5 = .ok (.aload_n 0, 1) := by decide +kernel
theorem dX7_wrong_6 : decode cX7_wrong 6 = .ok (.getfield 10, 3) := by decide +kernel
theorem dX7_wrong_9 : decode cX7_wrong 9 = .ok (.getfield 52, 3) := by decide +kernel
theorem dX7_wrong_12 : decode cX7_wrong 12 = .ok (.if_icmp .ge 47, 3) := by decide +kernel
theorem dX7_wrong_15 : decode cX7_wrong 15 = .ok (.aload_n 0, 1) := by decide +kernel
theorem dX7_wrong_16 : decode cX7_wrong 16 = .ok (.getfield 10, 3) := by decide +kernel
theorem dX7_wrong_19 : decode cX7_wrong 19 = .ok (.iload_n 2, 1) := by decide +kernel
theorem dX7_wrong_20 : decode cX7_wrong 20 = .ok (.invokevirtual 110, 3) := by decide +kernel
theorem dX7_wrong_23 : decode cX7_wrong 23 = .ok (.ifCond .eq 30, 3) := by decide +kernel
theorem dX7_wrong_26 : decode cX7_wrong 26 = .ok (.aload_n 0, 1) := by decide +kernel
theorem dX7_wrong_27 : decode cX7_wrong 27 = .ok (.getfield 10, 3) := by decide +kernel
theorem dX7_wrong_30 : decode cX7_wrong 30 = .ok (.getfield 160, 3) := by decide +kernel
theorem dX7_wrong_33 : decode cX7_wrong 33 = .ok (.iload_n 2, 1) := by decide +kernel
theorem dX7_wrong_34 : decode cX7_wrong 34 = .ok (.iaload, 1) := by decide +kernel
theorem dX7_wrong_35 : decode cX7_wrong 35 = .ok (.aload_n 0, 1) := by decide +kernel
theorem dX7_wrong_36 : decode cX7_wrong 36 = .ok (.getfield 10, 3) := by decide +kernel
theorem dX7_wrong_39 : decode cX7_wrong 39 = .ok (.getfield 157, 3) := by decide +kernel
theorem dX7_wrong_42 : decode cX7_wrong 42 = .ok (.iload_n 2, 1) := by decide +kernel
theorem dX7_wrong_43 : decode cX7_wrong 43 = .ok (.iaload, 1) := by decide +kernel
theorem dX7_wrong_44 : decode cX7_wrong 44 = .ok (.if_icmp .eq 9, 3) := by decide +kernel
theorem dX7_wrong_47 : decode cX7_wrong 47 = .ok (.iload_n 1, 1) := by decide +kernel
theorem dX7_wrong_48 : decode cX7_wrong 48 = .ok (.iconst 1, 1) := by decide +kernel
theorem dX7_wrong_49 : decode cX7_wrong 49 = .ok (.iload_n 2, 1) := by decide +kernel
theorem dX7_wrong_50 : decode cX7_wrong 50 = .ok (.ishl, 1) := by decide +kernel
theorem dX7_wrong_51 : decode cX7_wrong 51 = .ok (.ior, 1) := by decide +kernel
theorem dX7_wrong_52 : decode cX7_wrong 52 = .ok (.istore_n 1, 1) := by decide +kernel
theorem dX7_wrong_53 : decode cX7_wrong 53 = .ok (.iinc 2 1, 3) := by decide +kernel
theorem dX7_wrong_56 : decode cX7_wrong 56 = .ok (.goto (-52), 3) := by decide +kernel
theorem dX7_wrong_59 : decode cX7_wrong 59 = .ok (.iload_n 1, 1) := by decide +kernel
theorem dX7_wrong_60 : decode cX7_wrong 60 = .ok (.ireturn, 1) := by decide +kernel
theorem dX7_swaps_0 : decode cX7_swaps 0 = .ok (.aload_n 0, 1) := by decide +kernel
theorem dX7_swaps_1 : decode cX7_swaps 1 = .ok (.getfield 10, 3) := by decide +kernel
theorem dX7_swaps_4 : decode cX7_swaps 4 = .ok (.invokestatic 197, 3) := by decide +kernel
theorem dX7_swaps_7 : decode cX7_swaps 7 = .ok (.ireturn, 1) := by decide +kernel
theorem dX7_seen_0 : decode cX7_seen 0 = .ok (.aload_n 0, 1) := by decide +kernel
theorem dX7_seen_1 : decode cX7_seen 1 = .ok (.getfield 10, 3) := by decide +kernel
theorem dX7_seen_4 : decode cX7_seen 4 = .ok (.iload_n 1, 1) := by decide +kernel
theorem dX7_seen_5 : decode cX7_seen 5 = .ok (.invokevirtual 106, 3) := by decide +kernel
theorem dX7_seen_8 : decode cX7_seen 8 = .ok (.ifCond .eq 21, 3) := by decide +kernel
theorem dX7_seen_11 : decode cX7_seen 11 = .ok (.iload_n 2, 1) := by decide +kernel
theorem dX7_seen_12 : decode cX7_seen 12 = .ok (.bipush 100, 2) := by decide +kernel
theorem dX7_seen_14 : decode cX7_seen 14 = .ok (.invokestatic 59, 3) := by decide +kernel
theorem dX7_seen_17 : decode cX7_seen 17 = .ok (.ifCond .eq 12, 3) := by decide +kernel
theorem dX7_seen_20 : decode cX7_seen 20 = .ok (.iload_n 3, 1) := by decide +kernel
theorem dX7_seen_21 : decode cX7_seen 21 = .ok (.bipush 41, 2) := by decide +kernel
theorem dX7_seen_23 : decode cX7_seen 23 = .ok (.invokestatic 59, 3) := by decide +kernel
theorem dX7_seen_26 : decode cX7_seen 26 = .ok (.ifCond .ne 10, 3) := by decide +kernel
theorem dX7_seen_29 : decode cX7_seen 29 = .ok (.aload_n 0, 1) := by decide +kernel
theorem dX7_seen_30 : decode cX7_seen 30 = .ok (.bipush (-2), 2) := by decide +kernel
theorem dX7_seen_32 : decode cX7_seen 32 = .ok (.invokevirtual 63, 3) := by decide +kernel
theorem dX7_seen_35 : decode cX7_seen 35 = .ok (.ireturn, 1) := by decide +kernel
theorem dX7_seen_36 : decode cX7_seen 36 = .ok (.aload_n 0, 1) := by decide +kernel
theorem dX7_seen_37 : decode cX7_seen 37 = .ok (.getfield 10, 3) := by decide +kernel
theorem dX7_seen_40 : decode cX7_seen 40 = .ok (.getfield 203, 3) := by decide +kernel
theorem dX7_seen_43 : decode cX7_seen 43 = .ok (.invokevirtual 206, 3) := by decide +kernel
theorem dX7_seen_46 : decode cX7_seen 46 = .ok (.ifCond .eq 10, 3) := by decide +kernel
theorem dX7_seen_49 : decode cX7_seen 49 = .ok (.aload_n 0, 1) := by decide +kernel
theorem dX7_seen_50 : decode cX7_seen 50 = .ok (.invokevirtual 81, 3) := by decide +kernel
theorem dX7_seen_53 : decode cX7_seen 53 = .ok (.goto 16, 3) := by decide +kernel
theorem dX7_seen_56 : decode cX7_seen 56 = .ok (.aload_n 0, 1) := by decide +kernel
theorem dX7_seen_57 : decode cX7_seen 57 = .ok (.getfield 10, 3) := by decide +kernel
theorem dX7_seen_60 : decode cX7_seen 60 = .ok (.getfield 203, 3) := by decide +kernel
theorem dX7_seen_63 : decode cX7_seen 63 = .ok (.iload_n 1, 1) := by decide +kernel
theorem dX7_seen_64 : decode cX7_seen 64 = .ok (.iload_n 2, 1) := by decide +kernel
theorem dX7_seen_65 : decode cX7_seen 65 = .ok (.iload_n 3, 1) := by decide +kernel
theorem dX7_seen_66 : decode cX7_seen 66 = .ok (.invokevirtual 207, 3) := by decide +kernel
theorem dX7_seen_69 : decode cX7_seen 69 = .ok (.ireturn, 1) := by decide +kernel
theorem dX7_where_0 : decode cX7_where 0 = .ok (.aload_n 0, 1) := by decide +kernel
theorem dX7_where_1 : decode cX7_where 1 = .ok (.getfield 10, 3) := by decide +kernel
theorem dX7_where_4 : decode cX7_where 4 = .ok (.iload_n 1, 1) := by decide +kernel
theorem dX7_where_5 : decode cX7_where 5 = .ok (.invokevirtual 106, 3) := by decide +kernel
theorem dX7_where_8 : decode cX7_where 8 = .ok (.ifCond .eq 8, 3) := by decide +kernel
theorem dX7_where_11 : decode cX7_where 11 = .ok (.iload_n 2, 1) := by decide +kernel
theorem dX7_where_12 : decode cX7_where 12 = .ok (.iconst (-1), 1) := by decide +kernel
theorem dX7_where_13 : decode cX7_where 13 = .ok (.if_icmp .ge 10, 3) := by decide +kernel
theorem dX7_where_16 : decode cX7_where 16 = .ok (.aload_n 0, 1) := by decide +kernel
theorem dX7_where_17 : decode cX7_where 17 = .ok (.bipush (-10), 2) := by decide +kernel
theorem dX7_where_19 : decode cX7_where 19 = .ok (.invokevirtual 63, 3) := by decide +kernel
theorem dX7_where_22 : decode cX7_where 22 = .ok (.ireturn, 1) := by decide +kernel
theorem dX7_where_23 : decode cX7_where 23 = .ok (.aload_n 0, 1) := by decide +kernel
theorem dX7_where_24 : decode cX7_where 24 = .ok (.iload_n 1, 1) := by decide +kernel
theorem dX7_where_25 : decode cX7_where 25 = .ok (.invokevirtual 210, 3) := by decide +kernel
theorem dX7_where_28 : decode cX7_where 28 = .ok (.istore_n 3, 1) := by decide +kernel
theorem dX7_where_29 : decode cX7_where 29 = .ok (.iconst 0, 1) := by decide +kernel
theorem dX7_where_30 : decode cX7_where 30 = .ok (.istore 4, 2) := by decide +kernel
theorem dX7_where_32 : decode cX7_where 32 = .ok (.iconst 0, 1) := by decide +kernel
theorem dX7_where_33 : decode cX7_where 33 = .ok (.istore 5, 2) := by decide +kernel
theorem dX7_where_35 : decode cX7_where 35 = .ok (.iload 5, 2) := by decide +kernel
theorem dX7_where_37 : decode cX7_where 37 = .ok (.bipush 30, 2) := by decide +kernel
theorem dX7_where_39 : decode cX7_where 39 = .ok (.if_icmp .ge 30, 3) := by decide +kernel
theorem dX7_where_42 : decode cX7_where 42 = .ok (.iload_n 3, 1) := by decide +kernel
theorem dX7_where_43 : decode cX7_where 43 = .ok (.iload 5, 2) := by decide +kernel
theorem dX7_where_45 : decode cX7_where 45 = .ok (.invokestatic 213, 3) := by decide +kernel
theorem dX7_where_48 : decode cX7_where 48 = .ok (.ifCond .eq 15, 3) := by decide +kernel
theorem dX7_where_51 : decode cX7_where 51 = .ok (.iload 4, 2) := by decide +kernel
theorem dX7_where_53 : decode cX7_where 53 = .ok (.iload_n 2, 1) := by decide +kernel
theorem dX7_where_54 : decode cX7_where 54 = .ok (.if_icmp .ne 6, 3) := by decide +kernel
theorem dX7_where_57 : decode cX7_where 57 = .ok (.iload 5, 2) := by decide +kernel
theorem dX7_where_59 : decode cX7_where 59 = .ok (.ireturn, 1) := by decide +kernel
theorem dX7_where_60 : decode cX7_where 60 = .ok (.iinc 4 1, 3) := by decide +kernel
theorem dX7_where_63 : decode cX7_where 63 = .ok (.iinc 5 1, 3) := by decide +kernel
theorem dX7_where_66 : decode cX7_where 66 = .ok (.goto (-31), 3) := by decide +kernel
theorem dX7_where_69 : decode cX7_where 69 = .ok (.iload_n 2, 1) := by decide +kernel
theorem dX7_where_70 : decode cX7_where 70 = .ok (.iconst (-1), 1) := by decide +kernel
theorem dX7_where_71 : decode cX7_where 71 = .ok (.if_icmp .ne 8, 3) := by decide +kernel
theorem dX7_where_74 : decode cX7_where 74 = .ok (.iload 4, 2) := by decide +kernel
theorem dX7_where_76 : decode cX7_where 76 = .ok (.goto 5, 3) := by decide +kernel
theorem dX7_where_79 : decode cX7_where 79 = .ok (.bipush (-5), 2) := by decide +kernel
theorem dX7_where_81 : decode cX7_where 81 = .ok (.ireturn, 1) := by decide +kernel
theorem dX7_tell_0 : decode cX7_tell 0 = .ok (.aload_n 0, 1) := by decide +kernel
theorem dX7_tell_1 : decode cX7_tell 1 = .ok (.getfield 10, 3) := by decide +kernel
theorem dX7_tell_4 : decode cX7_tell 4 = .ok (.iload_n 1, 1) := by decide +kernel
theorem dX7_tell_5 : decode cX7_tell 5 = .ok (.invokevirtual 106, 3) := by decide +kernel
theorem dX7_tell_8 : decode cX7_tell 8 = .ok (.ifCond .ne 10, 3) := by decide +kernel
theorem dX7_tell_11 : decode cX7_tell 11 = .ok (.aload_n 0, 1) := by decide +kernel
theorem dX7_tell_12 : decode cX7_tell 12 = .ok (.bipush (-2), 2) := by decide +kernel
theorem dX7_tell_14 : decode cX7_tell 14 = .ok (.invokevirtual 63, 3) := by decide +kernel
theorem dX7_tell_17 : decode cX7_tell 17 = .ok (.ireturn, 1) := by decide +kernel
theorem dX7_tell_18 : decode cX7_tell 18 = .ok (.aload_n 0, 1) := by decide +kernel
theorem dX7_tell_19 : decode cX7_tell 19 = .ok (.iload_n 1, 1) := by decide +kernel
theorem dX7_tell_20 : decode cX7_tell 20 = .ok (.invokevirtual 210, 3) := by decide +kernel
theorem dX7_tell_23 : decode cX7_tell 23 = .ok (.istore_n 2, 1) := by decide +kernel
theorem dX7_tell_24 : decode cX7_tell 24 = .ok (.iconst (-1), 1) := by decide +kernel
theorem dX7_tell_25 : decode cX7_tell 25 = .ok (.istore_n 3, 1) := by decide +kernel
theorem dX7_tell_26 : decode cX7_tell 26 = .ok (.bipush 31, 2) := by decide +kernel
theorem dX7_tell_28 : decode cX7_tell 28 = .ok (.istore 4, 2) := by decide +kernel
theorem dX7_tell_30 : decode cX7_tell 30 = .ok (.iconst 0, 1) := by decide +kernel
theorem dX7_tell_31 : decode cX7_tell 31 = .ok (.istore 5, 2) := by decide +kernel
theorem dX7_tell_33 : decode cX7_tell 33 = .ok (.iload 5, 2) := by decide +kernel
theorem dX7_tell_35 : decode cX7_tell 35 = .ok (.bipush 20, 2) := by decide +kernel
theorem dX7_tell_37 : decode cX7_tell 37 = .ok (.if_icmp .ge 46, 3) := by decide +kernel
theorem dX7_tell_40 : decode cX7_tell 40 = .ok (.aload_n 0, 1) := by decide +kernel
theorem dX7_tell_41 : decode cX7_tell 41 = .ok (.iload_n 2, 1) := by decide +kernel
theorem dX7_tell_42 : decode cX7_tell 42 = .ok (.aload_n 0, 1) := by decide +kernel
theorem dX7_tell_43 : decode cX7_tell 43 = .ok (.getfield 10, 3) := by decide +kernel
theorem dX7_tell_46 : decode cX7_tell 46 = .ok (.getfield 154, 3) := by decide +kernel
theorem dX7_tell_49 : decode cX7_tell 49 = .ok (.iload_n 1, 1) := by decide +kernel
theorem dX7_tell_50 : decode cX7_tell 50 = .ok (.iaload, 1) := by decide +kernel
theorem dX7_tell_51 : decode cX7_tell 51 = .ok (.iload 5, 2) := by decide +kernel
theorem dX7_tell_53 : decode cX7_tell 53 = .ok (.invokevirtual 216, 3) := by decide +kernel
theorem dX7_tell_56 : decode cX7_tell 56 = .ok (.istore 6, 2) := by decide +kernel
theorem dX7_tell_58 : decode cX7_tell 58 = .ok (.iload 6, 2) := by decide +kernel
theorem dX7_tell_60 : decode cX7_tell 60 = .ok (.ifCond .le 17, 3) := by decide +kernel
theorem dX7_tell_63 : decode cX7_tell 63 = .ok (.iload 6, 2) := by decide +kernel
theorem dX7_tell_65 : decode cX7_tell 65 = .ok (.iload 4, 2) := by decide +kernel
theorem dX7_tell_67 : decode cX7_tell 67 = .ok (.if_icmp .ge 10, 3) := by decide +kernel
theorem dX7_tell_70 : decode cX7_tell 70 = .ok (.iload 6, 2) := by decide +kernel
theorem dX7_tell_72 : decode cX7_tell 72 = .ok (.istore 4, 2) := by decide +kernel
theorem dX7_tell_74 : decode cX7_tell 74 = .ok (.iload 5, 2) := by decide +kernel
theorem dX7_tell_76 : decode cX7_tell 76 = .ok (.istore_n 3, 1) := by decide +kernel
theorem dX7_tell_77 : decode cX7_tell 77 = .ok (.iinc 5 1, 3) := by decide +kernel
theorem dX7_tell_80 : decode cX7_tell 80 = .ok (.goto (-47), 3) := by decide +kernel
theorem dX7_tell_83 : decode cX7_tell 83 = .ok (.iload_n 3, 1) := by decide +kernel
theorem dX7_tell_84 : decode cX7_tell 84 = .ok (.ireturn, 1) := by decide +kernel
theorem dX7_note_0 : decode cX7_note 0 = .ok (.iload_n 1, 1) := by decide +kernel
theorem dX7_note_1 : decode cX7_note 1 = .ok (.iconst 5, 1) := by decide +kernel
theorem dX7_note_2 : decode cX7_note 2 = .ok (.invokestatic 59, 3) := by decide +kernel
theorem dX7_note_5 : decode cX7_note 5 = .ok (.ifCond .eq 21, 3) := by decide +kernel
theorem dX7_note_8 : decode cX7_note 8 = .ok (.iload_n 2, 1) := by decide +kernel
theorem dX7_note_9 : decode cX7_note 9 = .ok (.bipush 6, 2) := by decide +kernel
theorem dX7_note_11 : decode cX7_note 11 = .ok (.invokestatic 59, 3) := by decide +kernel
theorem dX7_note_14 : decode cX7_note 14 = .ok (.ifCond .eq 12, 3) := by decide +kernel
theorem dX7_note_17 : decode cX7_note 17 = .ok (.iload_n 3, 1) := by decide +kernel
theorem dX7_note_18 : decode cX7_note 18 = .ok (.bipush 21, 2) := by decide +kernel
theorem dX7_note_20 : decode cX7_note 20 = .ok (.invokestatic 59, 3) := by decide +kernel
theorem dX7_note_23 : decode cX7_note 23 = .ok (.ifCond .ne 10, 3) := by decide +kernel
theorem dX7_note_26 : decode cX7_note 26 = .ok (.aload_n 0, 1) := by decide +kernel
theorem dX7_note_27 : decode cX7_note 27 = .ok (.bipush (-2), 2) := by decide +kernel
theorem dX7_note_29 : decode cX7_note 29 = .ok (.invokevirtual 63, 3) := by decide +kernel
theorem dX7_note_32 : decode cX7_note 32 = .ok (.ireturn, 1) := by decide +kernel
theorem dX7_note_33 : decode cX7_note 33 = .ok (.aload_n 0, 1) := by decide +kernel
theorem dX7_note_34 : decode cX7_note 34 = .ok (.getfield 10, 3) := by decide +kernel
theorem dX7_note_37 : decode cX7_note 37 = .ok (.getfield 219, 3) := by decide +kernel
theorem dX7_note_40 : decode cX7_note 40 = .ok (.invokevirtual 206, 3) := by decide +kernel
theorem dX7_note_43 : decode cX7_note 43 = .ok (.ifCond .eq 10, 3) := by decide +kernel
theorem dX7_note_46 : decode cX7_note 46 = .ok (.aload_n 0, 1) := by decide +kernel
theorem dX7_note_47 : decode cX7_note 47 = .ok (.invokevirtual 81, 3) := by decide +kernel
theorem dX7_note_50 : decode cX7_note 50 = .ok (.goto 16, 3) := by decide +kernel
theorem dX7_note_53 : decode cX7_note 53 = .ok (.aload_n 0, 1) := by decide +kernel
theorem dX7_note_54 : decode cX7_note 54 = .ok (.getfield 10, 3) := by decide +kernel
theorem dX7_note_57 : decode cX7_note 57 = .ok (.getfield 219, 3) := by decide +kernel
theorem dX7_note_60 : decode cX7_note 60 = .ok (.iload_n 1, 1) := by decide +kernel
theorem dX7_note_61 : decode cX7_note 61 = .ok (.iload_n 2, 1) := by decide +kernel
theorem dX7_note_62 : decode cX7_note 62 = .ok (.iload_n 3, 1) := by decide +kernel
theorem dX7_note_63 : decode cX7_note 63 = .ok (.invokevirtual 207, 3) := by decide +kernel
theorem dX7_note_66 : decode cX7_note 66 = .ok (.ireturn, 1) := by decide +kernel
theorem dX7_mark_0 : decode cX7_mark 0 = .ok (.aload_n 0, 1) := by decide +kernel
theorem dX7_mark_1 : decode cX7_mark 1 = .ok (.getfield 10, 3) := by decide +kernel
theorem dX7_mark_4 : decode cX7_mark 4 = .ok (.iload_n 1, 1) := by decide +kernel
theorem dX7_mark_5 : decode cX7_mark 5 = .ok (.invokevirtual 106, 3) := by decide +kernel
theorem dX7_mark_8 : decode cX7_mark 8 = .ok (.ifCond .eq 31, 3) := by decide +kernel
theorem dX7_mark_11 : decode cX7_mark 11 = .ok (.iload_n 2, 1) := by decide +kernel
theorem dX7_mark_12 : decode cX7_mark 12 = .ok (.bipush 6, 2) := by decide +kernel
theorem dX7_mark_14 : decode cX7_mark 14 = .ok (.invokestatic 59, 3) := by decide +kernel
theorem dX7_mark_17 : decode cX7_mark 17 = .ok (.ifCond .eq 22, 3) := by decide +kernel
theorem dX7_mark_20 : decode cX7_mark 20 = .ok (.iload_n 3, 1) := by decide +kernel
theorem dX7_mark_21 : decode cX7_mark 21 = .ok (.bipush 100, 2) := by decide +kernel
theorem dX7_mark_23 : decode cX7_mark 23 = .ok (.invokestatic 59, 3) := by decide +kernel
theorem dX7_mark_26 : decode cX7_mark 26 = .ok (.ifCond .eq 13, 3) := by decide +kernel
theorem dX7_mark_29 : decode cX7_mark 29 = .ok (.iload 4, 2) := by decide +kernel
theorem dX7_mark_31 : decode cX7_mark 31 = .ok (.bipush 41, 2) := by decide +kernel
theorem dX7_mark_33 : decode cX7_mark 33 = .ok (.invokestatic 59, 3) := by decide +kernel
theorem dX7_mark_36 : decode cX7_mark 36 = .ok (.ifCond .ne 10, 3) := by decide +kernel
theorem dX7_mark_39 : decode cX7_mark 39 = .ok (.aload_n 0, 1) := by decide +kernel
theorem dX7_mark_40 : decode cX7_mark 40 = .ok (.bipush (-2), 2) := by decide +kernel
theorem dX7_mark_42 : decode cX7_mark 42 = .ok (.invokevirtual 63, 3) := by decide +kernel
theorem dX7_mark_45 : decode cX7_mark 45 = .ok (.ireturn, 1) := by decide +kernel
theorem dX7_mark_46 : decode cX7_mark 46 = .ok (.aload_n 0, 1) := by decide +kernel
theorem dX7_mark_47 : decode cX7_mark 47 = .ok (.getfield 10, 3) := by decide +kernel
theorem dX7_mark_50 : decode cX7_mark 50 = .ok (.getfield 222, 3) := by decide +kernel
theorem dX7_mark_53 : decode cX7_mark 53 = .ok (.invokevirtual 206, 3) := by decide +kernel
theorem dX7_mark_56 : decode cX7_mark 56 = .ok (.ifCond .eq 10, 3) := by decide +kernel
theorem dX7_mark_59 : decode cX7_mark 59 = .ok (.aload_n 0, 1) := by decide +kernel
theorem dX7_mark_60 : decode cX7_mark 60 = .ok (.invokevirtual 81, 3) := by decide +kernel
theorem dX7_mark_63 : decode cX7_mark 63 = .ok (.goto 18, 3) := by decide +kernel
theorem dX7_mark_66 : decode cX7_mark 66 = .ok (.aload_n 0, 1) := by decide +kernel
theorem dX7_mark_67 : decode cX7_mark 67 = .ok (.getfield 10, 3) := by decide +kernel
theorem dX7_mark_70 : decode cX7_mark 70 = .ok (.getfield 222, 3) := by decide +kernel
theorem dX7_mark_73 : decode cX7_mark 73 = .ok (.iload_n 1, 1) := by decide +kernel
theorem dX7_mark_74 : decode cX7_mark 74 = .ok (.iload_n 2, 1) := by decide +kernel
theorem dX7_mark_75 : decode cX7_mark 75 = .ok (.iload_n 3, 1) := by decide +kernel
theorem dX7_mark_76 : decode cX7_mark 76 = .ok (.iload 4, 2) := by decide +kernel
theorem dX7_mark_78 : decode cX7_mark 78 = .ok (.invokevirtual 225, 3) := by decide +kernel
theorem dX7_mark_81 : decode cX7_mark 81 = .ok (.ireturn, 1) := by decide +kernel
theorem dX7_forget_0 : decode cX7_forget 0 = .ok (.iload_n 1, 1) := by decide +kernel
theorem dX7_forget_1 : decode cX7_forget 1 = .ok (.tableswitch 60 0 2 #[27, 38, 49], 27) := by decide +kernel
theorem dX7_forget_28 : decode cX7_forget 28 = .ok (.aload_n 0, 1) := by decide +kernel
theorem dX7_forget_29 : decode cX7_forget 29 = .ok (.getfield 10, 3) := by decide +kernel
theorem dX7_forget_32 : decode cX7_forget 32 = .ok (.getfield 203, 3) := by decide +kernel
theorem dX7_forget_35 : decode cX7_forget 35 = .ok (.invokevirtual 75, 3) := by decide +kernel
theorem dX7_forget_38 : decode cX7_forget 38 = .ok (.ireturn, 1) := by decide +kernel
theorem dX7_forget_39 : decode cX7_forget 39 = .ok (.aload_n 0, 1) := by decide +kernel
theorem dX7_forget_40 : decode cX7_forget 40 = .ok (.getfield 10, 3) := by decide +kernel
theorem dX7_forget_43 : decode cX7_forget 43 = .ok (.getfield 219, 3) := by decide +kernel
theorem dX7_forget_46 : decode cX7_forget 46 = .ok (.invokevirtual 75, 3) := by decide +kernel
theorem dX7_forget_49 : decode cX7_forget 49 = .ok (.ireturn, 1) := by decide +kernel
theorem dX7_forget_50 : decode cX7_forget 50 = .ok (.aload_n 0, 1) := by decide +kernel
theorem dX7_forget_51 : decode cX7_forget 51 = .ok (.getfield 10, 3) := by decide +kernel
theorem dX7_forget_54 : decode cX7_forget 54 = .ok (.getfield 222, 3) := by decide +kernel
theorem dX7_forget_57 : decode cX7_forget 57 = .ok (.invokevirtual 75, 3) := by decide +kernel
theorem dX7_forget_60 : decode cX7_forget 60 = .ok (.ireturn, 1) := by decide +kernel
theorem dX7_forget_61 : decode cX7_forget 61 = .ok (.aload_n 0, 1) := by decide +kernel
theorem dX7_forget_62 : decode cX7_forget 62 = .ok (.bipush (-2), 2) := by decide +kernel
theorem dX7_forget_64 : decode cX7_forget 64 = .ok (.invokevirtual 63, 3) := by decide +kernel
theorem dX7_forget_67 : decode cX7_forget 67 = .ok (.ireturn, 1) := by decide +kernel
theorem dX7_is_0 : decode cX7_is 0 = .ok (.iload_n 1, 1) := by decide +kernel
theorem dX7_is_1 : decode cX7_is 1 = .ok (.iconst 5, 1) := by decide +kernel
theorem dX7_is_2 : decode cX7_is 2 = .ok (.invokestatic 59, 3) := by decide +kernel
theorem dX7_is_5 : decode cX7_is 5 = .ok (.ifCond .eq 11, 3) := by decide +kernel
theorem dX7_is_8 : decode cX7_is 8 = .ok (.aload_n 0, 1) := by decide +kernel
theorem dX7_is_9 : decode cX7_is 9 = .ok (.iload_n 1, 1) := by decide +kernel
theorem dX7_is_10 : decode cX7_is 10 = .ok (.invokevirtual 227, 3) := by decide +kernel
theorem dX7_is_13 : decode cX7_is 13 = .ok (.goto 9, 3) := by decide +kernel
theorem dX7_is_16 : decode cX7_is 16 = .ok (.aload_n 0, 1) := by decide +kernel
theorem dX7_is_17 : decode cX7_is 17 = .ok (.bipush (-2), 2) := by decide +kernel
theorem dX7_is_19 : decode cX7_is 19 = .ok (.invokevirtual 63, 3) := by decide +kernel
theorem dX7_is_22 : decode cX7_is 22 = .ok (.ireturn, 1) := by decide +kernel
theorem dX7_look_0 : decode cX7_look 0 = .ok (.iload_n 1, 1) := by decide +kernel
theorem dX7_look_1 : decode cX7_look 1 = .ok (.iconst 5, 1) := by decide +kernel
theorem dX7_look_2 : decode cX7_look 2 = .ok (.invokestatic 59, 3) := by decide +kernel
theorem dX7_look_5 : decode cX7_look 5 = .ok (.ifCond .ne 10, 3) := by decide +kernel
theorem dX7_look_8 : decode cX7_look 8 = .ok (.aload_n 0, 1) := by decide +kernel
theorem dX7_look_9 : decode cX7_look 9 = .ok (.bipush (-2), 2) := by decide +kernel
theorem dX7_look_11 : decode cX7_look 11 = .ok (.invokevirtual 63, 3) := by decide +kernel
theorem dX7_look_14 : decode cX7_look 14 = .ok (.ireturn, 1) := by decide +kernel
theorem dX7_look_15 : decode cX7_look 15 = .ok (.aload_n 0, 1) := by decide +kernel
theorem dX7_look_16 : decode cX7_look 16 = .ok (.iload_n 1, 1) := by decide +kernel
theorem dX7_look_17 : decode cX7_look 17 = .ok (.invokevirtual 227, 3) := by decide +kernel
theorem dX7_look_20 : decode cX7_look 20 = .ok (.istore_n 2, 1) := by decide +kernel
theorem dX7_look_21 : decode cX7_look 21 = .ok (.iconst (-1), 1) := by decide +kernel
theorem dX7_look_22 : decode cX7_look 22 = .ok (.istore_n 3, 1) := by decide +kernel
theorem dX7_look_23 : decode cX7_look 23 = .ok (.bipush 7, 2) := by decide +kernel
theorem dX7_look_25 : decode cX7_look 25 = .ok (.istore 4, 2) := by decide +kernel
theorem dX7_look_27 : decode cX7_look 27 = .ok (.iconst 0, 1) := by decide +kernel
theorem dX7_look_28 : decode cX7_look 28 = .ok (.istore 5, 2) := by decide +kernel
theorem dX7_look_30 : decode cX7_look 30 = .ok (.iload 5, 2) := by decide +kernel
theorem dX7_look_32 : decode cX7_look 32 = .ok (.bipush 6, 2) := by decide +kernel
theorem dX7_look_34 : decode cX7_look 34 = .ok (.if_icmp .ge 37, 3) := by decide +kernel
theorem dX7_look_37 : decode cX7_look 37 = .ok (.aload_n 0, 1) := by decide +kernel
theorem dX7_look_38 : decode cX7_look 38 = .ok (.iload_n 2, 1) := by decide +kernel
theorem dX7_look_39 : decode cX7_look 39 = .ok (.iload 5, 2) := by decide +kernel
theorem dX7_look_41 : decode cX7_look 41 = .ok (.invokevirtual 230, 3) := by decide +kernel
theorem dX7_look_44 : decode cX7_look 44 = .ok (.istore 6, 2) := by decide +kernel
theorem dX7_look_46 : decode cX7_look 46 = .ok (.iload 6, 2) := by decide +kernel
theorem dX7_look_48 : decode cX7_look 48 = .ok (.ifCond .le 17, 3) := by decide +kernel
theorem dX7_look_51 : decode cX7_look 51 = .ok (.iload 6, 2) := by decide +kernel
theorem dX7_look_53 : decode cX7_look 53 = .ok (.iload 4, 2) := by decide +kernel
theorem dX7_look_55 : decode cX7_look 55 = .ok (.if_icmp .ge 10, 3) := by decide +kernel
theorem dX7_look_58 : decode cX7_look 58 = .ok (.iload 6, 2) := by decide +kernel
theorem dX7_look_60 : decode cX7_look 60 = .ok (.istore 4, 2) := by decide +kernel
theorem dX7_look_62 : decode cX7_look 62 = .ok (.iload 5, 2) := by decide +kernel
theorem dX7_look_64 : decode cX7_look 64 = .ok (.istore_n 3, 1) := by decide +kernel
theorem dX7_look_65 : decode cX7_look 65 = .ok (.iinc 5 1, 3) := by decide +kernel
theorem dX7_look_68 : decode cX7_look 68 = .ok (.goto (-38), 3) := by decide +kernel
theorem dX7_look_71 : decode cX7_look 71 = .ok (.iload_n 3, 1) := by decide +kernel
theorem dX7_look_72 : decode cX7_look 72 = .ok (.ireturn, 1) := by decide +kernel
theorem dX7_kinds_0 : decode cX7_kinds 0 = .ok (.aload_n 0, 1) := by decide +kernel
theorem dX7_kinds_1 : decode cX7_kinds 1 = .ok (.getfield 10, 3) := by decide +kernel
theorem dX7_kinds_4 : decode cX7_kinds 4 = .ok (.iload_n 1, 1) := by decide +kernel
theorem dX7_kinds_5 : decode cX7_kinds 5 = .ok (.invokevirtual 106, 3) := by decide +kernel
theorem dX7_kinds_8 : decode cX7_kinds 8 = .ok (.ifCond .eq 11, 3) := by decide +kernel
theorem dX7_kinds_11 : decode cX7_kinds 11 = .ok (.aload_n 0, 1) := by decide +kernel
theorem dX7_kinds_12 : decode cX7_kinds 12 = .ok (.iload_n 1, 1) := by decide +kernel
theorem dX7_kinds_13 : decode cX7_kinds 13 = .ok (.invokevirtual 233, 3) := by decide +kernel
theorem dX7_kinds_16 : decode cX7_kinds 16 = .ok (.goto 9, 3) := by decide +kernel
theorem dX7_kinds_19 : decode cX7_kinds 19 = .ok (.aload_n 0, 1) := by decide +kernel
theorem dX7_kinds_20 : decode cX7_kinds 20 = .ok (.bipush (-2), 2) := by decide +kernel
theorem dX7_kinds_22 : decode cX7_kinds 22 = .ok (.invokevirtual 63, 3) := by decide +kernel
theorem dX7_kinds_25 : decode cX7_kinds 25 = .ok (.ireturn, 1) := by decide +kernel
theorem dX7_ask_0 : decode cX7_ask 0 = .ok (.aload_n 0, 1) := by decide +kernel
theorem dX7_ask_1 : decode cX7_ask 1 = .ok (.getfield 10, 3) := by decide +kernel
theorem dX7_ask_4 : decode cX7_ask 4 = .ok (.iload_n 1, 1) := by decide +kernel
theorem dX7_ask_5 : decode cX7_ask 5 = .ok (.invokevirtual 106, 3) := by decide +kernel
theorem dX7_ask_8 : decode cX7_ask 8 = .ok (.ifCond .ne 10, 3) := by decide +kernel
theorem dX7_ask_11 : decode cX7_ask 11 = .ok (.aload_n 0, 1) := by decide +kernel
theorem dX7_ask_12 : decode cX7_ask 12 = .ok (.bipush (-2), 2) := by decide +kernel
theorem dX7_ask_14 : decode cX7_ask 14 = .ok (.invokevirtual 63, 3) := by decide +kernel
theorem dX7_ask_17 : decode cX7_ask 17 = .ok (.ireturn, 1) := by decide +kernel
theorem dX7_ask_18 : decode cX7_ask 18 = .ok (.aload_n 0, 1) := by decide +kernel
theorem dX7_ask_19 : decode cX7_ask 19 = .ok (.iload_n 1, 1) := by decide +kernel
theorem dX7_ask_20 : decode cX7_ask 20 = .ok (.invokevirtual 233, 3) := by decide +kernel
theorem dX7_ask_23 : decode cX7_ask 23 = .ok (.istore_n 2, 1) := by decide +kernel
theorem dX7_ask_24 : decode cX7_ask 24 = .ok (.iconst (-1), 1) := by decide +kernel
theorem dX7_ask_25 : decode cX7_ask 25 = .ok (.istore_n 3, 1) := by decide +kernel
theorem dX7_ask_26 : decode cX7_ask 26 = .ok (.bipush 7, 2) := by decide +kernel
theorem dX7_ask_28 : decode cX7_ask 28 = .ok (.istore 4, 2) := by decide +kernel
theorem dX7_ask_30 : decode cX7_ask 30 = .ok (.iconst 0, 1) := by decide +kernel
theorem dX7_ask_31 : decode cX7_ask 31 = .ok (.istore 5, 2) := by decide +kernel
theorem dX7_ask_33 : decode cX7_ask 33 = .ok (.iload 5, 2) := by decide +kernel
theorem dX7_ask_35 : decode cX7_ask 35 = .ok (.bipush 6, 2) := by decide +kernel
theorem dX7_ask_37 : decode cX7_ask 37 = .ok (.if_icmp .ge 61, 3) := by decide +kernel
theorem dX7_ask_40 : decode cX7_ask 40 = .ok (.iconst 0, 1) := by decide +kernel
theorem dX7_ask_41 : decode cX7_ask 41 = .ok (.istore 6, 2) := by decide +kernel
theorem dX7_ask_43 : decode cX7_ask 43 = .ok (.iload 6, 2) := by decide +kernel
theorem dX7_ask_45 : decode cX7_ask 45 = .ok (.bipush 10, 2) := by decide +kernel
theorem dX7_ask_47 : decode cX7_ask 47 = .ok (.if_icmp .gt 45, 3) := by decide +kernel
theorem dX7_ask_50 : decode cX7_ask 50 = .ok (.aload_n 0, 1) := by decide +kernel
theorem dX7_ask_51 : decode cX7_ask 51 = .ok (.iload_n 2, 1) := by decide +kernel
theorem dX7_ask_52 : decode cX7_ask 52 = .ok (.iload 5, 2) := by decide +kernel
theorem dX7_ask_54 : decode cX7_ask 54 = .ok (.iload 6, 2) := by decide +kernel
theorem dX7_ask_56 : decode cX7_ask 56 = .ok (.invokevirtual 236, 3) := by decide +kernel
theorem dX7_ask_59 : decode cX7_ask 59 = .ok (.istore 7, 2) := by decide +kernel
theorem dX7_ask_61 : decode cX7_ask 61 = .ok (.iload 7, 2) := by decide +kernel
theorem dX7_ask_63 : decode cX7_ask 63 = .ok (.ifCond .le 23, 3) := by decide +kernel
theorem dX7_ask_66 : decode cX7_ask 66 = .ok (.iload 7, 2) := by decide +kernel
theorem dX7_ask_68 : decode cX7_ask 68 = .ok (.iload 4, 2) := by decide +kernel
theorem dX7_ask_70 : decode cX7_ask 70 = .ok (.if_icmp .ge 16, 3) := by decide +kernel
theorem dX7_ask_73 : decode cX7_ask 73 = .ok (.iload 7, 2) := by decide +kernel
theorem dX7_ask_75 : decode cX7_ask 75 = .ok (.istore 4, 2) := by decide +kernel
theorem dX7_ask_77 : decode cX7_ask 77 = .ok (.bipush 100, 2) := by decide +kernel
theorem dX7_ask_79 : decode cX7_ask 79 = .ok (.iload 5, 2) := by decide +kernel
theorem dX7_ask_81 : decode cX7_ask 81 = .ok (.imul, 1) := by decide +kernel
theorem dX7_ask_82 : decode cX7_ask 82 = .ok (.iload 6, 2) := by decide +kernel
theorem dX7_ask_84 : decode cX7_ask 84 = .ok (.iadd, 1) := by decide +kernel
theorem dX7_ask_85 : decode cX7_ask 85 = .ok (.istore_n 3, 1) := by decide +kernel
theorem dX7_ask_86 : decode cX7_ask 86 = .ok (.iinc 6 1, 3) := by decide +kernel
theorem dX7_ask_89 : decode cX7_ask 89 = .ok (.goto (-46), 3) := by decide +kernel
theorem dX7_ask_92 : decode cX7_ask 92 = .ok (.iinc 5 1, 3) := by decide +kernel
theorem dX7_ask_95 : decode cX7_ask 95 = .ok (.goto (-62), 3) := by decide +kernel
theorem dX7_ask_98 : decode cX7_ask 98 = .ok (.iload_n 3, 1) := by decide +kernel
theorem dX7_ask_99 : decode cX7_ask 99 = .ok (.ireturn, 1) := by decide +kernel
theorem dX7_whispers_0 : decode cX7_whispers 0 = .ok (.aload_n 0, 1) := by decide +kernel
theorem dX7_whispers_1 : decode cX7_whispers 1 = .ok (.getfield 10, 3) := by decide +kernel
theorem dX7_whispers_4 : decode cX7_whispers 4 = .ok (.iload_n 1, 1) := by decide +kernel
theorem dX7_whispers_5 : decode cX7_whispers 5 = .ok (.invokevirtual 106, 3) := by decide +kernel
theorem dX7_whispers_8 : decode cX7_whispers 8 = .ok (.ifCond .eq 28, 3) := by decide +kernel
theorem dX7_whispers_11 : decode cX7_whispers 11 = .ok (.aload_n 0, 1) := by decide +kernel
theorem dX7_whispers_12 : decode cX7_whispers 12 = .ok (.getfield 10, 3) := by decide +kernel
theorem dX7_whispers_15 : decode cX7_whispers 15 = .ok (.iload_n 2, 1) := by decide +kernel
theorem dX7_whispers_16 : decode cX7_whispers 16 = .ok (.invokevirtual 106, 3) := by decide +kernel
theorem dX7_whispers_19 : decode cX7_whispers 19 = .ok (.ifCond .eq 17, 3) := by decide +kernel
theorem dX7_whispers_22 : decode cX7_whispers 22 = .ok (.iload_n 1, 1) := by decide +kernel
theorem dX7_whispers_23 : decode cX7_whispers 23 = .ok (.iload_n 2, 1) := by decide +kernel
theorem dX7_whispers_24 : decode cX7_whispers 24 = .ok (.if_icmp .eq 12, 3) := by decide +kernel
theorem dX7_whispers_27 : decode cX7_whispers 27 = .ok (.iload_n 3, 1) := by decide +kernel
theorem dX7_whispers_28 : decode cX7_whispers 28 = .ok (.bipush 30, 2) := by decide +kernel
theorem dX7_whispers_30 : decode cX7_whispers 30 = .ok (.invokestatic 59, 3) := by decide +kernel
theorem dX7_whispers_33 : decode cX7_whispers 33 = .ok (.ifCond .ne 10, 3) := by decide +kernel
theorem dX7_whispers_36 : decode cX7_whispers 36 = .ok (.aload_n 0, 1) := by decide +kernel
theorem dX7_whispers_37 : decode cX7_whispers 37 = .ok (.bipush (-2), 2) := by decide +kernel
theorem dX7_whispers_39 : decode cX7_whispers 39 = .ok (.invokevirtual 63, 3) := by decide +kernel
theorem dX7_whispers_42 : decode cX7_whispers 42 = .ok (.ireturn, 1) := by decide +kernel
theorem dX7_whispers_43 : decode cX7_whispers 43 = .ok (.aload_n 0, 1) := by decide +kernel
theorem dX7_whispers_44 : decode cX7_whispers 44 = .ok (.getfield 10, 3) := by decide +kernel
theorem dX7_whispers_47 : decode cX7_whispers 47 = .ok (.iload_n 3, 1) := by decide +kernel
theorem dX7_whispers_48 : decode cX7_whispers 48 = .ok (.invokevirtual 166, 3) := by decide +kernel
theorem dX7_whispers_51 : decode cX7_whispers 51 = .ok (.istore 4, 2) := by decide +kernel
theorem dX7_whispers_53 : decode cX7_whispers 53 = .ok (.iload 4, 2) := by decide +kernel
theorem dX7_whispers_55 : decode cX7_whispers 55 = .ok (.iconst 2, 1) := by decide +kernel
theorem dX7_whispers_56 : decode cX7_whispers 56 = .ok (.idiv, 1) := by decide +kernel
theorem dX7_whispers_57 : decode cX7_whispers 57 = .ok (.istore 5, 2) := by decide +kernel
theorem dX7_whispers_59 : decode cX7_whispers 59 = .ok (.iconst 2, 1) := by decide +kernel
theorem dX7_whispers_60 : decode cX7_whispers 60 = .ok (.istore 6, 2) := by decide +kernel
theorem dX7_whispers_62 : decode cX7_whispers 62 = .ok (.aload_n 0, 1) := by decide +kernel
theorem dX7_whispers_63 : decode cX7_whispers 63 = .ok (.getfield 10, 3) := by decide +kernel
theorem dX7_whispers_66 : decode cX7_whispers 66 = .ok (.iload_n 1, 1) := by decide +kernel
theorem dX7_whispers_67 : decode cX7_whispers 67 = .ok (.iload_n 3, 1) := by decide +kernel
theorem dX7_whispers_68 : decode cX7_whispers 68 = .ok (.invokevirtual 169, 3) := by decide +kernel
theorem dX7_whispers_71 : decode cX7_whispers 71 = .ok (.ineg, 1) := by decide +kernel
theorem dX7_whispers_72 : decode cX7_whispers 72 = .ok (.istore 7, 2) := by decide +kernel
theorem dX7_whispers_74 : decode cX7_whispers 74 = .ok (.aload_n 0, 1) := by decide +kernel
theorem dX7_whispers_75 : decode cX7_whispers 75 = .ok (.getfield 10, 3) := by decide +kernel
theorem dX7_whispers_78 : decode cX7_whispers 78 = .ok (.iload_n 2, 1) := by decide +kernel
theorem dX7_whispers_79 : decode cX7_whispers 79 = .ok (.iload_n 3, 1) := by decide +kernel
theorem dX7_whispers_80 : decode cX7_whispers 80 = .ok (.invokevirtual 169, 3) := by decide +kernel
theorem dX7_whispers_83 : decode cX7_whispers 83 = .ok (.ineg, 1) := by decide +kernel
theorem dX7_whispers_84 : decode cX7_whispers 84 = .ok (.istore 8, 2) := by decide +kernel
theorem dX7_whispers_86 : decode cX7_whispers 86 = .ok (.iconst 0, 1) := by decide +kernel
theorem dX7_whispers_87 : decode cX7_whispers 87 = .ok (.istore 9, 2) := by decide +kernel
theorem dX7_whispers_89 : decode cX7_whispers 89 = .ok (.iload 5, 2) := by decide +kernel
theorem dX7_whispers_91 : decode cX7_whispers 91 = .ok (.iload 4, 2) := by decide +kernel
theorem dX7_whispers_93 : decode cX7_whispers 93 = .ok (.if_icmp .lt 9, 3) := by decide +kernel
theorem dX7_whispers_96 : decode cX7_whispers 96 = .ok (.iload 9, 2) := by decide +kernel
theorem dX7_whispers_98 : decode cX7_whispers 98 = .ok (.iconst 1, 1) := by decide +kernel
theorem dX7_whispers_99 : decode cX7_whispers 99 = .ok (.ior, 1) := by decide +kernel
theorem dX7_whispers_100 : decode cX7_whispers 100 = .ok (.istore 9, 2) := by decide +kernel
theorem dX7_whispers_102 : decode cX7_whispers 102 = .ok (.iload 4, 2) := by decide +kernel
theorem dX7_whispers_104 : decode cX7_whispers 104 = .ok (.iload 5, 2) := by decide +kernel
theorem dX7_whispers_106 : decode cX7_whispers 106 = .ok (.if_icmp .lt 16, 3) := by decide +kernel
theorem dX7_whispers_109 : decode cX7_whispers 109 = .ok (.iload 6, 2) := by decide +kernel
theorem dX7_whispers_111 : decode cX7_whispers 111 = .ok (.iload 8, 2) := by decide +kernel
theorem dX7_whispers_113 : decode cX7_whispers 113 = .ok (.if_icmp .lt 9, 3) := by decide +kernel
theorem dX7_whispers_116 : decode cX7_whispers 116 = .ok (.iload 9, 2) := by decide +kernel
theorem dX7_whispers_118 : decode cX7_whispers 118 = .ok (.iconst 2, 1) := by decide +kernel
theorem dX7_whispers_119 : decode cX7_whispers 119 = .ok (.ior, 1) := by decide +kernel
theorem dX7_whispers_120 : decode cX7_whispers 120 = .ok (.istore 9, 2) := by decide +kernel
theorem dX7_whispers_122 : decode cX7_whispers 122 = .ok (.iload 4, 2) := by decide +kernel
theorem dX7_whispers_124 : decode cX7_whispers 124 = .ok (.iload 5, 2) := by decide +kernel
theorem dX7_whispers_126 : decode cX7_whispers 126 = .ok (.if_icmp .lt 16, 3) := by decide +kernel
theorem dX7_whispers_129 : decode cX7_whispers 129 = .ok (.iload 6, 2) := by decide +kernel
theorem dX7_whispers_131 : decode cX7_whispers 131 = .ok (.iload 7, 2) := by decide +kernel
theorem dX7_whispers_133 : decode cX7_whispers 133 = .ok (.if_icmp .lt 9, 3) := by decide +kernel
theorem dX7_whispers_136 : decode cX7_whispers 136 = .ok (.iload 9, 2) := by decide +kernel
theorem dX7_whispers_138 : decode cX7_whispers 138 = .ok (.iconst 4, 1) := by decide +kernel
theorem dX7_whispers_139 : decode cX7_whispers 139 = .ok (.ior, 1) := by decide +kernel
theorem dX7_whispers_140 : decode cX7_whispers 140 = .ok (.istore 9, 2) := by decide +kernel
theorem dX7_whispers_142 : decode cX7_whispers 142 = .ok (.iload 7, 2) := by decide +kernel
theorem dX7_whispers_144 : decode cX7_whispers 144 = .ok (.iload 6, 2) := by decide +kernel
theorem dX7_whispers_146 : decode cX7_whispers 146 = .ok (.if_icmp .lt 17, 3) := by decide +kernel
theorem dX7_whispers_149 : decode cX7_whispers 149 = .ok (.iload 8, 2) := by decide +kernel
theorem dX7_whispers_151 : decode cX7_whispers 151 = .ok (.iload 6, 2) := by decide +kernel
theorem dX7_whispers_153 : decode cX7_whispers 153 = .ok (.if_icmp .lt 10, 3) := by decide +kernel
theorem dX7_whispers_156 : decode cX7_whispers 156 = .ok (.iload 9, 2) := by decide +kernel
theorem dX7_whispers_158 : decode cX7_whispers 158 = .ok (.bipush 8, 2) := by decide +kernel
theorem dX7_whispers_160 : decode cX7_whispers 160 = .ok (.ior, 1) := by decide +kernel
theorem dX7_whispers_161 : decode cX7_whispers 161 = .ok (.istore 9, 2) := by decide +kernel
theorem dX7_whispers_163 : decode cX7_whispers 163 = .ok (.iload 9, 2) := by decide +kernel
theorem dX7_whispers_165 : decode cX7_whispers 165 = .ok (.ireturn, 1) := by decide +kernel
theorem dX7_wet_0 : decode cX7_wet 0 = .ok (.aload_n 0, 1) := by decide +kernel
theorem dX7_wet_1 : decode cX7_wet 1 = .ok (.getfield 10, 3) := by decide +kernel
theorem dX7_wet_4 : decode cX7_wet 4 = .ok (.iload_n 1, 1) := by decide +kernel
theorem dX7_wet_5 : decode cX7_wet 5 = .ok (.invokevirtual 106, 3) := by decide +kernel
theorem dX7_wet_8 : decode cX7_wet 8 = .ok (.ifCond .eq 12, 3) := by decide +kernel
theorem dX7_wet_11 : decode cX7_wet 11 = .ok (.iload_n 2, 1) := by decide +kernel
theorem dX7_wet_12 : decode cX7_wet 12 = .ok (.bipush 11, 2) := by decide +kernel
theorem dX7_wet_14 : decode cX7_wet 14 = .ok (.invokestatic 59, 3) := by decide +kernel
theorem dX7_wet_17 : decode cX7_wet 17 = .ok (.ifCond .ne 10, 3) := by decide +kernel
theorem dX7_wet_20 : decode cX7_wet 20 = .ok (.aload_n 0, 1) := by decide +kernel
theorem dX7_wet_21 : decode cX7_wet 21 = .ok (.bipush (-2), 2) := by decide +kernel
theorem dX7_wet_23 : decode cX7_wet 23 = .ok (.invokevirtual 63, 3) := by decide +kernel
theorem dX7_wet_26 : decode cX7_wet 26 = .ok (.ireturn, 1) := by decide +kernel
theorem dX7_wet_27 : decode cX7_wet 27 = .ok (.aload_n 0, 1) := by decide +kernel
theorem dX7_wet_28 : decode cX7_wet 28 = .ok (.getfield 10, 3) := by decide +kernel
theorem dX7_wet_31 : decode cX7_wet 31 = .ok (.iload_n 1, 1) := by decide +kernel
theorem dX7_wet_32 : decode cX7_wet 32 = .ok (.invokevirtual 110, 3) := by decide +kernel
theorem dX7_wet_35 : decode cX7_wet 35 = .ok (.ifCond .eq 10, 3) := by decide +kernel
theorem dX7_wet_38 : decode cX7_wet 38 = .ok (.aload_n 0, 1) := by decide +kernel
theorem dX7_wet_39 : decode cX7_wet 39 = .ok (.bipush (-3), 2) := by decide +kernel
theorem dX7_wet_41 : decode cX7_wet 41 = .ok (.invokevirtual 119, 3) := by decide +kernel
theorem dX7_wet_44 : decode cX7_wet 44 = .ok (.ireturn, 1) := by decide +kernel
theorem dX7_wet_45 : decode cX7_wet 45 = .ok (.aload_n 0, 1) := by decide +kernel
theorem dX7_wet_46 : decode cX7_wet 46 = .ok (.getfield 10, 3) := by decide +kernel
theorem dX7_wet_49 : decode cX7_wet 49 = .ok (.getfield 157, 3) := by decide +kernel
theorem dX7_wet_52 : decode cX7_wet 52 = .ok (.iload_n 1, 1) := by decide +kernel
theorem dX7_wet_53 : decode cX7_wet 53 = .ok (.iaload, 1) := by decide +kernel
theorem dX7_wet_54 : decode cX7_wet 54 = .ok (.istore_n 3, 1) := by decide +kernel
theorem dX7_wet_55 : decode cX7_wet 55 = .ok (.iload_n 3, 1) := by decide +kernel
theorem dX7_wet_56 : decode cX7_wet 56 = .ok (.bipush 6, 2) := by decide +kernel
theorem dX7_wet_58 : decode cX7_wet 58 = .ok (.iadd, 1) := by decide +kernel
theorem dX7_wet_59 : decode cX7_wet 59 = .ok (.bipush 30, 2) := by decide +kernel
theorem dX7_wet_61 : decode cX7_wet 61 = .ok (.if_icmp .ge 10, 3) := by decide +kernel
theorem dX7_wet_64 : decode cX7_wet 64 = .ok (.iload_n 3, 1) := by decide +kernel
theorem dX7_wet_65 : decode cX7_wet 65 = .ok (.bipush 6, 2) := by decide +kernel
theorem dX7_wet_67 : decode cX7_wet 67 = .ok (.iadd, 1) := by decide +kernel
theorem dX7_wet_68 : decode cX7_wet 68 = .ok (.goto 4, 3) := by decide +kernel
theorem dX7_wet_71 : decode cX7_wet 71 = .ok (.iload_n 3, 1) := by decide +kernel
theorem dX7_wet_72 : decode cX7_wet 72 = .ok (.istore 4, 2) := by decide +kernel
theorem dX7_wet_74 : decode cX7_wet 74 = .ok (.aload_n 0, 1) := by decide +kernel
theorem dX7_wet_75 : decode cX7_wet 75 = .ok (.bipush 10, 2) := by decide +kernel
theorem dX7_wet_77 : decode cX7_wet 77 = .ok (.iload_n 2, 1) := by decide +kernel
theorem dX7_wet_78 : decode cX7_wet 78 = .ok (.isub, 1) := by decide +kernel
theorem dX7_wet_79 : decode cX7_wet 79 = .ok (.aload_n 0, 1) := by decide +kernel
theorem dX7_wet_80 : decode cX7_wet 80 = .ok (.getfield 10, 3) := by decide +kernel
theorem dX7_wet_83 : decode cX7_wet 83 = .ok (.iload_n 1, 1) := by decide +kernel
theorem dX7_wet_84 : decode cX7_wet 84 = .ok (.iload_n 3, 1) := by decide +kernel
theorem dX7_wet_85 : decode cX7_wet 85 = .ok (.invokevirtual 169, 3) := by decide +kernel
theorem dX7_wet_88 : decode cX7_wet 88 = .ok (.imul, 1) := by decide +kernel
theorem dX7_wet_89 : decode cX7_wet 89 = .ok (.iload_n 2, 1) := by decide +kernel
theorem dX7_wet_90 : decode cX7_wet 90 = .ok (.aload_n 0, 1) := by decide +kernel
theorem dX7_wet_91 : decode cX7_wet 91 = .ok (.getfield 10, 3) := by decide +kernel
theorem dX7_wet_94 : decode cX7_wet 94 = .ok (.iload_n 1, 1) := by decide +kernel
theorem dX7_wet_95 : decode cX7_wet 95 = .ok (.iload 4, 2) := by decide +kernel
theorem dX7_wet_97 : decode cX7_wet 97 = .ok (.invokevirtual 169, 3) := by decide +kernel
theorem dX7_wet_100 : decode cX7_wet 100 = .ok (.imul, 1) := by decide +kernel
theorem dX7_wet_101 : decode cX7_wet 101 = .ok (.iadd, 1) := by decide +kernel
theorem dX7_wet_102 : decode cX7_wet 102 = .ok (.invokevirtual 239, 3) := by decide +kernel
theorem dX7_wet_105 : decode cX7_wet 105 = .ok (.iconst 1, 1) := by decide +kernel
theorem dX7_wet_106 : decode cX7_wet 106 = .ok (.ireturn, 1) := by decide +kernel
theorem dX7_evenings_0 : decode cX7_evenings 0 = .ok (.iload_n 1, 1) := by decide +kernel
theorem dX7_evenings_1 : decode cX7_evenings 1 = .ok (.ldc 243, 2) := by decide +kernel
theorem dX7_evenings_3 : decode cX7_evenings 3 = .ok (.invokestatic 59, 3) := by decide +kernel
theorem dX7_evenings_6 : decode cX7_evenings 6 = .ok (.ifCond .eq 12, 3) := by decide +kernel
theorem dX7_evenings_9 : decode cX7_evenings 9 = .ok (.iload_n 2, 1) := by decide +kernel
theorem dX7_evenings_10 : decode cX7_evenings 10 = .ok (.bipush 61, 2) := by decide +kernel
theorem dX7_evenings_12 : decode cX7_evenings 12 = .ok (.invokestatic 59, 3) := by decide +kernel
theorem dX7_evenings_15 : decode cX7_evenings 15 = .ok (.ifCond .ne 10, 3) := by decide +kernel
theorem dX7_evenings_18 : decode cX7_evenings 18 = .ok (.aload_n 0, 1) := by decide +kernel
theorem dX7_evenings_19 : decode cX7_evenings 19 = .ok (.bipush (-2), 2) := by decide +kernel
theorem dX7_evenings_21 : decode cX7_evenings 21 = .ok (.invokevirtual 63, 3) := by decide +kernel
theorem dX7_evenings_24 : decode cX7_evenings 24 = .ok (.ireturn, 1) := by decide +kernel
theorem dX7_evenings_25 : decode cX7_evenings 25 = .ok (.aload_n 0, 1) := by decide +kernel
theorem dX7_evenings_26 : decode cX7_evenings 26 = .ok (.getfield 16, 3) := by decide +kernel
theorem dX7_evenings_29 : decode cX7_evenings 29 = .ok (.aload_n 0, 1) := by decide +kernel
theorem dX7_evenings_30 : decode cX7_evenings 30 = .ok (.getfield 10, 3) := by decide +kernel
theorem dX7_evenings_33 : decode cX7_evenings 33 = .ok (.invokevirtual 102, 3) := by decide +kernel
theorem dX7_evenings_36 : decode cX7_evenings 36 = .ok (.iload_n 1, 1) := by decide +kernel
theorem dX7_evenings_37 : decode cX7_evenings 37 = .ok (.i2l, 1) := by decide +kernel
theorem dX7_evenings_38 : decode cX7_evenings 38 = .ok (.lstore_n 3, 1) := by decide +kernel
theorem dX7_evenings_39 : decode cX7_evenings 39 = .ok (.iconst 0, 1) := by decide +kernel
theorem dX7_evenings_40 : decode cX7_evenings 40 = .ok (.istore 5, 2) := by decide +kernel
theorem dX7_evenings_42 : decode cX7_evenings 42 = .ok (.iconst 0, 1) := by decide +kernel
theorem dX7_evenings_43 : decode cX7_evenings 43 = .ok (.istore 6, 2) := by decide +kernel
theorem dX7_evenings_45 : decode cX7_evenings 45 = .ok (.iload 6, 2) := by decide +kernel
theorem dX7_evenings_47 : decode cX7_evenings 47 = .ok (.iload_n 2, 1) := by decide +kernel
theorem dX7_evenings_48 : decode cX7_evenings 48 = .ok (.if_icmp .ge 55, 3) := by decide +kernel
theorem dX7_evenings_51 : decode cX7_evenings 51 = .ok (.lload_n 3, 1) := by decide +kernel
theorem dX7_evenings_52 : decode cX7_evenings 52 = .ok (.ldc2_w 244, 3) := by decide +kernel
theorem dX7_evenings_55 : decode cX7_evenings 55 = .ok (.lmul, 1) := by decide +kernel
theorem dX7_evenings_56 : decode cX7_evenings 56 = .ok (.ldc2_w 246, 3) := by decide +kernel
theorem dX7_evenings_59 : decode cX7_evenings 59 = .ok (.ladd, 1) := by decide +kernel
theorem dX7_evenings_60 : decode cX7_evenings 60 = .ok (.ldc2_w 248, 3) := by decide +kernel
theorem dX7_evenings_63 : decode cX7_evenings 63 = .ok (.lrem, 1) := by decide +kernel
theorem dX7_evenings_64 : decode cX7_evenings 64 = .ok (.lstore_n 3, 1) := by decide +kernel
theorem dX7_evenings_65 : decode cX7_evenings 65 = .ok (.iload 5, 2) := by decide +kernel
theorem dX7_evenings_67 : decode cX7_evenings 67 = .ok (.aload_n 0, 1) := by decide +kernel
theorem dX7_evenings_68 : decode cX7_evenings 68 = .ok (.getfield 16, 3) := by decide +kernel
theorem dX7_evenings_71 : decode cX7_evenings 71 = .ok (.lload_n 3, 1) := by decide +kernel
theorem dX7_evenings_72 : decode cX7_evenings 72 = .ok (.ldc2_w 250, 3) := by decide +kernel
theorem dX7_evenings_75 : decode cX7_evenings 75 = .ok (.ldiv, 1) := by decide +kernel
theorem dX7_evenings_76 : decode cX7_evenings 76 = .ok (.ldc2_w 252, 3) := by decide +kernel
theorem dX7_evenings_79 : decode cX7_evenings 79 = .ok (.lrem, 1) := by decide +kernel
theorem dX7_evenings_80 : decode cX7_evenings 80 = .ok (.l2i, 1) := by decide +kernel
theorem dX7_evenings_81 : decode cX7_evenings 81 = .ok (.lload_n 3, 1) := by decide +kernel
theorem dX7_evenings_82 : decode cX7_evenings 82 = .ok (.ldc2_w 254, 3) := by decide +kernel
theorem dX7_evenings_85 : decode cX7_evenings 85 = .ok (.ldiv, 1) := by decide +kernel
theorem dX7_evenings_86 : decode cX7_evenings 86 = .ok (.ldc2_w 256, 3) := by decide +kernel
theorem dX7_evenings_89 : decode cX7_evenings 89 = .ok (.lrem, 1) := by decide +kernel
theorem dX7_evenings_90 : decode cX7_evenings 90 = .ok (.l2i, 1) := by decide +kernel
theorem dX7_evenings_91 : decode cX7_evenings 91 = .ok (.invokevirtual 258, 3) := by decide +kernel
theorem dX7_evenings_94 : decode cX7_evenings 94 = .ok (.iadd, 1) := by decide +kernel
theorem dX7_evenings_95 : decode cX7_evenings 95 = .ok (.istore 5, 2) := by decide +kernel
theorem dX7_evenings_97 : decode cX7_evenings 97 = .ok (.iinc 6 1, 3) := by decide +kernel
theorem dX7_evenings_100 : decode cX7_evenings 100 = .ok (.goto (-55), 3) := by decide +kernel
theorem dX7_evenings_103 : decode cX7_evenings 103 = .ok (.iload 5, 2) := by decide +kernel
theorem dX7_evenings_105 : decode cX7_evenings 105 = .ok (.ireturn, 1) := by decide +kernel
theorem dX7_part_0 : decode cX7_part 0 = .ok (.iload_n 1, 1) := by decide +kernel
theorem dX7_part_1 : decode cX7_part 1 = .ok (.lookupswitch 37 #[(0, 27), (1, 32)], 27) := by decide +kernel
theorem dX7_part_28 : decode cX7_part 28 = .ok (.aload_n 0, 1) := by decide +kernel
theorem dX7_part_29 : decode cX7_part 29 = .ok (.getfield 261, 3) := by decide +kernel
theorem dX7_part_32 : decode cX7_part 32 = .ok (.lreturn, 1) := by decide +kernel
theorem dX7_part_33 : decode cX7_part 33 = .ok (.aload_n 0, 1) := by decide +kernel
theorem dX7_part_34 : decode cX7_part 34 = .ok (.getfield 48, 3) := by decide +kernel
theorem dX7_part_37 : decode cX7_part 37 = .ok (.lreturn, 1) := by decide +kernel
theorem dX7_part_38 : decode cX7_part 38 = .ok (.aload_n 0, 1) := by decide +kernel
theorem dX7_part_39 : decode cX7_part 39 = .ok (.bipush (-2), 2) := by decide +kernel
theorem dX7_part_41 : decode cX7_part 41 = .ok (.invokevirtual 63, 3) := by decide +kernel
theorem dX7_part_44 : decode cX7_part 44 = .ok (.i2l, 1) := by decide +kernel
theorem dX7_part_45 : decode cX7_part 45 = .ok (.lreturn, 1) := by decide +kernel
theorem dX7_image_0 : decode cX7_image 0 = .ok (.iload_n 1, 1) := by decide +kernel
theorem dX7_image_1 : decode cX7_image 1 = .ok (.aload_n 0, 1) := by decide +kernel
theorem dX7_image_2 : decode cX7_image 2 = .ok (.getfield 19, 3) := by decide +kernel
theorem dX7_image_5 : decode cX7_image 5 = .ok (.arraylength, 1) := by decide +kernel
theorem dX7_image_6 : decode cX7_image 6 = .ok (.invokestatic 59, 3) := by decide +kernel
theorem dX7_image_9 : decode cX7_image 9 = .ok (.ifCond .ne 10, 3) := by decide +kernel
theorem dX7_image_12 : decode cX7_image 12 = .ok (.aload_n 0, 1) := by decide +kernel
theorem dX7_image_13 : decode cX7_image 13 = .ok (.bipush (-2), 2) := by decide +kernel
theorem dX7_image_15 : decode cX7_image 15 = .ok (.invokevirtual 63, 3) := by decide +kernel
theorem dX7_image_18 : decode cX7_image 18 = .ok (.ireturn, 1) := by decide +kernel
theorem dX7_image_19 : decode cX7_image 19 = .ok (.aload_n 0, 1) := by decide +kernel
theorem dX7_image_20 : decode cX7_image 20 = .ok (.getfield 19, 3) := by decide +kernel
theorem dX7_image_23 : decode cX7_image 23 = .ok (.iload_n 1, 1) := by decide +kernel
theorem dX7_image_24 : decode cX7_image 24 = .ok (.aaload, 1) := by decide +kernel
theorem dX7_image_25 : decode cX7_image 25 = .ok (.aload_n 0, 1) := by decide +kernel
theorem dX7_image_26 : decode cX7_image 26 = .ok (.getfield 10, 3) := by decide +kernel
theorem dX7_image_29 : decode cX7_image 29 = .ok (.invokevirtual 102, 3) := by decide +kernel
theorem dX7_image_32 : decode cX7_image 32 = .ok (.aload_n 0, 1) := by decide +kernel
theorem dX7_image_33 : decode cX7_image 33 = .ok (.getfield 23, 3) := by decide +kernel
theorem dX7_image_36 : decode cX7_image 36 = .ok (.iload_n 1, 1) := by decide +kernel
theorem dX7_image_37 : decode cX7_image 37 = .ok (.iconst 1, 1) := by decide +kernel
theorem dX7_image_38 : decode cX7_image 38 = .ok (.bastore, 1) := by decide +kernel
theorem dX7_image_39 : decode cX7_image 39 = .ok (.iconst 1, 1) := by decide +kernel
theorem dX7_image_40 : decode cX7_image 40 = .ok (.ireturn, 1) := by decide +kernel
theorem dX7_from_0 : decode cX7_from 0 = .ok (.iload_n 1, 1) := by decide +kernel
theorem dX7_from_1 : decode cX7_from 1 = .ok (.aload_n 0, 1) := by decide +kernel
theorem dX7_from_2 : decode cX7_from 2 = .ok (.getfield 19, 3) := by decide +kernel
theorem dX7_from_5 : decode cX7_from 5 = .ok (.arraylength, 1) := by decide +kernel
theorem dX7_from_6 : decode cX7_from 6 = .ok (.invokestatic 59, 3) := by decide +kernel
theorem dX7_from_9 : decode cX7_from 9 = .ok (.ifCond .ne 10, 3) := by decide +kernel
theorem dX7_from_12 : decode cX7_from 12 = .ok (.aload_n 0, 1) := by decide +kernel
theorem dX7_from_13 : decode cX7_from 13 = .ok (.bipush (-2), 2) := by decide +kernel
theorem dX7_from_15 : decode cX7_from 15 = .ok (.invokevirtual 63, 3) := by decide +kernel
theorem dX7_from_18 : decode cX7_from 18 = .ok (.ireturn, 1) := by decide +kernel
theorem dX7_from_19 : decode cX7_from 19 = .ok (.aload_n 0, 1) := by decide +kernel
theorem dX7_from_20 : decode cX7_from 20 = .ok (.getfield 23, 3) := by decide +kernel
theorem dX7_from_23 : decode cX7_from 23 = .ok (.iload_n 1, 1) := by decide +kernel
theorem dX7_from_24 : decode cX7_from 24 = .ok (.baload, 1) := by decide +kernel
theorem dX7_from_25 : decode cX7_from 25 = .ok (.ifCond .ne 10, 3) := by decide +kernel
theorem dX7_from_28 : decode cX7_from 28 = .ok (.aload_n 0, 1) := by decide +kernel
theorem dX7_from_29 : decode cX7_from 29 = .ok (.bipush (-3), 2) := by decide +kernel
theorem dX7_from_31 : decode cX7_from 31 = .ok (.invokevirtual 119, 3) := by decide +kernel
theorem dX7_from_34 : decode cX7_from 34 = .ok (.ireturn, 1) := by decide +kernel
theorem dX7_from_35 : decode cX7_from 35 = .ok (.aload_n 0, 1) := by decide +kernel
theorem dX7_from_36 : decode cX7_from 36 = .ok (.getfield 10, 3) := by decide +kernel
theorem dX7_from_39 : decode cX7_from 39 = .ok (.aload_n 0, 1) := by decide +kernel
theorem dX7_from_40 : decode cX7_from 40 = .ok (.getfield 19, 3) := by decide +kernel
theorem dX7_from_43 : decode cX7_from 43 = .ok (.iload_n 1, 1) := by decide +kernel
theorem dX7_from_44 : decode cX7_from 44 = .ok (.aaload, 1) := by decide +kernel
theorem dX7_from_45 : decode cX7_from 45 = .ok (.invokevirtual 102, 3) := by decide +kernel
theorem dX7_from_48 : decode cX7_from 48 = .ok (.iconst 1, 1) := by decide +kernel
theorem dX7_from_49 : decode cX7_from 49 = .ok (.ireturn, 1) := by decide +kernel
theorem dX7_status_0 : decode cX7_status 0 = .ok (.iload_n 1, 1) := by decide +kernel
theorem dX7_status_1 : decode cX7_status 1 = .ok (.tableswitch 42 0 2 #[27, 32, 37], 27) := by decide +kernel
theorem dX7_status_28 : decode cX7_status 28 = .ok (.aload_n 0, 1) := by decide +kernel
theorem dX7_status_29 : decode cX7_status 29 = .ok (.getfield 264, 3) := by decide +kernel
theorem dX7_status_32 : decode cX7_status 32 = .ok (.ireturn, 1) := by decide +kernel
theorem dX7_status_33 : decode cX7_status 33 = .ok (.aload_n 0, 1) := by decide +kernel
theorem dX7_status_34 : decode cX7_status 34 = .ok (.getfield 267, 3) := by decide +kernel
theorem dX7_status_37 : decode cX7_status 37 = .ok (.ireturn, 1) := by decide +kernel
theorem dX7_status_38 : decode cX7_status 38 = .ok (.aload_n 0, 1) := by decide +kernel
theorem dX7_status_39 : decode cX7_status 39 = .ok (.getfield 270, 3) := by decide +kernel
theorem dX7_status_42 : decode cX7_status 42 = .ok (.ireturn, 1) := by decide +kernel
theorem dX7_status_43 : decode cX7_status 43 = .ok (.aload_n 0, 1) := by decide +kernel
theorem dX7_status_44 : decode cX7_status 44 = .ok (.iconst (-1), 1) := by decide +kernel
theorem dX7_status_45 : decode cX7_status 45 = .ok (.invokevirtual 63, 3) := by decide +kernel
theorem dX7_status_48 : decode cX7_status 48 = .ok (.ireturn, 1) := by decide +kernel
theorem dX7_count_0 : decode cX7_count 0 = .ok (.iload_n 1, 1) := by decide +kernel
theorem dX7_count_1 : decode cX7_count 1 = .ok (.bipush 10, 2) := by decide +kernel
theorem dX7_count_3 : decode cX7_count 3 = .ok (.invokestatic 59, 3) := by decide +kernel
theorem dX7_count_6 : decode cX7_count 6 = .ok (.ifCond .eq 11, 3) := by decide +kernel
theorem dX7_count_9 : decode cX7_count 9 = .ok (.aload_n 0, 1) := by decide +kernel
theorem dX7_count_10 : decode cX7_count 10 = .ok (.iload_n 1, 1) := by decide +kernel
theorem dX7_count_11 : decode cX7_count 11 = .ok (.invokevirtual 273, 3) := by decide +kernel
theorem dX7_count_14 : decode cX7_count 14 = .ok (.goto 9, 3) := by decide +kernel
theorem dX7_count_17 : decode cX7_count 17 = .ok (.aload_n 0, 1) := by decide +kernel
theorem dX7_count_18 : decode cX7_count 18 = .ok (.bipush (-2), 2) := by decide +kernel
theorem dX7_count_20 : decode cX7_count 20 = .ok (.invokevirtual 63, 3) := by decide +kernel
theorem dX7_count_23 : decode cX7_count 23 = .ok (.ireturn, 1) := by decide +kernel
theorem dX7_digest_0 : decode cX7_digest 0 = .ok (.ldc2_w 276, 3) := by decide +kernel
theorem dX7_digest_3 : decode cX7_digest 3 = .ok (.lstore_n 1, 1) := by decide +kernel
theorem dX7_digest_4 : decode cX7_digest 4 = .ok (.iconst 0, 1) := by decide +kernel
theorem dX7_digest_5 : decode cX7_digest 5 = .ok (.istore_n 3, 1) := by decide +kernel
theorem dX7_digest_6 : decode cX7_digest 6 = .ok (.iload_n 3, 1) := by decide +kernel
theorem dX7_digest_7 : decode cX7_digest 7 = .ok (.bipush 10, 2) := by decide +kernel
theorem dX7_digest_9 : decode cX7_digest 9 = .ok (.if_icmp .ge 22, 3) := by decide +kernel
theorem dX7_digest_12 : decode cX7_digest 12 = .ok (.ldc2_w 278, 3) := by decide +kernel
theorem dX7_digest_15 : decode cX7_digest 15 = .ok (.lload_n 1, 1) := by decide +kernel
theorem dX7_digest_16 : decode cX7_digest 16 = .ok (.lmul, 1) := by decide +kernel
theorem dX7_digest_17 : decode cX7_digest 17 = .ok (.aload_n 0, 1) := by decide +kernel
theorem dX7_digest_18 : decode cX7_digest 18 = .ok (.iload_n 3, 1) := by decide +kernel
theorem dX7_digest_19 : decode cX7_digest 19 = .ok (.invokevirtual 273, 3) := by decide +kernel
theorem dX7_digest_22 : decode cX7_digest 22 = .ok (.i2l, 1) := by decide +kernel
theorem dX7_digest_23 : decode cX7_digest 23 = .ok (.ladd, 1) := by decide +kernel
theorem dX7_digest_24 : decode cX7_digest 24 = .ok (.lstore_n 1, 1) := by decide +kernel
theorem dX7_digest_25 : decode cX7_digest 25 = .ok (.iinc 3 1, 3) := by decide +kernel
theorem dX7_digest_28 : decode cX7_digest 28 = .ok (.goto (-22), 3) := by decide +kernel
theorem dX7_digest_31 : decode cX7_digest 31 = .ok (.aload_n 0, 1) := by decide +kernel
theorem dX7_digest_32 : decode cX7_digest 32 = .ok (.getfield 10, 3) := by decide +kernel
theorem dX7_digest_35 : decode cX7_digest 35 = .ok (.lload_n 1, 1) := by decide +kernel
theorem dX7_digest_36 : decode cX7_digest 36 = .ok (.invokevirtual 280, 3) := by decide +kernel
theorem dX7_digest_39 : decode cX7_digest 39 = .ok (.lstore_n 1, 1) := by decide +kernel
theorem dX7_digest_40 : decode cX7_digest 40 = .ok (.ldc2_w 278, 3) := by decide +kernel
theorem dX7_digest_43 : decode cX7_digest 43 = .ok (.lload_n 1, 1) := by decide +kernel
theorem dX7_digest_44 : decode cX7_digest 44 = .ok (.lmul, 1) := by decide +kernel
theorem dX7_digest_45 : decode cX7_digest 45 = .ok (.aload_n 0, 1) := by decide +kernel
theorem dX7_digest_46 : decode cX7_digest 46 = .ok (.getfield 261, 3) := by decide +kernel
theorem dX7_digest_49 : decode cX7_digest 49 = .ok (.ladd, 1) := by decide +kernel
theorem dX7_digest_50 : decode cX7_digest 50 = .ok (.lstore_n 1, 1) := by decide +kernel
theorem dX7_digest_51 : decode cX7_digest 51 = .ok (.ldc2_w 278, 3) := by decide +kernel
theorem dX7_digest_54 : decode cX7_digest 54 = .ok (.lload_n 1, 1) := by decide +kernel
theorem dX7_digest_55 : decode cX7_digest 55 = .ok (.lmul, 1) := by decide +kernel
theorem dX7_digest_56 : decode cX7_digest 56 = .ok (.aload_n 0, 1) := by decide +kernel
theorem dX7_digest_57 : decode cX7_digest 57 = .ok (.getfield 48, 3) := by decide +kernel
