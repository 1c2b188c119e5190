theorem dX3_init_0 : decode cX3_init 0 = .ok (.aload_n 0, 1) := by decide +kernel
theorem dX3_init_1 : decode cX3_init 1 = .ok (.invokespecial 3, 3) := by decide +kernel
theorem dX3_init_4 : decode cX3_init 4 = .ok (.aload_n 0, 1) := by decide +kernel
theorem dX3_init_5 : decode cX3_init 5 = .ok (.sipush 128, 3) := by decide +kernel
theorem dX3_init_8 : decode cX3_init 8 = .ok (.newarray .int, 2) := by decide +kernel
theorem dX3_init_10 : decode cX3_init 10 = .ok (.putfield 11, 3) := by decide +kernel
theorem dX3_init_13 : decode cX3_init 13 = .ok (.return_, 1) := by decide +kernel
theorem dX3_prepare_0 : decode cX3_prepare 0 = .ok (.aload_n 0, 1) := by decide +kernel
theorem dX3_prepare_1 : decode cX3_prepare 1 = .ok (.aload_n 1, 1) := by decide +kernel
theorem dX3_prepare_2 : decode cX3_prepare 2 = .ok (.invokestatic 15, 3) := by decide +kernel
theorem dX3_prepare_5 : decode cX3_prepare 5 = .ok (.putfield 19, 3) := by decide +kernel
theorem dX3_prepare_8 : decode cX3_prepare 8 = .ok (.bipush 127, 2) := by decide +kernel
theorem dX3_prepare_10 : decode cX3_prepare 10 = .ok (.istore_n 2, 1) := by decide +kernel
theorem dX3_prepare_11 : decode cX3_prepare 11 = .ok (.iload_n 2, 1) := by decide +kernel
theorem dX3_prepare_12 : decode cX3_prepare 12 = .ok (.ifCond .lt 32, 3) := by decide +kernel
theorem dX3_prepare_15 : decode cX3_prepare 15 = .ok (.iload_n 2, 1) := by decide +kernel
theorem dX3_prepare_16 : decode cX3_prepare 16 = .ok (.aload_n 0, 1) := by decide +kernel
theorem dX3_prepare_17 : decode cX3_prepare 17 = .ok (.getfield 19, 3) := by decide +kernel
theorem dX3_prepare_20 : decode cX3_prepare 20 = .ok (.iconst (-1), 1) := by decide +kernel
theorem dX3_prepare_21 : decode cX3_prepare 21 = .ok (.ixor, 1) := by decide +kernel
theorem dX3_prepare_22 : decode cX3_prepare 22 = .ok (.iand, 1) := by decide +kernel
theorem dX3_prepare_23 : decode cX3_prepare 23 = .ok (.ifCond .ne 15, 3) := by decide +kernel
theorem dX3_prepare_26 : decode cX3_prepare 26 = .ok (.aload_n 0, 1) := by decide +kernel
theorem dX3_prepare_27 : decode cX3_prepare 27 = .ok (.getfield 11, 3) := by decide +kernel
theorem dX3_prepare_30 : decode cX3_prepare 30 = .ok (.iload_n 2, 1) := by decide +kernel
theorem dX3_prepare_31 : decode cX3_prepare 31 = .ok (.aload_n 0, 1) := by decide +kernel
theorem dX3_prepare_32 : decode cX3_prepare 32 = .ok (.aload_n 1, 1) := by decide +kernel
theorem dX3_prepare_33 : decode cX3_prepare 33 = .ok (.iload_n 2, 1) := by decide +kernel
theorem dX3_prepare_34 : decode cX3_prepare 34 = .ok (.invokevirtual 23, 3) := by decide +kernel
theorem dX3_prepare_37 : decode cX3_prepare 37 = .ok (.iastore, 1) := by decide +kernel
theorem dX3_prepare_38 : decode cX3_prepare 38 = .ok (.iinc 2 (-1), 3) := by decide +kernel
theorem dX3_prepare_41 : decode cX3_prepare 41 = .ok (.goto (-30), 3) := by decide +kernel
theorem dX3_prepare_44 : decode cX3_prepare 44 = .ok (.return_, 1) := by decide +kernel
theorem dX3_size_0 : decode cX3_size 0 = .ok (.aload_n 0, 1) := by decide +kernel
theorem dX3_size_1 : decode cX3_size 1 = .ok (.getfield 19, 3) := by decide +kernel
theorem dX3_size_4 : decode cX3_size 4 = .ok (.invokestatic 27, 3) := by decide +kernel
theorem dX3_size_7 : decode cX3_size 7 = .ok (.ireturn, 1) := by decide +kernel
theorem dX3_leastFuss_0 : decode cX3_leastFuss 0 = .ok (.aload_n 0, 1) := by decide +kernel
theorem dX3_leastFuss_1 : decode cX3_leastFuss 1 = .ok (.getfield 11, 3) := by decide +kernel
theorem dX3_leastFuss_4 : decode cX3_leastFuss 4 = .ok (.iconst 0, 1) := by decide +kernel
theorem dX3_leastFuss_5 : decode cX3_leastFuss 5 = .ok (.iaload, 1) := by decide +kernel
theorem dX3_leastFuss_6 : decode cX3_leastFuss 6 = .ok (.ireturn, 1) := by decide +kernel
theorem dX3_whoComes_0 : decode cX3_whoComes 0 = .ok (.iconst 0, 1) := by decide +kernel
theorem dX3_whoComes_1 : decode cX3_whoComes 1 = .ok (.istore_n 3, 1) := by decide +kernel
theorem dX3_whoComes_2 : decode cX3_whoComes 2 = .ok (.iconst (-1), 1) := by decide +kernel
theorem dX3_whoComes_3 : decode cX3_whoComes 3 = .ok (.istore 4, 2) := by decide +kernel
theorem dX3_whoComes_5 : decode cX3_whoComes 5 = .ok (.iconst 0, 1) := by decide +kernel
theorem dX3_whoComes_6 : decode cX3_whoComes 6 = .ok (.istore 5, 2) := by decide +kernel
theorem dX3_whoComes_8 : decode cX3_whoComes 8 = .ok (.iload 5, 2) := by decide +kernel
theorem dX3_whoComes_10 : decode cX3_whoComes 10 = .ok (.iload_n 2, 1) := by decide +kernel
theorem dX3_whoComes_11 : decode cX3_whoComes 11 = .ok (.if_icmp .gt 39, 3) := by decide +kernel
theorem dX3_whoComes_14 : decode cX3_whoComes 14 = .ok (.iload 5, 2) := by decide +kernel
theorem dX3_whoComes_16 : decode cX3_whoComes 16 = .ok (.bipush 7, 2) := by decide +kernel
theorem dX3_whoComes_18 : decode cX3_whoComes 18 = .ok (.if_icmp .ge 32, 3) := by decide +kernel
theorem dX3_whoComes_21 : decode cX3_whoComes 21 = .ok (.aload_n 0, 1) := by decide +kernel
theorem dX3_whoComes_22 : decode cX3_whoComes 22 = .ok (.aload_n 1, 1) := by decide +kernel
theorem dX3_whoComes_23 : decode cX3_whoComes 23 = .ok (.iload_n 3, 1) := by decide +kernel
theorem dX3_whoComes_24 : decode cX3_whoComes 24 = .ok (.invokevirtual 33, 3) := by decide +kernel
theorem dX3_whoComes_27 : decode cX3_whoComes 27 = .ok (.istore 4, 2) := by decide +kernel
theorem dX3_whoComes_29 : decode cX3_whoComes 29 = .ok (.iload 4, 2) := by decide +kernel
theorem dX3_whoComes_31 : decode cX3_whoComes 31 = .ok (.iconst (-1), 1) := by decide +kernel
theorem dX3_whoComes_32 : decode cX3_whoComes 32 = .ok (.if_icmp .ne 5, 3) := by decide +kernel
theorem dX3_whoComes_35 : decode cX3_whoComes 35 = .ok (.iconst (-1), 1) := by decide +kernel
theorem dX3_whoComes_36 : decode cX3_whoComes 36 = .ok (.ireturn, 1) := by decide +kernel
theorem dX3_whoComes_37 : decode cX3_whoComes 37 = .ok (.iload_n 3, 1) := by decide +kernel
theorem dX3_whoComes_38 : decode cX3_whoComes 38 = .ok (.iconst 1, 1) := by decide +kernel
theorem dX3_whoComes_39 : decode cX3_whoComes 39 = .ok (.iload 4, 2) := by decide +kernel
theorem dX3_whoComes_41 : decode cX3_whoComes 41 = .ok (.ishl, 1) := by decide +kernel
theorem dX3_whoComes_42 : decode cX3_whoComes 42 = .ok (.ior, 1) := by decide +kernel
theorem dX3_whoComes_43 : decode cX3_whoComes 43 = .ok (.istore_n 3, 1) := by decide +kernel
theorem dX3_whoComes_44 : decode cX3_whoComes 44 = .ok (.iinc 5 1, 3) := by decide +kernel
theorem dX3_whoComes_47 : decode cX3_whoComes 47 = .ok (.goto (-39), 3) := by decide +kernel
theorem dX3_whoComes_50 : decode cX3_whoComes 50 = .ok (.iload 4, 2) := by decide +kernel
theorem dX3_whoComes_52 : decode cX3_whoComes 52 = .ok (.ireturn, 1) := by decide +kernel
theorem dX3_whoCanCome_0 : decode cX3_whoCanCome 0 = .ok (.iconst 0, 1) := by decide +kernel
theorem dX3_whoCanCome_1 : decode cX3_whoCanCome 1 = .ok (.istore_n 1, 1) := by decide +kernel
theorem dX3_whoCanCome_2 : decode cX3_whoCanCome 2 = .ok (.iconst 0, 1) := by decide +kernel
theorem dX3_whoCanCome_3 : decode cX3_whoCanCome 3 = .ok (.istore_n 2, 1) := by decide +kernel
theorem dX3_whoCanCome_4 : decode cX3_whoCanCome 4 = .ok (.iload_n 2, 1) := by decide +kernel
theorem dX3_whoCanCome_5 : decode cX3_whoCanCome 5 = .ok (.aload_n 0, 1) := by decide +kernel
theorem dX3_whoCanCome_6 : decode cX3_whoCanCome 6 = .ok (.getfield 36, 3) := by decide +kernel
theorem dX3_whoCanCome_9 : decode cX3_whoCanCome 9 = .ok (.if_icmp .ge 50, 3) := by decide +kernel
theorem dX3_whoCanCome_12 : decode cX3_whoCanCome 12 = .ok (.aload_n 0, 1) := by decide +kernel
theorem dX3_whoCanCome_13 : decode cX3_whoCanCome 13 = .ok (.iload_n 2, 1) := by decide +kernel
theorem dX3_whoCanCome_14 : decode cX3_whoCanCome 14 = .ok (.invokevirtual 41, 3) := by decide +kernel
theorem dX3_whoCanCome_17 : decode cX3_whoCanCome 17 = .ok (.ifCond .ne 36, 3) := by decide +kernel
theorem dX3_whoCanCome_20 : decode cX3_whoCanCome 20 = .ok (.aload_n 0, 1) := by decide +kernel
theorem dX3_whoCanCome_21 : decode cX3_whoCanCome 21 = .ok (.aload_n 0, 1) := by decide +kernel
theorem dX3_whoCanCome_22 : decode cX3_whoCanCome 22 = .ok (.getfield 45, 3) := by decide +kernel
theorem dX3_whoCanCome_25 : decode cX3_whoCanCome 25 = .ok (.iload_n 2, 1) := by decide +kernel
theorem dX3_whoCanCome_26 : decode cX3_whoCanCome 26 = .ok (.iaload, 1) := by decide +kernel
theorem dX3_whoCanCome_27 : decode cX3_whoCanCome 27 = .ok (.invokevirtual 48, 3) := by decide +kernel
theorem dX3_whoCanCome_30 : decode cX3_whoCanCome 30 = .ok (.ifCond .eq 23, 3) := by decide +kernel
theorem dX3_whoCanCome_33 : decode cX3_whoCanCome 33 = .ok (.aload_n 0, 1) := by decide +kernel
theorem dX3_whoCanCome_34 : decode cX3_whoCanCome 34 = .ok (.iload_n 1, 1) := by decide +kernel
theorem dX3_whoCanCome_35 : decode cX3_whoCanCome 35 = .ok (.aload_n 0, 1) := by decide +kernel
theorem dX3_whoCanCome_36 : decode cX3_whoCanCome 36 = .ok (.getfield 45, 3) := by decide +kernel
theorem dX3_whoCanCome_39 : decode cX3_whoCanCome 39 = .ok (.iload_n 2, 1) := by decide +kernel
theorem dX3_whoCanCome_40 : decode cX3_whoCanCome 40 = .ok (.iaload, 1) := by decide +kernel
theorem dX3_whoCanCome_41 : decode cX3_whoCanCome 41 = .ok (.invokestatic 51, 3) := by decide +kernel
theorem dX3_whoCanCome_44 : decode cX3_whoCanCome 44 = .ok (.ifCond .ne 9, 3) := by decide +kernel
theorem dX3_whoCanCome_47 : decode cX3_whoCanCome 47 = .ok (.iload_n 1, 1) := by decide +kernel
theorem dX3_whoCanCome_48 : decode cX3_whoCanCome 48 = .ok (.iconst 1, 1) := by decide +kernel
theorem dX3_whoCanCome_49 : decode cX3_whoCanCome 49 = .ok (.iload_n 2, 1) := by decide +kernel
theorem dX3_whoCanCome_50 : decode cX3_whoCanCome 50 = .ok (.ishl, 1) := by decide +kernel
theorem dX3_whoCanCome_51 : decode cX3_whoCanCome 51 = .ok (.ior, 1) := by decide +kernel
theorem dX3_whoCanCome_52 : decode cX3_whoCanCome 52 = .ok (.istore_n 1, 1) := by decide +kernel
theorem dX3_whoCanCome_53 : decode cX3_whoCanCome 53 = .ok (.iinc 2 1, 3) := by decide +kernel
theorem dX3_whoCanCome_56 : decode cX3_whoCanCome 56 = .ok (.goto (-52), 3) := by decide +kernel
theorem dX3_whoCanCome_59 : decode cX3_whoCanCome 59 = .ok (.iload_n 1, 1) := by decide +kernel
theorem dX3_whoCanCome_60 : decode cX3_whoCanCome 60 = .ok (.ireturn, 1) := by decide +kernel
theorem dX3_hasStub_0 : decode cX3_hasStub 0 = .ok (.iconst 0, 1) := by decide +kernel
theorem dX3_hasStub_1 : decode cX3_hasStub 1 = .ok (.istore_n 3, 1) := by decide +kernel
theorem dX3_hasStub_2 : decode cX3_hasStub 2 = .ok (.iload_n 3, 1) := by decide +kernel
theorem dX3_hasStub_3 : decode cX3_hasStub 3 = .ok (.aload_n 0, 1) := by decide +kernel
theorem dX3_hasStub_4 : decode cX3_hasStub 4 = .ok (.getfield 36, 3) := by decide +kernel
theorem dX3_hasStub_7 : decode cX3_hasStub 7 = .ok (.if_icmp .ge 29, 3) := by decide +kernel
theorem dX3_hasStub_10 : decode cX3_hasStub 10 = .ok (.iload_n 1, 1) := by decide +kernel
theorem dX3_hasStub_11 : decode cX3_hasStub 11 = .ok (.iload_n 3, 1) := by decide +kernel
theorem dX3_hasStub_12 : decode cX3_hasStub 12 = .ok (.invokestatic 55, 3) := by decide +kernel
theorem dX3_hasStub_15 : decode cX3_hasStub 15 = .ok (.ifCond .eq 15, 3) := by decide +kernel
theorem dX3_hasStub_18 : decode cX3_hasStub 18 = .ok (.aload_n 0, 1) := by decide +kernel
theorem dX3_hasStub_19 : decode cX3_hasStub 19 = .ok (.getfield 45, 3) := by decide +kernel
theorem dX3_hasStub_22 : decode cX3_hasStub 22 = .ok (.iload_n 3, 1) := by decide +kernel
theorem dX3_hasStub_23 : decode cX3_hasStub 23 = .ok (.iaload, 1) := by decide +kernel
theorem dX3_hasStub_24 : decode cX3_hasStub 24 = .ok (.iload_n 2, 1) := by decide +kernel
theorem dX3_hasStub_25 : decode cX3_hasStub 25 = .ok (.if_icmp .ne 5, 3) := by decide +kernel
theorem dX3_hasStub_28 : decode cX3_hasStub 28 = .ok (.iconst 1, 1) := by decide +kernel
theorem dX3_hasStub_29 : decode cX3_hasStub 29 = .ok (.ireturn, 1) := by decide +kernel
theorem dX3_hasStub_30 : decode cX3_hasStub 30 = .ok (.iinc 3 1, 3) := by decide +kernel
theorem dX3_hasStub_33 : decode cX3_hasStub 33 = .ok (.goto (-31), 3) := by decide +kernel
theorem dX3_hasStub_36 : decode cX3_hasStub 36 = .ok (.iconst 0, 1) := by decide +kernel
theorem dX3_hasStub_37 : decode cX3_hasStub 37 = .ok (.ireturn, 1) := by decide +kernel
theorem dX3_leastBehind_0 : decode cX3_leastBehind 0 = .ok (.iload_n 2, 1) := by decide +kernel
theorem dX3_leastBehind_1 : decode cX3_leastBehind 1 = .ok (.aload_n 0, 1) := by decide +kernel
theorem dX3_leastBehind_2 : decode cX3_leastBehind 2 = .ok (.getfield 19, 3) := by decide +kernel
theorem dX3_leastBehind_5 : decode cX3_leastBehind 5 = .ok (.if_icmp .ne 7, 3) := by decide +kernel
theorem dX3_leastBehind_8 : decode cX3_leastBehind 8 = .ok (.iconst 0, 1) := by decide +kernel
theorem dX3_leastBehind_9 : decode cX3_leastBehind 9 = .ok (.goto 5, 3) := by decide +kernel
theorem dX3_leastBehind_12 : decode cX3_leastBehind 12 = .ok (.ldc 59, 2) := by decide +kernel
theorem dX3_leastBehind_14 : decode cX3_leastBehind 14 = .ok (.istore_n 3, 1) := by decide +kernel
theorem dX3_leastBehind_15 : decode cX3_leastBehind 15 = .ok (.iconst 0, 1) := by decide +kernel
theorem dX3_leastBehind_16 : decode cX3_leastBehind 16 = .ok (.istore 4, 2) := by decide +kernel
theorem dX3_leastBehind_18 : decode cX3_leastBehind 18 = .ok (.iload 4, 2) := by decide +kernel
theorem dX3_leastBehind_20 : decode cX3_leastBehind 20 = .ok (.aload_n 1, 1) := by decide +kernel
theorem dX3_leastBehind_21 : decode cX3_leastBehind 21 = .ok (.getfield 36, 3) := by decide +kernel
theorem dX3_leastBehind_24 : decode cX3_leastBehind 24 = .ok (.if_icmp .ge 38, 3) := by decide +kernel
theorem dX3_leastBehind_27 : decode cX3_leastBehind 27 = .ok (.aload_n 0, 1) := by decide +kernel
theorem dX3_leastBehind_28 : decode cX3_leastBehind 28 = .ok (.getfield 19, 3) := by decide +kernel
theorem dX3_leastBehind_31 : decode cX3_leastBehind 31 = .ok (.iload_n 2, 1) := by decide +kernel
theorem dX3_leastBehind_32 : decode cX3_leastBehind 32 = .ok (.iconst (-1), 1) := by decide +kernel
theorem dX3_leastBehind_33 : decode cX3_leastBehind 33 = .ok (.ixor, 1) := by decide +kernel
theorem dX3_leastBehind_34 : decode cX3_leastBehind 34 = .ok (.iand, 1) := by decide +kernel
theorem dX3_leastBehind_35 : decode cX3_leastBehind 35 = .ok (.iload 4, 2) := by decide +kernel
theorem dX3_leastBehind_37 : decode cX3_leastBehind 37 = .ok (.invokestatic 55, 3) := by decide +kernel
theorem dX3_leastBehind_40 : decode cX3_leastBehind 40 = .ok (.ifCond .eq 16, 3) := by decide +kernel
theorem dX3_leastBehind_43 : decode cX3_leastBehind 43 = .ok (.iload_n 3, 1) := by decide +kernel
theorem dX3_leastBehind_44 : decode cX3_leastBehind 44 = .ok (.aload_n 0, 1) := by decide +kernel
theorem dX3_leastBehind_45 : decode cX3_leastBehind 45 = .ok (.aload_n 1, 1) := by decide +kernel
theorem dX3_leastBehind_46 : decode cX3_leastBehind 46 = .ok (.iload_n 2, 1) := by decide +kernel
theorem dX3_leastBehind_47 : decode cX3_leastBehind 47 = .ok (.iload 4, 2) := by decide +kernel
theorem dX3_leastBehind_49 : decode cX3_leastBehind 49 = .ok (.invokevirtual 60, 3) := by decide +kernel
theorem dX3_leastBehind_52 : decode cX3_leastBehind 52 = .ok (.invokestatic 64, 3) := by decide +kernel
theorem dX3_leastBehind_55 : decode cX3_leastBehind 55 = .ok (.istore_n 3, 1) := by decide +kernel
theorem dX3_leastBehind_56 : decode cX3_leastBehind 56 = .ok (.iinc 4 1, 3) := by decide +kernel
theorem dX3_leastBehind_59 : decode cX3_leastBehind 59 = .ok (.goto (-41), 3) := by decide +kernel
theorem dX3_leastBehind_62 : decode cX3_leastBehind 62 = .ok (.iload_n 3, 1) := by decide +kernel
theorem dX3_leastBehind_63 : decode cX3_leastBehind 63 = .ok (.ireturn, 1) := by decide +kernel
theorem dX3_nextOf_0 : decode cX3_nextOf 0 = .ok (.iconst 0, 1) := by decide +kernel
theorem dX3_nextOf_1 : decode cX3_nextOf 1 = .ok (.istore_n 3, 1) := by decide +kernel
theorem dX3_nextOf_2 : decode cX3_nextOf 2 = .ok (.iload_n 3, 1) := by decide +kernel
theorem dX3_nextOf_3 : decode cX3_nextOf 3 = .ok (.aload_n 1, 1) := by decide +kernel
theorem dX3_nextOf_4 : decode cX3_nextOf 4 = .ok (.getfield 36, 3) := by decide +kernel
theorem dX3_nextOf_7 : decode cX3_nextOf 7 = .ok (.if_icmp .ge 42, 3) := by decide +kernel
theorem dX3_nextOf_10 : decode cX3_nextOf 10 = .ok (.aload_n 0, 1) := by decide +kernel
theorem dX3_nextOf_11 : decode cX3_nextOf 11 = .ok (.getfield 19, 3) := by decide +kernel
theorem dX3_nextOf_14 : decode cX3_nextOf 14 = .ok (.iload_n 2, 1) := by decide +kernel
theorem dX3_nextOf_15 : decode cX3_nextOf 15 = .ok (.iconst (-1), 1) := by decide +kernel
theorem dX3_nextOf_16 : decode cX3_nextOf 16 = .ok (.ixor, 1) := by decide +kernel
theorem dX3_nextOf_17 : decode cX3_nextOf 17 = .ok (.iand, 1) := by decide +kernel
theorem dX3_nextOf_18 : decode cX3_nextOf 18 = .ok (.iload_n 3, 1) := by decide +kernel
theorem dX3_nextOf_19 : decode cX3_nextOf 19 = .ok (.invokestatic 55, 3) := by decide +kernel
theorem dX3_nextOf_22 : decode cX3_nextOf 22 = .ok (.ifCond .eq 21, 3) := by decide +kernel
theorem dX3_nextOf_25 : decode cX3_nextOf 25 = .ok (.aload_n 0, 1) := by decide +kernel
theorem dX3_nextOf_26 : decode cX3_nextOf 26 = .ok (.aload_n 1, 1) := by decide +kernel
theorem dX3_nextOf_27 : decode cX3_nextOf 27 = .ok (.iload_n 2, 1) := by decide +kernel
theorem dX3_nextOf_28 : decode cX3_nextOf 28 = .ok (.iload_n 3, 1) := by decide +kernel
theorem dX3_nextOf_29 : decode cX3_nextOf 29 = .ok (.invokevirtual 60, 3) := by decide +kernel
theorem dX3_nextOf_32 : decode cX3_nextOf 32 = .ok (.aload_n 0, 1) := by decide +kernel
theorem dX3_nextOf_33 : decode cX3_nextOf 33 = .ok (.getfield 11, 3) := by decide +kernel
theorem dX3_nextOf_36 : decode cX3_nextOf 36 = .ok (.iload_n 2, 1) := by decide +kernel
theorem dX3_nextOf_37 : decode cX3_nextOf 37 = .ok (.iaload, 1) := by decide +kernel
theorem dX3_nextOf_38 : decode cX3_nextOf 38 = .ok (.if_icmp .ne 5, 3) := by decide +kernel
theorem dX3_nextOf_41 : decode cX3_nextOf 41 = .ok (.iload_n 3, 1) := by decide +kernel
theorem dX3_nextOf_42 : decode cX3_nextOf 42 = .ok (.ireturn, 1) := by decide +kernel
theorem dX3_nextOf_43 : decode cX3_nextOf 43 = .ok (.iinc 3 1, 3) := by decide +kernel
theorem dX3_nextOf_46 : decode cX3_nextOf 46 = .ok (.goto (-44), 3) := by decide +kernel
theorem dX3_nextOf_49 : decode cX3_nextOf 49 = .ok (.iconst (-1), 1) := by decide +kernel
theorem dX3_nextOf_50 : decode cX3_nextOf 50 = .ok (.ireturn, 1) := by decide +kernel
theorem dX3_fussByWay_0 : decode cX3_fussByWay 0 = .ok (.aload_n 1, 1) := by decide +kernel
theorem dX3_fussByWay_1 : decode cX3_fussByWay 1 = .ok (.aload_n 1, 1) := by decide +kernel
theorem dX3_fussByWay_2 : decode cX3_fussByWay 2 = .ok (.getfield 45, 3) := by decide +kernel
theorem dX3_fussByWay_5 : decode cX3_fussByWay 5 = .ok (.iload_n 3, 1) := by decide +kernel
theorem dX3_fussByWay_6 : decode cX3_fussByWay 6 = .ok (.iaload, 1) := by decide +kernel
theorem dX3_fussByWay_7 : decode cX3_fussByWay 7 = .ok (.invokevirtual 70, 3) := by decide +kernel
theorem dX3_fussByWay_10 : decode cX3_fussByWay 10 = .ok (.aload_n 1, 1) := by decide +kernel
theorem dX3_fussByWay_11 : decode cX3_fussByWay 11 = .ok (.iload_n 2, 1) := by decide +kernel
theorem dX3_fussByWay_12 : decode cX3_fussByWay 12 = .ok (.aload_n 1, 1) := by decide +kernel
theorem dX3_fussByWay_13 : decode cX3_fussByWay 13 = .ok (.getfield 45, 3) := by decide +kernel
theorem dX3_fussByWay_16 : decode cX3_fussByWay 16 = .ok (.iload_n 3, 1) := by decide +kernel
theorem dX3_fussByWay_17 : decode cX3_fussByWay 17 = .ok (.iaload, 1) := by decide +kernel
theorem dX3_fussByWay_18 : decode cX3_fussByWay 18 = .ok (.invokestatic 73, 3) := by decide +kernel
theorem dX3_fussByWay_21 : decode cX3_fussByWay 21 = .ok (.iadd, 1) := by decide +kernel
theorem dX3_fussByWay_22 : decode cX3_fussByWay 22 = .ok (.istore 4, 2) := by decide +kernel
theorem dX3_fussByWay_24 : decode cX3_fussByWay 24 = .ok (.aload_n 1, 1) := by decide +kernel
theorem dX3_fussByWay_25 : decode cX3_fussByWay 25 = .ok (.getfield 76, 3) := by decide +kernel
theorem dX3_fussByWay_28 : decode cX3_fussByWay 28 = .ok (.iload_n 3, 1) := by decide +kernel
theorem dX3_fussByWay_29 : decode cX3_fussByWay 29 = .ok (.iaload, 1) := by decide +kernel
theorem dX3_fussByWay_30 : decode cX3_fussByWay 30 = .ok (.iload 4, 2) := by decide +kernel
theorem dX3_fussByWay_32 : decode cX3_fussByWay 32 = .ok (.aload_n 1, 1) := by decide +kernel
theorem dX3_fussByWay_33 : decode cX3_fussByWay 33 = .ok (.getfield 79, 3) := by decide +kernel
theorem dX3_fussByWay_36 : decode cX3_fussByWay 36 = .ok (.iload_n 2, 1) := by decide +kernel
theorem dX3_fussByWay_37 : decode cX3_fussByWay 37 = .ok (.invokestatic 27, 3) := by decide +kernel
theorem dX3_fussByWay_40 : decode cX3_fussByWay 40 = .ok (.iadd, 1) := by decide +kernel
theorem dX3_fussByWay_41 : decode cX3_fussByWay 41 = .ok (.invokestatic 82, 3) := by decide +kernel
theorem dX3_fussByWay_44 : decode cX3_fussByWay 44 = .ok (.istore 5, 2) := by decide +kernel
theorem dX3_fussByWay_46 : decode cX3_fussByWay 46 = .ok (.iload 5, 2) := by decide +kernel
theorem dX3_fussByWay_48 : decode cX3_fussByWay 48 = .ok (.aload_n 0, 1) := by decide +kernel
theorem dX3_fussByWay_49 : decode cX3_fussByWay 49 = .ok (.getfield 11, 3) := by decide +kernel
theorem dX3_fussByWay_52 : decode cX3_fussByWay 52 = .ok (.iload_n 2, 1) := by decide +kernel
theorem dX3_fussByWay_53 : decode cX3_fussByWay 53 = .ok (.iconst 1, 1) := by decide +kernel
theorem dX3_fussByWay_54 : decode cX3_fussByWay 54 = .ok (.iload_n 3, 1) := by decide +kernel
theorem dX3_fussByWay_55 : decode cX3_fussByWay 55 = .ok (.ishl, 1) := by decide +kernel
theorem dX3_fussByWay_56 : decode cX3_fussByWay 56 = .ok (.ior, 1) := by decide +kernel
theorem dX3_fussByWay_57 : decode cX3_fussByWay 57 = .ok (.iaload, 1) := by decide +kernel
theorem dX3_fussByWay_58 : decode cX3_fussByWay 58 = .ok (.iadd, 1) := by decide +kernel
theorem dX3_fussByWay_59 : decode cX3_fussByWay 59 = .ok (.ireturn, 1) := by decide +kernel
theorem dX3_kneesOf_0 : decode cX3_kneesOf 0 = .ok (.iload_n 2, 1) := by decide +kernel
theorem dX3_kneesOf_1 : decode cX3_kneesOf 1 = .ok (.iload_n 2, 1) := by decide +kernel
theorem dX3_kneesOf_2 : decode cX3_kneesOf 2 = .ok (.bipush 6, 2) := by decide +kernel
theorem dX3_kneesOf_4 : decode cX3_kneesOf 4 = .ok (.irem, 1) := by decide +kernel
theorem dX3_kneesOf_5 : decode cX3_kneesOf 5 = .ok (.isub, 1) := by decide +kernel
theorem dX3_kneesOf_6 : decode cX3_kneesOf 6 = .ok (.istore_n 3, 1) := by decide +kernel
theorem dX3_kneesOf_7 : decode cX3_kneesOf 7 = .ok (.iconst 0, 1) := by decide +kernel
theorem dX3_kneesOf_8 : decode cX3_kneesOf 8 = .ok (.istore 4, 2) := by decide +kernel
theorem dX3_kneesOf_10 : decode cX3_kneesOf 10 = .ok (.iconst 0, 1) := by decide +kernel
theorem dX3_kneesOf_11 : decode cX3_kneesOf 11 = .ok (.istore 5, 2) := by decide +kernel
theorem dX3_kneesOf_13 : decode cX3_kneesOf 13 = .ok (.iload 5, 2) := by decide +kernel
theorem dX3_kneesOf_15 : decode cX3_kneesOf 15 = .ok (.aload_n 0, 1) := by decide +kernel
theorem dX3_kneesOf_16 : decode cX3_kneesOf 16 = .ok (.getfield 36, 3) := by decide +kernel
theorem dX3_kneesOf_19 : decode cX3_kneesOf 19 = .ok (.if_icmp .ge 43, 3) := by decide +kernel
theorem dX3_kneesOf_22 : decode cX3_kneesOf 22 = .ok (.iload_n 1, 1) := by decide +kernel
theorem dX3_kneesOf_23 : decode cX3_kneesOf 23 = .ok (.iload 5, 2) := by decide +kernel
theorem dX3_kneesOf_25 : decode cX3_kneesOf 25 = .ok (.invokestatic 55, 3) := by decide +kernel
theorem dX3_kneesOf_28 : decode cX3_kneesOf 28 = .ok (.ifCond .eq 28, 3) := by decide +kernel
theorem dX3_kneesOf_31 : decode cX3_kneesOf 31 = .ok (.aload_n 0, 1) := by decide +kernel
theorem dX3_kneesOf_32 : decode cX3_kneesOf 32 = .ok (.getfield 45, 3) := by decide +kernel
theorem dX3_kneesOf_35 : decode cX3_kneesOf 35 = .ok (.iload 5, 2) := by decide +kernel
theorem dX3_kneesOf_37 : decode cX3_kneesOf 37 = .ok (.iaload, 1) := by decide +kernel
theorem dX3_kneesOf_38 : decode cX3_kneesOf 38 = .ok (.iload_n 3, 1) := by decide +kernel
theorem dX3_kneesOf_39 : decode cX3_kneesOf 39 = .ok (.if_icmp .lt 17, 3) := by decide +kernel
theorem dX3_kneesOf_42 : decode cX3_kneesOf 42 = .ok (.aload_n 0, 1) := by decide +kernel
theorem dX3_kneesOf_43 : decode cX3_kneesOf 43 = .ok (.getfield 45, 3) := by decide +kernel
theorem dX3_kneesOf_46 : decode cX3_kneesOf 46 = .ok (.iload 5, 2) := by decide +kernel
theorem dX3_kneesOf_48 : decode cX3_kneesOf 48 = .ok (.iaload, 1) := by decide +kernel
theorem dX3_kneesOf_49 : decode cX3_kneesOf 49 = .ok (.iload_n 2, 1) := by decide +kernel
theorem dX3_kneesOf_50 : decode cX3_kneesOf 50 = .ok (.if_icmp .ge 6, 3) := by decide +kernel
theorem dX3_kneesOf_53 : decode cX3_kneesOf 53 = .ok (.iinc 4 1, 3) := by decide +kernel
theorem dX3_kneesOf_56 : decode cX3_kneesOf 56 = .ok (.iinc 5 1, 3) := by decide +kernel
theorem dX3_kneesOf_59 : decode cX3_kneesOf 59 = .ok (.goto (-46), 3) := by decide +kernel
theorem dX3_kneesOf_62 : decode cX3_kneesOf 62 = .ok (.iload 4, 2) := by decide +kernel
theorem dX3_kneesOf_64 : decode cX3_kneesOf 64 = .ok (.ireturn, 1) := by decide +kernel
