theorem dX2_fewestSwaps_0 : decode cX2_fewestSwaps 0 = .ok (.iconst 0, 1) := by decide +kernel
theorem dX2_fewestSwaps_1 : decode cX2_fewestSwaps 1 = .ok (.istore_n 1, 1) := by decide +kernel
theorem dX2_fewestSwaps_2 : decode cX2_fewestSwaps 2 = .ok (.iconst 0, 1) := by decide +kernel
theorem dX2_fewestSwaps_3 : decode cX2_fewestSwaps 3 = .ok (.istore_n 2, 1) := by decide +kernel
theorem dX2_fewestSwaps_4 : decode cX2_fewestSwaps 4 = .ok (.iload_n 2, 1) := by decide +kernel
theorem dX2_fewestSwaps_5 : decode cX2_fewestSwaps 5 = .ok (.aload_n 0, 1) := by decide +kernel
theorem dX2_fewestSwaps_6 : decode cX2_fewestSwaps 6 = .ok (.getfield 9, 3) := by decide +kernel
theorem dX2_fewestSwaps_9 : decode cX2_fewestSwaps 9 = .ok (.if_icmp .ge 48, 3) := by decide +kernel
theorem dX2_fewestSwaps_12 : decode cX2_fewestSwaps 12 = .ok (.aload_n 0, 1) := by decide +kernel
theorem dX2_fewestSwaps_13 : decode cX2_fewestSwaps 13 = .ok (.iload_n 2, 1) := by decide +kernel
theorem dX2_fewestSwaps_14 : decode cX2_fewestSwaps 14 = .ok (.invokestatic 15, 3) := by decide +kernel
theorem dX2_fewestSwaps_17 : decode cX2_fewestSwaps 17 = .ok (.ifCond .eq 34, 3) := by decide +kernel
theorem dX2_fewestSwaps_20 : decode cX2_fewestSwaps 20 = .ok (.aload_n 0, 1) := by decide +kernel
theorem dX2_fewestSwaps_21 : decode cX2_fewestSwaps 21 = .ok (.getfield 21, 3) := by decide +kernel
theorem dX2_fewestSwaps_24 : decode cX2_fewestSwaps 24 = .ok (.iload_n 2, 1) := by decide +kernel
theorem dX2_fewestSwaps_25 : decode cX2_fewestSwaps 25 = .ok (.iaload, 1) := by decide +kernel
theorem dX2_fewestSwaps_26 : decode cX2_fewestSwaps 26 = .ok (.aload_n 0, 1) := by decide +kernel
theorem dX2_fewestSwaps_27 : decode cX2_fewestSwaps 27 = .ok (.getfield 25, 3) := by decide +kernel
theorem dX2_fewestSwaps_30 : decode cX2_fewestSwaps 30 = .ok (.iload_n 2, 1) := by decide +kernel
theorem dX2_fewestSwaps_31 : decode cX2_fewestSwaps 31 = .ok (.iaload, 1) := by decide +kernel
theorem dX2_fewestSwaps_32 : decode cX2_fewestSwaps 32 = .ok (.if_icmp .eq 19, 3) := by decide +kernel
theorem dX2_fewestSwaps_35 : decode cX2_fewestSwaps 35 = .ok (.iload_n 1, 1) := by decide +kernel
theorem dX2_fewestSwaps_36 : decode cX2_fewestSwaps 36 = .ok (.aload_n 0, 1) := by decide +kernel
theorem dX2_fewestSwaps_37 : decode cX2_fewestSwaps 37 = .ok (.iload_n 2, 1) := by decide +kernel
theorem dX2_fewestSwaps_38 : decode cX2_fewestSwaps 38 = .ok (.invokestatic 28, 3) := by decide +kernel
theorem dX2_fewestSwaps_41 : decode cX2_fewestSwaps 41 = .ok (.ifCond .eq 7, 3) := by decide +kernel
theorem dX2_fewestSwaps_44 : decode cX2_fewestSwaps 44 = .ok (.iconst 0, 1) := by decide +kernel
theorem dX2_fewestSwaps_45 : decode cX2_fewestSwaps 45 = .ok (.goto 4, 3) := by decide +kernel
theorem dX2_fewestSwaps_48 : decode cX2_fewestSwaps 48 = .ok (.iconst 1, 1) := by decide +kernel
theorem dX2_fewestSwaps_49 : decode cX2_fewestSwaps 49 = .ok (.iadd, 1) := by decide +kernel
theorem dX2_fewestSwaps_50 : decode cX2_fewestSwaps 50 = .ok (.istore_n 1, 1) := by decide +kernel
theorem dX2_fewestSwaps_51 : decode cX2_fewestSwaps 51 = .ok (.iinc 2 1, 3) := by decide +kernel
theorem dX2_fewestSwaps_54 : decode cX2_fewestSwaps 54 = .ok (.goto (-50), 3) := by decide +kernel
theorem dX2_fewestSwaps_57 : decode cX2_fewestSwaps 57 = .ok (.iload_n 1, 1) := by decide +kernel
theorem dX2_fewestSwaps_58 : decode cX2_fewestSwaps 58 = .ok (.ireturn, 1) := by decide +kernel
theorem dX2_owns_0 : decode cX2_owns 0 = .ok (.aload_n 0, 1) := by decide +kernel
theorem dX2_owns_1 : decode cX2_owns 1 = .ok (.iload_n 1, 1) := by decide +kernel
theorem dX2_owns_2 : decode cX2_owns 2 = .ok (.invokevirtual 31, 3) := by decide +kernel
theorem dX2_owns_5 : decode cX2_owns 5 = .ok (.ifCond .ne 5, 3) := by decide +kernel
theorem dX2_owns_8 : decode cX2_owns 8 = .ok (.iconst 0, 1) := by decide +kernel
theorem dX2_owns_9 : decode cX2_owns 9 = .ok (.ireturn, 1) := by decide +kernel
theorem dX2_owns_10 : decode cX2_owns 10 = .ok (.iconst 0, 1) := by decide +kernel
theorem dX2_owns_11 : decode cX2_owns 11 = .ok (.istore_n 2, 1) := by decide +kernel
theorem dX2_owns_12 : decode cX2_owns 12 = .ok (.iload_n 2, 1) := by decide +kernel
theorem dX2_owns_13 : decode cX2_owns 13 = .ok (.iload_n 1, 1) := by decide +kernel
theorem dX2_owns_14 : decode cX2_owns 14 = .ok (.if_icmp .ge 34, 3) := by decide +kernel
theorem dX2_owns_17 : decode cX2_owns 17 = .ok (.aload_n 0, 1) := by decide +kernel
theorem dX2_owns_18 : decode cX2_owns 18 = .ok (.iload_n 2, 1) := by decide +kernel
theorem dX2_owns_19 : decode cX2_owns 19 = .ok (.invokevirtual 31, 3) := by decide +kernel
theorem dX2_owns_22 : decode cX2_owns 22 = .ok (.ifCond .eq 20, 3) := by decide +kernel
theorem dX2_owns_25 : decode cX2_owns 25 = .ok (.aload_n 0, 1) := by decide +kernel
theorem dX2_owns_26 : decode cX2_owns 26 = .ok (.getfield 25, 3) := by decide +kernel
theorem dX2_owns_29 : decode cX2_owns 29 = .ok (.iload_n 2, 1) := by decide +kernel
theorem dX2_owns_30 : decode cX2_owns 30 = .ok (.iaload, 1) := by decide +kernel
theorem dX2_owns_31 : decode cX2_owns 31 = .ok (.aload_n 0, 1) := by decide +kernel
theorem dX2_owns_32 : decode cX2_owns 32 = .ok (.getfield 25, 3) := by decide +kernel
theorem dX2_owns_35 : decode cX2_owns 35 = .ok (.iload_n 1, 1) := by decide +kernel
theorem dX2_owns_36 : decode cX2_owns 36 = .ok (.iaload, 1) := by decide +kernel
theorem dX2_owns_37 : decode cX2_owns 37 = .ok (.if_icmp .ne 5, 3) := by decide +kernel
theorem dX2_owns_40 : decode cX2_owns 40 = .ok (.iconst 0, 1) := by decide +kernel
theorem dX2_owns_41 : decode cX2_owns 41 = .ok (.ireturn, 1) := by decide +kernel
theorem dX2_owns_42 : decode cX2_owns 42 = .ok (.iinc 2 1, 3) := by decide +kernel
theorem dX2_owns_45 : decode cX2_owns 45 = .ok (.goto (-33), 3) := by decide +kernel
theorem dX2_owns_48 : decode cX2_owns 48 = .ok (.iconst 1, 1) := by decide +kernel
theorem dX2_owns_49 : decode cX2_owns 49 = .ok (.ireturn, 1) := by decide +kernel
theorem dX2_leadsRing_0 : decode cX2_leadsRing 0 = .ok (.iload_n 1, 1) := by decide +kernel
theorem dX2_leadsRing_1 : decode cX2_leadsRing 1 = .ok (.istore_n 2, 1) := by decide +kernel
theorem dX2_leadsRing_2 : decode cX2_leadsRing 2 = .ok (.iconst 0, 1) := by decide +kernel
theorem dX2_leadsRing_3 : decode cX2_leadsRing 3 = .ok (.istore_n 3, 1) := by decide +kernel
theorem dX2_leadsRing_4 : decode cX2_leadsRing 4 = .ok (.iload_n 3, 1) := by decide +kernel
theorem dX2_leadsRing_5 : decode cX2_leadsRing 5 = .ok (.bipush 7, 2) := by decide +kernel
theorem dX2_leadsRing_7 : decode cX2_leadsRing 7 = .ok (.if_icmp .ge 42, 3) := by decide +kernel
theorem dX2_leadsRing_10 : decode cX2_leadsRing 10 = .ok (.aload_n 0, 1) := by decide +kernel
theorem dX2_leadsRing_11 : decode cX2_leadsRing 11 = .ok (.aload_n 0, 1) := by decide +kernel
theorem dX2_leadsRing_12 : decode cX2_leadsRing 12 = .ok (.getfield 25, 3) := by decide +kernel
theorem dX2_leadsRing_15 : decode cX2_leadsRing 15 = .ok (.iload_n 2, 1) := by decide +kernel
theorem dX2_leadsRing_16 : decode cX2_leadsRing 16 = .ok (.iaload, 1) := by decide +kernel
theorem dX2_leadsRing_17 : decode cX2_leadsRing 17 = .ok (.invokevirtual 35, 3) := by decide +kernel
theorem dX2_leadsRing_20 : decode cX2_leadsRing 20 = .ok (.istore_n 2, 1) := by decide +kernel
theorem dX2_leadsRing_21 : decode cX2_leadsRing 21 = .ok (.iload_n 2, 1) := by decide +kernel
theorem dX2_leadsRing_22 : decode cX2_leadsRing 22 = .ok (.iload_n 1, 1) := by decide +kernel
theorem dX2_leadsRing_23 : decode cX2_leadsRing 23 = .ok (.if_icmp .ne 5, 3) := by decide +kernel
theorem dX2_leadsRing_26 : decode cX2_leadsRing 26 = .ok (.iconst 1, 1) := by decide +kernel
theorem dX2_leadsRing_27 : decode cX2_leadsRing 27 = .ok (.ireturn, 1) := by decide +kernel
theorem dX2_leadsRing_28 : decode cX2_leadsRing 28 = .ok (.iload_n 2, 1) := by decide +kernel
theorem dX2_leadsRing_29 : decode cX2_leadsRing 29 = .ok (.iload_n 1, 1) := by decide +kernel
theorem dX2_leadsRing_30 : decode cX2_leadsRing 30 = .ok (.if_icmp .lt 11, 3) := by decide +kernel
theorem dX2_leadsRing_33 : decode cX2_leadsRing 33 = .ok (.aload_n 0, 1) := by decide +kernel
theorem dX2_leadsRing_34 : decode cX2_leadsRing 34 = .ok (.iload_n 2, 1) := by decide +kernel
theorem dX2_leadsRing_35 : decode cX2_leadsRing 35 = .ok (.invokestatic 15, 3) := by decide +kernel
theorem dX2_leadsRing_38 : decode cX2_leadsRing 38 = .ok (.ifCond .ne 5, 3) := by decide +kernel
theorem dX2_leadsRing_41 : decode cX2_leadsRing 41 = .ok (.iconst 0, 1) := by decide +kernel
theorem dX2_leadsRing_42 : decode cX2_leadsRing 42 = .ok (.ireturn, 1) := by decide +kernel
theorem dX2_leadsRing_43 : decode cX2_leadsRing 43 = .ok (.iinc 3 1, 3) := by decide +kernel
theorem dX2_leadsRing_46 : decode cX2_leadsRing 46 = .ok (.goto (-42), 3) := by decide +kernel
theorem dX2_leadsRing_49 : decode cX2_leadsRing 49 = .ok (.iconst 0, 1) := by decide +kernel
theorem dX2_leadsRing_50 : decode cX2_leadsRing 50 = .ok (.ireturn, 1) := by decide +kernel
