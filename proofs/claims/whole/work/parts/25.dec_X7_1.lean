theorem dX7_digest_60 : decode cX7_digest 60 = .ok (.ladd, 1) := by decide +kernel
theorem dX7_digest_61 : decode cX7_digest 61 = .ok (.lreturn, 1) := by decide +kernel
theorem dX7_within_0 : decode cX7_within 0 = .ok (.iload_n 0, 1) := by decide +kernel
theorem dX7_within_1 : decode cX7_within 1 = .ok (.ifCond .lt 12, 3) := by decide +kernel
theorem dX7_within_4 : decode cX7_within 4 = .ok (.iload_n 0, 1) := by decide +kernel
theorem dX7_within_5 : decode cX7_within 5 = .ok (.iload_n 1, 1) := by decide +kernel
theorem dX7_within_6 : decode cX7_within 6 = .ok (.if_icmp .ge 7, 3) := by decide +kernel
theorem dX7_within_9 : decode cX7_within 9 = .ok (.iconst 1, 1) := by decide +kernel
theorem dX7_within_10 : decode cX7_within 10 = .ok (.goto 4, 3) := by decide +kernel
theorem dX7_within_13 : decode cX7_within 13 = .ok (.iconst 0, 1) := by decide +kernel
theorem dX7_within_14 : decode cX7_within 14 = .ok (.ireturn, 1) := by decide +kernel
theorem dX7_has_0 : decode cX7_has 0 = .ok (.iload_n 0, 1) := by decide +kernel
theorem dX7_has_1 : decode cX7_has 1 = .ok (.iload_n 1, 1) := by decide +kernel
theorem dX7_has_2 : decode cX7_has 2 = .ok (.ishr, 1) := by decide +kernel
theorem dX7_has_3 : decode cX7_has 3 = .ok (.iconst 1, 1) := by decide +kernel
theorem dX7_has_4 : decode cX7_has 4 = .ok (.iand, 1) := by decide +kernel
theorem dX7_has_5 : decode cX7_has 5 = .ok (.iconst 1, 1) := by decide +kernel
theorem dX7_has_6 : decode cX7_has 6 = .ok (.if_icmp .ne 7, 3) := by decide +kernel
theorem dX7_has_9 : decode cX7_has 9 = .ok (.iconst 1, 1) := by decide +kernel
theorem dX7_has_10 : decode cX7_has 10 = .ok (.goto 4, 3) := by decide +kernel
theorem dX7_has_13 : decode cX7_has 13 = .ok (.iconst 0, 1) := by decide +kernel
theorem dX7_has_14 : decode cX7_has 14 = .ok (.ireturn, 1) := by decide +kernel
theorem dX7_refuseBad_0 : decode cX7_refuseBad 0 = .ok (.aload_n 0, 1) := by decide +kernel
theorem dX7_refuseBad_1 : decode cX7_refuseBad 1 = .ok (.dup, 1) := by decide +kernel
theorem dX7_refuseBad_2 : decode cX7_refuseBad 2 = .ok (.getfield 264, 3) := by decide +kernel
theorem dX7_refuseBad_5 : decode cX7_refuseBad 5 = .ok (.iconst 1, 1) := by decide +kernel
theorem dX7_refuseBad_6 : decode cX7_refuseBad 6 = .ok (.iadd, 1) := by decide +kernel
theorem dX7_refuseBad_7 : decode cX7_refuseBad 7 = .ok (.putfield 264, 3) := by decide +kernel
theorem dX7_refuseBad_10 : decode cX7_refuseBad 10 = .ok (.iload_n 1, 1) := by decide +kernel
theorem dX7_refuseBad_11 : decode cX7_refuseBad 11 = .ok (.ireturn, 1) := by decide +kernel
theorem dX7_refuseNo_0 : decode cX7_refuseNo 0 = .ok (.aload_n 0, 1) := by decide +kernel
theorem dX7_refuseNo_1 : decode cX7_refuseNo 1 = .ok (.dup, 1) := by decide +kernel
theorem dX7_refuseNo_2 : decode cX7_refuseNo 2 = .ok (.getfield 267, 3) := by decide +kernel
theorem dX7_refuseNo_5 : decode cX7_refuseNo 5 = .ok (.iconst 1, 1) := by decide +kernel
theorem dX7_refuseNo_6 : decode cX7_refuseNo 6 = .ok (.iadd, 1) := by decide +kernel
theorem dX7_refuseNo_7 : decode cX7_refuseNo 7 = .ok (.putfield 267, 3) := by decide +kernel
theorem dX7_refuseNo_10 : decode cX7_refuseNo 10 = .ok (.iload_n 1, 1) := by decide +kernel
theorem dX7_refuseNo_11 : decode cX7_refuseNo 11 = .ok (.ireturn, 1) := by decide +kernel
theorem dX7_refuseFull_0 : decode cX7_refuseFull 0 = .ok (.aload_n 0, 1) := by decide +kernel
theorem dX7_refuseFull_1 : decode cX7_refuseFull 1 = .ok (.dup, 1) := by decide +kernel
theorem dX7_refuseFull_2 : decode cX7_refuseFull 2 = .ok (.getfield 270, 3) := by decide +kernel
theorem dX7_refuseFull_5 : decode cX7_refuseFull 5 = .ok (.iconst 1, 1) := by decide +kernel
theorem dX7_refuseFull_6 : decode cX7_refuseFull 6 = .ok (.iadd, 1) := by decide +kernel
theorem dX7_refuseFull_7 : decode cX7_refuseFull 7 = .ok (.putfield 270, 3) := by decide +kernel
theorem dX7_refuseFull_10 : decode cX7_refuseFull 10 = .ok (.bipush (-4), 2) := by decide +kernel
theorem dX7_refuseFull_12 : decode cX7_refuseFull 12 = .ok (.ireturn, 1) := by decide +kernel
theorem dX7_howMany_0 : decode cX7_howMany 0 = .ok (.iload_n 1, 1) := by decide +kernel
theorem dX7_howMany_1 : decode cX7_howMany 1 = .ok (.tableswitch 138 0 8 #[51, 59, 67, 78, 86, 94, 105, 116, 127], 51) := by decide +kernel
theorem dX7_howMany_52 : decode cX7_howMany 52 = .ok (.aload_n 0, 1) := by decide +kernel
theorem dX7_howMany_53 : decode cX7_howMany 53 = .ok (.getfield 10, 3) := by decide +kernel
theorem dX7_howMany_56 : decode cX7_howMany 56 = .ok (.getfield 52, 3) := by decide +kernel
theorem dX7_howMany_59 : decode cX7_howMany 59 = .ok (.ireturn, 1) := by decide +kernel
theorem dX7_howMany_60 : decode cX7_howMany 60 = .ok (.aload_n 0, 1) := by decide +kernel
theorem dX7_howMany_61 : decode cX7_howMany 61 = .ok (.getfield 10, 3) := by decide +kernel
theorem dX7_howMany_64 : decode cX7_howMany 64 = .ok (.invokevirtual 284, 3) := by decide +kernel
theorem dX7_howMany_67 : decode cX7_howMany 67 = .ok (.ireturn, 1) := by decide +kernel
theorem dX7_howMany_68 : decode cX7_howMany 68 = .ok (.aload_n 0, 1) := by decide +kernel
theorem dX7_howMany_69 : decode cX7_howMany 69 = .ok (.getfield 10, 3) := by decide +kernel
theorem dX7_howMany_72 : decode cX7_howMany 72 = .ok (.getfield 140, 3) := by decide +kernel
theorem dX7_howMany_75 : decode cX7_howMany 75 = .ok (.invokestatic 287, 3) := by decide +kernel
theorem dX7_howMany_78 : decode cX7_howMany 78 = .ok (.ireturn, 1) := by decide +kernel
theorem dX7_howMany_79 : decode cX7_howMany 79 = .ok (.aload_n 0, 1) := by decide +kernel
theorem dX7_howMany_80 : decode cX7_howMany 80 = .ok (.getfield 10, 3) := by decide +kernel
theorem dX7_howMany_83 : decode cX7_howMany 83 = .ok (.getfield 116, 3) := by decide +kernel
theorem dX7_howMany_86 : decode cX7_howMany 86 = .ok (.ireturn, 1) := by decide +kernel
theorem dX7_howMany_87 : decode cX7_howMany 87 = .ok (.aload_n 0, 1) := by decide +kernel
theorem dX7_howMany_88 : decode cX7_howMany 88 = .ok (.getfield 10, 3) := by decide +kernel
theorem dX7_howMany_91 : decode cX7_howMany 91 = .ok (.getfield 292, 3) := by decide +kernel
theorem dX7_howMany_94 : decode cX7_howMany 94 = .ok (.ireturn, 1) := by decide +kernel
theorem dX7_howMany_95 : decode cX7_howMany 95 = .ok (.aload_n 0, 1) := by decide +kernel
theorem dX7_howMany_96 : decode cX7_howMany 96 = .ok (.getfield 10, 3) := by decide +kernel
theorem dX7_howMany_99 : decode cX7_howMany 99 = .ok (.getfield 203, 3) := by decide +kernel
theorem dX7_howMany_102 : decode cX7_howMany 102 = .ok (.getfield 148, 3) := by decide +kernel
theorem dX7_howMany_105 : decode cX7_howMany 105 = .ok (.ireturn, 1) := by decide +kernel
theorem dX7_howMany_106 : decode cX7_howMany 106 = .ok (.aload_n 0, 1) := by decide +kernel
theorem dX7_howMany_107 : decode cX7_howMany 107 = .ok (.getfield 10, 3) := by decide +kernel
theorem dX7_howMany_110 : decode cX7_howMany 110 = .ok (.getfield 219, 3) := by decide +kernel
theorem dX7_howMany_113 : decode cX7_howMany 113 = .ok (.getfield 148, 3) := by decide +kernel
theorem dX7_howMany_116 : decode cX7_howMany 116 = .ok (.ireturn, 1) := by decide +kernel
theorem dX7_howMany_117 : decode cX7_howMany 117 = .ok (.aload_n 0, 1) := by decide +kernel
theorem dX7_howMany_118 : decode cX7_howMany 118 = .ok (.getfield 10, 3) := by decide +kernel
theorem dX7_howMany_121 : decode cX7_howMany 121 = .ok (.getfield 222, 3) := by decide +kernel
theorem dX7_howMany_124 : decode cX7_howMany 124 = .ok (.getfield 148, 3) := by decide +kernel
theorem dX7_howMany_127 : decode cX7_howMany 127 = .ok (.ireturn, 1) := by decide +kernel
theorem dX7_howMany_128 : decode cX7_howMany 128 = .ok (.aload_n 0, 1) := by decide +kernel
theorem dX7_howMany_129 : decode cX7_howMany 129 = .ok (.getfield 10, 3) := by decide +kernel
theorem dX7_howMany_132 : decode cX7_howMany 132 = .ok (.getfield 71, 3) := by decide +kernel
theorem dX7_howMany_135 : decode cX7_howMany 135 = .ok (.getfield 148, 3) := by decide +kernel
theorem dX7_howMany_138 : decode cX7_howMany 138 = .ok (.ireturn, 1) := by decide +kernel
theorem dX7_howMany_139 : decode cX7_howMany 139 = .ok (.aload_n 0, 1) := by decide +kernel
theorem dX7_howMany_140 : decode cX7_howMany 140 = .ok (.getfield 30, 3) := by decide +kernel
theorem dX7_howMany_143 : decode cX7_howMany 143 = .ok (.getfield 295, 3) := by decide +kernel
theorem dX7_howMany_146 : decode cX7_howMany 146 = .ok (.ireturn, 1) := by decide +kernel
theorem dX7_worth_0 : decode cX7_worth 0 = .ok (.aload_n 0, 1) := by decide +kernel
theorem dX7_worth_1 : decode cX7_worth 1 = .ok (.getfield 10, 3) := by decide +kernel
theorem dX7_worth_4 : decode cX7_worth 4 = .ok (.iload_n 2, 1) := by decide +kernel
theorem dX7_worth_5 : decode cX7_worth 5 = .ok (.invokevirtual 166, 3) := by decide +kernel
theorem dX7_worth_8 : decode cX7_worth 8 = .ok (.aload_n 0, 1) := by decide +kernel
theorem dX7_worth_9 : decode cX7_worth 9 = .ok (.getfield 10, 3) := by decide +kernel
theorem dX7_worth_12 : decode cX7_worth 12 = .ok (.iload_n 1, 1) := by decide +kernel
theorem dX7_worth_13 : decode cX7_worth 13 = .ok (.iload_n 2, 1) := by decide +kernel
theorem dX7_worth_14 : decode cX7_worth 14 = .ok (.invokevirtual 169, 3) := by decide +kernel
theorem dX7_worth_17 : decode cX7_worth 17 = .ok (.isub, 1) := by decide +kernel
theorem dX7_worth_18 : decode cX7_worth 18 = .ok (.ireturn, 1) := by decide +kernel
theorem dX7_bestCell_0 : decode cX7_bestCell 0 = .ok (.iconst (-1), 1) := by decide +kernel
theorem dX7_bestCell_1 : decode cX7_bestCell 1 = .ok (.istore_n 2, 1) := by decide +kernel
theorem dX7_bestCell_2 : decode cX7_bestCell 2 = .ok (.iconst 0, 1) := by decide +kernel
theorem dX7_bestCell_3 : decode cX7_bestCell 3 = .ok (.istore_n 3, 1) := by decide +kernel
theorem dX7_bestCell_4 : decode cX7_bestCell 4 = .ok (.iload_n 3, 1) := by decide +kernel
theorem dX7_bestCell_5 : decode cX7_bestCell 5 = .ok (.bipush 30, 2) := by decide +kernel
theorem dX7_bestCell_7 : decode cX7_bestCell 7 = .ok (.if_icmp .ge 42, 3) := by decide +kernel
theorem dX7_bestCell_10 : decode cX7_bestCell 10 = .ok (.aload_n 0, 1) := by decide +kernel
theorem dX7_bestCell_11 : decode cX7_bestCell 11 = .ok (.getfield 10, 3) := by decide +kernel
theorem dX7_bestCell_14 : decode cX7_bestCell 14 = .ok (.iload_n 3, 1) := by decide +kernel
theorem dX7_bestCell_15 : decode cX7_bestCell 15 = .ok (.invokevirtual 113, 3) := by decide +kernel
theorem dX7_bestCell_18 : decode cX7_bestCell 18 = .ok (.ifCond .eq 25, 3) := by decide +kernel
theorem dX7_bestCell_21 : decode cX7_bestCell 21 = .ok (.iload_n 2, 1) := by decide +kernel
theorem dX7_bestCell_22 : decode cX7_bestCell 22 = .ok (.iconst (-1), 1) := by decide +kernel
theorem dX7_bestCell_23 : decode cX7_bestCell 23 = .ok (.if_icmp .eq 18, 3) := by decide +kernel
theorem dX7_bestCell_26 : decode cX7_bestCell 26 = .ok (.aload_n 0, 1) := by decide +kernel
theorem dX7_bestCell_27 : decode cX7_bestCell 27 = .ok (.iload_n 1, 1) := by decide +kernel
theorem dX7_bestCell_28 : decode cX7_bestCell 28 = .ok (.iload_n 3, 1) := by decide +kernel
theorem dX7_bestCell_29 : decode cX7_bestCell 29 = .ok (.invokevirtual 187, 3) := by decide +kernel
theorem dX7_bestCell_32 : decode cX7_bestCell 32 = .ok (.aload_n 0, 1) := by decide +kernel
theorem dX7_bestCell_33 : decode cX7_bestCell 33 = .ok (.iload_n 1, 1) := by decide +kernel
theorem dX7_bestCell_34 : decode cX7_bestCell 34 = .ok (.iload_n 2, 1) := by decide +kernel
theorem dX7_bestCell_35 : decode cX7_bestCell 35 = .ok (.invokevirtual 187, 3) := by decide +kernel
theorem dX7_bestCell_38 : decode cX7_bestCell 38 = .ok (.if_icmp .le 5, 3) := by decide +kernel
theorem dX7_bestCell_41 : decode cX7_bestCell 41 = .ok (.iload_n 3, 1) := by decide +kernel
theorem dX7_bestCell_42 : decode cX7_bestCell 42 = .ok (.istore_n 2, 1) := by decide +kernel
theorem dX7_bestCell_43 : decode cX7_bestCell 43 = .ok (.iinc 3 1, 3) := by decide +kernel
theorem dX7_bestCell_46 : decode cX7_bestCell 46 = .ok (.goto (-42), 3) := by decide +kernel
theorem dX7_bestCell_49 : decode cX7_bestCell 49 = .ok (.iload_n 2, 1) := by decide +kernel
theorem dX7_bestCell_50 : decode cX7_bestCell 50 = .ok (.ireturn, 1) := by decide +kernel
theorem dX7_firstPlaceBeside_0 : decode cX7_firstPlaceBeside 0 = .ok (.iconst (-1), 1) := by decide +kernel
theorem dX7_firstPlaceBeside_1 : decode cX7_firstPlaceBeside 1 = .ok (.istore_n 3, 1) := by decide +kernel
theorem dX7_firstPlaceBeside_2 : decode cX7_firstPlaceBeside 2 = .ok (.iconst 0, 1) := by decide +kernel
theorem dX7_firstPlaceBeside_3 : decode cX7_firstPlaceBeside 3 = .ok (.istore 4, 2) := by decide +kernel
theorem dX7_firstPlaceBeside_5 : decode cX7_firstPlaceBeside 5 = .ok (.iload 4, 2) := by decide +kernel
theorem dX7_firstPlaceBeside_7 : decode cX7_firstPlaceBeside 7 = .ok (.bipush 30, 2) := by decide +kernel
theorem dX7_firstPlaceBeside_9 : decode cX7_firstPlaceBeside 9 = .ok (.if_icmp .ge 82, 3) := by decide +kernel
theorem dX7_firstPlaceBeside_12 : decode cX7_firstPlaceBeside 12 = .ok (.iload 4, 2) := by decide +kernel
theorem dX7_firstPlaceBeside_14 : decode cX7_firstPlaceBeside 14 = .ok (.iconst 1, 1) := by decide +kernel
theorem dX7_firstPlaceBeside_15 : decode cX7_firstPlaceBeside 15 = .ok (.isub, 1) := by decide +kernel
theorem dX7_firstPlaceBeside_16 : decode cX7_firstPlaceBeside 16 = .ok (.istore 5, 2) := by decide +kernel
theorem dX7_firstPlaceBeside_18 : decode cX7_firstPlaceBeside 18 = .ok (.iload 5, 2) := by decide +kernel
theorem dX7_firstPlaceBeside_20 : decode cX7_firstPlaceBeside 20 = .ok (.iload 4, 2) := by decide +kernel
theorem dX7_firstPlaceBeside_22 : decode cX7_firstPlaceBeside 22 = .ok (.iconst 1, 1) := by decide +kernel
theorem dX7_firstPlaceBeside_23 : decode cX7_firstPlaceBeside 23 = .ok (.iadd, 1) := by decide +kernel
theorem dX7_firstPlaceBeside_24 : decode cX7_firstPlaceBeside 24 = .ok (.if_icmp .gt 61, 3) := by decide +kernel
theorem dX7_firstPlaceBeside_27 : decode cX7_firstPlaceBeside 27 = .ok (.aload_n 0, 1) := by decide +kernel
theorem dX7_firstPlaceBeside_28 : decode cX7_firstPlaceBeside 28 = .ok (.iload 4, 2) := by decide +kernel
theorem dX7_firstPlaceBeside_30 : decode cX7_firstPlaceBeside 30 = .ok (.iload 5, 2) := by decide +kernel
theorem dX7_firstPlaceBeside_32 : decode cX7_firstPlaceBeside 32 = .ok (.invokevirtual 298, 3) := by decide +kernel
theorem dX7_firstPlaceBeside_35 : decode cX7_firstPlaceBeside 35 = .ok (.ifCond .eq 44, 3) := by decide +kernel
theorem dX7_firstPlaceBeside_38 : decode cX7_firstPlaceBeside 38 = .ok (.iload_n 3, 1) := by decide +kernel
theorem dX7_firstPlaceBeside_39 : decode cX7_firstPlaceBeside 39 = .ok (.iconst (-1), 1) := by decide +kernel
theorem dX7_firstPlaceBeside_40 : decode cX7_firstPlaceBeside 40 = .ok (.if_icmp .eq 30, 3) := by decide +kernel
theorem dX7_firstPlaceBeside_43 : decode cX7_firstPlaceBeside 43 = .ok (.aload_n 0, 1) := by decide +kernel
theorem dX7_firstPlaceBeside_44 : decode cX7_firstPlaceBeside 44 = .ok (.iload_n 1, 1) := by decide +kernel
theorem dX7_firstPlaceBeside_45 : decode cX7_firstPlaceBeside 45 = .ok (.iload_n 2, 1) := by decide +kernel
theorem dX7_firstPlaceBeside_46 : decode cX7_firstPlaceBeside 46 = .ok (.iload 4, 2) := by decide +kernel
theorem dX7_firstPlaceBeside_48 : decode cX7_firstPlaceBeside 48 = .ok (.iload 5, 2) := by decide +kernel
theorem dX7_firstPlaceBeside_50 : decode cX7_firstPlaceBeside 50 = .ok (.invokevirtual 193, 3) := by decide +kernel
theorem dX7_firstPlaceBeside_53 : decode cX7_firstPlaceBeside 53 = .ok (.aload_n 0, 1) := by decide +kernel
theorem dX7_firstPlaceBeside_54 : decode cX7_firstPlaceBeside 54 = .ok (.iload_n 1, 1) := by decide +kernel
theorem dX7_firstPlaceBeside_55 : decode cX7_firstPlaceBeside 55 = .ok (.iload_n 2, 1) := by decide +kernel
theorem dX7_firstPlaceBeside_56 : decode cX7_firstPlaceBeside 56 = .ok (.iload_n 3, 1) := by decide +kernel
theorem dX7_firstPlaceBeside_57 : decode cX7_firstPlaceBeside 57 = .ok (.bipush 100, 2) := by decide +kernel
theorem dX7_firstPlaceBeside_59 : decode cX7_firstPlaceBeside 59 = .ok (.idiv, 1) := by decide +kernel
theorem dX7_firstPlaceBeside_60 : decode cX7_firstPlaceBeside 60 = .ok (.iload_n 3, 1) := by decide +kernel
theorem dX7_firstPlaceBeside_61 : decode cX7_firstPlaceBeside 61 = .ok (.bipush 100, 2) := by decide +kernel
theorem dX7_firstPlaceBeside_63 : decode cX7_firstPlaceBeside 63 = .ok (.irem, 1) := by decide +kernel
theorem dX7_firstPlaceBeside_64 : decode cX7_firstPlaceBeside 64 = .ok (.invokevirtual 193, 3) := by decide +kernel
theorem dX7_firstPlaceBeside_67 : decode cX7_firstPlaceBeside 67 = .ok (.if_icmp .ge 12, 3) := by decide +kernel
theorem dX7_firstPlaceBeside_70 : decode cX7_firstPlaceBeside 70 = .ok (.bipush 100, 2) := by decide +kernel
theorem dX7_firstPlaceBeside_72 : decode cX7_firstPlaceBeside 72 = .ok (.iload 4, 2) := by decide +kernel
theorem dX7_firstPlaceBeside_74 : decode cX7_firstPlaceBeside 74 = .ok (.imul, 1) := by decide +kernel
theorem dX7_firstPlaceBeside_75 : decode cX7_firstPlaceBeside 75 = .ok (.iload 5, 2) := by decide +kernel
theorem dX7_firstPlaceBeside_77 : decode cX7_firstPlaceBeside 77 = .ok (.iadd, 1) := by decide +kernel
theorem dX7_firstPlaceBeside_78 : decode cX7_firstPlaceBeside 78 = .ok (.istore_n 3, 1) := by decide +kernel
theorem dX7_firstPlaceBeside_79 : decode cX7_firstPlaceBeside 79 = .ok (.iinc 5 2, 3) := by decide +kernel
theorem dX7_firstPlaceBeside_82 : decode cX7_firstPlaceBeside 82 = .ok (.goto (-64), 3) := by decide +kernel
theorem dX7_firstPlaceBeside_85 : decode cX7_firstPlaceBeside 85 = .ok (.iinc 4 1, 3) := by decide +kernel
theorem dX7_firstPlaceBeside_88 : decode cX7_firstPlaceBeside 88 = .ok (.goto (-83), 3) := by decide +kernel
theorem dX7_firstPlaceBeside_91 : decode cX7_firstPlaceBeside 91 = .ok (.iload_n 3, 1) := by decide +kernel
theorem dX7_firstPlaceBeside_92 : decode cX7_firstPlaceBeside 92 = .ok (.ireturn, 1) := by decide +kernel
theorem dX7_areFreeNeighbours_0 : decode cX7_areFreeNeighbours 0 = .ok (.iload_n 1, 1) := by decide +kernel
theorem dX7_areFreeNeighbours_1 : decode cX7_areFreeNeighbours 1 = .ok (.bipush 30, 2) := by decide +kernel
theorem dX7_areFreeNeighbours_3 : decode cX7_areFreeNeighbours 3 = .ok (.invokestatic 59, 3) := by decide +kernel
theorem dX7_areFreeNeighbours_6 : decode cX7_areFreeNeighbours 6 = .ok (.ifCond .eq 49, 3) := by decide +kernel
theorem dX7_areFreeNeighbours_9 : decode cX7_areFreeNeighbours 9 = .ok (.iload_n 2, 1) := by decide +kernel
theorem dX7_areFreeNeighbours_10 : decode cX7_areFreeNeighbours 10 = .ok (.bipush 30, 2) := by decide +kernel
theorem dX7_areFreeNeighbours_12 : decode cX7_areFreeNeighbours 12 = .ok (.invokestatic 59, 3) := by decide +kernel
theorem dX7_areFreeNeighbours_15 : decode cX7_areFreeNeighbours 15 = .ok (.ifCond .eq 40, 3) := by decide +kernel
theorem dX7_areFreeNeighbours_18 : decode cX7_areFreeNeighbours 18 = .ok (.iload_n 1, 1) := by decide +kernel
theorem dX7_areFreeNeighbours_19 : decode cX7_areFreeNeighbours 19 = .ok (.bipush 6, 2) := by decide +kernel
theorem dX7_areFreeNeighbours_21 : decode cX7_areFreeNeighbours 21 = .ok (.idiv, 1) := by decide +kernel
theorem dX7_areFreeNeighbours_22 : decode cX7_areFreeNeighbours 22 = .ok (.iload_n 2, 1) := by decide +kernel
theorem dX7_areFreeNeighbours_23 : decode cX7_areFreeNeighbours 23 = .ok (.bipush 6, 2) := by decide +kernel
theorem dX7_areFreeNeighbours_25 : decode cX7_areFreeNeighbours 25 = .ok (.idiv, 1) := by decide +kernel
theorem dX7_areFreeNeighbours_26 : decode cX7_areFreeNeighbours 26 = .ok (.if_icmp .ne 29, 3) := by decide +kernel
theorem dX7_areFreeNeighbours_29 : decode cX7_areFreeNeighbours 29 = .ok (.aload_n 0, 1) := by decide +kernel
theorem dX7_areFreeNeighbours_30 : decode cX7_areFreeNeighbours 30 = .ok (.getfield 10, 3) := by decide +kernel
theorem dX7_areFreeNeighbours_33 : decode cX7_areFreeNeighbours 33 = .ok (.iload_n 1, 1) := by decide +kernel
theorem dX7_areFreeNeighbours_34 : decode cX7_areFreeNeighbours 34 = .ok (.invokevirtual 113, 3) := by decide +kernel
theorem dX7_areFreeNeighbours_37 : decode cX7_areFreeNeighbours 37 = .ok (.ifCond .eq 18, 3) := by decide +kernel
theorem dX7_areFreeNeighbours_40 : decode cX7_areFreeNeighbours 40 = .ok (.aload_n 0, 1) := by decide +kernel
theorem dX7_areFreeNeighbours_41 : decode cX7_areFreeNeighbours 41 = .ok (.getfield 10, 3) := by decide +kernel
theorem dX7_areFreeNeighbours_44 : decode cX7_areFreeNeighbours 44 = .ok (.iload_n 2, 1) := by decide +kernel
theorem dX7_areFreeNeighbours_45 : decode cX7_areFreeNeighbours 45 = .ok (.invokevirtual 113, 3) := by decide +kernel
theorem dX7_areFreeNeighbours_48 : decode cX7_areFreeNeighbours 48 = .ok (.ifCond .eq 7, 3) := by decide +kernel
theorem dX7_areFreeNeighbours_51 : decode cX7_areFreeNeighbours 51 = .ok (.iconst 1, 1) := by decide +kernel
theorem dX7_areFreeNeighbours_52 : decode cX7_areFreeNeighbours 52 = .ok (.goto 4, 3) := by decide +kernel
theorem dX7_areFreeNeighbours_55 : decode cX7_areFreeNeighbours 55 = .ok (.iconst 0, 1) := by decide +kernel
theorem dX7_areFreeNeighbours_56 : decode cX7_areFreeNeighbours 56 = .ok (.ireturn, 1) := by decide +kernel
theorem dX7_fussBeside_0 : decode cX7_fussBeside 0 = .ok (.iload_n 3, 1) := by decide +kernel
theorem dX7_fussBeside_1 : decode cX7_fussBeside 1 = .ok (.iload 4, 2) := by decide +kernel
theorem dX7_fussBeside_3 : decode cX7_fussBeside 3 = .ok (.if_icmp .ge 7, 3) := by decide +kernel
theorem dX7_fussBeside_6 : decode cX7_fussBeside 6 = .ok (.iconst 1, 1) := by decide +kernel
theorem dX7_fussBeside_7 : decode cX7_fussBeside 7 = .ok (.goto 4, 3) := by decide +kernel
theorem dX7_fussBeside_10 : decode cX7_fussBeside 10 = .ok (.iconst 0, 1) := by decide +kernel
theorem dX7_fussBeside_11 : decode cX7_fussBeside 11 = .ok (.istore 5, 2) := by decide +kernel
theorem dX7_fussBeside_13 : decode cX7_fussBeside 13 = .ok (.aload_n 0, 1) := by decide +kernel
theorem dX7_fussBeside_14 : decode cX7_fussBeside 14 = .ok (.getfield 10, 3) := by decide +kernel
theorem dX7_fussBeside_17 : decode cX7_fussBeside 17 = .ok (.iload_n 1, 1) := by decide +kernel
theorem dX7_fussBeside_18 : decode cX7_fussBeside 18 = .ok (.iload_n 3, 1) := by decide +kernel
theorem dX7_fussBeside_19 : decode cX7_fussBeside 19 = .ok (.invokevirtual 169, 3) := by decide +kernel
theorem dX7_fussBeside_22 : decode cX7_fussBeside 22 = .ok (.aload_n 0, 1) := by decide +kernel
theorem dX7_fussBeside_23 : decode cX7_fussBeside 23 = .ok (.getfield 10, 3) := by decide +kernel
theorem dX7_fussBeside_26 : decode cX7_fussBeside 26 = .ok (.getfield 154, 3) := by decide +kernel
theorem dX7_fussBeside_29 : decode cX7_fussBeside 29 = .ok (.iload_n 2, 1) := by decide +kernel
theorem dX7_fussBeside_30 : decode cX7_fussBeside 30 = .ok (.iaload, 1) := by decide +kernel
theorem dX7_fussBeside_31 : decode cX7_fussBeside 31 = .ok (.aload_n 0, 1) := by decide +kernel
theorem dX7_fussBeside_32 : decode cX7_fussBeside 32 = .ok (.getfield 10, 3) := by decide +kernel
theorem dX7_fussBeside_35 : decode cX7_fussBeside 35 = .ok (.iload 4, 2) := by decide +kernel
theorem dX7_fussBeside_37 : decode cX7_fussBeside 37 = .ok (.invokevirtual 163, 3) := by decide +kernel
theorem dX7_fussBeside_40 : decode cX7_fussBeside 40 = .ok (.iload 5, 2) := by decide +kernel
theorem dX7_fussBeside_42 : decode cX7_fussBeside 42 = .ok (.iadd, 1) := by decide +kernel
theorem dX7_fussBeside_43 : decode cX7_fussBeside 43 = .ok (.aload_n 0, 1) := by decide +kernel
theorem dX7_fussBeside_44 : decode cX7_fussBeside 44 = .ok (.getfield 10, 3) := by decide +kernel
theorem dX7_fussBeside_47 : decode cX7_fussBeside 47 = .ok (.getfield 116, 3) := by decide +kernel
theorem dX7_fussBeside_50 : decode cX7_fussBeside 50 = .ok (.iconst 1, 1) := by decide +kernel
theorem dX7_fussBeside_51 : decode cX7_fussBeside 51 = .ok (.iadd, 1) := by decide +kernel
theorem dX7_fussBeside_52 : decode cX7_fussBeside 52 = .ok (.invokestatic 301, 3) := by decide +kernel
theorem dX7_fussBeside_55 : decode cX7_fussBeside 55 = .ok (.iadd, 1) := by decide +kernel
theorem dX7_fussBeside_56 : decode cX7_fussBeside 56 = .ok (.ireturn, 1) := by decide +kernel
theorem dX7_cellsThatFit_0 : decode cX7_cellsThatFit 0 = .ok (.iconst 0, 1) := by decide +kernel
theorem dX7_cellsThatFit_1 : decode cX7_cellsThatFit 1 = .ok (.istore_n 2, 1) := by decide +kernel
theorem dX7_cellsThatFit_2 : decode cX7_cellsThatFit 2 = .ok (.iconst 0, 1) := by decide +kernel
theorem dX7_cellsThatFit_3 : decode cX7_cellsThatFit 3 = .ok (.istore_n 3, 1) := by decide +kernel
theorem dX7_cellsThatFit_4 : decode cX7_cellsThatFit 4 = .ok (.iload_n 3, 1) := by decide +kernel
theorem dX7_cellsThatFit_5 : decode cX7_cellsThatFit 5 = .ok (.bipush 30, 2) := by decide +kernel
theorem dX7_cellsThatFit_7 : decode cX7_cellsThatFit 7 = .ok (.if_icmp .ge 42, 3) := by decide +kernel
theorem dX7_cellsThatFit_10 : decode cX7_cellsThatFit 10 = .ok (.aload_n 0, 1) := by decide +kernel
theorem dX7_cellsThatFit_11 : decode cX7_cellsThatFit 11 = .ok (.getfield 10, 3) := by decide +kernel
theorem dX7_cellsThatFit_14 : decode cX7_cellsThatFit 14 = .ok (.iload_n 3, 1) := by decide +kernel
theorem dX7_cellsThatFit_15 : decode cX7_cellsThatFit 15 = .ok (.invokevirtual 113, 3) := by decide +kernel
theorem dX7_cellsThatFit_18 : decode cX7_cellsThatFit 18 = .ok (.ifCond .eq 25, 3) := by decide +kernel
theorem dX7_cellsThatFit_21 : decode cX7_cellsThatFit 21 = .ok (.aload_n 0, 1) := by decide +kernel
theorem dX7_cellsThatFit_22 : decode cX7_cellsThatFit 22 = .ok (.iload_n 1, 1) := by decide +kernel
theorem dX7_cellsThatFit_23 : decode cX7_cellsThatFit 23 = .ok (.aload_n 0, 1) := by decide +kernel
theorem dX7_cellsThatFit_24 : decode cX7_cellsThatFit 24 = .ok (.getfield 10, 3) := by decide +kernel
theorem dX7_cellsThatFit_27 : decode cX7_cellsThatFit 27 = .ok (.iload_n 3, 1) := by decide +kernel
theorem dX7_cellsThatFit_28 : decode cX7_cellsThatFit 28 = .ok (.invokevirtual 163, 3) := by decide +kernel
theorem dX7_cellsThatFit_31 : decode cX7_cellsThatFit 31 = .ok (.invokevirtual 305, 3) := by decide +kernel
theorem dX7_cellsThatFit_34 : decode cX7_cellsThatFit 34 = .ok (.ifCond .eq 9, 3) := by decide +kernel
theorem dX7_cellsThatFit_37 : decode cX7_cellsThatFit 37 = .ok (.iload_n 2, 1) := by decide +kernel
theorem dX7_cellsThatFit_38 : decode cX7_cellsThatFit 38 = .ok (.iconst 1, 1) := by decide +kernel
theorem dX7_cellsThatFit_39 : decode cX7_cellsThatFit 39 = .ok (.iload_n 3, 1) := by decide +kernel
theorem dX7_cellsThatFit_40 : decode cX7_cellsThatFit 40 = .ok (.ishl, 1) := by decide +kernel
theorem dX7_cellsThatFit_41 : decode cX7_cellsThatFit 41 = .ok (.ior, 1) := by decide +kernel
theorem dX7_cellsThatFit_42 : decode cX7_cellsThatFit 42 = .ok (.istore_n 2, 1) := by decide +kernel
theorem dX7_cellsThatFit_43 : decode cX7_cellsThatFit 43 = .ok (.iinc 3 1, 3) := by decide +kernel
theorem dX7_cellsThatFit_46 : decode cX7_cellsThatFit 46 = .ok (.goto (-42), 3) := by decide +kernel
theorem dX7_cellsThatFit_49 : decode cX7_cellsThatFit 49 = .ok (.iload_n 2, 1) := by decide +kernel
theorem dX7_cellsThatFit_50 : decode cX7_cellsThatFit 50 = .ok (.ireturn, 1) := by decide +kernel
theorem dX7_fitsSightings_0 : decode cX7_fitsSightings 0 = .ok (.iconst 0, 1) := by decide +kernel
theorem dX7_fitsSightings_1 : decode cX7_fitsSightings 1 = .ok (.istore_n 3, 1) := by decide +kernel
theorem dX7_fitsSightings_2 : decode cX7_fitsSightings 2 = .ok (.iload_n 3, 1) := by decide +kernel
theorem dX7_fitsSightings_3 : decode cX7_fitsSightings 3 = .ok (.aload_n 0, 1) := by decide +kernel
theorem dX7_fitsSightings_4 : decode cX7_fitsSightings 4 = .ok (.getfield 10, 3) := by decide +kernel
theorem dX7_fitsSightings_7 : decode cX7_fitsSightings 7 = .ok (.getfield 203, 3) := by decide +kernel
theorem dX7_fitsSightings_10 : decode cX7_fitsSightings 10 = .ok (.getfield 148, 3) := by decide +kernel
theorem dX7_fitsSightings_13 : decode cX7_fitsSightings 13 = .ok (.if_icmp .ge 67, 3) := by decide +kernel
theorem dX7_fitsSightings_16 : decode cX7_fitsSightings 16 = .ok (.aload_n 0, 1) := by decide +kernel
theorem dX7_fitsSightings_17 : decode cX7_fitsSightings 17 = .ok (.getfield 10, 3) := by decide +kernel
theorem dX7_fitsSightings_20 : decode cX7_fitsSightings 20 = .ok (.getfield 203, 3) := by decide +kernel
theorem dX7_fitsSightings_23 : decode cX7_fitsSightings 23 = .ok (.iload_n 3, 1) := by decide +kernel
theorem dX7_fitsSightings_24 : decode cX7_fitsSightings 24 = .ok (.iconst 0, 1) := by decide +kernel
theorem dX7_fitsSightings_25 : decode cX7_fitsSightings 25 = .ok (.invokevirtual 308, 3) := by decide +kernel
theorem dX7_fitsSightings_28 : decode cX7_fitsSightings 28 = .ok (.iload_n 1, 1) := by decide +kernel
theorem dX7_fitsSightings_29 : decode cX7_fitsSightings 29 = .ok (.if_icmp .ne 45, 3) := by decide +kernel
theorem dX7_fitsSightings_32 : decode cX7_fitsSightings 32 = .ok (.aload_n 0, 1) := by decide +kernel
theorem dX7_fitsSightings_33 : decode cX7_fitsSightings 33 = .ok (.getfield 10, 3) := by decide +kernel
theorem dX7_fitsSightings_36 : decode cX7_fitsSightings 36 = .ok (.getfield 154, 3) := by decide +kernel
theorem dX7_fitsSightings_39 : decode cX7_fitsSightings 39 = .ok (.iload_n 1, 1) := by decide +kernel
theorem dX7_fitsSightings_40 : decode cX7_fitsSightings 40 = .ok (.iaload, 1) := by decide +kernel
theorem dX7_fitsSightings_41 : decode cX7_fitsSightings 41 = .ok (.iload_n 2, 1) := by decide +kernel
theorem dX7_fitsSightings_42 : decode cX7_fitsSightings 42 = .ok (.aload_n 0, 1) := by decide +kernel
theorem dX7_fitsSightings_43 : decode cX7_fitsSightings 43 = .ok (.getfield 10, 3) := by decide +kernel
theorem dX7_fitsSightings_46 : decode cX7_fitsSightings 46 = .ok (.getfield 203, 3) := by decide +kernel
theorem dX7_fitsSightings_49 : decode cX7_fitsSightings 49 = .ok (.iload_n 3, 1) := by decide +kernel
theorem dX7_fitsSightings_50 : decode cX7_fitsSightings 50 = .ok (.iconst 1, 1) := by decide +kernel
theorem dX7_fitsSightings_51 : decode cX7_fitsSightings 51 = .ok (.invokevirtual 308, 3) := by decide +kernel
theorem dX7_fitsSightings_54 : decode cX7_fitsSightings 54 = .ok (.invokestatic 301, 3) := by decide +kernel
theorem dX7_fitsSightings_57 : decode cX7_fitsSightings 57 = .ok (.aload_n 0, 1) := by decide +kernel
theorem dX7_fitsSightings_58 : decode cX7_fitsSightings 58 = .ok (.getfield 10, 3) := by decide +kernel
theorem dX7_fitsSightings_61 : decode cX7_fitsSightings 61 = .ok (.getfield 203, 3) := by decide +kernel
theorem dX7_fitsSightings_64 : decode cX7_fitsSightings 64 = .ok (.iload_n 3, 1) := by decide +kernel
theorem dX7_fitsSightings_65 : decode cX7_fitsSightings 65 = .ok (.iconst 2, 1) := by decide +kernel
theorem dX7_fitsSightings_66 : decode cX7_fitsSightings 66 = .ok (.invokevirtual 308, 3) := by decide +kernel
theorem dX7_fitsSightings_69 : decode cX7_fitsSightings 69 = .ok (.if_icmp .eq 5, 3) := by decide +kernel
theorem dX7_fitsSightings_72 : decode cX7_fitsSightings 72 = .ok (.iconst 0, 1) := by decide +kernel
theorem dX7_fitsSightings_73 : decode cX7_fitsSightings 73 = .ok (.ireturn, 1) := by decide +kernel
theorem dX7_fitsSightings_74 : decode cX7_fitsSightings 74 = .ok (.iinc 3 1, 3) := by decide +kernel
theorem dX7_fitsSightings_77 : decode cX7_fitsSightings 77 = .ok (.goto (-75), 3) := by decide +kernel
theorem dX7_fitsSightings_80 : decode cX7_fitsSightings 80 = .ok (.iconst 1, 1) := by decide +kernel
theorem dX7_fitsSightings_81 : decode cX7_fitsSightings 81 = .ok (.ireturn, 1) := by decide +kernel
theorem dX7_mostCellsAlike_0 : decode cX7_mostCellsAlike 0 = .ok (.aload_n 0, 1) := by decide +kernel
theorem dX7_mostCellsAlike_1 : decode cX7_mostCellsAlike 1 = .ok (.getfield 44, 3) := by decide +kernel
theorem dX7_mostCellsAlike_4 : decode cX7_mostCellsAlike 4 = .ok (.invokevirtual 311, 3) := by decide +kernel
theorem dX7_mostCellsAlike_7 : decode cX7_mostCellsAlike 7 = .ok (.iconst 0, 1) := by decide +kernel
theorem dX7_mostCellsAlike_8 : decode cX7_mostCellsAlike 8 = .ok (.istore 4, 2) := by decide +kernel
theorem dX7_mostCellsAlike_10 : decode cX7_mostCellsAlike 10 = .ok (.iload 4, 2) := by decide +kernel
theorem dX7_mostCellsAlike_12 : decode cX7_mostCellsAlike 12 = .ok (.bipush 30, 2) := by decide +kernel
theorem dX7_mostCellsAlike_14 : decode cX7_mostCellsAlike 14 = .ok (.if_icmp .ge 39, 3) := by decide +kernel
theorem dX7_mostCellsAlike_17 : decode cX7_mostCellsAlike 17 = .ok (.iload_n 1, 1) := by decide +kernel
theorem dX7_mostCellsAlike_18 : decode cX7_mostCellsAlike 18 = .ok (.iload 4, 2) := by decide +kernel
theorem dX7_mostCellsAlike_20 : decode cX7_mostCellsAlike 20 = .ok (.invokestatic 213, 3) := by decide +kernel
theorem dX7_mostCellsAlike_23 : decode cX7_mostCellsAlike 23 = .ok (.ifCond .eq 24, 3) := by decide +kernel
theorem dX7_mostCellsAlike_26 : decode cX7_mostCellsAlike 26 = .ok (.aload_n 0, 1) := by decide +kernel
theorem dX7_mostCellsAlike_27 : decode cX7_mostCellsAlike 27 = .ok (.getfield 44, 3) := by decide +kernel
theorem dX7_mostCellsAlike_30 : decode cX7_mostCellsAlike 30 = .ok (.iload_n 2, 1) := by decide +kernel
theorem dX7_mostCellsAlike_31 : decode cX7_mostCellsAlike 31 = .ok (.aload_n 0, 1) := by decide +kernel
theorem dX7_mostCellsAlike_32 : decode cX7_mostCellsAlike 32 = .ok (.getfield 10, 3) := by decide +kernel
theorem dX7_mostCellsAlike_35 : decode cX7_mostCellsAlike 35 = .ok (.iload 4, 2) := by decide +kernel
theorem dX7_mostCellsAlike_37 : decode cX7_mostCellsAlike 37 = .ok (.invokevirtual 163, 3) := by decide +kernel
theorem dX7_mostCellsAlike_40 : decode cX7_mostCellsAlike 40 = .ok (.iload_n 3, 1) := by decide +kernel
theorem dX7_mostCellsAlike_41 : decode cX7_mostCellsAlike 41 = .ok (.invokestatic 301, 3) := by decide +kernel
theorem dX7_mostCellsAlike_44 : decode cX7_mostCellsAlike 44 = .ok (.invokevirtual 312, 3) := by decide +kernel
theorem dX7_mostCellsAlike_47 : decode cX7_mostCellsAlike 47 = .ok (.iinc 4 1, 3) := by decide +kernel
theorem dX7_mostCellsAlike_50 : decode cX7_mostCellsAlike 50 = .ok (.goto (-40), 3) := by decide +kernel
theorem dX7_mostCellsAlike_53 : decode cX7_mostCellsAlike 53 = .ok (.aload_n 0, 1) := by decide +kernel
theorem dX7_mostCellsAlike_54 : decode cX7_mostCellsAlike 54 = .ok (.getfield 44, 3) := by decide +kernel
theorem dX7_mostCellsAlike_57 : decode cX7_mostCellsAlike 57 = .ok (.getfield 314, 3) := by decide +kernel
theorem dX7_mostCellsAlike_60 : decode cX7_mostCellsAlike 60 = .ok (.ireturn, 1) := by decide +kernel
theorem dX7_rowKindsThatFit_0 : decode cX7_rowKindsThatFit 0 = .ok (.iconst 0, 1) := by decide +kernel
theorem dX7_rowKindsThatFit_1 : decode cX7_rowKindsThatFit 1 = .ok (.istore_n 2, 1) := by decide +kernel
theorem dX7_rowKindsThatFit_2 : decode cX7_rowKindsThatFit 2 = .ok (.iconst 0, 1) := by decide +kernel
theorem dX7_rowKindsThatFit_3 : decode cX7_rowKindsThatFit 3 = .ok (.istore_n 3, 1) := by decide +kernel
theorem dX7_rowKindsThatFit_4 : decode cX7_rowKindsThatFit 4 = .ok (.iload_n 3, 1) := by decide +kernel
theorem dX7_rowKindsThatFit_5 : decode cX7_rowKindsThatFit 5 = .ok (.bipush 6, 2) := by decide +kernel
theorem dX7_rowKindsThatFit_7 : decode cX7_rowKindsThatFit 7 = .ok (.if_icmp .ge 24, 3) := by decide +kernel
theorem dX7_rowKindsThatFit_10 : decode cX7_rowKindsThatFit 10 = .ok (.aload_n 0, 1) := by decide +kernel
theorem dX7_rowKindsThatFit_11 : decode cX7_rowKindsThatFit 11 = .ok (.iload_n 1, 1) := by decide +kernel
theorem dX7_rowKindsThatFit_12 : decode cX7_rowKindsThatFit 12 = .ok (.iload_n 3, 1) := by decide +kernel
theorem dX7_rowKindsThatFit_13 : decode cX7_rowKindsThatFit 13 = .ok (.invokevirtual 317, 3) := by decide +kernel
theorem dX7_rowKindsThatFit_16 : decode cX7_rowKindsThatFit 16 = .ok (.ifCond .eq 9, 3) := by decide +kernel
theorem dX7_rowKindsThatFit_19 : decode cX7_rowKindsThatFit 19 = .ok (.iload_n 2, 1) := by decide +kernel
theorem dX7_rowKindsThatFit_20 : decode cX7_rowKindsThatFit 20 = .ok (.iconst 1, 1) := by decide +kernel
theorem dX7_rowKindsThatFit_21 : decode cX7_rowKindsThatFit 21 = .ok (.iload_n 3, 1) := by decide +kernel
theorem dX7_rowKindsThatFit_22 : decode cX7_rowKindsThatFit 22 = .ok (.ishl, 1) := by decide +kernel
theorem dX7_rowKindsThatFit_23 : decode cX7_rowKindsThatFit 23 = .ok (.ior, 1) := by decide +kernel
theorem dX7_rowKindsThatFit_24 : decode cX7_rowKindsThatFit 24 = .ok (.istore_n 2, 1) := by decide +kernel
theorem dX7_rowKindsThatFit_25 : decode cX7_rowKindsThatFit 25 = .ok (.iinc 3 1, 3) := by decide +kernel
theorem dX7_rowKindsThatFit_28 : decode cX7_rowKindsThatFit 28 = .ok (.goto (-24), 3) := by decide +kernel
theorem dX7_rowKindsThatFit_31 : decode cX7_rowKindsThatFit 31 = .ok (.iload_n 2, 1) := by decide +kernel
theorem dX7_rowKindsThatFit_32 : decode cX7_rowKindsThatFit 32 = .ok (.ireturn, 1) := by decide +kernel
theorem dX7_fitsNotes_0 : decode cX7_fitsNotes 0 = .ok (.iconst 0, 1) := by decide +kernel
theorem dX7_fitsNotes_1 : decode cX7_fitsNotes 1 = .ok (.istore_n 3, 1) := by decide +kernel
theorem dX7_fitsNotes_2 : decode cX7_fitsNotes 2 = .ok (.iload_n 3, 1) := by decide +kernel
theorem dX7_fitsNotes_3 : decode cX7_fitsNotes 3 = .ok (.aload_n 0, 1) := by decide +kernel
theorem dX7_fitsNotes_4 : decode cX7_fitsNotes 4 = .ok (.getfield 10, 3) := by decide +kernel
theorem dX7_fitsNotes_7 : decode cX7_fitsNotes 7 = .ok (.getfield 219, 3) := by decide +kernel
theorem dX7_fitsNotes_10 : decode cX7_fitsNotes 10 = .ok (.getfield 148, 3) := by decide +kernel
theorem dX7_fitsNotes_13 : decode cX7_fitsNotes 13 = .ok (.if_icmp .ge 58, 3) := by decide +kernel
theorem dX7_fitsNotes_16 : decode cX7_fitsNotes 16 = .ok (.aload_n 0, 1) := by decide +kernel
theorem dX7_fitsNotes_17 : decode cX7_fitsNotes 17 = .ok (.getfield 10, 3) := by decide +kernel
theorem dX7_fitsNotes_20 : decode cX7_fitsNotes 20 = .ok (.getfield 219, 3) := by decide +kernel
theorem dX7_fitsNotes_23 : decode cX7_fitsNotes 23 = .ok (.iload_n 3, 1) := by decide +kernel
theorem dX7_fitsNotes_24 : decode cX7_fitsNotes 24 = .ok (.iconst 0, 1) := by decide +kernel
theorem dX7_fitsNotes_25 : decode cX7_fitsNotes 25 = .ok (.invokevirtual 308, 3) := by decide +kernel
theorem dX7_fitsNotes_28 : decode cX7_fitsNotes 28 = .ok (.iload_n 1, 1) := by decide +kernel
theorem dX7_fitsNotes_29 : decode cX7_fitsNotes 29 = .ok (.if_icmp .ne 36, 3) := by decide +kernel
theorem dX7_fitsNotes_32 : decode cX7_fitsNotes 32 = .ok (.iload_n 2, 1) := by decide +kernel
theorem dX7_fitsNotes_33 : decode cX7_fitsNotes 33 = .ok (.aload_n 0, 1) := by decide +kernel
theorem dX7_fitsNotes_34 : decode cX7_fitsNotes 34 = .ok (.getfield 10, 3) := by decide +kernel
theorem dX7_fitsNotes_37 : decode cX7_fitsNotes 37 = .ok (.getfield 219, 3) := by decide +kernel
theorem dX7_fitsNotes_40 : decode cX7_fitsNotes 40 = .ok (.iload_n 3, 1) := by decide +kernel
theorem dX7_fitsNotes_41 : decode cX7_fitsNotes 41 = .ok (.iconst 1, 1) := by decide +kernel
theorem dX7_fitsNotes_42 : decode cX7_fitsNotes 42 = .ok (.invokevirtual 308, 3) := by decide +kernel
theorem dX7_fitsNotes_45 : decode cX7_fitsNotes 45 = .ok (.invokestatic 320, 3) := by decide +kernel
theorem dX7_fitsNotes_48 : decode cX7_fitsNotes 48 = .ok (.aload_n 0, 1) := by decide +kernel
theorem dX7_fitsNotes_49 : decode cX7_fitsNotes 49 = .ok (.getfield 10, 3) := by decide +kernel
theorem dX7_fitsNotes_52 : decode cX7_fitsNotes 52 = .ok (.getfield 219, 3) := by decide +kernel
theorem dX7_fitsNotes_55 : decode cX7_fitsNotes 55 = .ok (.iload_n 3, 1) := by decide +kernel
theorem dX7_fitsNotes_56 : decode cX7_fitsNotes 56 = .ok (.iconst 2, 1) := by decide +kernel
theorem dX7_fitsNotes_57 : decode cX7_fitsNotes 57 = .ok (.invokevirtual 308, 3) := by decide +kernel
theorem dX7_fitsNotes_60 : decode cX7_fitsNotes 60 = .ok (.if_icmp .eq 5, 3) := by decide +kernel
theorem dX7_fitsNotes_63 : decode cX7_fitsNotes 63 = .ok (.iconst 0, 1) := by decide +kernel
theorem dX7_fitsNotes_64 : decode cX7_fitsNotes 64 = .ok (.ireturn, 1) := by decide +kernel
theorem dX7_fitsNotes_65 : decode cX7_fitsNotes 65 = .ok (.iinc 3 1, 3) := by decide +kernel
theorem dX7_fitsNotes_68 : decode cX7_fitsNotes 68 = .ok (.goto (-66), 3) := by decide +kernel
theorem dX7_fitsNotes_71 : decode cX7_fitsNotes 71 = .ok (.iconst 1, 1) := by decide +kernel
theorem dX7_fitsNotes_72 : decode cX7_fitsNotes 72 = .ok (.ireturn, 1) := by decide +kernel
theorem dX7_mostRowKindsAlike_0 : decode cX7_mostRowKindsAlike 0 = .ok (.aload_n 0, 1) := by decide +kernel
theorem dX7_mostRowKindsAlike_1 : decode cX7_mostRowKindsAlike 1 = .ok (.getfield 44, 3) := by decide +kernel
theorem dX7_mostRowKindsAlike_4 : decode cX7_mostRowKindsAlike 4 = .ok (.invokevirtual 311, 3) := by decide +kernel
theorem dX7_mostRowKindsAlike_7 : decode cX7_mostRowKindsAlike 7 = .ok (.iconst 0, 1) := by decide +kernel
theorem dX7_mostRowKindsAlike_8 : decode cX7_mostRowKindsAlike 8 = .ok (.istore_n 3, 1) := by decide +kernel
theorem dX7_mostRowKindsAlike_9 : decode cX7_mostRowKindsAlike 9 = .ok (.iload_n 3, 1) := by decide +kernel
theorem dX7_mostRowKindsAlike_10 : decode cX7_mostRowKindsAlike 10 = .ok (.bipush 6, 2) := by decide +kernel
theorem dX7_mostRowKindsAlike_12 : decode cX7_mostRowKindsAlike 12 = .ok (.if_icmp .ge 29, 3) := by decide +kernel
theorem dX7_mostRowKindsAlike_15 : decode cX7_mostRowKindsAlike 15 = .ok (.iload_n 1, 1) := by decide +kernel
theorem dX7_mostRowKindsAlike_16 : decode cX7_mostRowKindsAlike 16 = .ok (.iload_n 3, 1) := by decide +kernel
theorem dX7_mostRowKindsAlike_17 : decode cX7_mostRowKindsAlike 17 = .ok (.invokestatic 213, 3) := by decide +kernel
theorem dX7_mostRowKindsAlike_20 : decode cX7_mostRowKindsAlike 20 = .ok (.ifCond .eq 15, 3) := by decide +kernel
theorem dX7_mostRowKindsAlike_23 : decode cX7_mostRowKindsAlike 23 = .ok (.aload_n 0, 1) := by decide +kernel
theorem dX7_mostRowKindsAlike_24 : decode cX7_mostRowKindsAlike 24 = .ok (.getfield 44, 3) := by decide +kernel
theorem dX7_mostRowKindsAlike_27 : decode cX7_mostRowKindsAlike 27 = .ok (.iload_n 3, 1) := by decide +kernel
theorem dX7_mostRowKindsAlike_28 : decode cX7_mostRowKindsAlike 28 = .ok (.iload_n 2, 1) := by decide +kernel
theorem dX7_mostRowKindsAlike_29 : decode cX7_mostRowKindsAlike 29 = .ok (.invokestatic 320, 3) := by decide +kernel
theorem dX7_mostRowKindsAlike_32 : decode cX7_mostRowKindsAlike 32 = .ok (.invokevirtual 312, 3) := by decide +kernel
theorem dX7_mostRowKindsAlike_35 : decode cX7_mostRowKindsAlike 35 = .ok (.iinc 3 1, 3) := by decide +kernel
theorem dX7_mostRowKindsAlike_38 : decode cX7_mostRowKindsAlike 38 = .ok (.goto (-29), 3) := by decide +kernel
theorem dX7_mostRowKindsAlike_41 : decode cX7_mostRowKindsAlike 41 = .ok (.aload_n 0, 1) := by decide +kernel
theorem dX7_mostRowKindsAlike_42 : decode cX7_mostRowKindsAlike 42 = .ok (.getfield 44, 3) := by decide +kernel
theorem dX7_mostRowKindsAlike_45 : decode cX7_mostRowKindsAlike 45 = .ok (.getfield 314, 3) := by decide +kernel
theorem dX7_mostRowKindsAlike_48 : decode cX7_mostRowKindsAlike 48 = .ok (.ireturn, 1) := by decide +kernel
theorem dX7_soulKindsThatFit_0 : decode cX7_soulKindsThatFit 0 = .ok (.iconst 0, 1) := by decide +kernel
theorem dX7_soulKindsThatFit_1 : decode cX7_soulKindsThatFit 1 = .ok (.istore_n 2, 1) := by decide +kernel
theorem dX7_soulKindsThatFit_2 : decode cX7_soulKindsThatFit 2 = .ok (.iconst 0, 1) := by decide +kernel
theorem dX7_soulKindsThatFit_3 : decode cX7_soulKindsThatFit 3 = .ok (.istore_n 3, 1) := by decide +kernel
theorem dX7_soulKindsThatFit_4 : decode cX7_soulKindsThatFit 4 = .ok (.iload_n 3, 1) := by decide +kernel
theorem dX7_soulKindsThatFit_5 : decode cX7_soulKindsThatFit 5 = .ok (.bipush 6, 2) := by decide +kernel
theorem dX7_soulKindsThatFit_7 : decode cX7_soulKindsThatFit 7 = .ok (.if_icmp .ge 24, 3) := by decide +kernel
theorem dX7_soulKindsThatFit_10 : decode cX7_soulKindsThatFit 10 = .ok (.aload_n 0, 1) := by decide +kernel
theorem dX7_soulKindsThatFit_11 : decode cX7_soulKindsThatFit 11 = .ok (.iload_n 1, 1) := by decide +kernel
theorem dX7_soulKindsThatFit_12 : decode cX7_soulKindsThatFit 12 = .ok (.iload_n 3, 1) := by decide +kernel
theorem dX7_soulKindsThatFit_13 : decode cX7_soulKindsThatFit 13 = .ok (.invokevirtual 323, 3) := by decide +kernel
theorem dX7_soulKindsThatFit_16 : decode cX7_soulKindsThatFit 16 = .ok (.ifCond .eq 9, 3) := by decide +kernel
theorem dX7_soulKindsThatFit_19 : decode cX7_soulKindsThatFit 19 = .ok (.iload_n 2, 1) := by decide +kernel
theorem dX7_soulKindsThatFit_20 : decode cX7_soulKindsThatFit 20 = .ok (.iconst 1, 1) := by decide +kernel
theorem dX7_soulKindsThatFit_21 : decode cX7_soulKindsThatFit 21 = .ok (.iload_n 3, 1) := by decide +kernel
theorem dX7_soulKindsThatFit_22 : decode cX7_soulKindsThatFit 22 = .ok (.ishl, 1) := by decide +kernel
theorem dX7_soulKindsThatFit_23 : decode cX7_soulKindsThatFit 23 = .ok (.ior, 1) := by decide +kernel
theorem dX7_soulKindsThatFit_24 : decode cX7_soulKindsThatFit 24 = .ok (.istore_n 2, 1) := by decide +kernel
theorem dX7_soulKindsThatFit_25 : decode cX7_soulKindsThatFit 25 = .ok (.iinc 3 1, 3) := by decide +kernel
theorem dX7_soulKindsThatFit_28 : decode cX7_soulKindsThatFit 28 = .ok (.goto (-24), 3) := by decide +kernel
theorem dX7_soulKindsThatFit_31 : decode cX7_soulKindsThatFit 31 = .ok (.iload_n 2, 1) := by decide +kernel
theorem dX7_soulKindsThatFit_32 : decode cX7_soulKindsThatFit 32 = .ok (.ireturn, 1) := by decide +kernel
theorem dX7_fitsMarks_0 : decode cX7_fitsMarks 0 = .ok (.iconst 0, 1) := by decide +kernel
theorem dX7_fitsMarks_1 : decode cX7_fitsMarks 1 = .ok (.istore_n 3, 1) := by decide +kernel
theorem dX7_fitsMarks_2 : decode cX7_fitsMarks 2 = .ok (.iload_n 3, 1) := by decide +kernel
theorem dX7_fitsMarks_3 : decode cX7_fitsMarks 3 = .ok (.aload_n 0, 1) := by decide +kernel
theorem dX7_fitsMarks_4 : decode cX7_fitsMarks 4 = .ok (.getfield 10, 3) := by decide +kernel
theorem dX7_fitsMarks_7 : decode cX7_fitsMarks 7 = .ok (.getfield 222, 3) := by decide +kernel
theorem dX7_fitsMarks_10 : decode cX7_fitsMarks 10 = .ok (.getfield 148, 3) := by decide +kernel
theorem dX7_fitsMarks_13 : decode cX7_fitsMarks 13 = .ok (.if_icmp .ge 70, 3) := by decide +kernel
theorem dX7_fitsMarks_16 : decode cX7_fitsMarks 16 = .ok (.aload_n 0, 1) := by decide +kernel
theorem dX7_fitsMarks_17 : decode cX7_fitsMarks 17 = .ok (.getfield 10, 3) := by decide +kernel
theorem dX7_fitsMarks_20 : decode cX7_fitsMarks 20 = .ok (.getfield 222, 3) := by decide +kernel
theorem dX7_fitsMarks_23 : decode cX7_fitsMarks 23 = .ok (.iload_n 3, 1) := by decide +kernel
theorem dX7_fitsMarks_24 : decode cX7_fitsMarks 24 = .ok (.iconst 0, 1) := by decide +kernel
theorem dX7_fitsMarks_25 : decode cX7_fitsMarks 25 = .ok (.invokevirtual 308, 3) := by decide +kernel
theorem dX7_fitsMarks_28 : decode cX7_fitsMarks 28 = .ok (.iload_n 1, 1) := by decide +kernel
theorem dX7_fitsMarks_29 : decode cX7_fitsMarks 29 = .ok (.if_icmp .ne 48, 3) := by decide +kernel
theorem dX7_fitsMarks_32 : decode cX7_fitsMarks 32 = .ok (.iload_n 2, 1) := by decide +kernel
theorem dX7_fitsMarks_33 : decode cX7_fitsMarks 33 = .ok (.aload_n 0, 1) := by decide +kernel
theorem dX7_fitsMarks_34 : decode cX7_fitsMarks 34 = .ok (.getfield 10, 3) := by decide +kernel
theorem dX7_fitsMarks_37 : decode cX7_fitsMarks 37 = .ok (.getfield 222, 3) := by decide +kernel
theorem dX7_fitsMarks_40 : decode cX7_fitsMarks 40 = .ok (.iload_n 3, 1) := by decide +kernel
theorem dX7_fitsMarks_41 : decode cX7_fitsMarks 41 = .ok (.iconst 1, 1) := by decide +kernel
theorem dX7_fitsMarks_42 : decode cX7_fitsMarks 42 = .ok (.invokevirtual 308, 3) := by decide +kernel
theorem dX7_fitsMarks_45 : decode cX7_fitsMarks 45 = .ok (.aload_n 0, 1) := by decide +kernel
theorem dX7_fitsMarks_46 : decode cX7_fitsMarks 46 = .ok (.getfield 10, 3) := by decide +kernel
theorem dX7_fitsMarks_49 : decode cX7_fitsMarks 49 = .ok (.getfield 222, 3) := by decide +kernel
theorem dX7_fitsMarks_52 : decode cX7_fitsMarks 52 = .ok (.iload_n 3, 1) := by decide +kernel
theorem dX7_fitsMarks_53 : decode cX7_fitsMarks 53 = .ok (.iconst 2, 1) := by decide +kernel
theorem dX7_fitsMarks_54 : decode cX7_fitsMarks 54 = .ok (.invokevirtual 308, 3) := by decide +kernel
theorem dX7_fitsMarks_57 : decode cX7_fitsMarks 57 = .ok (.invokestatic 301, 3) := by decide +kernel
theorem dX7_fitsMarks_60 : decode cX7_fitsMarks 60 = .ok (.aload_n 0, 1) := by decide +kernel
theorem dX7_fitsMarks_61 : decode cX7_fitsMarks 61 = .ok (.getfield 10, 3) := by decide +kernel
theorem dX7_fitsMarks_64 : decode cX7_fitsMarks 64 = .ok (.getfield 222, 3) := by decide +kernel
theorem dX7_fitsMarks_67 : decode cX7_fitsMarks 67 = .ok (.iload_n 3, 1) := by decide +kernel
theorem dX7_fitsMarks_68 : decode cX7_fitsMarks 68 = .ok (.iconst 3, 1) := by decide +kernel
theorem dX7_fitsMarks_69 : decode cX7_fitsMarks 69 = .ok (.invokevirtual 308, 3) := by decide +kernel
theorem dX7_fitsMarks_72 : decode cX7_fitsMarks 72 = .ok (.if_icmp .eq 5, 3) := by decide +kernel
theorem dX7_fitsMarks_75 : decode cX7_fitsMarks 75 = .ok (.iconst 0, 1) := by decide +kernel
theorem dX7_fitsMarks_76 : decode cX7_fitsMarks 76 = .ok (.ireturn, 1) := by decide +kernel
theorem dX7_fitsMarks_77 : decode cX7_fitsMarks 77 = .ok (.iinc 3 1, 3) := by decide +kernel
theorem dX7_fitsMarks_80 : decode cX7_fitsMarks 80 = .ok (.goto (-78), 3) := by decide +kernel
theorem dX7_fitsMarks_83 : decode cX7_fitsMarks 83 = .ok (.iconst 1, 1) := by decide +kernel
theorem dX7_fitsMarks_84 : decode cX7_fitsMarks 84 = .ok (.ireturn, 1) := by decide +kernel
theorem dX7_mostSoulKindsAlike_0 : decode cX7_mostSoulKindsAlike 0 = .ok (.aload_n 0, 1) := by decide +kernel
theorem dX7_mostSoulKindsAlike_1 : decode cX7_mostSoulKindsAlike 1 = .ok (.getfield 44, 3) := by decide +kernel
theorem dX7_mostSoulKindsAlike_4 : decode cX7_mostSoulKindsAlike 4 = .ok (.invokevirtual 311, 3) := by decide +kernel
theorem dX7_mostSoulKindsAlike_7 : decode cX7_mostSoulKindsAlike 7 = .ok (.iconst 0, 1) := by decide +kernel
theorem dX7_mostSoulKindsAlike_8 : decode cX7_mostSoulKindsAlike 8 = .ok (.istore 4, 2) := by decide +kernel
theorem dX7_mostSoulKindsAlike_10 : decode cX7_mostSoulKindsAlike 10 = .ok (.iload 4, 2) := by decide +kernel
theorem dX7_mostSoulKindsAlike_12 : decode cX7_mostSoulKindsAlike 12 = .ok (.bipush 6, 2) := by decide +kernel
theorem dX7_mostSoulKindsAlike_14 : decode cX7_mostSoulKindsAlike 14 = .ok (.if_icmp .ge 32, 3) := by decide +kernel
theorem dX7_mostSoulKindsAlike_17 : decode cX7_mostSoulKindsAlike 17 = .ok (.iload_n 1, 1) := by decide +kernel
theorem dX7_mostSoulKindsAlike_18 : decode cX7_mostSoulKindsAlike 18 = .ok (.iload 4, 2) := by decide +kernel
theorem dX7_mostSoulKindsAlike_20 : decode cX7_mostSoulKindsAlike 20 = .ok (.invokestatic 213, 3) := by decide +kernel
theorem dX7_mostSoulKindsAlike_23 : decode cX7_mostSoulKindsAlike 23 = .ok (.ifCond .eq 17, 3) := by decide +kernel
theorem dX7_mostSoulKindsAlike_26 : decode cX7_mostSoulKindsAlike 26 = .ok (.aload_n 0, 1) := by decide +kernel
theorem dX7_mostSoulKindsAlike_27 : decode cX7_mostSoulKindsAlike 27 = .ok (.getfield 44, 3) := by decide +kernel
theorem dX7_mostSoulKindsAlike_30 : decode cX7_mostSoulKindsAlike 30 = .ok (.iload 4, 2) := by decide +kernel
theorem dX7_mostSoulKindsAlike_32 : decode cX7_mostSoulKindsAlike 32 = .ok (.iload_n 2, 1) := by decide +kernel
theorem dX7_mostSoulKindsAlike_33 : decode cX7_mostSoulKindsAlike 33 = .ok (.iload_n 3, 1) := by decide +kernel
theorem dX7_mostSoulKindsAlike_34 : decode cX7_mostSoulKindsAlike 34 = .ok (.invokestatic 301, 3) := by decide +kernel
theorem dX7_mostSoulKindsAlike_37 : decode cX7_mostSoulKindsAlike 37 = .ok (.invokevirtual 312, 3) := by decide +kernel
theorem dX7_mostSoulKindsAlike_40 : decode cX7_mostSoulKindsAlike 40 = .ok (.iinc 4 1, 3) := by decide +kernel
theorem dX7_mostSoulKindsAlike_43 : decode cX7_mostSoulKindsAlike 43 = .ok (.goto (-33), 3) := by decide +kernel
theorem dX7_mostSoulKindsAlike_46 : decode cX7_mostSoulKindsAlike 46 = .ok (.aload_n 0, 1) := by decide +kernel
theorem dX7_mostSoulKindsAlike_47 : decode cX7_mostSoulKindsAlike 47 = .ok (.getfield 44, 3) := by decide +kernel
theorem dX7_mostSoulKindsAlike_50 : decode cX7_mostSoulKindsAlike 50 = .ok (.getfield 314, 3) := by decide +kernel
theorem dX7_mostSoulKindsAlike_53 : decode cX7_mostSoulKindsAlike 53 = .ok (.ireturn, 1) := by decide +kernel
theorem dX7_setTenths_0 : decode cX7_setTenths 0 = .ok (.bipush 10, 2) := by decide +kernel
theorem dX7_setTenths_2 : decode cX7_setTenths 2 = .ok (.istore_n 2, 1) := by decide +kernel
theorem dX7_setTenths_3 : decode cX7_setTenths 3 = .ok (.iload_n 2, 1) := by decide +kernel
theorem dX7_setTenths_4 : decode cX7_setTenths 4 = .ok (.iconst 1, 1) := by decide +kernel
theorem dX7_setTenths_5 : decode cX7_setTenths 5 = .ok (.if_icmp .lt 40, 3) := by decide +kernel
theorem dX7_setTenths_8 : decode cX7_setTenths 8 = .ok (.bipush 10, 2) := by decide +kernel
theorem dX7_setTenths_10 : decode cX7_setTenths 10 = .ok (.iload_n 2, 1) := by decide +kernel
theorem dX7_setTenths_11 : decode cX7_setTenths 11 = .ok (.irem, 1) := by decide +kernel
theorem dX7_setTenths_12 : decode cX7_setTenths 12 = .ok (.ifCond .ne 27, 3) := by decide +kernel
theorem dX7_setTenths_15 : decode cX7_setTenths 15 = .ok (.iload_n 1, 1) := by decide +kernel
theorem dX7_setTenths_16 : decode cX7_setTenths 16 = .ok (.iload_n 2, 1) := by decide +kernel
theorem dX7_setTenths_17 : decode cX7_setTenths 17 = .ok (.irem, 1) := by decide +kernel
theorem dX7_setTenths_18 : decode cX7_setTenths 18 = .ok (.ifCond .ne 21, 3) := by decide +kernel
theorem dX7_setTenths_21 : decode cX7_setTenths 21 = .ok (.aload_n 0, 1) := by decide +kernel
theorem dX7_setTenths_22 : decode cX7_setTenths 22 = .ok (.iload_n 1, 1) := by decide +kernel
theorem dX7_setTenths_23 : decode cX7_setTenths 23 = .ok (.iload_n 2, 1) := by decide +kernel
theorem dX7_setTenths_24 : decode cX7_setTenths 24 = .ok (.idiv, 1) := by decide +kernel
theorem dX7_setTenths_25 : decode cX7_setTenths 25 = .ok (.i2l, 1) := by decide +kernel
theorem dX7_setTenths_26 : decode cX7_setTenths 26 = .ok (.putfield 261, 3) := by decide +kernel
theorem dX7_setTenths_29 : decode cX7_setTenths 29 = .ok (.aload_n 0, 1) := by decide +kernel
theorem dX7_setTenths_30 : decode cX7_setTenths 30 = .ok (.bipush 10, 2) := by decide +kernel
theorem dX7_setTenths_32 : decode cX7_setTenths 32 = .ok (.iload_n 2, 1) := by decide +kernel
theorem dX7_setTenths_33 : decode cX7_setTenths 33 = .ok (.idiv, 1) := by decide +kernel
theorem dX7_setTenths_34 : decode cX7_setTenths 34 = .ok (.i2l, 1) := by decide +kernel
theorem dX7_setTenths_35 : decode cX7_setTenths 35 = .ok (.putfield 48, 3) := by decide +kernel
theorem dX7_setTenths_38 : decode cX7_setTenths 38 = .ok (.return_, 1) := by decide +kernel
theorem dX7_setTenths_39 : decode cX7_setTenths 39 = .ok (.iinc 2 (-1), 3) := by decide +kernel
theorem dX7_setTenths_42 : decode cX7_setTenths 42 = .ok (.goto (-39), 3) := by decide +kernel
theorem dX7_setTenths_45 : decode cX7_setTenths 45 = .ok (.return_, 1) := by decide +kernel
