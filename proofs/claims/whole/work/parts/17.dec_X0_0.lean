theorem dX0_init_0 : decode cX0_init 0 = .ok (.aload_n 0, 1) := by decide +kernel
theorem dX0_init_1 : decode cX0_init 1 = .ok (.invokespecial 3, 3) := by decide +kernel
theorem dX0_init_4 : decode cX0_init 4 = .ok (.aload_n 0, 1) := by decide +kernel
theorem dX0_init_5 : decode cX0_init 5 = .ok (.iconst 5, 1) := by decide +kernel
theorem dX0_init_6 : decode cX0_init 6 = .ok (.newarray .int, 2) := by decide +kernel
theorem dX0_init_8 : decode cX0_init 8 = .ok (.putfield 9, 3) := by decide +kernel
theorem dX0_init_11 : decode cX0_init 11 = .ok (.aload_n 0, 1) := by decide +kernel
theorem dX0_init_12 : decode cX0_init 12 = .ok (.bipush 7, 2) := by decide +kernel
theorem dX0_init_14 : decode cX0_init 14 = .ok (.newarray .int, 2) := by decide +kernel
theorem dX0_init_16 : decode cX0_init 16 = .ok (.putfield 15, 3) := by decide +kernel
theorem dX0_init_19 : decode cX0_init 19 = .ok (.aload_n 0, 1) := by decide +kernel
theorem dX0_init_20 : decode cX0_init 20 = .ok (.bipush 7, 2) := by decide +kernel
theorem dX0_init_22 : decode cX0_init 22 = .ok (.newarray .int, 2) := by decide +kernel
theorem dX0_init_24 : decode cX0_init 24 = .ok (.putfield 18, 3) := by decide +kernel
theorem dX0_init_27 : decode cX0_init 27 = .ok (.aload_n 0, 1) := by decide +kernel
theorem dX0_init_28 : decode cX0_init 28 = .ok (.bipush 7, 2) := by decide +kernel
theorem dX0_init_30 : decode cX0_init 30 = .ok (.newarray .int, 2) := by decide +kernel
theorem dX0_init_32 : decode cX0_init 32 = .ok (.putfield 21, 3) := by decide +kernel
theorem dX0_init_35 : decode cX0_init 35 = .ok (.aload_n 0, 1) := by decide +kernel
theorem dX0_init_36 : decode cX0_init 36 = .ok (.new 24, 3) := by decide +kernel
theorem dX0_init_39 : decode cX0_init 39 = .ok (.dup, 1) := by decide +kernel
theorem dX0_init_40 : decode cX0_init 40 = .ok (.iconst 5, 1) := by decide +kernel
theorem dX0_init_41 : decode cX0_init 41 = .ok (.iconst 3, 1) := by decide +kernel
theorem dX0_init_42 : decode cX0_init 42 = .ok (.invokespecial 26, 3) := by decide +kernel
theorem dX0_init_45 : decode cX0_init 45 = .ok (.putfield 29, 3) := by decide +kernel
theorem dX0_init_48 : decode cX0_init 48 = .ok (.aload_n 0, 1) := by decide +kernel
theorem dX0_init_49 : decode cX0_init 49 = .ok (.new 24, 3) := by decide +kernel
theorem dX0_init_52 : decode cX0_init 52 = .ok (.dup, 1) := by decide +kernel
theorem dX0_init_53 : decode cX0_init 53 = .ok (.bipush 6, 2) := by decide +kernel
theorem dX0_init_55 : decode cX0_init 55 = .ok (.iconst 3, 1) := by decide +kernel
theorem dX0_init_56 : decode cX0_init 56 = .ok (.invokespecial 26, 3) := by decide +kernel
theorem dX0_init_59 : decode cX0_init 59 = .ok (.putfield 33, 3) := by decide +kernel
theorem dX0_init_62 : decode cX0_init 62 = .ok (.aload_n 0, 1) := by decide +kernel
theorem dX0_init_63 : decode cX0_init 63 = .ok (.new 24, 3) := by decide +kernel
theorem dX0_init_66 : decode cX0_init 66 = .ok (.dup, 1) := by decide +kernel
theorem dX0_init_67 : decode cX0_init 67 = .ok (.bipush 6, 2) := by decide +kernel
theorem dX0_init_69 : decode cX0_init 69 = .ok (.iconst 4, 1) := by decide +kernel
theorem dX0_init_70 : decode cX0_init 70 = .ok (.invokespecial 26, 3) := by decide +kernel
theorem dX0_init_73 : decode cX0_init 73 = .ok (.putfield 36, 3) := by decide +kernel
theorem dX0_init_76 : decode cX0_init 76 = .ok (.aload_n 0, 1) := by decide +kernel
theorem dX0_init_77 : decode cX0_init 77 = .ok (.new 24, 3) := by decide +kernel
theorem dX0_init_80 : decode cX0_init 80 = .ok (.dup, 1) := by decide +kernel
theorem dX0_init_81 : decode cX0_init 81 = .ok (.bipush 8, 2) := by decide +kernel
theorem dX0_init_83 : decode cX0_init 83 = .ok (.bipush 10, 2) := by decide +kernel
theorem dX0_init_85 : decode cX0_init 85 = .ok (.invokespecial 26, 3) := by decide +kernel
theorem dX0_init_88 : decode cX0_init 88 = .ok (.putfield 39, 3) := by decide +kernel
theorem dX0_init_91 : decode cX0_init 91 = .ok (.return_, 1) := by decide +kernel
theorem dX0_reset_0 : decode cX0_reset 0 = .ok (.iconst 0, 1) := by decide +kernel
theorem dX0_reset_1 : decode cX0_reset 1 = .ok (.istore_n 1, 1) := by decide +kernel
theorem dX0_reset_2 : decode cX0_reset 2 = .ok (.iload_n 1, 1) := by decide +kernel
theorem dX0_reset_3 : decode cX0_reset 3 = .ok (.iconst 5, 1) := by decide +kernel
theorem dX0_reset_4 : decode cX0_reset 4 = .ok (.if_icmp .ge 16, 3) := by decide +kernel
theorem dX0_reset_7 : decode cX0_reset 7 = .ok (.aload_n 0, 1) := by decide +kernel
theorem dX0_reset_8 : decode cX0_reset 8 = .ok (.getfield 9, 3) := by decide +kernel
theorem dX0_reset_11 : decode cX0_reset 11 = .ok (.iload_n 1, 1) := by decide +kernel
theorem dX0_reset_12 : decode cX0_reset 12 = .ok (.iconst 0, 1) := by decide +kernel
theorem dX0_reset_13 : decode cX0_reset 13 = .ok (.iastore, 1) := by decide +kernel
theorem dX0_reset_14 : decode cX0_reset 14 = .ok (.iinc 1 1, 3) := by decide +kernel
theorem dX0_reset_17 : decode cX0_reset 17 = .ok (.goto (-15), 3) := by decide +kernel
theorem dX0_reset_20 : decode cX0_reset 20 = .ok (.aload_n 0, 1) := by decide +kernel
theorem dX0_reset_21 : decode cX0_reset 21 = .ok (.iconst 0, 1) := by decide +kernel
theorem dX0_reset_22 : decode cX0_reset 22 = .ok (.putfield 42, 3) := by decide +kernel
theorem dX0_reset_25 : decode cX0_reset 25 = .ok (.aload_n 0, 1) := by decide +kernel
theorem dX0_reset_26 : decode cX0_reset 26 = .ok (.iconst 0, 1) := by decide +kernel
theorem dX0_reset_27 : decode cX0_reset 27 = .ok (.putfield 46, 3) := by decide +kernel
theorem dX0_reset_30 : decode cX0_reset 30 = .ok (.aload_n 0, 1) := by decide +kernel
theorem dX0_reset_31 : decode cX0_reset 31 = .ok (.iconst 0, 1) := by decide +kernel
theorem dX0_reset_32 : decode cX0_reset 32 = .ok (.putfield 49, 3) := by decide +kernel
theorem dX0_reset_35 : decode cX0_reset 35 = .ok (.aload_n 0, 1) := by decide +kernel
theorem dX0_reset_36 : decode cX0_reset 36 = .ok (.iconst 0, 1) := by decide +kernel
theorem dX0_reset_37 : decode cX0_reset 37 = .ok (.putfield 52, 3) := by decide +kernel
theorem dX0_reset_40 : decode cX0_reset 40 = .ok (.aload_n 0, 1) := by decide +kernel
theorem dX0_reset_41 : decode cX0_reset 41 = .ok (.getfield 29, 3) := by decide +kernel
theorem dX0_reset_44 : decode cX0_reset 44 = .ok (.invokevirtual 55, 3) := by decide +kernel
theorem dX0_reset_47 : decode cX0_reset 47 = .ok (.pop, 1) := by decide +kernel
theorem dX0_reset_48 : decode cX0_reset 48 = .ok (.aload_n 0, 1) := by decide +kernel
theorem dX0_reset_49 : decode cX0_reset 49 = .ok (.getfield 33, 3) := by decide +kernel
theorem dX0_reset_52 : decode cX0_reset 52 = .ok (.invokevirtual 55, 3) := by decide +kernel
theorem dX0_reset_55 : decode cX0_reset 55 = .ok (.pop, 1) := by decide +kernel
theorem dX0_reset_56 : decode cX0_reset 56 = .ok (.aload_n 0, 1) := by decide +kernel
theorem dX0_reset_57 : decode cX0_reset 57 = .ok (.getfield 36, 3) := by decide +kernel
theorem dX0_reset_60 : decode cX0_reset 60 = .ok (.invokevirtual 55, 3) := by decide +kernel
theorem dX0_reset_63 : decode cX0_reset 63 = .ok (.pop, 1) := by decide +kernel
theorem dX0_reset_64 : decode cX0_reset 64 = .ok (.aload_n 0, 1) := by decide +kernel
theorem dX0_reset_65 : decode cX0_reset 65 = .ok (.getfield 39, 3) := by decide +kernel
theorem dX0_reset_68 : decode cX0_reset 68 = .ok (.invokevirtual 55, 3) := by decide +kernel
theorem dX0_reset_71 : decode cX0_reset 71 = .ok (.pop, 1) := by decide +kernel
theorem dX0_reset_72 : decode cX0_reset 72 = .ok (.return_, 1) := by decide +kernel
theorem dX0_takeFrom_0 : decode cX0_takeFrom 0 = .ok (.aload_n 1, 1) := by decide +kernel
theorem dX0_takeFrom_1 : decode cX0_takeFrom 1 = .ok (.getfield 9, 3) := by decide +kernel
theorem dX0_takeFrom_4 : decode cX0_takeFrom 4 = .ok (.iconst 0, 1) := by decide +kernel
theorem dX0_takeFrom_5 : decode cX0_takeFrom 5 = .ok (.aload_n 0, 1) := by decide +kernel
theorem dX0_takeFrom_6 : decode cX0_takeFrom 6 = .ok (.getfield 9, 3) := by decide +kernel
theorem dX0_takeFrom_9 : decode cX0_takeFrom 9 = .ok (.iconst 0, 1) := by decide +kernel
theorem dX0_takeFrom_10 : decode cX0_takeFrom 10 = .ok (.iconst 5, 1) := by decide +kernel
theorem dX0_takeFrom_11 : decode cX0_takeFrom 11 = .ok (.invokestatic 59, 3) := by decide +kernel
theorem dX0_takeFrom_14 : decode cX0_takeFrom 14 = .ok (.aload_n 1, 1) := by decide +kernel
theorem dX0_takeFrom_15 : decode cX0_takeFrom 15 = .ok (.getfield 15, 3) := by decide +kernel
theorem dX0_takeFrom_18 : decode cX0_takeFrom 18 = .ok (.iconst 0, 1) := by decide +kernel
theorem dX0_takeFrom_19 : decode cX0_takeFrom 19 = .ok (.aload_n 0, 1) := by decide +kernel
theorem dX0_takeFrom_20 : decode cX0_takeFrom 20 = .ok (.getfield 15, 3) := by decide +kernel
theorem dX0_takeFrom_23 : decode cX0_takeFrom 23 = .ok (.iconst 0, 1) := by decide +kernel
theorem dX0_takeFrom_24 : decode cX0_takeFrom 24 = .ok (.bipush 7, 2) := by decide +kernel
theorem dX0_takeFrom_26 : decode cX0_takeFrom 26 = .ok (.invokestatic 59, 3) := by decide +kernel
theorem dX0_takeFrom_29 : decode cX0_takeFrom 29 = .ok (.aload_n 1, 1) := by decide +kernel
theorem dX0_takeFrom_30 : decode cX0_takeFrom 30 = .ok (.getfield 18, 3) := by decide +kernel
theorem dX0_takeFrom_33 : decode cX0_takeFrom 33 = .ok (.iconst 0, 1) := by decide +kernel
theorem dX0_takeFrom_34 : decode cX0_takeFrom 34 = .ok (.aload_n 0, 1) := by decide +kernel
theorem dX0_takeFrom_35 : decode cX0_takeFrom 35 = .ok (.getfield 18, 3) := by decide +kernel
theorem dX0_takeFrom_38 : decode cX0_takeFrom 38 = .ok (.iconst 0, 1) := by decide +kernel
theorem dX0_takeFrom_39 : decode cX0_takeFrom 39 = .ok (.bipush 7, 2) := by decide +kernel
theorem dX0_takeFrom_41 : decode cX0_takeFrom 41 = .ok (.invokestatic 59, 3) := by decide +kernel
theorem dX0_takeFrom_44 : decode cX0_takeFrom 44 = .ok (.aload_n 1, 1) := by decide +kernel
theorem dX0_takeFrom_45 : decode cX0_takeFrom 45 = .ok (.getfield 21, 3) := by decide +kernel
theorem dX0_takeFrom_48 : decode cX0_takeFrom 48 = .ok (.iconst 0, 1) := by decide +kernel
theorem dX0_takeFrom_49 : decode cX0_takeFrom 49 = .ok (.aload_n 0, 1) := by decide +kernel
theorem dX0_takeFrom_50 : decode cX0_takeFrom 50 = .ok (.getfield 21, 3) := by decide +kernel
theorem dX0_takeFrom_53 : decode cX0_takeFrom 53 = .ok (.iconst 0, 1) := by decide +kernel
theorem dX0_takeFrom_54 : decode cX0_takeFrom 54 = .ok (.bipush 7, 2) := by decide +kernel
theorem dX0_takeFrom_56 : decode cX0_takeFrom 56 = .ok (.invokestatic 59, 3) := by decide +kernel
theorem dX0_takeFrom_59 : decode cX0_takeFrom 59 = .ok (.aload_n 0, 1) := by decide +kernel
theorem dX0_takeFrom_60 : decode cX0_takeFrom 60 = .ok (.aload_n 1, 1) := by decide +kernel
theorem dX0_takeFrom_61 : decode cX0_takeFrom 61 = .ok (.getfield 42, 3) := by decide +kernel
theorem dX0_takeFrom_64 : decode cX0_takeFrom 64 = .ok (.putfield 42, 3) := by decide +kernel
theorem dX0_takeFrom_67 : decode cX0_takeFrom 67 = .ok (.aload_n 0, 1) := by decide +kernel
theorem dX0_takeFrom_68 : decode cX0_takeFrom 68 = .ok (.aload_n 1, 1) := by decide +kernel
theorem dX0_takeFrom_69 : decode cX0_takeFrom 69 = .ok (.getfield 46, 3) := by decide +kernel
theorem dX0_takeFrom_72 : decode cX0_takeFrom 72 = .ok (.putfield 46, 3) := by decide +kernel
theorem dX0_takeFrom_75 : decode cX0_takeFrom 75 = .ok (.aload_n 0, 1) := by decide +kernel
theorem dX0_takeFrom_76 : decode cX0_takeFrom 76 = .ok (.aload_n 1, 1) := by decide +kernel
theorem dX0_takeFrom_77 : decode cX0_takeFrom 77 = .ok (.getfield 49, 3) := by decide +kernel
theorem dX0_takeFrom_80 : decode cX0_takeFrom 80 = .ok (.putfield 49, 3) := by decide +kernel
theorem dX0_takeFrom_83 : decode cX0_takeFrom 83 = .ok (.aload_n 0, 1) := by decide +kernel
theorem dX0_takeFrom_84 : decode cX0_takeFrom 84 = .ok (.aload_n 1, 1) := by decide +kernel
theorem dX0_takeFrom_85 : decode cX0_takeFrom 85 = .ok (.getfield 52, 3) := by decide +kernel
theorem dX0_takeFrom_88 : decode cX0_takeFrom 88 = .ok (.putfield 52, 3) := by decide +kernel
theorem dX0_takeFrom_91 : decode cX0_takeFrom 91 = .ok (.aload_n 0, 1) := by decide +kernel
theorem dX0_takeFrom_92 : decode cX0_takeFrom 92 = .ok (.getfield 29, 3) := by decide +kernel
theorem dX0_takeFrom_95 : decode cX0_takeFrom 95 = .ok (.aload_n 1, 1) := by decide +kernel
theorem dX0_takeFrom_96 : decode cX0_takeFrom 96 = .ok (.getfield 29, 3) := by decide +kernel
theorem dX0_takeFrom_99 : decode cX0_takeFrom 99 = .ok (.invokevirtual 65, 3) := by decide +kernel
theorem dX0_takeFrom_102 : decode cX0_takeFrom 102 = .ok (.aload_n 0, 1) := by decide +kernel
theorem dX0_takeFrom_103 : decode cX0_takeFrom 103 = .ok (.getfield 33, 3) := by decide +kernel
theorem dX0_takeFrom_106 : decode cX0_takeFrom 106 = .ok (.aload_n 1, 1) := by decide +kernel
theorem dX0_takeFrom_107 : decode cX0_takeFrom 107 = .ok (.getfield 33, 3) := by decide +kernel
theorem dX0_takeFrom_110 : decode cX0_takeFrom 110 = .ok (.invokevirtual 65, 3) := by decide +kernel
theorem dX0_takeFrom_113 : decode cX0_takeFrom 113 = .ok (.aload_n 0, 1) := by decide +kernel
theorem dX0_takeFrom_114 : decode cX0_takeFrom 114 = .ok (.getfield 36, 3) := by decide +kernel
theorem dX0_takeFrom_117 : decode cX0_takeFrom 117 = .ok (.aload_n 1, 1) := by decide +kernel
theorem dX0_takeFrom_118 : decode cX0_takeFrom 118 = .ok (.getfield 36, 3) := by decide +kernel
theorem dX0_takeFrom_121 : decode cX0_takeFrom 121 = .ok (.invokevirtual 65, 3) := by decide +kernel
theorem dX0_takeFrom_124 : decode cX0_takeFrom 124 = .ok (.aload_n 0, 1) := by decide +kernel
theorem dX0_takeFrom_125 : decode cX0_takeFrom 125 = .ok (.getfield 39, 3) := by decide +kernel
theorem dX0_takeFrom_128 : decode cX0_takeFrom 128 = .ok (.aload_n 1, 1) := by decide +kernel
theorem dX0_takeFrom_129 : decode cX0_takeFrom 129 = .ok (.getfield 39, 3) := by decide +kernel
theorem dX0_takeFrom_132 : decode cX0_takeFrom 132 = .ok (.invokevirtual 65, 3) := by decide +kernel
theorem dX0_takeFrom_135 : decode cX0_takeFrom 135 = .ok (.return_, 1) := by decide +kernel
theorem dX0_addSoul_0 : decode cX0_addSoul 0 = .ok (.aload_n 0, 1) := by decide +kernel
theorem dX0_addSoul_1 : decode cX0_addSoul 1 = .ok (.getfield 42, 3) := by decide +kernel
theorem dX0_addSoul_4 : decode cX0_addSoul 4 = .ok (.bipush 7, 2) := by decide +kernel
theorem dX0_addSoul_6 : decode cX0_addSoul 6 = .ok (.if_icmp .lt 5, 3) := by decide +kernel
theorem dX0_addSoul_9 : decode cX0_addSoul 9 = .ok (.iconst (-1), 1) := by decide +kernel
theorem dX0_addSoul_10 : decode cX0_addSoul 10 = .ok (.ireturn, 1) := by decide +kernel
theorem dX0_addSoul_11 : decode cX0_addSoul 11 = .ok (.aload_n 0, 1) := by decide +kernel
theorem dX0_addSoul_12 : decode cX0_addSoul 12 = .ok (.getfield 15, 3) := by decide +kernel
theorem dX0_addSoul_15 : decode cX0_addSoul 15 = .ok (.aload_n 0, 1) := by decide +kernel
theorem dX0_addSoul_16 : decode cX0_addSoul 16 = .ok (.getfield 42, 3) := by decide +kernel
theorem dX0_addSoul_19 : decode cX0_addSoul 19 = .ok (.iload_n 1, 1) := by decide +kernel
theorem dX0_addSoul_20 : decode cX0_addSoul 20 = .ok (.iastore, 1) := by decide +kernel
theorem dX0_addSoul_21 : decode cX0_addSoul 21 = .ok (.aload_n 0, 1) := by decide +kernel
theorem dX0_addSoul_22 : decode cX0_addSoul 22 = .ok (.getfield 18, 3) := by decide +kernel
theorem dX0_addSoul_25 : decode cX0_addSoul 25 = .ok (.aload_n 0, 1) := by decide +kernel
theorem dX0_addSoul_26 : decode cX0_addSoul 26 = .ok (.getfield 42, 3) := by decide +kernel
theorem dX0_addSoul_29 : decode cX0_addSoul 29 = .ok (.iload_n 2, 1) := by decide +kernel
theorem dX0_addSoul_30 : decode cX0_addSoul 30 = .ok (.iastore, 1) := by decide +kernel
theorem dX0_addSoul_31 : decode cX0_addSoul 31 = .ok (.aload_n 0, 1) := by decide +kernel
theorem dX0_addSoul_32 : decode cX0_addSoul 32 = .ok (.getfield 21, 3) := by decide +kernel
theorem dX0_addSoul_35 : decode cX0_addSoul 35 = .ok (.aload_n 0, 1) := by decide +kernel
theorem dX0_addSoul_36 : decode cX0_addSoul 36 = .ok (.getfield 42, 3) := by decide +kernel
theorem dX0_addSoul_39 : decode cX0_addSoul 39 = .ok (.iconst (-1), 1) := by decide +kernel
theorem dX0_addSoul_40 : decode cX0_addSoul 40 = .ok (.iastore, 1) := by decide +kernel
theorem dX0_addSoul_41 : decode cX0_addSoul 41 = .ok (.aload_n 0, 1) := by decide +kernel
theorem dX0_addSoul_42 : decode cX0_addSoul 42 = .ok (.dup, 1) := by decide +kernel
theorem dX0_addSoul_43 : decode cX0_addSoul 43 = .ok (.getfield 42, 3) := by decide +kernel
theorem dX0_addSoul_46 : decode cX0_addSoul 46 = .ok (.iconst 1, 1) := by decide +kernel
theorem dX0_addSoul_47 : decode cX0_addSoul 47 = .ok (.iadd, 1) := by decide +kernel
theorem dX0_addSoul_48 : decode cX0_addSoul 48 = .ok (.putfield 42, 3) := by decide +kernel
theorem dX0_addSoul_51 : decode cX0_addSoul 51 = .ok (.aload_n 0, 1) := by decide +kernel
theorem dX0_addSoul_52 : decode cX0_addSoul 52 = .ok (.getfield 42, 3) := by decide +kernel
theorem dX0_addSoul_55 : decode cX0_addSoul 55 = .ok (.iconst 1, 1) := by decide +kernel
theorem dX0_addSoul_56 : decode cX0_addSoul 56 = .ok (.isub, 1) := by decide +kernel
theorem dX0_addSoul_57 : decode cX0_addSoul 57 = .ok (.ireturn, 1) := by decide +kernel
theorem dX0_isSoul_0 : decode cX0_isSoul 0 = .ok (.iload_n 1, 1) := by decide +kernel
theorem dX0_isSoul_1 : decode cX0_isSoul 1 = .ok (.aload_n 0, 1) := by decide +kernel
theorem dX0_isSoul_2 : decode cX0_isSoul 2 = .ok (.getfield 42, 3) := by decide +kernel
theorem dX0_isSoul_5 : decode cX0_isSoul 5 = .ok (.invokestatic 69, 3) := by decide +kernel
theorem dX0_isSoul_8 : decode cX0_isSoul 8 = .ok (.ireturn, 1) := by decide +kernel
theorem dX0_sits_0 : decode cX0_sits 0 = .ok (.aload_n 0, 1) := by decide +kernel
theorem dX0_sits_1 : decode cX0_sits 1 = .ok (.getfield 21, 3) := by decide +kernel
theorem dX0_sits_4 : decode cX0_sits 4 = .ok (.iload_n 1, 1) := by decide +kernel
theorem dX0_sits_5 : decode cX0_sits 5 = .ok (.iaload, 1) := by decide +kernel
theorem dX0_sits_6 : decode cX0_sits 6 = .ok (.iconst (-1), 1) := by decide +kernel
theorem dX0_sits_7 : decode cX0_sits 7 = .ok (.if_icmp .eq 7, 3) := by decide +kernel
theorem dX0_sits_10 : decode cX0_sits 10 = .ok (.iconst 1, 1) := by decide +kernel
theorem dX0_sits_11 : decode cX0_sits 11 = .ok (.goto 4, 3) := by decide +kernel
theorem dX0_sits_14 : decode cX0_sits 14 = .ok (.iconst 0, 1) := by decide +kernel
theorem dX0_sits_15 : decode cX0_sits 15 = .ok (.ireturn, 1) := by decide +kernel
theorem dX0_howManySit_0 : decode cX0_howManySit 0 = .ok (.iconst 0, 1) := by decide +kernel
theorem dX0_howManySit_1 : decode cX0_howManySit 1 = .ok (.istore_n 1, 1) := by decide +kernel
theorem dX0_howManySit_2 : decode cX0_howManySit 2 = .ok (.iconst 0, 1) := by decide +kernel
theorem dX0_howManySit_3 : decode cX0_howManySit 3 = .ok (.istore_n 2, 1) := by decide +kernel
theorem dX0_howManySit_4 : decode cX0_howManySit 4 = .ok (.iload_n 2, 1) := by decide +kernel
theorem dX0_howManySit_5 : decode cX0_howManySit 5 = .ok (.aload_n 0, 1) := by decide +kernel
theorem dX0_howManySit_6 : decode cX0_howManySit 6 = .ok (.getfield 42, 3) := by decide +kernel
theorem dX0_howManySit_9 : decode cX0_howManySit 9 = .ok (.if_icmp .ge 20, 3) := by decide +kernel
theorem dX0_howManySit_12 : decode cX0_howManySit 12 = .ok (.aload_n 0, 1) := by decide +kernel
theorem dX0_howManySit_13 : decode cX0_howManySit 13 = .ok (.iload_n 2, 1) := by decide +kernel
theorem dX0_howManySit_14 : decode cX0_howManySit 14 = .ok (.invokevirtual 73, 3) := by decide +kernel
theorem dX0_howManySit_17 : decode cX0_howManySit 17 = .ok (.ifCond .eq 6, 3) := by decide +kernel
theorem dX0_howManySit_20 : decode cX0_howManySit 20 = .ok (.iinc 1 1, 3) := by decide +kernel
theorem dX0_howManySit_23 : decode cX0_howManySit 23 = .ok (.iinc 2 1, 3) := by decide +kernel
theorem dX0_howManySit_26 : decode cX0_howManySit 26 = .ok (.goto (-22), 3) := by decide +kernel
theorem dX0_howManySit_29 : decode cX0_howManySit 29 = .ok (.iload_n 1, 1) := by decide +kernel
theorem dX0_howManySit_30 : decode cX0_howManySit 30 = .ok (.ireturn, 1) := by decide +kernel
theorem dX0_sitterAt_0 : decode cX0_sitterAt 0 = .ok (.iconst 0, 1) := by decide +kernel
theorem dX0_sitterAt_1 : decode cX0_sitterAt 1 = .ok (.istore_n 2, 1) := by decide +kernel
theorem dX0_sitterAt_2 : decode cX0_sitterAt 2 = .ok (.iload_n 2, 1) := by decide +kernel
theorem dX0_sitterAt_3 : decode cX0_sitterAt 3 = .ok (.aload_n 0, 1) := by decide +kernel
theorem dX0_sitterAt_4 : decode cX0_sitterAt 4 = .ok (.getfield 42, 3) := by decide +kernel
theorem dX0_sitterAt_7 : decode cX0_sitterAt 7 = .ok (.if_icmp .ge 21, 3) := by decide +kernel
theorem dX0_sitterAt_10 : decode cX0_sitterAt 10 = .ok (.aload_n 0, 1) := by decide +kernel
theorem dX0_sitterAt_11 : decode cX0_sitterAt 11 = .ok (.getfield 21, 3) := by decide +kernel
theorem dX0_sitterAt_14 : decode cX0_sitterAt 14 = .ok (.iload_n 2, 1) := by decide +kernel
theorem dX0_sitterAt_15 : decode cX0_sitterAt 15 = .ok (.iaload, 1) := by decide +kernel
theorem dX0_sitterAt_16 : decode cX0_sitterAt 16 = .ok (.iload_n 1, 1) := by decide +kernel
theorem dX0_sitterAt_17 : decode cX0_sitterAt 17 = .ok (.if_icmp .ne 5, 3) := by decide +kernel
theorem dX0_sitterAt_20 : decode cX0_sitterAt 20 = .ok (.iload_n 2, 1) := by decide +kernel
theorem dX0_sitterAt_21 : decode cX0_sitterAt 21 = .ok (.ireturn, 1) := by decide +kernel
theorem dX0_sitterAt_22 : decode cX0_sitterAt 22 = .ok (.iinc 2 1, 3) := by decide +kernel
theorem dX0_sitterAt_25 : decode cX0_sitterAt 25 = .ok (.goto (-23), 3) := by decide +kernel
theorem dX0_sitterAt_28 : decode cX0_sitterAt 28 = .ok (.iconst (-1), 1) := by decide +kernel
theorem dX0_sitterAt_29 : decode cX0_sitterAt 29 = .ok (.ireturn, 1) := by decide +kernel
theorem dX0_hasCoat_0 : decode cX0_hasCoat 0 = .ok (.aload_n 0, 1) := by decide +kernel
theorem dX0_hasCoat_1 : decode cX0_hasCoat 1 = .ok (.getfield 46, 3) := by decide +kernel
theorem dX0_hasCoat_4 : decode cX0_hasCoat 4 = .ok (.iload_n 1, 1) := by decide +kernel
theorem dX0_hasCoat_5 : decode cX0_hasCoat 5 = .ok (.invokestatic 77, 3) := by decide +kernel
theorem dX0_hasCoat_8 : decode cX0_hasCoat 8 = .ok (.ireturn, 1) := by decide +kernel
theorem dX0_isFree_0 : decode cX0_isFree 0 = .ok (.aload_n 0, 1) := by decide +kernel
theorem dX0_isFree_1 : decode cX0_isFree 1 = .ok (.iload_n 1, 1) := by decide +kernel
theorem dX0_isFree_2 : decode cX0_isFree 2 = .ok (.invokevirtual 80, 3) := by decide +kernel
theorem dX0_isFree_5 : decode cX0_isFree 5 = .ok (.iconst (-1), 1) := by decide +kernel
theorem dX0_isFree_6 : decode cX0_isFree 6 = .ok (.if_icmp .ne 15, 3) := by decide +kernel
theorem dX0_isFree_9 : decode cX0_isFree 9 = .ok (.aload_n 0, 1) := by decide +kernel
theorem dX0_isFree_10 : decode cX0_isFree 10 = .ok (.iload_n 1, 1) := by decide +kernel
theorem dX0_isFree_11 : decode cX0_isFree 11 = .ok (.invokevirtual 84, 3) := by decide +kernel
theorem dX0_isFree_14 : decode cX0_isFree 14 = .ok (.ifCond .ne 7, 3) := by decide +kernel
theorem dX0_isFree_17 : decode cX0_isFree 17 = .ok (.iconst 1, 1) := by decide +kernel
theorem dX0_isFree_18 : decode cX0_isFree 18 = .ok (.goto 4, 3) := by decide +kernel
theorem dX0_isFree_21 : decode cX0_isFree 21 = .ok (.iconst 0, 1) := by decide +kernel
theorem dX0_isFree_22 : decode cX0_isFree 22 = .ok (.ireturn, 1) := by decide +kernel
theorem dX0_kneesTo_0 : decode cX0_kneesTo 0 = .ok (.iload_n 1, 1) := by decide +kernel
theorem dX0_kneesTo_1 : decode cX0_kneesTo 1 = .ok (.iload_n 1, 1) := by decide +kernel
theorem dX0_kneesTo_2 : decode cX0_kneesTo 2 = .ok (.bipush 6, 2) := by decide +kernel
theorem dX0_kneesTo_4 : decode cX0_kneesTo 4 = .ok (.irem, 1) := by decide +kernel
theorem dX0_kneesTo_5 : decode cX0_kneesTo 5 = .ok (.isub, 1) := by decide +kernel
theorem dX0_kneesTo_6 : decode cX0_kneesTo 6 = .ok (.istore_n 2, 1) := by decide +kernel
theorem dX0_kneesTo_7 : decode cX0_kneesTo 7 = .ok (.iconst 0, 1) := by decide +kernel
theorem dX0_kneesTo_8 : decode cX0_kneesTo 8 = .ok (.istore_n 3, 1) := by decide +kernel
theorem dX0_kneesTo_9 : decode cX0_kneesTo 9 = .ok (.iconst 0, 1) := by decide +kernel
theorem dX0_kneesTo_10 : decode cX0_kneesTo 10 = .ok (.istore 4, 2) := by decide +kernel
theorem dX0_kneesTo_12 : decode cX0_kneesTo 12 = .ok (.iload 4, 2) := by decide +kernel
theorem dX0_kneesTo_14 : decode cX0_kneesTo 14 = .ok (.aload_n 0, 1) := by decide +kernel
theorem dX0_kneesTo_15 : decode cX0_kneesTo 15 = .ok (.getfield 42, 3) := by decide +kernel
theorem dX0_kneesTo_18 : decode cX0_kneesTo 18 = .ok (.if_icmp .ge 34, 3) := by decide +kernel
theorem dX0_kneesTo_21 : decode cX0_kneesTo 21 = .ok (.aload_n 0, 1) := by decide +kernel
theorem dX0_kneesTo_22 : decode cX0_kneesTo 22 = .ok (.getfield 21, 3) := by decide +kernel
theorem dX0_kneesTo_25 : decode cX0_kneesTo 25 = .ok (.iload 4, 2) := by decide +kernel
theorem dX0_kneesTo_27 : decode cX0_kneesTo 27 = .ok (.iaload, 1) := by decide +kernel
theorem dX0_kneesTo_28 : decode cX0_kneesTo 28 = .ok (.iload_n 2, 1) := by decide +kernel
theorem dX0_kneesTo_29 : decode cX0_kneesTo 29 = .ok (.if_icmp .lt 17, 3) := by decide +kernel
theorem dX0_kneesTo_32 : decode cX0_kneesTo 32 = .ok (.aload_n 0, 1) := by decide +kernel
theorem dX0_kneesTo_33 : decode cX0_kneesTo 33 = .ok (.getfield 21, 3) := by decide +kernel
theorem dX0_kneesTo_36 : decode cX0_kneesTo 36 = .ok (.iload 4, 2) := by decide +kernel
theorem dX0_kneesTo_38 : decode cX0_kneesTo 38 = .ok (.iaload, 1) := by decide +kernel
theorem dX0_kneesTo_39 : decode cX0_kneesTo 39 = .ok (.iload_n 1, 1) := by decide +kernel
theorem dX0_kneesTo_40 : decode cX0_kneesTo 40 = .ok (.if_icmp .ge 6, 3) := by decide +kernel
theorem dX0_kneesTo_43 : decode cX0_kneesTo 43 = .ok (.iinc 3 1, 3) := by decide +kernel
theorem dX0_kneesTo_46 : decode cX0_kneesTo 46 = .ok (.iinc 4 1, 3) := by decide +kernel
theorem dX0_kneesTo_49 : decode cX0_kneesTo 49 = .ok (.goto (-37), 3) := by decide +kernel
theorem dX0_kneesTo_52 : decode cX0_kneesTo 52 = .ok (.iload_n 3, 1) := by decide +kernel
theorem dX0_kneesTo_53 : decode cX0_kneesTo 53 = .ok (.ireturn, 1) := by decide +kernel
theorem dX0_sightFrom_0 : decode cX0_sightFrom 0 = .ok (.aload_n 0, 1) := by decide +kernel
theorem dX0_sightFrom_1 : decode cX0_sightFrom 1 = .ok (.getfield 9, 3) := by decide +kernel
theorem dX0_sightFrom_4 : decode cX0_sightFrom 4 = .ok (.iload_n 1, 1) := by decide +kernel
theorem dX0_sightFrom_5 : decode cX0_sightFrom 5 = .ok (.bipush 6, 2) := by decide +kernel
theorem dX0_sightFrom_7 : decode cX0_sightFrom 7 = .ok (.idiv, 1) := by decide +kernel
theorem dX0_sightFrom_8 : decode cX0_sightFrom 8 = .ok (.iaload, 1) := by decide +kernel
theorem dX0_sightFrom_9 : decode cX0_sightFrom 9 = .ok (.iload_n 1, 1) := by decide +kernel
theorem dX0_sightFrom_10 : decode cX0_sightFrom 10 = .ok (.bipush 6, 2) := by decide +kernel
theorem dX0_sightFrom_12 : decode cX0_sightFrom 12 = .ok (.irem, 1) := by decide +kernel
theorem dX0_sightFrom_13 : decode cX0_sightFrom 13 = .ok (.invokestatic 87, 3) := by decide +kernel
theorem dX0_sightFrom_16 : decode cX0_sightFrom 16 = .ok (.ireturn, 1) := by decide +kernel
theorem dX0_fussTo_0 : decode cX0_fussTo 0 = .ok (.aload_n 0, 1) := by decide +kernel
theorem dX0_fussTo_1 : decode cX0_fussTo 1 = .ok (.getfield 15, 3) := by decide +kernel
theorem dX0_fussTo_4 : decode cX0_fussTo 4 = .ok (.iload_n 1, 1) := by decide +kernel
theorem dX0_fussTo_5 : decode cX0_fussTo 5 = .ok (.iaload, 1) := by decide +kernel
theorem dX0_fussTo_6 : decode cX0_fussTo 6 = .ok (.aload_n 0, 1) := by decide +kernel
theorem dX0_fussTo_7 : decode cX0_fussTo 7 = .ok (.iload_n 2, 1) := by decide +kernel
theorem dX0_fussTo_8 : decode cX0_fussTo 8 = .ok (.invokevirtual 93, 3) := by decide +kernel
theorem dX0_fussTo_11 : decode cX0_fussTo 11 = .ok (.aload_n 0, 1) := by decide +kernel
theorem dX0_fussTo_12 : decode cX0_fussTo 12 = .ok (.getfield 49, 3) := by decide +kernel
theorem dX0_fussTo_15 : decode cX0_fussTo 15 = .ok (.invokestatic 96, 3) := by decide +kernel
theorem dX0_fussTo_18 : decode cX0_fussTo 18 = .ok (.ireturn, 1) := by decide +kernel
theorem dX0_showIn_0 : decode cX0_showIn 0 = .ok (.aload_n 0, 1) := by decide +kernel
theorem dX0_showIn_1 : decode cX0_showIn 1 = .ok (.iload_n 1, 1) := by decide +kernel
theorem dX0_showIn_2 : decode cX0_showIn 2 = .ok (.iload_n 2, 1) := by decide +kernel
theorem dX0_showIn_3 : decode cX0_showIn 3 = .ok (.invokevirtual 99, 3) := by decide +kernel
theorem dX0_showIn_6 : decode cX0_showIn 6 = .ok (.istore_n 3, 1) := by decide +kernel
theorem dX0_showIn_7 : decode cX0_showIn 7 = .ok (.aload_n 0, 1) := by decide +kernel
theorem dX0_showIn_8 : decode cX0_showIn 8 = .ok (.getfield 21, 3) := by decide +kernel
theorem dX0_showIn_11 : decode cX0_showIn 11 = .ok (.iload_n 1, 1) := by decide +kernel
theorem dX0_showIn_12 : decode cX0_showIn 12 = .ok (.iload_n 2, 1) := by decide +kernel
theorem dX0_showIn_13 : decode cX0_showIn 13 = .ok (.iastore, 1) := by decide +kernel
theorem dX0_showIn_14 : decode cX0_showIn 14 = .ok (.aload_n 0, 1) := by decide +kernel
theorem dX0_showIn_15 : decode cX0_showIn 15 = .ok (.iload_n 3, 1) := by decide +kernel
theorem dX0_showIn_16 : decode cX0_showIn 16 = .ok (.invokevirtual 102, 3) := by decide +kernel
theorem dX0_showIn_19 : decode cX0_showIn 19 = .ok (.ireturn, 1) := by decide +kernel
theorem dX0_moveTo_0 : decode cX0_moveTo 0 = .ok (.aload_n 0, 1) := by decide +kernel
theorem dX0_moveTo_1 : decode cX0_moveTo 1 = .ok (.iload_n 1, 1) := by decide +kernel
theorem dX0_moveTo_2 : decode cX0_moveTo 2 = .ok (.aload_n 0, 1) := by decide +kernel
theorem dX0_moveTo_3 : decode cX0_moveTo 3 = .ok (.getfield 21, 3) := by decide +kernel
theorem dX0_moveTo_6 : decode cX0_moveTo 6 = .ok (.iload_n 1, 1) := by decide +kernel
theorem dX0_moveTo_7 : decode cX0_moveTo 7 = .ok (.iaload, 1) := by decide +kernel
theorem dX0_moveTo_8 : decode cX0_moveTo 8 = .ok (.invokevirtual 99, 3) := by decide +kernel
theorem dX0_moveTo_11 : decode cX0_moveTo 11 = .ok (.istore_n 3, 1) := by decide +kernel
theorem dX0_moveTo_12 : decode cX0_moveTo 12 = .ok (.aload_n 0, 1) := by decide +kernel
theorem dX0_moveTo_13 : decode cX0_moveTo 13 = .ok (.getfield 21, 3) := by decide +kernel
theorem dX0_moveTo_16 : decode cX0_moveTo 16 = .ok (.iload_n 1, 1) := by decide +kernel
theorem dX0_moveTo_17 : decode cX0_moveTo 17 = .ok (.iconst (-1), 1) := by decide +kernel
theorem dX0_moveTo_18 : decode cX0_moveTo 18 = .ok (.iastore, 1) := by decide +kernel
theorem dX0_moveTo_19 : decode cX0_moveTo 19 = .ok (.iload_n 3, 1) := by decide +kernel
theorem dX0_moveTo_20 : decode cX0_moveTo 20 = .ok (.aload_n 0, 1) := by decide +kernel
theorem dX0_moveTo_21 : decode cX0_moveTo 21 = .ok (.iload_n 1, 1) := by decide +kernel
theorem dX0_moveTo_22 : decode cX0_moveTo 22 = .ok (.iload_n 2, 1) := by decide +kernel
theorem dX0_moveTo_23 : decode cX0_moveTo 23 = .ok (.invokevirtual 99, 3) := by decide +kernel
theorem dX0_moveTo_26 : decode cX0_moveTo 26 = .ok (.iadd, 1) := by decide +kernel
theorem dX0_moveTo_27 : decode cX0_moveTo 27 = .ok (.istore_n 3, 1) := by decide +kernel
theorem dX0_moveTo_28 : decode cX0_moveTo 28 = .ok (.aload_n 0, 1) := by decide +kernel
theorem dX0_moveTo_29 : decode cX0_moveTo 29 = .ok (.getfield 21, 3) := by decide +kernel
theorem dX0_moveTo_32 : decode cX0_moveTo 32 = .ok (.iload_n 1, 1) := by decide +kernel
theorem dX0_moveTo_33 : decode cX0_moveTo 33 = .ok (.iload_n 2, 1) := by decide +kernel
theorem dX0_moveTo_34 : decode cX0_moveTo 34 = .ok (.iastore, 1) := by decide +kernel
theorem dX0_moveTo_35 : decode cX0_moveTo 35 = .ok (.aload_n 0, 1) := by decide +kernel
theorem dX0_moveTo_36 : decode cX0_moveTo 36 = .ok (.iload_n 3, 1) := by decide +kernel
theorem dX0_moveTo_37 : decode cX0_moveTo 37 = .ok (.invokevirtual 102, 3) := by decide +kernel
theorem dX0_moveTo_40 : decode cX0_moveTo 40 = .ok (.ireturn, 1) := by decide +kernel
theorem dX0_sendOut_0 : decode cX0_sendOut 0 = .ok (.aload_n 0, 1) := by decide +kernel
theorem dX0_sendOut_1 : decode cX0_sendOut 1 = .ok (.iload_n 1, 1) := by decide +kernel
theorem dX0_sendOut_2 : decode cX0_sendOut 2 = .ok (.aload_n 0, 1) := by decide +kernel
theorem dX0_sendOut_3 : decode cX0_sendOut 3 = .ok (.getfield 21, 3) := by decide +kernel
theorem dX0_sendOut_6 : decode cX0_sendOut 6 = .ok (.iload_n 1, 1) := by decide +kernel
theorem dX0_sendOut_7 : decode cX0_sendOut 7 = .ok (.iaload, 1) := by decide +kernel
theorem dX0_sendOut_8 : decode cX0_sendOut 8 = .ok (.invokevirtual 99, 3) := by decide +kernel
theorem dX0_sendOut_11 : decode cX0_sendOut 11 = .ok (.istore_n 2, 1) := by decide +kernel
theorem dX0_sendOut_12 : decode cX0_sendOut 12 = .ok (.aload_n 0, 1) := by decide +kernel
theorem dX0_sendOut_13 : decode cX0_sendOut 13 = .ok (.getfield 21, 3) := by decide +kernel
theorem dX0_sendOut_16 : decode cX0_sendOut 16 = .ok (.iload_n 1, 1) := by decide +kernel
theorem dX0_sendOut_17 : decode cX0_sendOut 17 = .ok (.iconst (-1), 1) := by decide +kernel
theorem dX0_sendOut_18 : decode cX0_sendOut 18 = .ok (.iastore, 1) := by decide +kernel
theorem dX0_sendOut_19 : decode cX0_sendOut 19 = .ok (.aload_n 0, 1) := by decide +kernel
theorem dX0_sendOut_20 : decode cX0_sendOut 20 = .ok (.iload_n 2, 1) := by decide +kernel
theorem dX0_sendOut_21 : decode cX0_sendOut 21 = .ok (.invokevirtual 102, 3) := by decide +kernel
theorem dX0_sendOut_24 : decode cX0_sendOut 24 = .ok (.ireturn, 1) := by decide +kernel
theorem dX0_settle_0 : decode cX0_settle 0 = .ok (.aload_n 0, 1) := by decide +kernel
theorem dX0_settle_1 : decode cX0_settle 1 = .ok (.ldc 105, 2) := by decide +kernel
theorem dX0_settle_3 : decode cX0_settle 3 = .ok (.aload_n 0, 1) := by decide +kernel
theorem dX0_settle_4 : decode cX0_settle 4 = .ok (.getfield 52, 3) := by decide +kernel
theorem dX0_settle_7 : decode cX0_settle 7 = .ok (.iload_n 1, 1) := by decide +kernel
theorem dX0_settle_8 : decode cX0_settle 8 = .ok (.iadd, 1) := by decide +kernel
theorem dX0_settle_9 : decode cX0_settle 9 = .ok (.invokestatic 106, 3) := by decide +kernel
theorem dX0_settle_12 : decode cX0_settle 12 = .ok (.putfield 52, 3) := by decide +kernel
theorem dX0_settle_15 : decode cX0_settle 15 = .ok (.aload_n 0, 1) := by decide +kernel
theorem dX0_settle_16 : decode cX0_settle 16 = .ok (.dup, 1) := by decide +kernel
theorem dX0_settle_17 : decode cX0_settle 17 = .ok (.getfield 49, 3) := by decide +kernel
theorem dX0_settle_20 : decode cX0_settle 20 = .ok (.iconst 1, 1) := by decide +kernel
theorem dX0_settle_21 : decode cX0_settle 21 = .ok (.iadd, 1) := by decide +kernel
theorem dX0_settle_22 : decode cX0_settle 22 = .ok (.putfield 49, 3) := by decide +kernel
theorem dX0_settle_25 : decode cX0_settle 25 = .ok (.iload_n 1, 1) := by decide +kernel
theorem dX0_settle_26 : decode cX0_settle 26 = .ok (.ireturn, 1) := by decide +kernel
theorem dX0_liveThrough_0 : decode cX0_liveThrough 0 = .ok (.aload_n 0, 1) := by decide +kernel
theorem dX0_liveThrough_1 : decode cX0_liveThrough 1 = .ok (.iload_n 1, 1) := by decide +kernel
theorem dX0_liveThrough_2 : decode cX0_liveThrough 2 = .ok (.invokevirtual 111, 3) := by decide +kernel
theorem dX0_liveThrough_5 : decode cX0_liveThrough 5 = .ok (.ifCond .eq 17, 3) := by decide +kernel
theorem dX0_liveThrough_8 : decode cX0_liveThrough 8 = .ok (.aload_n 0, 1) := by decide +kernel
theorem dX0_liveThrough_9 : decode cX0_liveThrough 9 = .ok (.iload_n 1, 1) := by decide +kernel
theorem dX0_liveThrough_10 : decode cX0_liveThrough 10 = .ok (.invokevirtual 73, 3) := by decide +kernel
theorem dX0_liveThrough_13 : decode cX0_liveThrough 13 = .ok (.ifCond .eq 9, 3) := by decide +kernel
theorem dX0_liveThrough_16 : decode cX0_liveThrough 16 = .ok (.aload_n 0, 1) := by decide +kernel
theorem dX0_liveThrough_17 : decode cX0_liveThrough 17 = .ok (.iload_n 1, 1) := by decide +kernel
theorem dX0_liveThrough_18 : decode cX0_liveThrough 18 = .ok (.invokevirtual 114, 3) := by decide +kernel
theorem dX0_liveThrough_21 : decode cX0_liveThrough 21 = .ok (.ireturn, 1) := by decide +kernel
theorem dX0_liveThrough_22 : decode cX0_liveThrough 22 = .ok (.aload_n 0, 1) := by decide +kernel
theorem dX0_liveThrough_23 : decode cX0_liveThrough 23 = .ok (.iload_n 1, 1) := by decide +kernel
theorem dX0_liveThrough_24 : decode cX0_liveThrough 24 = .ok (.invokevirtual 111, 3) := by decide +kernel
theorem dX0_liveThrough_27 : decode cX0_liveThrough 27 = .ok (.ifCond .eq 18, 3) := by decide +kernel
theorem dX0_liveThrough_30 : decode cX0_liveThrough 30 = .ok (.aload_n 0, 1) := by decide +kernel
theorem dX0_liveThrough_31 : decode cX0_liveThrough 31 = .ok (.iload_n 2, 1) := by decide +kernel
theorem dX0_liveThrough_32 : decode cX0_liveThrough 32 = .ok (.invokevirtual 117, 3) := by decide +kernel
theorem dX0_liveThrough_35 : decode cX0_liveThrough 35 = .ok (.ifCond .eq 10, 3) := by decide +kernel
theorem dX0_liveThrough_38 : decode cX0_liveThrough 38 = .ok (.aload_n 0, 1) := by decide +kernel
theorem dX0_liveThrough_39 : decode cX0_liveThrough 39 = .ok (.iload_n 1, 1) := by decide +kernel
theorem dX0_liveThrough_40 : decode cX0_liveThrough 40 = .ok (.iload_n 2, 1) := by decide +kernel
theorem dX0_liveThrough_41 : decode cX0_liveThrough 41 = .ok (.invokevirtual 120, 3) := by decide +kernel
theorem dX0_liveThrough_44 : decode cX0_liveThrough 44 = .ok (.ireturn, 1) := by decide +kernel
theorem dX0_liveThrough_45 : decode cX0_liveThrough 45 = .ok (.aload_n 0, 1) := by decide +kernel
theorem dX0_liveThrough_46 : decode cX0_liveThrough 46 = .ok (.dup, 1) := by decide +kernel
theorem dX0_liveThrough_47 : decode cX0_liveThrough 47 = .ok (.getfield 49, 3) := by decide +kernel
theorem dX0_liveThrough_50 : decode cX0_liveThrough 50 = .ok (.iconst 1, 1) := by decide +kernel
theorem dX0_liveThrough_51 : decode cX0_liveThrough 51 = .ok (.iadd, 1) := by decide +kernel
theorem dX0_liveThrough_52 : decode cX0_liveThrough 52 = .ok (.putfield 49, 3) := by decide +kernel
theorem dX0_liveThrough_55 : decode cX0_liveThrough 55 = .ok (.iconst 0, 1) := by decide +kernel
theorem dX0_liveThrough_56 : decode cX0_liveThrough 56 = .ok (.ireturn, 1) := by decide +kernel
theorem dX0_remember_0 : decode cX0_remember 0 = .ok (.aload_n 0, 1) := by decide +kernel
theorem dX0_remember_1 : decode cX0_remember 1 = .ok (.getfield 39, 3) := by decide +kernel
theorem dX0_remember_4 : decode cX0_remember 4 = .ok (.invokevirtual 123, 3) := by decide +kernel
theorem dX0_remember_7 : decode cX0_remember 7 = .ok (.ifCond .eq 10, 3) := by decide +kernel
theorem dX0_remember_10 : decode cX0_remember 10 = .ok (.aload_n 0, 1) := by decide +kernel
theorem dX0_remember_11 : decode cX0_remember 11 = .ok (.getfield 39, 3) := by decide +kernel
theorem dX0_remember_14 : decode cX0_remember 14 = .ok (.invokevirtual 127, 3) := by decide +kernel
theorem dX0_remember_17 : decode cX0_remember 17 = .ok (.aload_n 0, 1) := by decide +kernel
theorem dX0_remember_18 : decode cX0_remember 18 = .ok (.getfield 39, 3) := by decide +kernel
theorem dX0_remember_21 : decode cX0_remember 21 = .ok (.invokevirtual 130, 3) := by decide +kernel
theorem dX0_remember_24 : decode cX0_remember 24 = .ok (.iconst 0, 1) := by decide +kernel
theorem dX0_remember_25 : decode cX0_remember 25 = .ok (.istore_n 1, 1) := by decide +kernel
theorem dX0_remember_26 : decode cX0_remember 26 = .ok (.iload_n 1, 1) := by decide +kernel
theorem dX0_remember_27 : decode cX0_remember 27 = .ok (.aload_n 0, 1) := by decide +kernel
theorem dX0_remember_28 : decode cX0_remember 28 = .ok (.getfield 42, 3) := by decide +kernel
theorem dX0_remember_31 : decode cX0_remember 31 = .ok (.if_icmp .ge 23, 3) := by decide +kernel
theorem dX0_remember_34 : decode cX0_remember 34 = .ok (.aload_n 0, 1) := by decide +kernel
theorem dX0_remember_35 : decode cX0_remember 35 = .ok (.getfield 39, 3) := by decide +kernel
theorem dX0_remember_38 : decode cX0_remember 38 = .ok (.iload_n 1, 1) := by decide +kernel
theorem dX0_remember_39 : decode cX0_remember 39 = .ok (.aload_n 0, 1) := by decide +kernel
theorem dX0_remember_40 : decode cX0_remember 40 = .ok (.getfield 21, 3) := by decide +kernel
theorem dX0_remember_43 : decode cX0_remember 43 = .ok (.iload_n 1, 1) := by decide +kernel
theorem dX0_remember_44 : decode cX0_remember 44 = .ok (.iaload, 1) := by decide +kernel
theorem dX0_remember_45 : decode cX0_remember 45 = .ok (.invokevirtual 133, 3) := by decide +kernel
theorem dX0_remember_48 : decode cX0_remember 48 = .ok (.iinc 1 1, 3) := by decide +kernel
theorem dX0_remember_51 : decode cX0_remember 51 = .ok (.goto (-25), 3) := by decide +kernel
theorem dX0_remember_54 : decode cX0_remember 54 = .ok (.aload_n 0, 1) := by decide +kernel
theorem dX0_remember_55 : decode cX0_remember 55 = .ok (.getfield 39, 3) := by decide +kernel
theorem dX0_remember_58 : decode cX0_remember 58 = .ok (.bipush 7, 2) := by decide +kernel
theorem dX0_remember_60 : decode cX0_remember 60 = .ok (.aload_n 0, 1) := by decide +kernel
theorem dX0_remember_61 : decode cX0_remember 61 = .ok (.getfield 46, 3) := by decide +kernel
theorem dX0_remember_64 : decode cX0_remember 64 = .ok (.invokevirtual 133, 3) := by decide +kernel
theorem dX0_remember_67 : decode cX0_remember 67 = .ok (.aload_n 0, 1) := by decide +kernel
theorem dX0_remember_68 : decode cX0_remember 68 = .ok (.getfield 39, 3) := by decide +kernel
theorem dX0_remember_71 : decode cX0_remember 71 = .ok (.bipush 8, 2) := by decide +kernel
theorem dX0_remember_73 : decode cX0_remember 73 = .ok (.aload_n 0, 1) := by decide +kernel
theorem dX0_remember_74 : decode cX0_remember 74 = .ok (.getfield 52, 3) := by decide +kernel
theorem dX0_remember_77 : decode cX0_remember 77 = .ok (.invokevirtual 133, 3) := by decide +kernel
theorem dX0_remember_80 : decode cX0_remember 80 = .ok (.aload_n 0, 1) := by decide +kernel
theorem dX0_remember_81 : decode cX0_remember 81 = .ok (.getfield 39, 3) := by decide +kernel
theorem dX0_remember_84 : decode cX0_remember 84 = .ok (.bipush 9, 2) := by decide +kernel
theorem dX0_remember_86 : decode cX0_remember 86 = .ok (.aload_n 0, 1) := by decide +kernel
theorem dX0_remember_87 : decode cX0_remember 87 = .ok (.getfield 49, 3) := by decide +kernel
theorem dX0_remember_90 : decode cX0_remember 90 = .ok (.invokevirtual 133, 3) := by decide +kernel
theorem dX0_remember_93 : decode cX0_remember 93 = .ok (.return_, 1) := by decide +kernel
theorem dX0_goBack_0 : decode cX0_goBack 0 = .ok (.aload_n 0, 1) := by decide +kernel
theorem dX0_goBack_1 : decode cX0_goBack 1 = .ok (.getfield 39, 3) := by decide +kernel
theorem dX0_goBack_4 : decode cX0_goBack 4 = .ok (.getfield 136, 3) := by decide +kernel
theorem dX0_goBack_7 : decode cX0_goBack 7 = .ok (.iconst 1, 1) := by decide +kernel
theorem dX0_goBack_8 : decode cX0_goBack 8 = .ok (.isub, 1) := by decide +kernel
theorem dX0_goBack_9 : decode cX0_goBack 9 = .ok (.istore_n 1, 1) := by decide +kernel
theorem dX0_goBack_10 : decode cX0_goBack 10 = .ok (.iconst 0, 1) := by decide +kernel
theorem dX0_goBack_11 : decode cX0_goBack 11 = .ok (.istore_n 2, 1) := by decide +kernel
theorem dX0_goBack_12 : decode cX0_goBack 12 = .ok (.iload_n 2, 1) := by decide +kernel
theorem dX0_goBack_13 : decode cX0_goBack 13 = .ok (.aload_n 0, 1) := by decide +kernel
theorem dX0_goBack_14 : decode cX0_goBack 14 = .ok (.getfield 42, 3) := by decide +kernel
theorem dX0_goBack_17 : decode cX0_goBack 17 = .ok (.if_icmp .ge 24, 3) := by decide +kernel
theorem dX0_goBack_20 : decode cX0_goBack 20 = .ok (.aload_n 0, 1) := by decide +kernel
theorem dX0_goBack_21 : decode cX0_goBack 21 = .ok (.getfield 21, 3) := by decide +kernel
theorem dX0_goBack_24 : decode cX0_goBack 24 = .ok (.iload_n 2, 1) := by decide +kernel
theorem dX0_goBack_25 : decode cX0_goBack 25 = .ok (.aload_n 0, 1) := by decide +kernel
theorem dX0_goBack_26 : decode cX0_goBack 26 = .ok (.getfield 39, 3) := by decide +kernel
theorem dX0_goBack_29 : decode cX0_goBack 29 = .ok (.iload_n 1, 1) := by decide +kernel
theorem dX0_goBack_30 : decode cX0_goBack 30 = .ok (.iload_n 2, 1) := by decide +kernel
theorem dX0_goBack_31 : decode cX0_goBack 31 = .ok (.invokevirtual 139, 3) := by decide +kernel
theorem dX0_goBack_34 : decode cX0_goBack 34 = .ok (.iastore, 1) := by decide +kernel
theorem dX0_goBack_35 : decode cX0_goBack 35 = .ok (.iinc 2 1, 3) := by decide +kernel
theorem dX0_goBack_38 : decode cX0_goBack 38 = .ok (.goto (-26), 3) := by decide +kernel
theorem dX0_goBack_41 : decode cX0_goBack 41 = .ok (.aload_n 0, 1) := by decide +kernel
theorem dX0_goBack_42 : decode cX0_goBack 42 = .ok (.aload_n 0, 1) := by decide +kernel
theorem dX0_goBack_43 : decode cX0_goBack 43 = .ok (.getfield 39, 3) := by decide +kernel
theorem dX0_goBack_46 : decode cX0_goBack 46 = .ok (.iload_n 1, 1) := by decide +kernel
theorem dX0_goBack_47 : decode cX0_goBack 47 = .ok (.bipush 7, 2) := by decide +kernel
theorem dX0_goBack_49 : decode cX0_goBack 49 = .ok (.invokevirtual 139, 3) := by decide +kernel
theorem dX0_goBack_52 : decode cX0_goBack 52 = .ok (.putfield 46, 3) := by decide +kernel
theorem dX0_goBack_55 : decode cX0_goBack 55 = .ok (.aload_n 0, 1) := by decide +kernel
theorem dX0_goBack_56 : decode cX0_goBack 56 = .ok (.aload_n 0, 1) := by decide +kernel
theorem dX0_goBack_57 : decode cX0_goBack 57 = .ok (.getfield 39, 3) := by decide +kernel
theorem dX0_goBack_60 : decode cX0_goBack 60 = .ok (.iload_n 1, 1) := by decide +kernel
theorem dX0_goBack_61 : decode cX0_goBack 61 = .ok (.bipush 8, 2) := by decide +kernel
theorem dX0_goBack_63 : decode cX0_goBack 63 = .ok (.invokevirtual 139, 3) := by decide +kernel
theorem dX0_goBack_66 : decode cX0_goBack 66 = .ok (.putfield 52, 3) := by decide +kernel
theorem dX0_goBack_69 : decode cX0_goBack 69 = .ok (.aload_n 0, 1) := by decide +kernel
theorem dX0_goBack_70 : decode cX0_goBack 70 = .ok (.aload_n 0, 1) := by decide +kernel
theorem dX0_goBack_71 : decode cX0_goBack 71 = .ok (.getfield 39, 3) := by decide +kernel
theorem dX0_goBack_74 : decode cX0_goBack 74 = .ok (.iload_n 1, 1) := by decide +kernel
theorem dX0_goBack_75 : decode cX0_goBack 75 = .ok (.bipush 9, 2) := by decide +kernel
theorem dX0_goBack_77 : decode cX0_goBack 77 = .ok (.invokevirtual 139, 3) := by decide +kernel
theorem dX0_goBack_80 : decode cX0_goBack 80 = .ok (.putfield 49, 3) := by decide +kernel
theorem dX0_goBack_83 : decode cX0_goBack 83 = .ok (.aload_n 0, 1) := by decide +kernel
theorem dX0_goBack_84 : decode cX0_goBack 84 = .ok (.getfield 39, 3) := by decide +kernel
theorem dX0_goBack_87 : decode cX0_goBack 87 = .ok (.invokevirtual 142, 3) := by decide +kernel
theorem dX0_goBack_90 : decode cX0_goBack 90 = .ok (.return_, 1) := by decide +kernel
theorem dX0_mixInto_0 : decode cX0_mixInto 0 = .ok (.lload_n 1, 1) := by decide +kernel
theorem dX0_mixInto_1 : decode cX0_mixInto 1 = .ok (.lstore_n 3, 1) := by decide +kernel
theorem dX0_mixInto_2 : decode cX0_mixInto 2 = .ok (.iconst 0, 1) := by decide +kernel
theorem dX0_mixInto_3 : decode cX0_mixInto 3 = .ok (.istore 5, 2) := by decide +kernel
theorem dX0_mixInto_5 : decode cX0_mixInto 5 = .ok (.iload 5, 2) := by decide +kernel
theorem dX0_mixInto_7 : decode cX0_mixInto 7 = .ok (.iconst 5, 1) := by decide +kernel
theorem dX0_mixInto_8 : decode cX0_mixInto 8 = .ok (.if_icmp .ge 24, 3) := by decide +kernel
theorem dX0_mixInto_11 : decode cX0_mixInto 11 = .ok (.ldc2_w 145, 3) := by decide +kernel
theorem dX0_mixInto_14 : decode cX0_mixInto 14 = .ok (.lload_n 3, 1) := by decide +kernel
theorem dX0_mixInto_15 : decode cX0_mixInto 15 = .ok (.lmul, 1) := by decide +kernel
theorem dX0_mixInto_16 : decode cX0_mixInto 16 = .ok (.aload_n 0, 1) := by decide +kernel
theorem dX0_mixInto_17 : decode cX0_mixInto 17 = .ok (.getfield 9, 3) := by decide +kernel
theorem dX0_mixInto_20 : decode cX0_mixInto 20 = .ok (.iload 5, 2) := by decide +kernel
theorem dX0_mixInto_22 : decode cX0_mixInto 22 = .ok (.iaload, 1) := by decide +kernel
theorem dX0_mixInto_23 : decode cX0_mixInto 23 = .ok (.i2l, 1) := by decide +kernel
theorem dX0_mixInto_24 : decode cX0_mixInto 24 = .ok (.ladd, 1) := by decide +kernel
theorem dX0_mixInto_25 : decode cX0_mixInto 25 = .ok (.lstore_n 3, 1) := by decide +kernel
theorem dX0_mixInto_26 : decode cX0_mixInto 26 = .ok (.iinc 5 1, 3) := by decide +kernel
theorem dX0_mixInto_29 : decode cX0_mixInto 29 = .ok (.goto (-24), 3) := by decide +kernel
theorem dX0_mixInto_32 : decode cX0_mixInto 32 = .ok (.ldc2_w 145, 3) := by decide +kernel
theorem dX0_mixInto_35 : decode cX0_mixInto 35 = .ok (.lload_n 3, 1) := by decide +kernel
theorem dX0_mixInto_36 : decode cX0_mixInto 36 = .ok (.lmul, 1) := by decide +kernel
theorem dX0_mixInto_37 : decode cX0_mixInto 37 = .ok (.aload_n 0, 1) := by decide +kernel
theorem dX0_mixInto_38 : decode cX0_mixInto 38 = .ok (.getfield 46, 3) := by decide +kernel
theorem dX0_mixInto_41 : decode cX0_mixInto 41 = .ok (.i2l, 1) := by decide +kernel
theorem dX0_mixInto_42 : decode cX0_mixInto 42 = .ok (.ladd, 1) := by decide +kernel
theorem dX0_mixInto_43 : decode cX0_mixInto 43 = .ok (.lstore_n 3, 1) := by decide +kernel
theorem dX0_mixInto_44 : decode cX0_mixInto 44 = .ok (.iconst 0, 1) := by decide +kernel
theorem dX0_mixInto_45 : decode cX0_mixInto 45 = .ok (.istore 5, 2) := by decide +kernel
theorem dX0_mixInto_47 : decode cX0_mixInto 47 = .ok (.iload 5, 2) := by decide +kernel
theorem dX0_mixInto_49 : decode cX0_mixInto 49 = .ok (.aload_n 0, 1) := by decide +kernel
theorem dX0_mixInto_50 : decode cX0_mixInto 50 = .ok (.getfield 42, 3) := by decide +kernel
theorem dX0_mixInto_53 : decode cX0_mixInto 53 = .ok (.if_icmp .ge 54, 3) := by decide +kernel
theorem dX0_mixInto_56 : decode cX0_mixInto 56 = .ok (.ldc2_w 145, 3) := by decide +kernel
theorem dX0_mixInto_59 : decode cX0_mixInto 59 = .ok (.lload_n 3, 1) := by decide +kernel
theorem dX0_mixInto_60 : decode cX0_mixInto 60 = .ok (.lmul, 1) := by decide +kernel
theorem dX0_mixInto_61 : decode cX0_mixInto 61 = .ok (.aload_n 0, 1) := by decide +kernel
theorem dX0_mixInto_62 : decode cX0_mixInto 62 = .ok (.getfield 15, 3) := by decide +kernel
theorem dX0_mixInto_65 : decode cX0_mixInto 65 = .ok (.iload 5, 2) := by decide +kernel
theorem dX0_mixInto_67 : decode cX0_mixInto 67 = .ok (.iaload, 1) := by decide +kernel
theorem dX0_mixInto_68 : decode cX0_mixInto 68 = .ok (.i2l, 1) := by decide +kernel
theorem dX0_mixInto_69 : decode cX0_mixInto 69 = .ok (.ladd, 1) := by decide +kernel
theorem dX0_mixInto_70 : decode cX0_mixInto 70 = .ok (.lstore_n 3, 1) := by decide +kernel
theorem dX0_mixInto_71 : decode cX0_mixInto 71 = .ok (.ldc2_w 145, 3) := by decide +kernel
theorem dX0_mixInto_74 : decode cX0_mixInto 74 = .ok (.lload_n 3, 1) := by decide +kernel
theorem dX0_mixInto_75 : decode cX0_mixInto 75 = .ok (.lmul, 1) := by decide +kernel
theorem dX0_mixInto_76 : decode cX0_mixInto 76 = .ok (.aload_n 0, 1) := by decide +kernel
theorem dX0_mixInto_77 : decode cX0_mixInto 77 = .ok (.getfield 18, 3) := by decide +kernel
theorem dX0_mixInto_80 : decode cX0_mixInto 80 = .ok (.iload 5, 2) := by decide +kernel
theorem dX0_mixInto_82 : decode cX0_mixInto 82 = .ok (.iaload, 1) := by decide +kernel
theorem dX0_mixInto_83 : decode cX0_mixInto 83 = .ok (.i2l, 1) := by decide +kernel
theorem dX0_mixInto_84 : decode cX0_mixInto 84 = .ok (.ladd, 1) := by decide +kernel
theorem dX0_mixInto_85 : decode cX0_mixInto 85 = .ok (.lstore_n 3, 1) := by decide +kernel
theorem dX0_mixInto_86 : decode cX0_mixInto 86 = .ok (.ldc2_w 145, 3) := by decide +kernel
theorem dX0_mixInto_89 : decode cX0_mixInto 89 = .ok (.lload_n 3, 1) := by decide +kernel
theorem dX0_mixInto_90 : decode cX0_mixInto 90 = .ok (.lmul, 1) := by decide +kernel
theorem dX0_mixInto_91 : decode cX0_mixInto 91 = .ok (.aload_n 0, 1) := by decide +kernel
theorem dX0_mixInto_92 : decode cX0_mixInto 92 = .ok (.getfield 21, 3) := by decide +kernel
theorem dX0_mixInto_95 : decode cX0_mixInto 95 = .ok (.iload 5, 2) := by decide +kernel
theorem dX0_mixInto_97 : decode cX0_mixInto 97 = .ok (.iaload, 1) := by decide +kernel
theorem dX0_mixInto_98 : decode cX0_mixInto 98 = .ok (.i2l, 1) := by decide +kernel
theorem dX0_mixInto_99 : decode cX0_mixInto 99 = .ok (.ladd, 1) := by decide +kernel
theorem dX0_mixInto_100 : decode cX0_mixInto 100 = .ok (.lstore_n 3, 1) := by decide +kernel
theorem dX0_mixInto_101 : decode cX0_mixInto 101 = .ok (.iinc 5 1, 3) := by decide +kernel
theorem dX0_mixInto_104 : decode cX0_mixInto 104 = .ok (.goto (-57), 3) := by decide +kernel
theorem dX0_mixInto_107 : decode cX0_mixInto 107 = .ok (.aload_n 0, 1) := by decide +kernel
theorem dX0_mixInto_108 : decode cX0_mixInto 108 = .ok (.getfield 29, 3) := by decide +kernel
theorem dX0_mixInto_111 : decode cX0_mixInto 111 = .ok (.lload_n 3, 1) := by decide +kernel
theorem dX0_mixInto_112 : decode cX0_mixInto 112 = .ok (.invokevirtual 147, 3) := by decide +kernel
theorem dX0_mixInto_115 : decode cX0_mixInto 115 = .ok (.lstore_n 3, 1) := by decide +kernel
theorem dX0_mixInto_116 : decode cX0_mixInto 116 = .ok (.aload_n 0, 1) := by decide +kernel
theorem dX0_mixInto_117 : decode cX0_mixInto 117 = .ok (.getfield 33, 3) := by decide +kernel
theorem dX0_mixInto_120 : decode cX0_mixInto 120 = .ok (.lload_n 3, 1) := by decide +kernel
theorem dX0_mixInto_121 : decode cX0_mixInto 121 = .ok (.invokevirtual 147, 3) := by decide +kernel
theorem dX0_mixInto_124 : decode cX0_mixInto 124 = .ok (.lstore_n 3, 1) := by decide +kernel
theorem dX0_mixInto_125 : decode cX0_mixInto 125 = .ok (.aload_n 0, 1) := by decide +kernel
theorem dX0_mixInto_126 : decode cX0_mixInto 126 = .ok (.getfield 36, 3) := by decide +kernel
theorem dX0_mixInto_129 : decode cX0_mixInto 129 = .ok (.lload_n 3, 1) := by decide +kernel
theorem dX0_mixInto_130 : decode cX0_mixInto 130 = .ok (.invokevirtual 147, 3) := by decide +kernel
theorem dX0_mixInto_133 : decode cX0_mixInto 133 = .ok (.lreturn, 1) := by decide +kernel
