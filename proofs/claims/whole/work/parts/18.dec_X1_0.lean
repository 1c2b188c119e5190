theorem dX1_sight_0 : decode cX1_sight 0 = .ok (.bipush 9, 2) := by decide +kernel
theorem dX1_sight_2 : decode cX1_sight 2 = .ok (.iconst 2, 1) := by decide +kernel
theorem dX1_sight_3 : decode cX1_sight 3 = .ok (.iload_n 1, 1) := by decide +kernel
theorem dX1_sight_4 : decode cX1_sight 4 = .ok (.imul, 1) := by decide +kernel
theorem dX1_sight_5 : decode cX1_sight 5 = .ok (.iconst 5, 1) := by decide +kernel
theorem dX1_sight_6 : decode cX1_sight 6 = .ok (.isub, 1) := by decide +kernel
theorem dX1_sight_7 : decode cX1_sight 7 = .ok (.invokestatic 7, 3) := by decide +kernel
theorem dX1_sight_10 : decode cX1_sight 10 = .ok (.isub, 1) := by decide +kernel
theorem dX1_sight_11 : decode cX1_sight 11 = .ok (.istore_n 2, 1) := by decide +kernel
theorem dX1_sight_12 : decode cX1_sight 12 = .ok (.iload_n 1, 1) := by decide +kernel
theorem dX1_sight_13 : decode cX1_sight 13 = .ok (.iconst 2, 1) := by decide +kernel
theorem dX1_sight_14 : decode cX1_sight 14 = .ok (.if_icmp .ne 7, 3) := by decide +kernel
theorem dX1_sight_17 : decode cX1_sight 17 = .ok (.iconst 0, 1) := by decide +kernel
theorem dX1_sight_18 : decode cX1_sight 18 = .ok (.goto 4, 3) := by decide +kernel
theorem dX1_sight_21 : decode cX1_sight 21 = .ok (.iload_n 2, 1) := by decide +kernel
theorem dX1_sight_22 : decode cX1_sight 22 = .ok (.istore_n 3, 1) := by decide +kernel
theorem dX1_sight_23 : decode cX1_sight 23 = .ok (.iload_n 2, 1) := by decide +kernel
theorem dX1_sight_24 : decode cX1_sight 24 = .ok (.iconst 4, 1) := by decide +kernel
theorem dX1_sight_25 : decode cX1_sight 25 = .ok (.iadd, 1) := by decide +kernel
theorem dX1_sight_26 : decode cX1_sight 26 = .ok (.istore 4, 2) := by decide +kernel
theorem dX1_sight_28 : decode cX1_sight 28 = .ok (.iload_n 0, 1) := by decide +kernel
theorem dX1_sight_29 : decode cX1_sight 29 = .ok (.tableswitch 63 1 5 #[35, 37, 40, 44, 52], 35) := by decide +kernel
theorem dX1_sight_64 : decode cX1_sight 64 = .ok (.iload_n 3, 1) := by decide +kernel
theorem dX1_sight_65 : decode cX1_sight 65 = .ok (.ireturn, 1) := by decide +kernel
theorem dX1_sight_66 : decode cX1_sight 66 = .ok (.iload 4, 2) := by decide +kernel
theorem dX1_sight_68 : decode cX1_sight 68 = .ok (.ireturn, 1) := by decide +kernel
theorem dX1_sight_69 : decode cX1_sight 69 = .ok (.iload_n 2, 1) := by decide +kernel
theorem dX1_sight_70 : decode cX1_sight 70 = .ok (.iconst 2, 1) := by decide +kernel
theorem dX1_sight_71 : decode cX1_sight 71 = .ok (.idiv, 1) := by decide +kernel
theorem dX1_sight_72 : decode cX1_sight 72 = .ok (.ireturn, 1) := by decide +kernel
theorem dX1_sight_73 : decode cX1_sight 73 = .ok (.iconst 0, 1) := by decide +kernel
theorem dX1_sight_74 : decode cX1_sight 74 = .ok (.iload_n 3, 1) := by decide +kernel
theorem dX1_sight_75 : decode cX1_sight 75 = .ok (.iconst 2, 1) := by decide +kernel
theorem dX1_sight_76 : decode cX1_sight 76 = .ok (.isub, 1) := by decide +kernel
theorem dX1_sight_77 : decode cX1_sight 77 = .ok (.invokestatic 13, 3) := by decide +kernel
theorem dX1_sight_80 : decode cX1_sight 80 = .ok (.ireturn, 1) := by decide +kernel
theorem dX1_sight_81 : decode cX1_sight 81 = .ok (.iconst 0, 1) := by decide +kernel
theorem dX1_sight_82 : decode cX1_sight 82 = .ok (.iload 4, 2) := by decide +kernel
theorem dX1_sight_84 : decode cX1_sight 84 = .ok (.iconst 2, 1) := by decide +kernel
theorem dX1_sight_85 : decode cX1_sight 85 = .ok (.iload_n 1, 1) := by decide +kernel
theorem dX1_sight_86 : decode cX1_sight 86 = .ok (.imul, 1) := by decide +kernel
theorem dX1_sight_87 : decode cX1_sight 87 = .ok (.isub, 1) := by decide +kernel
theorem dX1_sight_88 : decode cX1_sight 88 = .ok (.invokestatic 13, 3) := by decide +kernel
theorem dX1_sight_91 : decode cX1_sight 91 = .ok (.ireturn, 1) := by decide +kernel
theorem dX1_sight_92 : decode cX1_sight 92 = .ok (.iload_n 2, 1) := by decide +kernel
theorem dX1_sight_93 : decode cX1_sight 93 = .ok (.ireturn, 1) := by decide +kernel
theorem dX1_fuss_0 : decode cX1_fuss 0 = .ok (.iload_n 1, 1) := by decide +kernel
theorem dX1_fuss_1 : decode cX1_fuss 1 = .ok (.iconst 2, 1) := by decide +kernel
theorem dX1_fuss_2 : decode cX1_fuss 2 = .ok (.iadd, 1) := by decide +kernel
theorem dX1_fuss_3 : decode cX1_fuss 3 = .ok (.istore_n 3, 1) := by decide +kernel
theorem dX1_fuss_4 : decode cX1_fuss 4 = .ok (.iload_n 2, 1) := by decide +kernel
theorem dX1_fuss_5 : decode cX1_fuss 5 = .ok (.bipush 10, 2) := by decide +kernel
theorem dX1_fuss_7 : decode cX1_fuss 7 = .ok (.if_icmp .lt 9, 3) := by decide +kernel
theorem dX1_fuss_10 : decode cX1_fuss 10 = .ok (.iconst 2, 1) := by decide +kernel
theorem dX1_fuss_11 : decode cX1_fuss 11 = .ok (.iload_n 1, 1) := by decide +kernel
theorem dX1_fuss_12 : decode cX1_fuss 12 = .ok (.imul, 1) := by decide +kernel
theorem dX1_fuss_13 : decode cX1_fuss 13 = .ok (.goto 4, 3) := by decide +kernel
theorem dX1_fuss_16 : decode cX1_fuss 16 = .ok (.iload_n 1, 1) := by decide +kernel
theorem dX1_fuss_17 : decode cX1_fuss 17 = .ok (.istore 4, 2) := by decide +kernel
theorem dX1_fuss_19 : decode cX1_fuss 19 = .ok (.iload_n 0, 1) := by decide +kernel
theorem dX1_fuss_20 : decode cX1_fuss 20 = .ok (.tableswitch 66 1 5 #[36, 38, 41, 47, 51], 36) := by decide +kernel
theorem dX1_fuss_56 : decode cX1_fuss 56 = .ok (.iload_n 3, 1) := by decide +kernel
theorem dX1_fuss_57 : decode cX1_fuss 57 = .ok (.ireturn, 1) := by decide +kernel
theorem dX1_fuss_58 : decode cX1_fuss 58 = .ok (.iload 4, 2) := by decide +kernel
theorem dX1_fuss_60 : decode cX1_fuss 60 = .ok (.ireturn, 1) := by decide +kernel
theorem dX1_fuss_61 : decode cX1_fuss 61 = .ok (.iload_n 1, 1) := by decide +kernel
theorem dX1_fuss_62 : decode cX1_fuss 62 = .ok (.iconst 1, 1) := by decide +kernel
theorem dX1_fuss_63 : decode cX1_fuss 63 = .ok (.iadd, 1) := by decide +kernel
theorem dX1_fuss_64 : decode cX1_fuss 64 = .ok (.iconst 2, 1) := by decide +kernel
theorem dX1_fuss_65 : decode cX1_fuss 65 = .ok (.idiv, 1) := by decide +kernel
theorem dX1_fuss_66 : decode cX1_fuss 66 = .ok (.ireturn, 1) := by decide +kernel
theorem dX1_fuss_67 : decode cX1_fuss 67 = .ok (.iload_n 3, 1) := by decide +kernel
theorem dX1_fuss_68 : decode cX1_fuss 68 = .ok (.iconst 1, 1) := by decide +kernel
theorem dX1_fuss_69 : decode cX1_fuss 69 = .ok (.isub, 1) := by decide +kernel
theorem dX1_fuss_70 : decode cX1_fuss 70 = .ok (.ireturn, 1) := by decide +kernel
theorem dX1_fuss_71 : decode cX1_fuss 71 = .ok (.iload_n 1, 1) := by decide +kernel
theorem dX1_fuss_72 : decode cX1_fuss 72 = .ok (.iconst 1, 1) := by decide +kernel
theorem dX1_fuss_73 : decode cX1_fuss 73 = .ok (.if_icmp .lt 10, 3) := by decide +kernel
theorem dX1_fuss_76 : decode cX1_fuss 76 = .ok (.iload 4, 2) := by decide +kernel
theorem dX1_fuss_78 : decode cX1_fuss 78 = .ok (.iconst 3, 1) := by decide +kernel
theorem dX1_fuss_79 : decode cX1_fuss 79 = .ok (.iadd, 1) := by decide +kernel
theorem dX1_fuss_80 : decode cX1_fuss 80 = .ok (.goto 5, 3) := by decide +kernel
theorem dX1_fuss_83 : decode cX1_fuss 83 = .ok (.iload 4, 2) := by decide +kernel
theorem dX1_fuss_85 : decode cX1_fuss 85 = .ok (.ireturn, 1) := by decide +kernel
theorem dX1_fuss_86 : decode cX1_fuss 86 = .ok (.iload_n 1, 1) := by decide +kernel
theorem dX1_fuss_87 : decode cX1_fuss 87 = .ok (.ireturn, 1) := by decide +kernel
