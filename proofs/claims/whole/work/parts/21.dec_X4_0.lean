theorem dX4_init_0 : decode cX4_init 0 = .ok (.aload_n 0, 1) := by decide +kernel
theorem dX4_init_1 : decode cX4_init 1 = .ok (.invokespecial 3, 3) := by decide +kernel
theorem dX4_init_4 : decode cX4_init 4 = .ok (.aload_n 0, 1) := by decide +kernel
theorem dX4_init_5 : decode cX4_init 5 = .ok (.iconst 0, 1) := by decide +kernel
theorem dX4_init_6 : decode cX4_init 6 = .ok (.iload_n 1, 1) := by decide +kernel
theorem dX4_init_7 : decode cX4_init 7 = .ok (.invokestatic 9, 3) := by decide +kernel
theorem dX4_init_10 : decode cX4_init 10 = .ok (.putfield 15, 3) := by decide +kernel
theorem dX4_init_13 : decode cX4_init 13 = .ok (.aload_n 0, 1) := by decide +kernel
theorem dX4_init_14 : decode cX4_init 14 = .ok (.iconst 0, 1) := by decide +kernel
theorem dX4_init_15 : decode cX4_init 15 = .ok (.iload_n 2, 1) := by decide +kernel
theorem dX4_init_16 : decode cX4_init 16 = .ok (.invokestatic 9, 3) := by decide +kernel
theorem dX4_init_19 : decode cX4_init 19 = .ok (.putfield 21, 3) := by decide +kernel
theorem dX4_init_22 : decode cX4_init 22 = .ok (.aload_n 0, 1) := by decide +kernel
theorem dX4_init_23 : decode cX4_init 23 = .ok (.aload_n 0, 1) := by decide +kernel
theorem dX4_init_24 : decode cX4_init 24 = .ok (.getfield 15, 3) := by decide +kernel
theorem dX4_init_27 : decode cX4_init 27 = .ok (.aload_n 0, 1) := by decide +kernel
theorem dX4_init_28 : decode cX4_init 28 = .ok (.getfield 21, 3) := by decide +kernel
theorem dX4_init_31 : decode cX4_init 31 = .ok (.imul, 1) := by decide +kernel
theorem dX4_init_32 : decode cX4_init 32 = .ok (.newarray .int, 2) := by decide +kernel
theorem dX4_init_34 : decode cX4_init 34 = .ok (.putfield 24, 3) := by decide +kernel
theorem dX4_init_37 : decode cX4_init 37 = .ok (.return_, 1) := by decide +kernel
theorem dX4_isFull_0 : decode cX4_isFull 0 = .ok (.aload_n 0, 1) := by decide +kernel
theorem dX4_isFull_1 : decode cX4_isFull 1 = .ok (.getfield 28, 3) := by decide +kernel
theorem dX4_isFull_4 : decode cX4_isFull 4 = .ok (.aload_n 0, 1) := by decide +kernel
theorem dX4_isFull_5 : decode cX4_isFull 5 = .ok (.getfield 15, 3) := by decide +kernel
theorem dX4_isFull_8 : decode cX4_isFull 8 = .ok (.if_icmp .lt 7, 3) := by decide +kernel
theorem dX4_isFull_11 : decode cX4_isFull 11 = .ok (.iconst 1, 1) := by decide +kernel
theorem dX4_isFull_12 : decode cX4_isFull 12 = .ok (.goto 4, 3) := by decide +kernel
theorem dX4_isFull_15 : decode cX4_isFull 15 = .ok (.iconst 0, 1) := by decide +kernel
theorem dX4_isFull_16 : decode cX4_isFull 16 = .ok (.ireturn, 1) := by decide +kernel
theorem dX4_empty_0 : decode cX4_empty 0 = .ok (.aload_n 0, 1) := by decide +kernel
theorem dX4_empty_1 : decode cX4_empty 1 = .ok (.getfield 28, 3) := by decide +kernel
theorem dX4_empty_4 : decode cX4_empty 4 = .ok (.istore_n 1, 1) := by decide +kernel
theorem dX4_empty_5 : decode cX4_empty 5 = .ok (.aload_n 0, 1) := by decide +kernel
theorem dX4_empty_6 : decode cX4_empty 6 = .ok (.iconst 0, 1) := by decide +kernel
theorem dX4_empty_7 : decode cX4_empty 7 = .ok (.putfield 28, 3) := by decide +kernel
theorem dX4_empty_10 : decode cX4_empty 10 = .ok (.iload_n 1, 1) := by decide +kernel
theorem dX4_empty_11 : decode cX4_empty 11 = .ok (.ireturn, 1) := by decide +kernel
theorem dX4_add_0 : decode cX4_add 0 = .ok (.aload_n 0, 1) := by decide +kernel
theorem dX4_add_1 : decode cX4_add 1 = .ok (.invokevirtual 31, 3) := by decide +kernel
theorem dX4_add_4 : decode cX4_add 4 = .ok (.aload_n 0, 1) := by decide +kernel
theorem dX4_add_5 : decode cX4_add 5 = .ok (.iconst 0, 1) := by decide +kernel
theorem dX4_add_6 : decode cX4_add 6 = .ok (.iload_n 1, 1) := by decide +kernel
theorem dX4_add_7 : decode cX4_add 7 = .ok (.invokevirtual 34, 3) := by decide +kernel
theorem dX4_add_10 : decode cX4_add 10 = .ok (.aload_n 0, 1) := by decide +kernel
theorem dX4_add_11 : decode cX4_add 11 = .ok (.iconst 1, 1) := by decide +kernel
theorem dX4_add_12 : decode cX4_add 12 = .ok (.iload_n 2, 1) := by decide +kernel
theorem dX4_add_13 : decode cX4_add 13 = .ok (.invokevirtual 34, 3) := by decide +kernel
theorem dX4_add_16 : decode cX4_add 16 = .ok (.aload_n 0, 1) := by decide +kernel
theorem dX4_add_17 : decode cX4_add 17 = .ok (.iconst 2, 1) := by decide +kernel
theorem dX4_add_18 : decode cX4_add 18 = .ok (.iload_n 3, 1) := by decide +kernel
theorem dX4_add_19 : decode cX4_add 19 = .ok (.invokevirtual 34, 3) := by decide +kernel
theorem dX4_add_22 : decode cX4_add 22 = .ok (.aload_n 0, 1) := by decide +kernel
theorem dX4_add_23 : decode cX4_add 23 = .ok (.getfield 28, 3) := by decide +kernel
theorem dX4_add_26 : decode cX4_add 26 = .ok (.ireturn, 1) := by decide +kernel
theorem dX4_add__0 : decode cX4_add_ 0 = .ok (.aload_n 0, 1) := by decide +kernel
theorem dX4_add__1 : decode cX4_add_ 1 = .ok (.iload_n 1, 1) := by decide +kernel
theorem dX4_add__2 : decode cX4_add_ 2 = .ok (.iload_n 2, 1) := by decide +kernel
theorem dX4_add__3 : decode cX4_add_ 3 = .ok (.iload_n 3, 1) := by decide +kernel
theorem dX4_add__4 : decode cX4_add_ 4 = .ok (.invokevirtual 38, 3) := by decide +kernel
theorem dX4_add__7 : decode cX4_add_ 7 = .ok (.pop, 1) := by decide +kernel
theorem dX4_add__8 : decode cX4_add_ 8 = .ok (.aload_n 0, 1) := by decide +kernel
theorem dX4_add__9 : decode cX4_add_ 9 = .ok (.iconst 3, 1) := by decide +kernel
theorem dX4_add__10 : decode cX4_add_ 10 = .ok (.iload 4, 2) := by decide +kernel
theorem dX4_add__12 : decode cX4_add_ 12 = .ok (.invokevirtual 34, 3) := by decide +kernel
theorem dX4_add__15 : decode cX4_add_ 15 = .ok (.aload_n 0, 1) := by decide +kernel
theorem dX4_add__16 : decode cX4_add_ 16 = .ok (.getfield 28, 3) := by decide +kernel
theorem dX4_add__19 : decode cX4_add_ 19 = .ok (.ireturn, 1) := by decide +kernel
theorem dX4_openRow_0 : decode cX4_openRow 0 = .ok (.aload_n 0, 1) := by decide +kernel
theorem dX4_openRow_1 : decode cX4_openRow 1 = .ok (.getfield 28, 3) := by decide +kernel
theorem dX4_openRow_4 : decode cX4_openRow 4 = .ok (.aload_n 0, 1) := by decide +kernel
theorem dX4_openRow_5 : decode cX4_openRow 5 = .ok (.getfield 15, 3) := by decide +kernel
theorem dX4_openRow_8 : decode cX4_openRow 8 = .ok (.if_icmp .ge 13, 3) := by decide +kernel
theorem dX4_openRow_11 : decode cX4_openRow 11 = .ok (.aload_n 0, 1) := by decide +kernel
theorem dX4_openRow_12 : decode cX4_openRow 12 = .ok (.dup, 1) := by decide +kernel
theorem dX4_openRow_13 : decode cX4_openRow 13 = .ok (.getfield 28, 3) := by decide +kernel
theorem dX4_openRow_16 : decode cX4_openRow 16 = .ok (.iconst 1, 1) := by decide +kernel
theorem dX4_openRow_17 : decode cX4_openRow 17 = .ok (.iadd, 1) := by decide +kernel
theorem dX4_openRow_18 : decode cX4_openRow 18 = .ok (.putfield 28, 3) := by decide +kernel
theorem dX4_openRow_21 : decode cX4_openRow 21 = .ok (.return_, 1) := by decide +kernel
theorem dX4_dropFirst_0 : decode cX4_dropFirst 0 = .ok (.aload_n 0, 1) := by decide +kernel
theorem dX4_dropFirst_1 : decode cX4_dropFirst 1 = .ok (.getfield 28, 3) := by decide +kernel
theorem dX4_dropFirst_4 : decode cX4_dropFirst 4 = .ok (.ifCond .le 38, 3) := by decide +kernel
theorem dX4_dropFirst_7 : decode cX4_dropFirst 7 = .ok (.aload_n 0, 1) := by decide +kernel
theorem dX4_dropFirst_8 : decode cX4_dropFirst 8 = .ok (.dup, 1) := by decide +kernel
theorem dX4_dropFirst_9 : decode cX4_dropFirst 9 = .ok (.getfield 28, 3) := by decide +kernel
theorem dX4_dropFirst_12 : decode cX4_dropFirst 12 = .ok (.iconst 1, 1) := by decide +kernel
theorem dX4_dropFirst_13 : decode cX4_dropFirst 13 = .ok (.isub, 1) := by decide +kernel
theorem dX4_dropFirst_14 : decode cX4_dropFirst 14 = .ok (.putfield 28, 3) := by decide +kernel
theorem dX4_dropFirst_17 : decode cX4_dropFirst 17 = .ok (.aload_n 0, 1) := by decide +kernel
theorem dX4_dropFirst_18 : decode cX4_dropFirst 18 = .ok (.getfield 24, 3) := by decide +kernel
theorem dX4_dropFirst_21 : decode cX4_dropFirst 21 = .ok (.aload_n 0, 1) := by decide +kernel
theorem dX4_dropFirst_22 : decode cX4_dropFirst 22 = .ok (.getfield 21, 3) := by decide +kernel
theorem dX4_dropFirst_25 : decode cX4_dropFirst 25 = .ok (.aload_n 0, 1) := by decide +kernel
theorem dX4_dropFirst_26 : decode cX4_dropFirst 26 = .ok (.getfield 24, 3) := by decide +kernel
theorem dX4_dropFirst_29 : decode cX4_dropFirst 29 = .ok (.iconst 0, 1) := by decide +kernel
theorem dX4_dropFirst_30 : decode cX4_dropFirst 30 = .ok (.aload_n 0, 1) := by decide +kernel
theorem dX4_dropFirst_31 : decode cX4_dropFirst 31 = .ok (.getfield 28, 3) := by decide +kernel
theorem dX4_dropFirst_34 : decode cX4_dropFirst 34 = .ok (.aload_n 0, 1) := by decide +kernel
theorem dX4_dropFirst_35 : decode cX4_dropFirst 35 = .ok (.getfield 21, 3) := by decide +kernel
theorem dX4_dropFirst_38 : decode cX4_dropFirst 38 = .ok (.imul, 1) := by decide +kernel
theorem dX4_dropFirst_39 : decode cX4_dropFirst 39 = .ok (.invokestatic 42, 3) := by decide +kernel
theorem dX4_dropFirst_42 : decode cX4_dropFirst 42 = .ok (.return_, 1) := by decide +kernel
theorem dX4_dropLast_0 : decode cX4_dropLast 0 = .ok (.aload_n 0, 1) := by decide +kernel
theorem dX4_dropLast_1 : decode cX4_dropLast 1 = .ok (.getfield 28, 3) := by decide +kernel
theorem dX4_dropLast_4 : decode cX4_dropLast 4 = .ok (.ifCond .le 13, 3) := by decide +kernel
theorem dX4_dropLast_7 : decode cX4_dropLast 7 = .ok (.aload_n 0, 1) := by decide +kernel
theorem dX4_dropLast_8 : decode cX4_dropLast 8 = .ok (.dup, 1) := by decide +kernel
theorem dX4_dropLast_9 : decode cX4_dropLast 9 = .ok (.getfield 28, 3) := by decide +kernel
theorem dX4_dropLast_12 : decode cX4_dropLast 12 = .ok (.iconst 1, 1) := by decide +kernel
theorem dX4_dropLast_13 : decode cX4_dropLast 13 = .ok (.isub, 1) := by decide +kernel
theorem dX4_dropLast_14 : decode cX4_dropLast 14 = .ok (.putfield 28, 3) := by decide +kernel
theorem dX4_dropLast_17 : decode cX4_dropLast 17 = .ok (.return_, 1) := by decide +kernel
theorem dX4_put_0 : decode cX4_put 0 = .ok (.aload_n 0, 1) := by decide +kernel
theorem dX4_put_1 : decode cX4_put 1 = .ok (.getfield 28, 3) := by decide +kernel
theorem dX4_put_4 : decode cX4_put 4 = .ok (.ifCond .le 33, 3) := by decide +kernel
theorem dX4_put_7 : decode cX4_put 7 = .ok (.iload_n 1, 1) := by decide +kernel
theorem dX4_put_8 : decode cX4_put 8 = .ok (.aload_n 0, 1) := by decide +kernel
theorem dX4_put_9 : decode cX4_put 9 = .ok (.getfield 21, 3) := by decide +kernel
theorem dX4_put_12 : decode cX4_put 12 = .ok (.invokestatic 48, 3) := by decide +kernel
theorem dX4_put_15 : decode cX4_put 15 = .ok (.ifCond .eq 22, 3) := by decide +kernel
theorem dX4_put_18 : decode cX4_put 18 = .ok (.aload_n 0, 1) := by decide +kernel
theorem dX4_put_19 : decode cX4_put 19 = .ok (.getfield 24, 3) := by decide +kernel
theorem dX4_put_22 : decode cX4_put 22 = .ok (.aload_n 0, 1) := by decide +kernel
theorem dX4_put_23 : decode cX4_put 23 = .ok (.getfield 28, 3) := by decide +kernel
theorem dX4_put_26 : decode cX4_put 26 = .ok (.iconst 1, 1) := by decide +kernel
theorem dX4_put_27 : decode cX4_put 27 = .ok (.isub, 1) := by decide +kernel
theorem dX4_put_28 : decode cX4_put 28 = .ok (.aload_n 0, 1) := by decide +kernel
theorem dX4_put_29 : decode cX4_put 29 = .ok (.getfield 21, 3) := by decide +kernel
theorem dX4_put_32 : decode cX4_put 32 = .ok (.imul, 1) := by decide +kernel
theorem dX4_put_33 : decode cX4_put 33 = .ok (.iload_n 1, 1) := by decide +kernel
theorem dX4_put_34 : decode cX4_put 34 = .ok (.iadd, 1) := by decide +kernel
theorem dX4_put_35 : decode cX4_put 35 = .ok (.iload_n 2, 1) := by decide +kernel
theorem dX4_put_36 : decode cX4_put 36 = .ok (.iastore, 1) := by decide +kernel
theorem dX4_put_37 : decode cX4_put 37 = .ok (.return_, 1) := by decide +kernel
theorem dX4_at_0 : decode cX4_at 0 = .ok (.iload_n 1, 1) := by decide +kernel
theorem dX4_at_1 : decode cX4_at 1 = .ok (.aload_n 0, 1) := by decide +kernel
theorem dX4_at_2 : decode cX4_at 2 = .ok (.getfield 28, 3) := by decide +kernel
theorem dX4_at_5 : decode cX4_at 5 = .ok (.invokestatic 48, 3) := by decide +kernel
theorem dX4_at_8 : decode cX4_at 8 = .ok (.ifCond .eq 30, 3) := by decide +kernel
theorem dX4_at_11 : decode cX4_at 11 = .ok (.iload_n 2, 1) := by decide +kernel
theorem dX4_at_12 : decode cX4_at 12 = .ok (.aload_n 0, 1) := by decide +kernel
theorem dX4_at_13 : decode cX4_at 13 = .ok (.getfield 21, 3) := by decide +kernel
theorem dX4_at_16 : decode cX4_at 16 = .ok (.invokestatic 48, 3) := by decide +kernel
theorem dX4_at_19 : decode cX4_at 19 = .ok (.ifCond .eq 19, 3) := by decide +kernel
theorem dX4_at_22 : decode cX4_at 22 = .ok (.aload_n 0, 1) := by decide +kernel
theorem dX4_at_23 : decode cX4_at 23 = .ok (.getfield 24, 3) := by decide +kernel
theorem dX4_at_26 : decode cX4_at 26 = .ok (.iload_n 1, 1) := by decide +kernel
theorem dX4_at_27 : decode cX4_at 27 = .ok (.aload_n 0, 1) := by decide +kernel
theorem dX4_at_28 : decode cX4_at 28 = .ok (.getfield 21, 3) := by decide +kernel
theorem dX4_at_31 : decode cX4_at 31 = .ok (.imul, 1) := by decide +kernel
theorem dX4_at_32 : decode cX4_at 32 = .ok (.iload_n 2, 1) := by decide +kernel
theorem dX4_at_33 : decode cX4_at 33 = .ok (.iadd, 1) := by decide +kernel
theorem dX4_at_34 : decode cX4_at 34 = .ok (.iaload, 1) := by decide +kernel
theorem dX4_at_35 : decode cX4_at 35 = .ok (.goto 4, 3) := by decide +kernel
theorem dX4_at_38 : decode cX4_at 38 = .ok (.iconst (-1), 1) := by decide +kernel
theorem dX4_at_39 : decode cX4_at 39 = .ok (.ireturn, 1) := by decide +kernel
theorem dX4_takeFrom_0 : decode cX4_takeFrom 0 = .ok (.aload_n 0, 1) := by decide +kernel
theorem dX4_takeFrom_1 : decode cX4_takeFrom 1 = .ok (.getfield 24, 3) := by decide +kernel
theorem dX4_takeFrom_4 : decode cX4_takeFrom 4 = .ok (.arraylength, 1) := by decide +kernel
theorem dX4_takeFrom_5 : decode cX4_takeFrom 5 = .ok (.aload_n 1, 1) := by decide +kernel
theorem dX4_takeFrom_6 : decode cX4_takeFrom 6 = .ok (.getfield 24, 3) := by decide +kernel
theorem dX4_takeFrom_9 : decode cX4_takeFrom 9 = .ok (.arraylength, 1) := by decide +kernel
theorem dX4_takeFrom_10 : decode cX4_takeFrom 10 = .ok (.invokestatic 52, 3) := by decide +kernel
theorem dX4_takeFrom_13 : decode cX4_takeFrom 13 = .ok (.istore_n 2, 1) := by decide +kernel
theorem dX4_takeFrom_14 : decode cX4_takeFrom 14 = .ok (.aload_n 1, 1) := by decide +kernel
theorem dX4_takeFrom_15 : decode cX4_takeFrom 15 = .ok (.getfield 24, 3) := by decide +kernel
theorem dX4_takeFrom_18 : decode cX4_takeFrom 18 = .ok (.iconst 0, 1) := by decide +kernel
theorem dX4_takeFrom_19 : decode cX4_takeFrom 19 = .ok (.aload_n 0, 1) := by decide +kernel
theorem dX4_takeFrom_20 : decode cX4_takeFrom 20 = .ok (.getfield 24, 3) := by decide +kernel
theorem dX4_takeFrom_23 : decode cX4_takeFrom 23 = .ok (.iconst 0, 1) := by decide +kernel
theorem dX4_takeFrom_24 : decode cX4_takeFrom 24 = .ok (.iload_n 2, 1) := by decide +kernel
theorem dX4_takeFrom_25 : decode cX4_takeFrom 25 = .ok (.invokestatic 42, 3) := by decide +kernel
theorem dX4_takeFrom_28 : decode cX4_takeFrom 28 = .ok (.aload_n 0, 1) := by decide +kernel
theorem dX4_takeFrom_29 : decode cX4_takeFrom 29 = .ok (.aload_n 0, 1) := by decide +kernel
theorem dX4_takeFrom_30 : decode cX4_takeFrom 30 = .ok (.getfield 15, 3) := by decide +kernel
theorem dX4_takeFrom_33 : decode cX4_takeFrom 33 = .ok (.aload_n 1, 1) := by decide +kernel
theorem dX4_takeFrom_34 : decode cX4_takeFrom 34 = .ok (.getfield 28, 3) := by decide +kernel
theorem dX4_takeFrom_37 : decode cX4_takeFrom 37 = .ok (.invokestatic 52, 3) := by decide +kernel
theorem dX4_takeFrom_40 : decode cX4_takeFrom 40 = .ok (.putfield 28, 3) := by decide +kernel
theorem dX4_takeFrom_43 : decode cX4_takeFrom 43 = .ok (.return_, 1) := by decide +kernel
theorem dX4_mixInto_0 : decode cX4_mixInto 0 = .ok (.lload_n 1, 1) := by decide +kernel
theorem dX4_mixInto_1 : decode cX4_mixInto 1 = .ok (.lstore_n 3, 1) := by decide +kernel
theorem dX4_mixInto_2 : decode cX4_mixInto 2 = .ok (.iconst 0, 1) := by decide +kernel
theorem dX4_mixInto_3 : decode cX4_mixInto 3 = .ok (.istore 5, 2) := by decide +kernel
theorem dX4_mixInto_5 : decode cX4_mixInto 5 = .ok (.iload 5, 2) := by decide +kernel
theorem dX4_mixInto_7 : decode cX4_mixInto 7 = .ok (.aload_n 0, 1) := by decide +kernel
theorem dX4_mixInto_8 : decode cX4_mixInto 8 = .ok (.getfield 28, 3) := by decide +kernel
theorem dX4_mixInto_11 : decode cX4_mixInto 11 = .ok (.aload_n 0, 1) := by decide +kernel
theorem dX4_mixInto_12 : decode cX4_mixInto 12 = .ok (.getfield 21, 3) := by decide +kernel
theorem dX4_mixInto_15 : decode cX4_mixInto 15 = .ok (.imul, 1) := by decide +kernel
theorem dX4_mixInto_16 : decode cX4_mixInto 16 = .ok (.if_icmp .ge 24, 3) := by decide +kernel
theorem dX4_mixInto_19 : decode cX4_mixInto 19 = .ok (.ldc2_w 55, 3) := by decide +kernel
theorem dX4_mixInto_22 : decode cX4_mixInto 22 = .ok (.lload_n 3, 1) := by decide +kernel
theorem dX4_mixInto_23 : decode cX4_mixInto 23 = .ok (.lmul, 1) := by decide +kernel
theorem dX4_mixInto_24 : decode cX4_mixInto 24 = .ok (.aload_n 0, 1) := by decide +kernel
theorem dX4_mixInto_25 : decode cX4_mixInto 25 = .ok (.getfield 24, 3) := by decide +kernel
theorem dX4_mixInto_28 : decode cX4_mixInto 28 = .ok (.iload 5, 2) := by decide +kernel
theorem dX4_mixInto_30 : decode cX4_mixInto 30 = .ok (.iaload, 1) := by decide +kernel
theorem dX4_mixInto_31 : decode cX4_mixInto 31 = .ok (.i2l, 1) := by decide +kernel
theorem dX4_mixInto_32 : decode cX4_mixInto 32 = .ok (.ladd, 1) := by decide +kernel
theorem dX4_mixInto_33 : decode cX4_mixInto 33 = .ok (.lstore_n 3, 1) := by decide +kernel
theorem dX4_mixInto_34 : decode cX4_mixInto 34 = .ok (.iinc 5 1, 3) := by decide +kernel
theorem dX4_mixInto_37 : decode cX4_mixInto 37 = .ok (.goto (-32), 3) := by decide +kernel
theorem dX4_mixInto_40 : decode cX4_mixInto 40 = .ok (.lload_n 3, 1) := by decide +kernel
theorem dX4_mixInto_41 : decode cX4_mixInto 41 = .ok (.lreturn, 1) := by decide +kernel
