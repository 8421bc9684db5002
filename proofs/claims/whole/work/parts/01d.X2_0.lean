theorem dX2_init_0 : decode cX2_init 0 = .ok (.aload_n 0, 1) := by decide +kernel
theorem dX2_init_1 : decode cX2_init 1 = .ok (.invokespecial 3, 3) := by decide +kernel
theorem dX2_init_4 : decode cX2_init 4 = .ok (.aload_n 0, 1) := by decide +kernel
theorem dX2_init_5 : decode cX2_init 5 = .ok (.bipush 6, 2) := by decide +kernel
theorem dX2_init_7 : decode cX2_init 7 = .ok (.newarray .int, 2) := by decide +kernel
theorem dX2_init_9 : decode cX2_init 9 = .ok (.putfield 9, 3) := by decide +kernel
theorem dX2_init_12 : decode cX2_init 12 = .ok (.return_, 1) := by decide +kernel
theorem dX2_setNumber_0 : decode cX2_setNumber 0 = .ok (.aload_n 0, 1) := by decide +kernel
theorem dX2_setNumber_1 : decode cX2_setNumber 1 = .ok (.iconst 0, 1) := by decide +kernel
theorem dX2_setNumber_2 : decode cX2_setNumber 2 = .ok (.putfield 15, 3) := by decide +kernel
theorem dX2_setNumber_5 : decode cX2_setNumber 5 = .ok (.aload_n 0, 1) := by decide +kernel
theorem dX2_setNumber_6 : decode cX2_setNumber 6 = .ok (.getfield 9, 3) := by decide +kernel
theorem dX2_setNumber_9 : decode cX2_setNumber 9 = .ok (.iconst 0, 1) := by decide +kernel
theorem dX2_setNumber_10 : decode cX2_setNumber 10 = .ok (.invokestatic 19, 3) := by decide +kernel
theorem dX2_setNumber_13 : decode cX2_setNumber 13 = .ok (.aload_n 0, 1) := by decide +kernel
theorem dX2_setNumber_14 : decode cX2_setNumber 14 = .ok (.getfield 9, 3) := by decide +kernel
theorem dX2_setNumber_17 : decode cX2_setNumber 17 = .ok (.iconst 0, 1) := by decide +kernel
theorem dX2_setNumber_18 : decode cX2_setNumber 18 = .ok (.iload_n 1, 1) := by decide +kernel
theorem dX2_setNumber_19 : decode cX2_setNumber 19 = .ok (.iastore, 1) := by decide +kernel
theorem dX2_setNumber_20 : decode cX2_setNumber 20 = .ok (.return_, 1) := by decide +kernel
theorem dX2_copyFrom_0 : decode cX2_copyFrom 0 = .ok (.aload_n 0, 1) := by decide +kernel
theorem dX2_copyFrom_1 : decode cX2_copyFrom 1 = .ok (.aload_n 1, 1) := by decide +kernel
theorem dX2_copyFrom_2 : decode cX2_copyFrom 2 = .ok (.getfield 15, 3) := by decide +kernel
theorem dX2_copyFrom_5 : decode cX2_copyFrom 5 = .ok (.putfield 15, 3) := by decide +kernel
theorem dX2_copyFrom_8 : decode cX2_copyFrom 8 = .ok (.aload_n 1, 1) := by decide +kernel
theorem dX2_copyFrom_9 : decode cX2_copyFrom 9 = .ok (.getfield 9, 3) := by decide +kernel
theorem dX2_copyFrom_12 : decode cX2_copyFrom 12 = .ok (.iconst 0, 1) := by decide +kernel
theorem dX2_copyFrom_13 : decode cX2_copyFrom 13 = .ok (.aload_n 0, 1) := by decide +kernel
theorem dX2_copyFrom_14 : decode cX2_copyFrom 14 = .ok (.getfield 9, 3) := by decide +kernel
theorem dX2_copyFrom_17 : decode cX2_copyFrom 17 = .ok (.iconst 0, 1) := by decide +kernel
theorem dX2_copyFrom_18 : decode cX2_copyFrom 18 = .ok (.bipush 6, 2) := by decide +kernel
theorem dX2_copyFrom_20 : decode cX2_copyFrom 20 = .ok (.invokestatic 25, 3) := by decide +kernel
theorem dX2_copyFrom_23 : decode cX2_copyFrom 23 = .ok (.return_, 1) := by decide +kernel
theorem dX2_add_0 : decode cX2_add 0 = .ok (.iconst 0, 1) := by decide +kernel
theorem dX2_add_1 : decode cX2_add 1 = .ok (.istore 4, 2) := by decide +kernel
theorem dX2_add_3 : decode cX2_add 3 = .ok (.iload 4, 2) := by decide +kernel
theorem dX2_add_5 : decode cX2_add 5 = .ok (.bipush 6, 2) := by decide +kernel
theorem dX2_add_7 : decode cX2_add 7 = .ok (.if_icmp .ge 40, 3) := by decide +kernel
theorem dX2_add_10 : decode cX2_add 10 = .ok (.aload_n 0, 1) := by decide +kernel
theorem dX2_add_11 : decode cX2_add 11 = .ok (.getfield 9, 3) := by decide +kernel
theorem dX2_add_14 : decode cX2_add 14 = .ok (.iload 4, 2) := by decide +kernel
theorem dX2_add_16 : decode cX2_add 16 = .ok (.aload_n 0, 1) := by decide +kernel
theorem dX2_add_17 : decode cX2_add 17 = .ok (.getfield 9, 3) := by decide +kernel
theorem dX2_add_20 : decode cX2_add 20 = .ok (.iload 4, 2) := by decide +kernel
theorem dX2_add_22 : decode cX2_add 22 = .ok (.iaload, 1) := by decide +kernel
theorem dX2_add_23 : decode cX2_add 23 = .ok (.i2l, 1) := by decide +kernel
theorem dX2_add_24 : decode cX2_add 24 = .ok (.iload_n 2, 1) := by decide +kernel
theorem dX2_add_25 : decode cX2_add 25 = .ok (.i2l, 1) := by decide +kernel
theorem dX2_add_26 : decode cX2_add 26 = .ok (.aload_n 1, 1) := by decide +kernel
theorem dX2_add_27 : decode cX2_add 27 = .ok (.getfield 9, 3) := by decide +kernel
theorem dX2_add_30 : decode cX2_add 30 = .ok (.iload 4, 2) := by decide +kernel
theorem dX2_add_32 : decode cX2_add 32 = .ok (.iaload, 1) := by decide +kernel
theorem dX2_add_33 : decode cX2_add 33 = .ok (.i2l, 1) := by decide +kernel
theorem dX2_add_34 : decode cX2_add 34 = .ok (.lmul, 1) := by decide +kernel
theorem dX2_add_35 : decode cX2_add 35 = .ok (.ladd, 1) := by decide +kernel
theorem dX2_add_36 : decode cX2_add 36 = .ok (.iload_n 3, 1) := by decide +kernel
theorem dX2_add_37 : decode cX2_add 37 = .ok (.invokestatic 31, 3) := by decide +kernel
theorem dX2_add_40 : decode cX2_add 40 = .ok (.iastore, 1) := by decide +kernel
theorem dX2_add_41 : decode cX2_add 41 = .ok (.iinc 4 1, 3) := by decide +kernel
theorem dX2_add_44 : decode cX2_add 44 = .ok (.goto (-41), 3) := by decide +kernel
theorem dX2_add_47 : decode cX2_add 47 = .ok (.return_, 1) := by decide +kernel
theorem dX2_multiplyBy_0 : decode cX2_multiplyBy 0 = .ok (.iconst 5, 1) := by decide +kernel
theorem dX2_multiplyBy_1 : decode cX2_multiplyBy 1 = .ok (.istore_n 3, 1) := by decide +kernel
theorem dX2_multiplyBy_2 : decode cX2_multiplyBy 2 = .ok (.iload_n 3, 1) := by decide +kernel
theorem dX2_multiplyBy_3 : decode cX2_multiplyBy 3 = .ok (.ifCond .lt 63, 3) := by decide +kernel
theorem dX2_multiplyBy_6 : decode cX2_multiplyBy 6 = .ok (.lconst 0, 1) := by decide +kernel
theorem dX2_multiplyBy_7 : decode cX2_multiplyBy 7 = .ok (.lstore 4, 2) := by decide +kernel
theorem dX2_multiplyBy_9 : decode cX2_multiplyBy 9 = .ok (.iconst 0, 1) := by decide +kernel
theorem dX2_multiplyBy_10 : decode cX2_multiplyBy 10 = .ok (.istore 6, 2) := by decide +kernel
theorem dX2_multiplyBy_12 : decode cX2_multiplyBy 12 = .ok (.iload 6, 2) := by decide +kernel
theorem dX2_multiplyBy_14 : decode cX2_multiplyBy 14 = .ok (.iload_n 3, 1) := by decide +kernel
theorem dX2_multiplyBy_15 : decode cX2_multiplyBy 15 = .ok (.if_icmp .gt 33, 3) := by decide +kernel
theorem dX2_multiplyBy_18 : decode cX2_multiplyBy 18 = .ok (.lload 4, 2) := by decide +kernel
theorem dX2_multiplyBy_20 : decode cX2_multiplyBy 20 = .ok (.aload_n 0, 1) := by decide +kernel
theorem dX2_multiplyBy_21 : decode cX2_multiplyBy 21 = .ok (.getfield 9, 3) := by decide +kernel
theorem dX2_multiplyBy_24 : decode cX2_multiplyBy 24 = .ok (.iload 6, 2) := by decide +kernel
theorem dX2_multiplyBy_26 : decode cX2_multiplyBy 26 = .ok (.iaload, 1) := by decide +kernel
theorem dX2_multiplyBy_27 : decode cX2_multiplyBy 27 = .ok (.i2l, 1) := by decide +kernel
theorem dX2_multiplyBy_28 : decode cX2_multiplyBy 28 = .ok (.aload_n 1, 1) := by decide +kernel
theorem dX2_multiplyBy_29 : decode cX2_multiplyBy 29 = .ok (.getfield 9, 3) := by decide +kernel
theorem dX2_multiplyBy_32 : decode cX2_multiplyBy 32 = .ok (.iload_n 3, 1) := by decide +kernel
theorem dX2_multiplyBy_33 : decode cX2_multiplyBy 33 = .ok (.iload 6, 2) := by decide +kernel
theorem dX2_multiplyBy_35 : decode cX2_multiplyBy 35 = .ok (.isub, 1) := by decide +kernel
theorem dX2_multiplyBy_36 : decode cX2_multiplyBy 36 = .ok (.iaload, 1) := by decide +kernel
theorem dX2_multiplyBy_37 : decode cX2_multiplyBy 37 = .ok (.i2l, 1) := by decide +kernel
theorem dX2_multiplyBy_38 : decode cX2_multiplyBy 38 = .ok (.lmul, 1) := by decide +kernel
theorem dX2_multiplyBy_39 : decode cX2_multiplyBy 39 = .ok (.ladd, 1) := by decide +kernel
theorem dX2_multiplyBy_40 : decode cX2_multiplyBy 40 = .ok (.lstore 4, 2) := by decide +kernel
theorem dX2_multiplyBy_42 : decode cX2_multiplyBy 42 = .ok (.iinc 6 1, 3) := by decide +kernel
theorem dX2_multiplyBy_45 : decode cX2_multiplyBy 45 = .ok (.goto (-33), 3) := by decide +kernel
theorem dX2_multiplyBy_48 : decode cX2_multiplyBy 48 = .ok (.aload_n 0, 1) := by decide +kernel
theorem dX2_multiplyBy_49 : decode cX2_multiplyBy 49 = .ok (.getfield 9, 3) := by decide +kernel
theorem dX2_multiplyBy_52 : decode cX2_multiplyBy 52 = .ok (.iload_n 3, 1) := by decide +kernel
theorem dX2_multiplyBy_53 : decode cX2_multiplyBy 53 = .ok (.lload 4, 2) := by decide +kernel
theorem dX2_multiplyBy_55 : decode cX2_multiplyBy 55 = .ok (.iload_n 2, 1) := by decide +kernel
theorem dX2_multiplyBy_56 : decode cX2_multiplyBy 56 = .ok (.invokestatic 31, 3) := by decide +kernel
theorem dX2_multiplyBy_59 : decode cX2_multiplyBy 59 = .ok (.iastore, 1) := by decide +kernel
theorem dX2_multiplyBy_60 : decode cX2_multiplyBy 60 = .ok (.iinc 3 (-1), 3) := by decide +kernel
theorem dX2_multiplyBy_63 : decode cX2_multiplyBy 63 = .ok (.goto (-61), 3) := by decide +kernel
theorem dX2_multiplyBy_66 : decode cX2_multiplyBy 66 = .ok (.aload_n 0, 1) := by decide +kernel
theorem dX2_multiplyBy_67 : decode cX2_multiplyBy 67 = .ok (.dup, 1) := by decide +kernel
theorem dX2_multiplyBy_68 : decode cX2_multiplyBy 68 = .ok (.getfield 15, 3) := by decide +kernel
theorem dX2_multiplyBy_71 : decode cX2_multiplyBy 71 = .ok (.aload_n 1, 1) := by decide +kernel
theorem dX2_multiplyBy_72 : decode cX2_multiplyBy 72 = .ok (.getfield 15, 3) := by decide +kernel
theorem dX2_multiplyBy_75 : decode cX2_multiplyBy 75 = .ok (.iadd, 1) := by decide +kernel
theorem dX2_multiplyBy_76 : decode cX2_multiplyBy 76 = .ok (.putfield 15, 3) := by decide +kernel
theorem dX2_multiplyBy_79 : decode cX2_multiplyBy 79 = .ok (.return_, 1) := by decide +kernel
theorem dX2_firstNotZero_0 : decode cX2_firstNotZero 0 = .ok (.iconst 0, 1) := by decide +kernel
theorem dX2_firstNotZero_1 : decode cX2_firstNotZero 1 = .ok (.istore_n 1, 1) := by decide +kernel
theorem dX2_firstNotZero_2 : decode cX2_firstNotZero 2 = .ok (.iload_n 1, 1) := by decide +kernel
theorem dX2_firstNotZero_3 : decode cX2_firstNotZero 3 = .ok (.bipush 6, 2) := by decide +kernel
theorem dX2_firstNotZero_5 : decode cX2_firstNotZero 5 = .ok (.if_icmp .ge 20, 3) := by decide +kernel
theorem dX2_firstNotZero_8 : decode cX2_firstNotZero 8 = .ok (.aload_n 0, 1) := by decide +kernel
theorem dX2_firstNotZero_9 : decode cX2_firstNotZero 9 = .ok (.getfield 9, 3) := by decide +kernel
theorem dX2_firstNotZero_12 : decode cX2_firstNotZero 12 = .ok (.iload_n 1, 1) := by decide +kernel
theorem dX2_firstNotZero_13 : decode cX2_firstNotZero 13 = .ok (.iaload, 1) := by decide +kernel
theorem dX2_firstNotZero_14 : decode cX2_firstNotZero 14 = .ok (.ifCond .eq 5, 3) := by decide +kernel
theorem dX2_firstNotZero_17 : decode cX2_firstNotZero 17 = .ok (.iload_n 1, 1) := by decide +kernel
theorem dX2_firstNotZero_18 : decode cX2_firstNotZero 18 = .ok (.ireturn, 1) := by decide +kernel
theorem dX2_firstNotZero_19 : decode cX2_firstNotZero 19 = .ok (.iinc 1 1, 3) := by decide +kernel
theorem dX2_firstNotZero_22 : decode cX2_firstNotZero 22 = .ok (.goto (-20), 3) := by decide +kernel
theorem dX2_firstNotZero_25 : decode cX2_firstNotZero 25 = .ok (.iconst (-1), 1) := by decide +kernel
theorem dX2_firstNotZero_26 : decode cX2_firstNotZero 26 = .ok (.ireturn, 1) := by decide +kernel
