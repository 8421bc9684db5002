theorem dX12_thrown_0 : decode cX12_thrown 0 = .ok (.aload_n 0, 1) := by decide +kernel
theorem dX12_thrown_1 : decode cX12_thrown 1 = .ok (.getfield 1, 3) := by decide +kernel
theorem dX12_thrown_4 : decode cX12_thrown 4 = .ok (.ireturn, 1) := by decide +kernel
theorem dX12_within_0 : decode cX12_within 0 = .ok (.iload_n 0, 1) := by decide +kernel
theorem dX12_within_1 : decode cX12_within 1 = .ok (.iload_n 1, 1) := by decide +kernel
theorem dX12_within_2 : decode cX12_within 2 = .ok (.if_icmp .lt 12, 3) := by decide +kernel
theorem dX12_within_5 : decode cX12_within 5 = .ok (.iload_n 0, 1) := by decide +kernel
theorem dX12_within_6 : decode cX12_within 6 = .ok (.iload_n 2, 1) := by decide +kernel
theorem dX12_within_7 : decode cX12_within 7 = .ok (.if_icmp .gt 7, 3) := by decide +kernel
theorem dX12_within_10 : decode cX12_within 10 = .ok (.iconst 1, 1) := by decide +kernel
theorem dX12_within_11 : decode cX12_within 11 = .ok (.goto 4, 3) := by decide +kernel
theorem dX12_within_14 : decode cX12_within 14 = .ok (.iconst 0, 1) := by decide +kernel
theorem dX12_within_15 : decode cX12_within 15 = .ok (.ireturn, 1) := by decide +kernel
theorem dX12_left_0 : decode cX12_left 0 = .ok (.lload_n 1, 1) := by decide +kernel
theorem dX12_left_1 : decode cX12_left 1 = .ok (.aload_n 0, 1) := by decide +kernel
theorem dX12_left_2 : decode cX12_left 2 = .ok (.getfield 7, 3) := by decide +kernel
theorem dX12_left_5 : decode cX12_left 5 = .ok (.i2l, 1) := by decide +kernel
theorem dX12_left_6 : decode cX12_left 6 = .ok (.lrem, 1) := by decide +kernel
theorem dX12_left_7 : decode cX12_left 7 = .ok (.lstore_n 3, 1) := by decide +kernel
theorem dX12_left_8 : decode cX12_left 8 = .ok (.lload_n 3, 1) := by decide +kernel
theorem dX12_left_9 : decode cX12_left 9 = .ok (.lconst 0, 1) := by decide +kernel
theorem dX12_left_10 : decode cX12_left 10 = .ok (.lcmp, 1) := by decide +kernel
theorem dX12_left_11 : decode cX12_left 11 = .ok (.ifCond .ge 13, 3) := by decide +kernel
theorem dX12_left_14 : decode cX12_left 14 = .ok (.lload_n 3, 1) := by decide +kernel
theorem dX12_left_15 : decode cX12_left 15 = .ok (.aload_n 0, 1) := by decide +kernel
theorem dX12_left_16 : decode cX12_left 16 = .ok (.getfield 7, 3) := by decide +kernel
theorem dX12_left_19 : decode cX12_left 19 = .ok (.i2l, 1) := by decide +kernel
theorem dX12_left_20 : decode cX12_left 20 = .ok (.ladd, 1) := by decide +kernel
theorem dX12_left_21 : decode cX12_left 21 = .ok (.goto 4, 3) := by decide +kernel
theorem dX12_left_24 : decode cX12_left 24 = .ok (.lload_n 3, 1) := by decide +kernel
theorem dX12_left_25 : decode cX12_left 25 = .ok (.l2i, 1) := by decide +kernel
theorem dX12_left_26 : decode cX12_left 26 = .ok (.ireturn, 1) := by decide +kernel
theorem dX12_power_0 : decode cX12_power 0 = .ok (.lconst 1, 1) := by decide +kernel
theorem dX12_power_1 : decode cX12_power 1 = .ok (.lstore_n 3, 1) := by decide +kernel
theorem dX12_power_2 : decode cX12_power 2 = .ok (.iconst 0, 1) := by decide +kernel
theorem dX12_power_3 : decode cX12_power 3 = .ok (.istore 5, 2) := by decide +kernel
theorem dX12_power_5 : decode cX12_power 5 = .ok (.iload 5, 2) := by decide +kernel
theorem dX12_power_7 : decode cX12_power 7 = .ok (.iload_n 2, 1) := by decide +kernel
theorem dX12_power_8 : decode cX12_power 8 = .ok (.if_icmp .ge 20, 3) := by decide +kernel
theorem dX12_power_11 : decode cX12_power 11 = .ok (.lload_n 3, 1) := by decide +kernel
theorem dX12_power_12 : decode cX12_power 12 = .ok (.iload_n 1, 1) := by decide +kernel
theorem dX12_power_13 : decode cX12_power 13 = .ok (.i2l, 1) := by decide +kernel
theorem dX12_power_14 : decode cX12_power 14 = .ok (.lmul, 1) := by decide +kernel
theorem dX12_power_15 : decode cX12_power 15 = .ok (.aload_n 0, 1) := by decide +kernel
theorem dX12_power_16 : decode cX12_power 16 = .ok (.getfield 7, 3) := by decide +kernel
theorem dX12_power_19 : decode cX12_power 19 = .ok (.i2l, 1) := by decide +kernel
theorem dX12_power_20 : decode cX12_power 20 = .ok (.lrem, 1) := by decide +kernel
theorem dX12_power_21 : decode cX12_power 21 = .ok (.lstore_n 3, 1) := by decide +kernel
theorem dX12_power_22 : decode cX12_power 22 = .ok (.iinc 5 1, 3) := by decide +kernel
theorem dX12_power_25 : decode cX12_power 25 = .ok (.goto (-20), 3) := by decide +kernel
theorem dX12_power_28 : decode cX12_power 28 = .ok (.lload_n 3, 1) := by decide +kernel
theorem dX12_power_29 : decode cX12_power 29 = .ok (.l2i, 1) := by decide +kernel
theorem dX12_power_30 : decode cX12_power 30 = .ok (.ireturn, 1) := by decide +kernel
theorem dX12_inverse_0 : decode cX12_inverse 0 = .ok (.lconst 1, 1) := by decide +kernel
theorem dX12_inverse_1 : decode cX12_inverse 1 = .ok (.lstore_n 2, 1) := by decide +kernel
theorem dX12_inverse_2 : decode cX12_inverse 2 = .ok (.iload_n 1, 1) := by decide +kernel
theorem dX12_inverse_3 : decode cX12_inverse 3 = .ok (.i2l, 1) := by decide +kernel
theorem dX12_inverse_4 : decode cX12_inverse 4 = .ok (.lstore 4, 2) := by decide +kernel
theorem dX12_inverse_6 : decode cX12_inverse 6 = .ok (.aload_n 0, 1) := by decide +kernel
theorem dX12_inverse_7 : decode cX12_inverse 7 = .ok (.getfield 7, 3) := by decide +kernel
theorem dX12_inverse_10 : decode cX12_inverse 10 = .ok (.iconst 2, 1) := by decide +kernel
theorem dX12_inverse_11 : decode cX12_inverse 11 = .ok (.isub, 1) := by decide +kernel
theorem dX12_inverse_12 : decode cX12_inverse 12 = .ok (.istore 6, 2) := by decide +kernel
theorem dX12_inverse_14 : decode cX12_inverse 14 = .ok (.iload 6, 2) := by decide +kernel
theorem dX12_inverse_16 : decode cX12_inverse 16 = .ok (.ifCond .le 48, 3) := by decide +kernel
theorem dX12_inverse_19 : decode cX12_inverse 19 = .ok (.iload 6, 2) := by decide +kernel
theorem dX12_inverse_21 : decode cX12_inverse 21 = .ok (.iconst 2, 1) := by decide +kernel
theorem dX12_inverse_22 : decode cX12_inverse 22 = .ok (.irem, 1) := by decide +kernel
theorem dX12_inverse_23 : decode cX12_inverse 23 = .ok (.iconst 1, 1) := by decide +kernel
theorem dX12_inverse_24 : decode cX12_inverse 24 = .ok (.if_icmp .ne 16, 3) := by decide +kernel
theorem dX12_inverse_27 : decode cX12_inverse 27 = .ok (.lload_n 2, 1) := by decide +kernel
theorem dX12_inverse_28 : decode cX12_inverse 28 = .ok (.lload 4, 2) := by decide +kernel
theorem dX12_inverse_30 : decode cX12_inverse 30 = .ok (.lmul, 1) := by decide +kernel
theorem dX12_inverse_31 : decode cX12_inverse 31 = .ok (.aload_n 0, 1) := by decide +kernel
theorem dX12_inverse_32 : decode cX12_inverse 32 = .ok (.getfield 7, 3) := by decide +kernel
theorem dX12_inverse_35 : decode cX12_inverse 35 = .ok (.i2l, 1) := by decide +kernel
theorem dX12_inverse_36 : decode cX12_inverse 36 = .ok (.lrem, 1) := by decide +kernel
theorem dX12_inverse_37 : decode cX12_inverse 37 = .ok (.goto 4, 3) := by decide +kernel
theorem dX12_inverse_40 : decode cX12_inverse 40 = .ok (.lload_n 2, 1) := by decide +kernel
theorem dX12_inverse_41 : decode cX12_inverse 41 = .ok (.lstore_n 2, 1) := by decide +kernel
theorem dX12_inverse_42 : decode cX12_inverse 42 = .ok (.lload 4, 2) := by decide +kernel
theorem dX12_inverse_44 : decode cX12_inverse 44 = .ok (.lload 4, 2) := by decide +kernel
theorem dX12_inverse_46 : decode cX12_inverse 46 = .ok (.lmul, 1) := by decide +kernel
theorem dX12_inverse_47 : decode cX12_inverse 47 = .ok (.aload_n 0, 1) := by decide +kernel
theorem dX12_inverse_48 : decode cX12_inverse 48 = .ok (.getfield 7, 3) := by decide +kernel
theorem dX12_inverse_51 : decode cX12_inverse 51 = .ok (.i2l, 1) := by decide +kernel
theorem dX12_inverse_52 : decode cX12_inverse 52 = .ok (.lrem, 1) := by decide +kernel
theorem dX12_inverse_53 : decode cX12_inverse 53 = .ok (.lstore 4, 2) := by decide +kernel
theorem dX12_inverse_55 : decode cX12_inverse 55 = .ok (.iload 6, 2) := by decide +kernel
theorem dX12_inverse_57 : decode cX12_inverse 57 = .ok (.iconst 2, 1) := by decide +kernel
theorem dX12_inverse_58 : decode cX12_inverse 58 = .ok (.idiv, 1) := by decide +kernel
theorem dX12_inverse_59 : decode cX12_inverse 59 = .ok (.istore 6, 2) := by decide +kernel
theorem dX12_inverse_61 : decode cX12_inverse 61 = .ok (.goto (-47), 3) := by decide +kernel
theorem dX12_inverse_64 : decode cX12_inverse 64 = .ok (.lload_n 2, 1) := by decide +kernel
theorem dX12_inverse_65 : decode cX12_inverse 65 = .ok (.l2i, 1) := by decide +kernel
theorem dX12_inverse_66 : decode cX12_inverse 66 = .ok (.ireturn, 1) := by decide +kernel
theorem dX12_isPrime_0 : decode cX12_isPrime 0 = .ok (.iconst 1, 1) := by decide +kernel
theorem dX12_isPrime_1 : decode cX12_isPrime 1 = .ok (.istore_n 1, 1) := by decide +kernel
theorem dX12_isPrime_2 : decode cX12_isPrime 2 = .ok (.iconst 2, 1) := by decide +kernel
theorem dX12_isPrime_3 : decode cX12_isPrime 3 = .ok (.istore_n 2, 1) := by decide +kernel
theorem dX12_isPrime_4 : decode cX12_isPrime 4 = .ok (.iload_n 2, 1) := by decide +kernel
theorem dX12_isPrime_5 : decode cX12_isPrime 5 = .ok (.iload_n 2, 1) := by decide +kernel
theorem dX12_isPrime_6 : decode cX12_isPrime 6 = .ok (.imul, 1) := by decide +kernel
theorem dX12_isPrime_7 : decode cX12_isPrime 7 = .ok (.iload_n 0, 1) := by decide +kernel
theorem dX12_isPrime_8 : decode cX12_isPrime 8 = .ok (.if_icmp .gt 25, 3) := by decide +kernel
theorem dX12_isPrime_11 : decode cX12_isPrime 11 = .ok (.iload_n 1, 1) := by decide +kernel
theorem dX12_isPrime_12 : decode cX12_isPrime 12 = .ok (.ifCond .eq 21, 3) := by decide +kernel
theorem dX12_isPrime_15 : decode cX12_isPrime 15 = .ok (.iload_n 0, 1) := by decide +kernel
theorem dX12_isPrime_16 : decode cX12_isPrime 16 = .ok (.iload_n 2, 1) := by decide +kernel
theorem dX12_isPrime_17 : decode cX12_isPrime 17 = .ok (.irem, 1) := by decide +kernel
theorem dX12_isPrime_18 : decode cX12_isPrime 18 = .ok (.ifCond .eq 7, 3) := by decide +kernel
theorem dX12_isPrime_21 : decode cX12_isPrime 21 = .ok (.iconst 1, 1) := by decide +kernel
theorem dX12_isPrime_22 : decode cX12_isPrime 22 = .ok (.goto 4, 3) := by decide +kernel
theorem dX12_isPrime_25 : decode cX12_isPrime 25 = .ok (.iconst 0, 1) := by decide +kernel
theorem dX12_isPrime_26 : decode cX12_isPrime 26 = .ok (.istore_n 1, 1) := by decide +kernel
theorem dX12_isPrime_27 : decode cX12_isPrime 27 = .ok (.iinc 2 1, 3) := by decide +kernel
theorem dX12_isPrime_30 : decode cX12_isPrime 30 = .ok (.goto (-26), 3) := by decide +kernel
theorem dX12_isPrime_33 : decode cX12_isPrime 33 = .ok (.iload_n 1, 1) := by decide +kernel
theorem dX12_isPrime_34 : decode cX12_isPrime 34 = .ok (.ireturn, 1) := by decide +kernel
theorem dX12_copies_0 : decode cX12_copies 0 = .ok (.iconst 0, 1) := by decide +kernel
theorem dX12_copies_1 : decode cX12_copies 1 = .ok (.istore 4, 2) := by decide +kernel
theorem dX12_copies_3 : decode cX12_copies 3 = .ok (.iload 4, 2) := by decide +kernel
theorem dX12_copies_5 : decode cX12_copies 5 = .ok (.sipush 181, 3) := by decide +kernel
theorem dX12_copies_8 : decode cX12_copies 8 = .ok (.if_icmp .ge 21, 3) := by decide +kernel
theorem dX12_copies_11 : decode cX12_copies 11 = .ok (.aload_n 2, 1) := by decide +kernel
theorem dX12_copies_12 : decode cX12_copies 12 = .ok (.iload_n 3, 1) := by decide +kernel
theorem dX12_copies_13 : decode cX12_copies 13 = .ok (.iload 4, 2) := by decide +kernel
theorem dX12_copies_15 : decode cX12_copies 15 = .ok (.iadd, 1) := by decide +kernel
theorem dX12_copies_16 : decode cX12_copies 16 = .ok (.aload_n 0, 1) := by decide +kernel
theorem dX12_copies_17 : decode cX12_copies 17 = .ok (.iload_n 1, 1) := by decide +kernel
theorem dX12_copies_18 : decode cX12_copies 18 = .ok (.iload 4, 2) := by decide +kernel
theorem dX12_copies_20 : decode cX12_copies 20 = .ok (.iadd, 1) := by decide +kernel
theorem dX12_copies_21 : decode cX12_copies 21 = .ok (.iaload, 1) := by decide +kernel
theorem dX12_copies_22 : decode cX12_copies 22 = .ok (.iastore, 1) := by decide +kernel
theorem dX12_copies_23 : decode cX12_copies 23 = .ok (.iinc 4 1, 3) := by decide +kernel
theorem dX12_copies_26 : decode cX12_copies 26 = .ok (.goto (-23), 3) := by decide +kernel
theorem dX12_copies_29 : decode cX12_copies 29 = .ok (.return_, 1) := by decide +kernel
theorem dX12_multiplies_0 : decode cX12_multiplies 0 = .ok (.iconst 0, 1) := by decide +kernel
theorem dX12_multiplies_1 : decode cX12_multiplies 1 = .ok (.istore 6, 2) := by decide +kernel
theorem dX12_multiplies_3 : decode cX12_multiplies 3 = .ok (.iload 6, 2) := by decide +kernel
theorem dX12_multiplies_5 : decode cX12_multiplies 5 = .ok (.sipush 181, 3) := by decide +kernel
theorem dX12_multiplies_8 : decode cX12_multiplies 8 = .ok (.if_icmp .ge 63, 3) := by decide +kernel
theorem dX12_multiplies_11 : decode cX12_multiplies 11 = .ok (.lconst 0, 1) := by decide +kernel
theorem dX12_multiplies_12 : decode cX12_multiplies 12 = .ok (.lstore 7, 2) := by decide +kernel
theorem dX12_multiplies_14 : decode cX12_multiplies 14 = .ok (.iconst 0, 1) := by decide +kernel
theorem dX12_multiplies_15 : decode cX12_multiplies 15 = .ok (.istore 9, 2) := by decide +kernel
theorem dX12_multiplies_17 : decode cX12_multiplies 17 = .ok (.iload 9, 2) := by decide +kernel
theorem dX12_multiplies_19 : decode cX12_multiplies 19 = .ok (.iload 6, 2) := by decide +kernel
theorem dX12_multiplies_21 : decode cX12_multiplies 21 = .ok (.if_icmp .gt 33, 3) := by decide +kernel
theorem dX12_multiplies_24 : decode cX12_multiplies 24 = .ok (.lload 7, 2) := by decide +kernel
theorem dX12_multiplies_26 : decode cX12_multiplies 26 = .ok (.aload_n 1, 1) := by decide +kernel
theorem dX12_multiplies_27 : decode cX12_multiplies 27 = .ok (.iload_n 2, 1) := by decide +kernel
theorem dX12_multiplies_28 : decode cX12_multiplies 28 = .ok (.iload 9, 2) := by decide +kernel
theorem dX12_multiplies_30 : decode cX12_multiplies 30 = .ok (.iadd, 1) := by decide +kernel
theorem dX12_multiplies_31 : decode cX12_multiplies 31 = .ok (.iaload, 1) := by decide +kernel
theorem dX12_multiplies_32 : decode cX12_multiplies 32 = .ok (.i2l, 1) := by decide +kernel
theorem dX12_multiplies_33 : decode cX12_multiplies 33 = .ok (.aload_n 3, 1) := by decide +kernel
theorem dX12_multiplies_34 : decode cX12_multiplies 34 = .ok (.iload 4, 2) := by decide +kernel
theorem dX12_multiplies_36 : decode cX12_multiplies 36 = .ok (.iload 6, 2) := by decide +kernel
theorem dX12_multiplies_38 : decode cX12_multiplies 38 = .ok (.iadd, 1) := by decide +kernel
theorem dX12_multiplies_39 : decode cX12_multiplies 39 = .ok (.iload 9, 2) := by decide +kernel
theorem dX12_multiplies_41 : decode cX12_multiplies 41 = .ok (.isub, 1) := by decide +kernel
theorem dX12_multiplies_42 : decode cX12_multiplies 42 = .ok (.iaload, 1) := by decide +kernel
theorem dX12_multiplies_43 : decode cX12_multiplies 43 = .ok (.i2l, 1) := by decide +kernel
theorem dX12_multiplies_44 : decode cX12_multiplies 44 = .ok (.lmul, 1) := by decide +kernel
theorem dX12_multiplies_45 : decode cX12_multiplies 45 = .ok (.ladd, 1) := by decide +kernel
theorem dX12_multiplies_46 : decode cX12_multiplies 46 = .ok (.lstore 7, 2) := by decide +kernel
theorem dX12_multiplies_48 : decode cX12_multiplies 48 = .ok (.iinc 9 1, 3) := by decide +kernel
theorem dX12_multiplies_51 : decode cX12_multiplies 51 = .ok (.goto (-34), 3) := by decide +kernel
theorem dX12_multiplies_54 : decode cX12_multiplies 54 = .ok (.aload 5, 2) := by decide +kernel
theorem dX12_multiplies_56 : decode cX12_multiplies 56 = .ok (.iload 6, 2) := by decide +kernel
theorem dX12_multiplies_58 : decode cX12_multiplies 58 = .ok (.aload_n 0, 1) := by decide +kernel
theorem dX12_multiplies_59 : decode cX12_multiplies 59 = .ok (.lload 7, 2) := by decide +kernel
theorem dX12_multiplies_61 : decode cX12_multiplies 61 = .ok (.invokevirtual 10, 3) := by decide +kernel
theorem dX12_multiplies_64 : decode cX12_multiplies 64 = .ok (.iastore, 1) := by decide +kernel
theorem dX12_multiplies_65 : decode cX12_multiplies 65 = .ok (.iinc 6 1, 3) := by decide +kernel
theorem dX12_multiplies_68 : decode cX12_multiplies 68 = .ok (.goto (-65), 3) := by decide +kernel
theorem dX12_multiplies_71 : decode cX12_multiplies 71 = .ok (.return_, 1) := by decide +kernel
theorem dX12_laysBasic_0 : decode cX12_laysBasic 0 = .ok (.iconst 0, 1) := by decide +kernel
theorem dX12_laysBasic_1 : decode cX12_laysBasic 1 = .ok (.istore_n 1, 1) := by decide +kernel
theorem dX12_laysBasic_2 : decode cX12_laysBasic 2 = .ok (.iload_n 1, 1) := by decide +kernel
theorem dX12_laysBasic_3 : decode cX12_laysBasic 3 = .ok (.sipush 181, 3) := by decide +kernel
theorem dX12_laysBasic_6 : decode cX12_laysBasic 6 = .ok (.if_icmp .ge 117, 3) := by decide +kernel
theorem dX12_laysBasic_9 : decode cX12_laysBasic 9 = .ok (.lconst 0, 1) := by decide +kernel
theorem dX12_laysBasic_10 : decode cX12_laysBasic 10 = .ok (.lstore_n 2, 1) := by decide +kernel
theorem dX12_laysBasic_11 : decode cX12_laysBasic 11 = .ok (.lconst 0, 1) := by decide +kernel
theorem dX12_laysBasic_12 : decode cX12_laysBasic 12 = .ok (.lstore 4, 2) := by decide +kernel
theorem dX12_laysBasic_14 : decode cX12_laysBasic 14 = .ok (.iconst 1, 1) := by decide +kernel
theorem dX12_laysBasic_15 : decode cX12_laysBasic 15 = .ok (.istore 6, 2) := by decide +kernel
theorem dX12_laysBasic_17 : decode cX12_laysBasic 17 = .ok (.iload 6, 2) := by decide +kernel
theorem dX12_laysBasic_19 : decode cX12_laysBasic 19 = .ok (.iload_n 1, 1) := by decide +kernel
theorem dX12_laysBasic_20 : decode cX12_laysBasic 20 = .ok (.if_icmp .gt 50, 3) := by decide +kernel
theorem dX12_laysBasic_23 : decode cX12_laysBasic 23 = .ok (.iload_n 1, 1) := by decide +kernel
theorem dX12_laysBasic_24 : decode cX12_laysBasic 24 = .ok (.iload 6, 2) := by decide +kernel
theorem dX12_laysBasic_26 : decode cX12_laysBasic 26 = .ok (.irem, 1) := by decide +kernel
theorem dX12_laysBasic_27 : decode cX12_laysBasic 27 = .ok (.ifCond .ne 37, 3) := by decide +kernel
theorem dX12_laysBasic_30 : decode cX12_laysBasic 30 = .ok (.lload_n 2, 1) := by decide +kernel
theorem dX12_laysBasic_31 : decode cX12_laysBasic 31 = .ok (.aload_n 0, 1) := by decide +kernel
theorem dX12_laysBasic_32 : decode cX12_laysBasic 32 = .ok (.iload 6, 2) := by decide +kernel
theorem dX12_laysBasic_34 : decode cX12_laysBasic 34 = .ok (.aload_n 0, 1) := by decide +kernel
theorem dX12_laysBasic_35 : decode cX12_laysBasic 35 = .ok (.getfield 7, 3) := by decide +kernel
theorem dX12_laysBasic_38 : decode cX12_laysBasic 38 = .ok (.irem, 1) := by decide +kernel
theorem dX12_laysBasic_39 : decode cX12_laysBasic 39 = .ok (.iconst 3, 1) := by decide +kernel
theorem dX12_laysBasic_40 : decode cX12_laysBasic 40 = .ok (.invokevirtual 14, 3) := by decide +kernel
theorem dX12_laysBasic_43 : decode cX12_laysBasic 43 = .ok (.i2l, 1) := by decide +kernel
theorem dX12_laysBasic_44 : decode cX12_laysBasic 44 = .ok (.ladd, 1) := by decide +kernel
theorem dX12_laysBasic_45 : decode cX12_laysBasic 45 = .ok (.lstore_n 2, 1) := by decide +kernel
theorem dX12_laysBasic_46 : decode cX12_laysBasic 46 = .ok (.lload 4, 2) := by decide +kernel
theorem dX12_laysBasic_48 : decode cX12_laysBasic 48 = .ok (.aload_n 0, 1) := by decide +kernel
theorem dX12_laysBasic_49 : decode cX12_laysBasic 49 = .ok (.iload 6, 2) := by decide +kernel
theorem dX12_laysBasic_51 : decode cX12_laysBasic 51 = .ok (.aload_n 0, 1) := by decide +kernel
theorem dX12_laysBasic_52 : decode cX12_laysBasic 52 = .ok (.getfield 7, 3) := by decide +kernel
theorem dX12_laysBasic_55 : decode cX12_laysBasic 55 = .ok (.irem, 1) := by decide +kernel
theorem dX12_laysBasic_56 : decode cX12_laysBasic 56 = .ok (.iconst 5, 1) := by decide +kernel
theorem dX12_laysBasic_57 : decode cX12_laysBasic 57 = .ok (.invokevirtual 14, 3) := by decide +kernel
theorem dX12_laysBasic_60 : decode cX12_laysBasic 60 = .ok (.i2l, 1) := by decide +kernel
theorem dX12_laysBasic_61 : decode cX12_laysBasic 61 = .ok (.ladd, 1) := by decide +kernel
theorem dX12_laysBasic_62 : decode cX12_laysBasic 62 = .ok (.lstore 4, 2) := by decide +kernel
theorem dX12_laysBasic_64 : decode cX12_laysBasic 64 = .ok (.iinc 6 1, 3) := by decide +kernel
theorem dX12_laysBasic_67 : decode cX12_laysBasic 67 = .ok (.goto (-50), 3) := by decide +kernel
theorem dX12_laysBasic_70 : decode cX12_laysBasic 70 = .ok (.aload_n 0, 1) := by decide +kernel
theorem dX12_laysBasic_71 : decode cX12_laysBasic 71 = .ok (.getfield 18, 3) := by decide +kernel
theorem dX12_laysBasic_74 : decode cX12_laysBasic 74 = .ok (.iload_n 1, 1) := by decide +kernel
theorem dX12_laysBasic_75 : decode cX12_laysBasic 75 = .ok (.iload_n 1, 1) := by decide +kernel
theorem dX12_laysBasic_76 : decode cX12_laysBasic 76 = .ok (.ifCond .ne 7, 3) := by decide +kernel
theorem dX12_laysBasic_79 : decode cX12_laysBasic 79 = .ok (.iconst 1, 1) := by decide +kernel
theorem dX12_laysBasic_80 : decode cX12_laysBasic 80 = .ok (.goto 12, 3) := by decide +kernel
theorem dX12_laysBasic_83 : decode cX12_laysBasic 83 = .ok (.aload_n 0, 1) := by decide +kernel
theorem dX12_laysBasic_84 : decode cX12_laysBasic 84 = .ok (.ldc2_w 22, 3) := by decide +kernel
theorem dX12_laysBasic_87 : decode cX12_laysBasic 87 = .ok (.lload_n 2, 1) := by decide +kernel
theorem dX12_laysBasic_88 : decode cX12_laysBasic 88 = .ok (.lmul, 1) := by decide +kernel
theorem dX12_laysBasic_89 : decode cX12_laysBasic 89 = .ok (.invokevirtual 10, 3) := by decide +kernel
theorem dX12_laysBasic_92 : decode cX12_laysBasic 92 = .ok (.iastore, 1) := by decide +kernel
theorem dX12_laysBasic_93 : decode cX12_laysBasic 93 = .ok (.aload_n 0, 1) := by decide +kernel
theorem dX12_laysBasic_94 : decode cX12_laysBasic 94 = .ok (.getfield 24, 3) := by decide +kernel
theorem dX12_laysBasic_97 : decode cX12_laysBasic 97 = .ok (.iload_n 1, 1) := by decide +kernel
theorem dX12_laysBasic_98 : decode cX12_laysBasic 98 = .ok (.iload_n 1, 1) := by decide +kernel
theorem dX12_laysBasic_99 : decode cX12_laysBasic 99 = .ok (.ifCond .ne 7, 3) := by decide +kernel
theorem dX12_laysBasic_102 : decode cX12_laysBasic 102 = .ok (.iconst 1, 1) := by decide +kernel
theorem dX12_laysBasic_103 : decode cX12_laysBasic 103 = .ok (.goto 13, 3) := by decide +kernel
theorem dX12_laysBasic_106 : decode cX12_laysBasic 106 = .ok (.aload_n 0, 1) := by decide +kernel
theorem dX12_laysBasic_107 : decode cX12_laysBasic 107 = .ok (.ldc2_w 27, 3) := by decide +kernel
theorem dX12_laysBasic_110 : decode cX12_laysBasic 110 = .ok (.lload 4, 2) := by decide +kernel
theorem dX12_laysBasic_112 : decode cX12_laysBasic 112 = .ok (.lmul, 1) := by decide +kernel
theorem dX12_laysBasic_113 : decode cX12_laysBasic 113 = .ok (.invokevirtual 10, 3) := by decide +kernel
theorem dX12_laysBasic_116 : decode cX12_laysBasic 116 = .ok (.iastore, 1) := by decide +kernel
theorem dX12_laysBasic_117 : decode cX12_laysBasic 117 = .ok (.iinc 1 1, 3) := by decide +kernel
theorem dX12_laysBasic_120 : decode cX12_laysBasic 120 = .ok (.goto (-118), 3) := by decide +kernel
theorem dX12_laysBasic_123 : decode cX12_laysBasic 123 = .ok (.aload_n 0, 1) := by decide +kernel
theorem dX12_laysBasic_124 : decode cX12_laysBasic 124 = .ok (.aload_n 0, 1) := by decide +kernel
theorem dX12_laysBasic_125 : decode cX12_laysBasic 125 = .ok (.getfield 18, 3) := by decide +kernel
theorem dX12_laysBasic_128 : decode cX12_laysBasic 128 = .ok (.iconst 0, 1) := by decide +kernel
theorem dX12_laysBasic_129 : decode cX12_laysBasic 129 = .ok (.aload_n 0, 1) := by decide +kernel
theorem dX12_laysBasic_130 : decode cX12_laysBasic 130 = .ok (.getfield 18, 3) := by decide +kernel
theorem dX12_laysBasic_133 : decode cX12_laysBasic 133 = .ok (.iconst 0, 1) := by decide +kernel
theorem dX12_laysBasic_134 : decode cX12_laysBasic 134 = .ok (.aload_n 0, 1) := by decide +kernel
theorem dX12_laysBasic_135 : decode cX12_laysBasic 135 = .ok (.getfield 29, 3) := by decide +kernel
theorem dX12_laysBasic_138 : decode cX12_laysBasic 138 = .ok (.invokevirtual 32, 3) := by decide +kernel
theorem dX12_laysBasic_141 : decode cX12_laysBasic 141 = .ok (.aload_n 0, 1) := by decide +kernel
theorem dX12_laysBasic_142 : decode cX12_laysBasic 142 = .ok (.aload_n 0, 1) := by decide +kernel
theorem dX12_laysBasic_143 : decode cX12_laysBasic 143 = .ok (.getfield 29, 3) := by decide +kernel
theorem dX12_laysBasic_146 : decode cX12_laysBasic 146 = .ok (.iconst 0, 1) := by decide +kernel
theorem dX12_laysBasic_147 : decode cX12_laysBasic 147 = .ok (.aload_n 0, 1) := by decide +kernel
theorem dX12_laysBasic_148 : decode cX12_laysBasic 148 = .ok (.getfield 18, 3) := by decide +kernel
theorem dX12_laysBasic_151 : decode cX12_laysBasic 151 = .ok (.iconst 0, 1) := by decide +kernel
theorem dX12_laysBasic_152 : decode cX12_laysBasic 152 = .ok (.aload_n 0, 1) := by decide +kernel
theorem dX12_laysBasic_153 : decode cX12_laysBasic 153 = .ok (.getfield 36, 3) := by decide +kernel
theorem dX12_laysBasic_156 : decode cX12_laysBasic 156 = .ok (.invokevirtual 32, 3) := by decide +kernel
theorem dX12_laysBasic_159 : decode cX12_laysBasic 159 = .ok (.aload_n 0, 1) := by decide +kernel
theorem dX12_laysBasic_160 : decode cX12_laysBasic 160 = .ok (.aload_n 0, 1) := by decide +kernel
theorem dX12_laysBasic_161 : decode cX12_laysBasic 161 = .ok (.getfield 24, 3) := by decide +kernel
theorem dX12_laysBasic_164 : decode cX12_laysBasic 164 = .ok (.iconst 0, 1) := by decide +kernel
theorem dX12_laysBasic_165 : decode cX12_laysBasic 165 = .ok (.aload_n 0, 1) := by decide +kernel
theorem dX12_laysBasic_166 : decode cX12_laysBasic 166 = .ok (.getfield 24, 3) := by decide +kernel
theorem dX12_laysBasic_169 : decode cX12_laysBasic 169 = .ok (.iconst 0, 1) := by decide +kernel
theorem dX12_laysBasic_170 : decode cX12_laysBasic 170 = .ok (.aload_n 0, 1) := by decide +kernel
theorem dX12_laysBasic_171 : decode cX12_laysBasic 171 = .ok (.getfield 29, 3) := by decide +kernel
theorem dX12_laysBasic_174 : decode cX12_laysBasic 174 = .ok (.invokevirtual 32, 3) := by decide +kernel
theorem dX12_laysBasic_177 : decode cX12_laysBasic 177 = .ok (.aload_n 0, 1) := by decide +kernel
theorem dX12_laysBasic_178 : decode cX12_laysBasic 178 = .ok (.aload_n 0, 1) := by decide +kernel
theorem dX12_laysBasic_179 : decode cX12_laysBasic 179 = .ok (.ldc2_w 39, 3) := by decide +kernel
theorem dX12_laysBasic_182 : decode cX12_laysBasic 182 = .ok (.invokevirtual 10, 3) := by decide +kernel
theorem dX12_laysBasic_185 : decode cX12_laysBasic 185 = .ok (.invokevirtual 41, 3) := by decide +kernel
theorem dX12_laysBasic_188 : decode cX12_laysBasic 188 = .ok (.istore_n 1, 1) := by decide +kernel
theorem dX12_laysBasic_189 : decode cX12_laysBasic 189 = .ok (.iconst 0, 1) := by decide +kernel
theorem dX12_laysBasic_190 : decode cX12_laysBasic 190 = .ok (.istore_n 2, 1) := by decide +kernel
theorem dX12_laysBasic_191 : decode cX12_laysBasic 191 = .ok (.iload_n 2, 1) := by decide +kernel
theorem dX12_laysBasic_192 : decode cX12_laysBasic 192 = .ok (.sipush 181, 3) := by decide +kernel
theorem dX12_laysBasic_195 : decode cX12_laysBasic 195 = .ok (.if_icmp .ge 36, 3) := by decide +kernel
theorem dX12_laysBasic_198 : decode cX12_laysBasic 198 = .ok (.aload_n 0, 1) := by decide +kernel
theorem dX12_laysBasic_199 : decode cX12_laysBasic 199 = .ok (.getfield 36, 3) := by decide +kernel
theorem dX12_laysBasic_202 : decode cX12_laysBasic 202 = .ok (.iload_n 2, 1) := by decide +kernel
theorem dX12_laysBasic_203 : decode cX12_laysBasic 203 = .ok (.aload_n 0, 1) := by decide +kernel
theorem dX12_laysBasic_204 : decode cX12_laysBasic 204 = .ok (.aload_n 0, 1) := by decide +kernel
theorem dX12_laysBasic_205 : decode cX12_laysBasic 205 = .ok (.getfield 36, 3) := by decide +kernel
theorem dX12_laysBasic_208 : decode cX12_laysBasic 208 = .ok (.iload_n 2, 1) := by decide +kernel
theorem dX12_laysBasic_209 : decode cX12_laysBasic 209 = .ok (.iaload, 1) := by decide +kernel
theorem dX12_laysBasic_210 : decode cX12_laysBasic 210 = .ok (.aload_n 0, 1) := by decide +kernel
theorem dX12_laysBasic_211 : decode cX12_laysBasic 211 = .ok (.getfield 29, 3) := by decide +kernel
theorem dX12_laysBasic_214 : decode cX12_laysBasic 214 = .ok (.iload_n 2, 1) := by decide +kernel
theorem dX12_laysBasic_215 : decode cX12_laysBasic 215 = .ok (.iaload, 1) := by decide +kernel
theorem dX12_laysBasic_216 : decode cX12_laysBasic 216 = .ok (.isub, 1) := by decide +kernel
theorem dX12_laysBasic_217 : decode cX12_laysBasic 217 = .ok (.i2l, 1) := by decide +kernel
theorem dX12_laysBasic_218 : decode cX12_laysBasic 218 = .ok (.iload_n 1, 1) := by decide +kernel
theorem dX12_laysBasic_219 : decode cX12_laysBasic 219 = .ok (.i2l, 1) := by decide +kernel
theorem dX12_laysBasic_220 : decode cX12_laysBasic 220 = .ok (.lmul, 1) := by decide +kernel
theorem dX12_laysBasic_221 : decode cX12_laysBasic 221 = .ok (.invokevirtual 10, 3) := by decide +kernel
theorem dX12_laysBasic_224 : decode cX12_laysBasic 224 = .ok (.iastore, 1) := by decide +kernel
theorem dX12_laysBasic_225 : decode cX12_laysBasic 225 = .ok (.iinc 2 1, 3) := by decide +kernel
theorem dX12_laysBasic_228 : decode cX12_laysBasic 228 = .ok (.goto (-37), 3) := by decide +kernel
theorem dX12_laysBasic_231 : decode cX12_laysBasic 231 = .ok (.return_, 1) := by decide +kernel
theorem dX12_longOf_0 : decode cX12_longOf 0 = .ok (.iload_n 0, 1) := by decide +kernel
theorem dX12_longOf_1 : decode cX12_longOf 1 = .ok (.bipush 12, 2) := by decide +kernel
theorem dX12_longOf_3 : decode cX12_longOf 3 = .ok (.idiv, 1) := by decide +kernel
theorem dX12_longOf_4 : decode cX12_longOf 4 = .ok (.iload_n 0, 1) := by decide +kernel
theorem dX12_longOf_5 : decode cX12_longOf 5 = .ok (.bipush 12, 2) := by decide +kernel
theorem dX12_longOf_7 : decode cX12_longOf 7 = .ok (.irem, 1) := by decide +kernel
theorem dX12_longOf_8 : decode cX12_longOf 8 = .ok (.iconst 2, 1) := by decide +kernel
theorem dX12_longOf_9 : decode cX12_longOf 9 = .ok (.if_icmp .ne 7, 3) := by decide +kernel
theorem dX12_longOf_12 : decode cX12_longOf 12 = .ok (.iconst 0, 1) := by decide +kernel
theorem dX12_longOf_13 : decode cX12_longOf 13 = .ok (.goto 4, 3) := by decide +kernel
theorem dX12_longOf_16 : decode cX12_longOf 16 = .ok (.iconst 1, 1) := by decide +kernel
theorem dX12_longOf_17 : decode cX12_longOf 17 = .ok (.iadd, 1) := by decide +kernel
theorem dX12_longOf_18 : decode cX12_longOf 18 = .ok (.ireturn, 1) := by decide +kernel
theorem dX12_isWeight_0 : decode cX12_isWeight 0 = .ok (.iload_n 0, 1) := by decide +kernel
theorem dX12_isWeight_1 : decode cX12_isWeight 1 = .ok (.iconst 0, 1) := by decide +kernel
theorem dX12_isWeight_2 : decode cX12_isWeight 2 = .ok (.bipush 60, 2) := by decide +kernel
theorem dX12_isWeight_4 : decode cX12_isWeight 4 = .ok (.invokestatic 45, 3) := by decide +kernel
theorem dX12_isWeight_7 : decode cX12_isWeight 7 = .ok (.ifCond .eq 13, 3) := by decide +kernel
theorem dX12_isWeight_10 : decode cX12_isWeight 10 = .ok (.iload_n 0, 1) := by decide +kernel
theorem dX12_isWeight_11 : decode cX12_isWeight 11 = .ok (.iconst 2, 1) := by decide +kernel
theorem dX12_isWeight_12 : decode cX12_isWeight 12 = .ok (.irem, 1) := by decide +kernel
theorem dX12_isWeight_13 : decode cX12_isWeight 13 = .ok (.ifCond .ne 7, 3) := by decide +kernel
theorem dX12_isWeight_16 : decode cX12_isWeight 16 = .ok (.iconst 1, 1) := by decide +kernel
theorem dX12_isWeight_17 : decode cX12_isWeight 17 = .ok (.goto 4, 3) := by decide +kernel
theorem dX12_isWeight_20 : decode cX12_isWeight 20 = .ok (.iconst 0, 1) := by decide +kernel
theorem dX12_isWeight_21 : decode cX12_isWeight 21 = .ok (.ireturn, 1) := by decide +kernel
theorem dX12_laysRows_0 : decode cX12_laysRows 0 = .ok (.aload_n 0, 1) := by decide +kernel
theorem dX12_laysRows_1 : decode cX12_laysRows 1 = .ok (.getfield 49, 3) := by decide +kernel
theorem dX12_laysRows_4 : decode cX12_laysRows 4 = .ok (.iload_n 1, 1) := by decide +kernel
theorem dX12_laysRows_5 : decode cX12_laysRows 5 = .ok (.if_icmp .ne 4, 3) := by decide +kernel
theorem dX12_laysRows_8 : decode cX12_laysRows 8 = .ok (.return_, 1) := by decide +kernel
theorem dX12_laysRows_9 : decode cX12_laysRows 9 = .ok (.aload_n 0, 1) := by decide +kernel
theorem dX12_laysRows_10 : decode cX12_laysRows 10 = .ok (.iload_n 1, 1) := by decide +kernel
theorem dX12_laysRows_11 : decode cX12_laysRows 11 = .ok (.putfield 49, 3) := by decide +kernel
theorem dX12_laysRows_14 : decode cX12_laysRows 14 = .ok (.iconst 0, 1) := by decide +kernel
theorem dX12_laysRows_15 : decode cX12_laysRows 15 = .ok (.istore_n 2, 1) := by decide +kernel
theorem dX12_laysRows_16 : decode cX12_laysRows 16 = .ok (.iload_n 2, 1) := by decide +kernel
theorem dX12_laysRows_17 : decode cX12_laysRows 17 = .ok (.iload_n 1, 1) := by decide +kernel
theorem dX12_laysRows_18 : decode cX12_laysRows 18 = .ok (.invokestatic 52, 3) := by decide +kernel
theorem dX12_laysRows_21 : decode cX12_laysRows 21 = .ok (.if_icmp .ge 168, 3) := by decide +kernel
theorem dX12_laysRows_24 : decode cX12_laysRows 24 = .ok (.iload_n 1, 1) := by decide +kernel
theorem dX12_laysRows_25 : decode cX12_laysRows 25 = .ok (.bipush 12, 2) := by decide +kernel
theorem dX12_laysRows_27 : decode cX12_laysRows 27 = .ok (.iload_n 2, 1) := by decide +kernel
theorem dX12_laysRows_28 : decode cX12_laysRows 28 = .ok (.imul, 1) := by decide +kernel
theorem dX12_laysRows_29 : decode cX12_laysRows 29 = .ok (.isub, 1) := by decide +kernel
theorem dX12_laysRows_30 : decode cX12_laysRows 30 = .ok (.istore_n 3, 1) := by decide +kernel
theorem dX12_laysRows_31 : decode cX12_laysRows 31 = .ok (.iload_n 3, 1) := by decide +kernel
theorem dX12_laysRows_32 : decode cX12_laysRows 32 = .ok (.iconst 4, 1) := by decide +kernel
theorem dX12_laysRows_33 : decode cX12_laysRows 33 = .ok (.irem, 1) := by decide +kernel
theorem dX12_laysRows_34 : decode cX12_laysRows 34 = .ok (.iconst 2, 1) := by decide +kernel
theorem dX12_laysRows_35 : decode cX12_laysRows 35 = .ok (.idiv, 1) := by decide +kernel
theorem dX12_laysRows_36 : decode cX12_laysRows 36 = .ok (.istore 4, 2) := by decide +kernel
theorem dX12_laysRows_38 : decode cX12_laysRows 38 = .ok (.iload_n 3, 1) := by decide +kernel
theorem dX12_laysRows_39 : decode cX12_laysRows 39 = .ok (.bipush 6, 2) := by decide +kernel
theorem dX12_laysRows_41 : decode cX12_laysRows 41 = .ok (.iload 4, 2) := by decide +kernel
theorem dX12_laysRows_43 : decode cX12_laysRows 43 = .ok (.imul, 1) := by decide +kernel
theorem dX12_laysRows_44 : decode cX12_laysRows 44 = .ok (.isub, 1) := by decide +kernel
theorem dX12_laysRows_45 : decode cX12_laysRows 45 = .ok (.iconst 4, 1) := by decide +kernel
theorem dX12_laysRows_46 : decode cX12_laysRows 46 = .ok (.idiv, 1) := by decide +kernel
theorem dX12_laysRows_47 : decode cX12_laysRows 47 = .ok (.istore 5, 2) := by decide +kernel
theorem dX12_laysRows_49 : decode cX12_laysRows 49 = .ok (.iconst 0, 1) := by decide +kernel
theorem dX12_laysRows_50 : decode cX12_laysRows 50 = .ok (.istore 6, 2) := by decide +kernel
theorem dX12_laysRows_52 : decode cX12_laysRows 52 = .ok (.iload 6, 2) := by decide +kernel
theorem dX12_laysRows_54 : decode cX12_laysRows 54 = .ok (.sipush 181, 3) := by decide +kernel
theorem dX12_laysRows_57 : decode cX12_laysRows 57 = .ok (.if_icmp .ge 26, 3) := by decide +kernel
theorem dX12_laysRows_60 : decode cX12_laysRows 60 = .ok (.aload_n 0, 1) := by decide +kernel
theorem dX12_laysRows_61 : decode cX12_laysRows 61 = .ok (.getfield 29, 3) := by decide +kernel
theorem dX12_laysRows_64 : decode cX12_laysRows 64 = .ok (.iload 6, 2) := by decide +kernel
theorem dX12_laysRows_66 : decode cX12_laysRows 66 = .ok (.iload 6, 2) := by decide +kernel
theorem dX12_laysRows_68 : decode cX12_laysRows 68 = .ok (.ifCond .ne 7, 3) := by decide +kernel
theorem dX12_laysRows_71 : decode cX12_laysRows 71 = .ok (.iconst 1, 1) := by decide +kernel
theorem dX12_laysRows_72 : decode cX12_laysRows 72 = .ok (.goto 4, 3) := by decide +kernel
theorem dX12_laysRows_75 : decode cX12_laysRows 75 = .ok (.iconst 0, 1) := by decide +kernel
theorem dX12_laysRows_76 : decode cX12_laysRows 76 = .ok (.iastore, 1) := by decide +kernel
theorem dX12_laysRows_77 : decode cX12_laysRows 77 = .ok (.iinc 6 1, 3) := by decide +kernel
theorem dX12_laysRows_80 : decode cX12_laysRows 80 = .ok (.goto (-28), 3) := by decide +kernel
theorem dX12_laysRows_83 : decode cX12_laysRows 83 = .ok (.iconst 0, 1) := by decide +kernel
theorem dX12_laysRows_84 : decode cX12_laysRows 84 = .ok (.istore 6, 2) := by decide +kernel
theorem dX12_laysRows_86 : decode cX12_laysRows 86 = .ok (.iload 6, 2) := by decide +kernel
theorem dX12_laysRows_88 : decode cX12_laysRows 88 = .ok (.iload 5, 2) := by decide +kernel
theorem dX12_laysRows_90 : decode cX12_laysRows 90 = .ok (.iload 4, 2) := by decide +kernel
theorem dX12_laysRows_92 : decode cX12_laysRows 92 = .ok (.iadd, 1) := by decide +kernel
theorem dX12_laysRows_93 : decode cX12_laysRows 93 = .ok (.iload_n 2, 1) := by decide +kernel
theorem dX12_laysRows_94 : decode cX12_laysRows 94 = .ok (.iadd, 1) := by decide +kernel
theorem dX12_laysRows_95 : decode cX12_laysRows 95 = .ok (.if_icmp .ge 71, 3) := by decide +kernel
theorem dX12_laysRows_98 : decode cX12_laysRows 98 = .ok (.aload_n 0, 1) := by decide +kernel
theorem dX12_laysRows_99 : decode cX12_laysRows 99 = .ok (.aload_n 0, 1) := by decide +kernel
theorem dX12_laysRows_100 : decode cX12_laysRows 100 = .ok (.getfield 29, 3) := by decide +kernel
theorem dX12_laysRows_103 : decode cX12_laysRows 103 = .ok (.iconst 0, 1) := by decide +kernel
theorem dX12_laysRows_104 : decode cX12_laysRows 104 = .ok (.iload 6, 2) := by decide +kernel
theorem dX12_laysRows_106 : decode cX12_laysRows 106 = .ok (.iload 5, 2) := by decide +kernel
theorem dX12_laysRows_108 : decode cX12_laysRows 108 = .ok (.if_icmp .ge 10, 3) := by decide +kernel
theorem dX12_laysRows_111 : decode cX12_laysRows 111 = .ok (.aload_n 0, 1) := by decide +kernel
theorem dX12_laysRows_112 : decode cX12_laysRows 112 = .ok (.getfield 18, 3) := by decide +kernel
theorem dX12_laysRows_115 : decode cX12_laysRows 115 = .ok (.goto 24, 3) := by decide +kernel
theorem dX12_laysRows_118 : decode cX12_laysRows 118 = .ok (.iload 6, 2) := by decide +kernel
theorem dX12_laysRows_120 : decode cX12_laysRows 120 = .ok (.iload 5, 2) := by decide +kernel
theorem dX12_laysRows_122 : decode cX12_laysRows 122 = .ok (.iload 4, 2) := by decide +kernel
theorem dX12_laysRows_124 : decode cX12_laysRows 124 = .ok (.iadd, 1) := by decide +kernel
theorem dX12_laysRows_125 : decode cX12_laysRows 125 = .ok (.if_icmp .ge 10, 3) := by decide +kernel
theorem dX12_laysRows_128 : decode cX12_laysRows 128 = .ok (.aload_n 0, 1) := by decide +kernel
theorem dX12_laysRows_129 : decode cX12_laysRows 129 = .ok (.getfield 24, 3) := by decide +kernel
theorem dX12_laysRows_132 : decode cX12_laysRows 132 = .ok (.goto 7, 3) := by decide +kernel
theorem dX12_laysRows_135 : decode cX12_laysRows 135 = .ok (.aload_n 0, 1) := by decide +kernel
theorem dX12_laysRows_136 : decode cX12_laysRows 136 = .ok (.getfield 36, 3) := by decide +kernel
theorem dX12_laysRows_139 : decode cX12_laysRows 139 = .ok (.iconst 0, 1) := by decide +kernel
theorem dX12_laysRows_140 : decode cX12_laysRows 140 = .ok (.aload_n 0, 1) := by decide +kernel
theorem dX12_laysRows_141 : decode cX12_laysRows 141 = .ok (.getfield 55, 3) := by decide +kernel
theorem dX12_laysRows_144 : decode cX12_laysRows 144 = .ok (.invokevirtual 32, 3) := by decide +kernel
theorem dX12_laysRows_147 : decode cX12_laysRows 147 = .ok (.aload_n 0, 1) := by decide +kernel
theorem dX12_laysRows_148 : decode cX12_laysRows 148 = .ok (.getfield 55, 3) := by decide +kernel
theorem dX12_laysRows_151 : decode cX12_laysRows 151 = .ok (.iconst 0, 1) := by decide +kernel
theorem dX12_laysRows_152 : decode cX12_laysRows 152 = .ok (.aload_n 0, 1) := by decide +kernel
theorem dX12_laysRows_153 : decode cX12_laysRows 153 = .ok (.getfield 29, 3) := by decide +kernel
theorem dX12_laysRows_156 : decode cX12_laysRows 156 = .ok (.iconst 0, 1) := by decide +kernel
theorem dX12_laysRows_157 : decode cX12_laysRows 157 = .ok (.invokestatic 58, 3) := by decide +kernel
theorem dX12_laysRows_160 : decode cX12_laysRows 160 = .ok (.iinc 6 1, 3) := by decide +kernel
theorem dX12_laysRows_163 : decode cX12_laysRows 163 = .ok (.goto (-77), 3) := by decide +kernel
theorem dX12_laysRows_166 : decode cX12_laysRows 166 = .ok (.aload_n 0, 1) := by decide +kernel
theorem dX12_laysRows_167 : decode cX12_laysRows 167 = .ok (.getfield 29, 3) := by decide +kernel
theorem dX12_laysRows_170 : decode cX12_laysRows 170 = .ok (.iconst 0, 1) := by decide +kernel
theorem dX12_laysRows_171 : decode cX12_laysRows 171 = .ok (.aload_n 0, 1) := by decide +kernel
theorem dX12_laysRows_172 : decode cX12_laysRows 172 = .ok (.getfield 62, 3) := by decide +kernel
theorem dX12_laysRows_175 : decode cX12_laysRows 175 = .ok (.sipush 181, 3) := by decide +kernel
theorem dX12_laysRows_178 : decode cX12_laysRows 178 = .ok (.iload_n 2, 1) := by decide +kernel
theorem dX12_laysRows_179 : decode cX12_laysRows 179 = .ok (.imul, 1) := by decide +kernel
theorem dX12_laysRows_180 : decode cX12_laysRows 180 = .ok (.invokestatic 58, 3) := by decide +kernel
theorem dX12_laysRows_183 : decode cX12_laysRows 183 = .ok (.iinc 2 1, 3) := by decide +kernel
theorem dX12_laysRows_186 : decode cX12_laysRows 186 = .ok (.goto (-170), 3) := by decide +kernel
theorem dX12_laysRows_189 : decode cX12_laysRows 189 = .ok (.return_, 1) := by decide +kernel
theorem dX12_builds_0 : decode cX12_builds 0 = .ok (.aload_n 0, 1) := by decide +kernel
theorem dX12_builds_1 : decode cX12_builds 1 = .ok (.iload_n 1, 1) := by decide +kernel
theorem dX12_builds_2 : decode cX12_builds 2 = .ok (.invokevirtual 65, 3) := by decide +kernel
theorem dX12_builds_5 : decode cX12_builds 5 = .ok (.iconst 0, 1) := by decide +kernel
theorem dX12_builds_6 : decode cX12_builds 6 = .ok (.istore_n 2, 1) := by decide +kernel
theorem dX12_builds_7 : decode cX12_builds 7 = .ok (.iload_n 2, 1) := by decide +kernel
theorem dX12_builds_8 : decode cX12_builds 8 = .ok (.sipush 181, 3) := by decide +kernel
theorem dX12_builds_11 : decode cX12_builds 11 = .ok (.if_icmp .ge 16, 3) := by decide +kernel
theorem dX12_builds_14 : decode cX12_builds 14 = .ok (.aload_n 0, 1) := by decide +kernel
theorem dX12_builds_15 : decode cX12_builds 15 = .ok (.getfield 69, 3) := by decide +kernel
theorem dX12_builds_18 : decode cX12_builds 18 = .ok (.iload_n 2, 1) := by decide +kernel
theorem dX12_builds_19 : decode cX12_builds 19 = .ok (.iconst 0, 1) := by decide +kernel
theorem dX12_builds_20 : decode cX12_builds 20 = .ok (.iastore, 1) := by decide +kernel
theorem dX12_builds_21 : decode cX12_builds 21 = .ok (.iinc 2 1, 3) := by decide +kernel
theorem dX12_builds_24 : decode cX12_builds 24 = .ok (.goto (-17), 3) := by decide +kernel
theorem dX12_builds_27 : decode cX12_builds 27 = .ok (.iconst 0, 1) := by decide +kernel
theorem dX12_builds_28 : decode cX12_builds 28 = .ok (.istore_n 2, 1) := by decide +kernel
theorem dX12_builds_29 : decode cX12_builds 29 = .ok (.iload_n 2, 1) := by decide +kernel
theorem dX12_builds_30 : decode cX12_builds 30 = .ok (.iload_n 1, 1) := by decide +kernel
theorem dX12_builds_31 : decode cX12_builds 31 = .ok (.invokestatic 52, 3) := by decide +kernel
theorem dX12_builds_34 : decode cX12_builds 34 = .ok (.if_icmp .ge 82, 3) := by decide +kernel
theorem dX12_builds_37 : decode cX12_builds 37 = .ok (.aload_n 0, 1) := by decide +kernel
theorem dX12_builds_38 : decode cX12_builds 38 = .ok (.aload_n 0, 1) := by decide +kernel
theorem dX12_builds_39 : decode cX12_builds 39 = .ok (.getfield 72, 3) := by decide +kernel
theorem dX12_builds_42 : decode cX12_builds 42 = .ok (.iload_n 2, 1) := by decide +kernel
theorem dX12_builds_43 : decode cX12_builds 43 = .ok (.iaload, 1) := by decide +kernel
theorem dX12_builds_44 : decode cX12_builds 44 = .ok (.aload_n 0, 1) := by decide +kernel
theorem dX12_builds_45 : decode cX12_builds 45 = .ok (.getfield 69, 3) := by decide +kernel
theorem dX12_builds_48 : decode cX12_builds 48 = .ok (.iload_n 2, 1) := by decide +kernel
theorem dX12_builds_49 : decode cX12_builds 49 = .ok (.iaload, 1) := by decide +kernel
theorem dX12_builds_50 : decode cX12_builds 50 = .ok (.isub, 1) := by decide +kernel
theorem dX12_builds_51 : decode cX12_builds 51 = .ok (.i2l, 1) := by decide +kernel
theorem dX12_builds_52 : decode cX12_builds 52 = .ok (.invokevirtual 10, 3) := by decide +kernel
theorem dX12_builds_55 : decode cX12_builds 55 = .ok (.istore_n 3, 1) := by decide +kernel
theorem dX12_builds_56 : decode cX12_builds 56 = .ok (.iload_n 2, 1) := by decide +kernel
theorem dX12_builds_57 : decode cX12_builds 57 = .ok (.istore 4, 2) := by decide +kernel
theorem dX12_builds_59 : decode cX12_builds 59 = .ok (.iload 4, 2) := by decide +kernel
theorem dX12_builds_61 : decode cX12_builds 61 = .ok (.sipush 181, 3) := by decide +kernel
theorem dX12_builds_64 : decode cX12_builds 64 = .ok (.if_icmp .ge 46, 3) := by decide +kernel
theorem dX12_builds_67 : decode cX12_builds 67 = .ok (.aload_n 0, 1) := by decide +kernel
theorem dX12_builds_68 : decode cX12_builds 68 = .ok (.getfield 69, 3) := by decide +kernel
theorem dX12_builds_71 : decode cX12_builds 71 = .ok (.iload 4, 2) := by decide +kernel
theorem dX12_builds_73 : decode cX12_builds 73 = .ok (.aload_n 0, 1) := by decide +kernel
theorem dX12_builds_74 : decode cX12_builds 74 = .ok (.aload_n 0, 1) := by decide +kernel
theorem dX12_builds_75 : decode cX12_builds 75 = .ok (.getfield 69, 3) := by decide +kernel
theorem dX12_builds_78 : decode cX12_builds 78 = .ok (.iload 4, 2) := by decide +kernel
theorem dX12_builds_80 : decode cX12_builds 80 = .ok (.iaload, 1) := by decide +kernel
theorem dX12_builds_81 : decode cX12_builds 81 = .ok (.i2l, 1) := by decide +kernel
theorem dX12_builds_82 : decode cX12_builds 82 = .ok (.iload_n 3, 1) := by decide +kernel
theorem dX12_builds_83 : decode cX12_builds 83 = .ok (.i2l, 1) := by decide +kernel
theorem dX12_builds_84 : decode cX12_builds 84 = .ok (.aload_n 0, 1) := by decide +kernel
theorem dX12_builds_85 : decode cX12_builds 85 = .ok (.getfield 62, 3) := by decide +kernel
theorem dX12_builds_88 : decode cX12_builds 88 = .ok (.sipush 181, 3) := by decide +kernel
theorem dX12_builds_91 : decode cX12_builds 91 = .ok (.iload_n 2, 1) := by decide +kernel
theorem dX12_builds_92 : decode cX12_builds 92 = .ok (.imul, 1) := by decide +kernel
theorem dX12_builds_93 : decode cX12_builds 93 = .ok (.iload 4, 2) := by decide +kernel
theorem dX12_builds_95 : decode cX12_builds 95 = .ok (.iadd, 1) := by decide +kernel
theorem dX12_builds_96 : decode cX12_builds 96 = .ok (.iaload, 1) := by decide +kernel
theorem dX12_builds_97 : decode cX12_builds 97 = .ok (.i2l, 1) := by decide +kernel
theorem dX12_builds_98 : decode cX12_builds 98 = .ok (.lmul, 1) := by decide +kernel
theorem dX12_builds_99 : decode cX12_builds 99 = .ok (.ladd, 1) := by decide +kernel
theorem dX12_builds_100 : decode cX12_builds 100 = .ok (.invokevirtual 10, 3) := by decide +kernel
theorem dX12_builds_103 : decode cX12_builds 103 = .ok (.iastore, 1) := by decide +kernel
theorem dX12_builds_104 : decode cX12_builds 104 = .ok (.iinc 4 1, 3) := by decide +kernel
theorem dX12_builds_107 : decode cX12_builds 107 = .ok (.goto (-48), 3) := by decide +kernel
theorem dX12_builds_110 : decode cX12_builds 110 = .ok (.iinc 2 1, 3) := by decide +kernel
theorem dX12_builds_113 : decode cX12_builds 113 = .ok (.goto (-84), 3) := by decide +kernel
theorem dX12_builds_116 : decode cX12_builds 116 = .ok (.return_, 1) := by decide +kernel
theorem dX12_heckeAt_0 : decode cX12_heckeAt 0 = .ok (.iload_n 3, 1) := by decide +kernel
theorem dX12_heckeAt_1 : decode cX12_heckeAt 1 = .ok (.iconst 2, 1) := by decide +kernel
theorem dX12_heckeAt_2 : decode cX12_heckeAt 2 = .ok (.if_icmp .gt 5, 3) := by decide +kernel
theorem dX12_heckeAt_5 : decode cX12_heckeAt 5 = .ok (.iconst 0, 1) := by decide +kernel
theorem dX12_heckeAt_6 : decode cX12_heckeAt 6 = .ok (.ireturn, 1) := by decide +kernel
theorem dX12_heckeAt_7 : decode cX12_heckeAt 7 = .ok (.lconst 0, 1) := by decide +kernel
theorem dX12_heckeAt_8 : decode cX12_heckeAt 8 = .ok (.lstore 6, 2) := by decide +kernel
theorem dX12_heckeAt_10 : decode cX12_heckeAt 10 = .ok (.iconst 1, 1) := by decide +kernel
theorem dX12_heckeAt_11 : decode cX12_heckeAt 11 = .ok (.istore 8, 2) := by decide +kernel
theorem dX12_heckeAt_13 : decode cX12_heckeAt 13 = .ok (.iload 8, 2) := by decide +kernel
theorem dX12_heckeAt_15 : decode cX12_heckeAt 15 = .ok (.iload 4, 2) := by decide +kernel
theorem dX12_heckeAt_17 : decode cX12_heckeAt 17 = .ok (.if_icmp .gt 57, 3) := by decide +kernel
theorem dX12_heckeAt_20 : decode cX12_heckeAt 20 = .ok (.iload 4, 2) := by decide +kernel
theorem dX12_heckeAt_22 : decode cX12_heckeAt 22 = .ok (.iload 8, 2) := by decide +kernel
theorem dX12_heckeAt_24 : decode cX12_heckeAt 24 = .ok (.irem, 1) := by decide +kernel
theorem dX12_heckeAt_25 : decode cX12_heckeAt 25 = .ok (.ifCond .ne 43, 3) := by decide +kernel
theorem dX12_heckeAt_28 : decode cX12_heckeAt 28 = .ok (.iload 5, 2) := by decide +kernel
theorem dX12_heckeAt_30 : decode cX12_heckeAt 30 = .ok (.iload 8, 2) := by decide +kernel
theorem dX12_heckeAt_32 : decode cX12_heckeAt 32 = .ok (.irem, 1) := by decide +kernel
theorem dX12_heckeAt_33 : decode cX12_heckeAt 33 = .ok (.ifCond .ne 35, 3) := by decide +kernel
theorem dX12_heckeAt_36 : decode cX12_heckeAt 36 = .ok (.lload 6, 2) := by decide +kernel
theorem dX12_heckeAt_38 : decode cX12_heckeAt 38 = .ok (.aload_n 0, 1) := by decide +kernel
theorem dX12_heckeAt_39 : decode cX12_heckeAt 39 = .ok (.iload 8, 2) := by decide +kernel
theorem dX12_heckeAt_41 : decode cX12_heckeAt 41 = .ok (.iload_n 3, 1) := by decide +kernel
theorem dX12_heckeAt_42 : decode cX12_heckeAt 42 = .ok (.iconst 1, 1) := by decide +kernel
theorem dX12_heckeAt_43 : decode cX12_heckeAt 43 = .ok (.isub, 1) := by decide +kernel
theorem dX12_heckeAt_44 : decode cX12_heckeAt 44 = .ok (.invokevirtual 14, 3) := by decide +kernel
theorem dX12_heckeAt_47 : decode cX12_heckeAt 47 = .ok (.i2l, 1) := by decide +kernel
theorem dX12_heckeAt_48 : decode cX12_heckeAt 48 = .ok (.aload_n 1, 1) := by decide +kernel
theorem dX12_heckeAt_49 : decode cX12_heckeAt 49 = .ok (.iload_n 2, 1) := by decide +kernel
theorem dX12_heckeAt_50 : decode cX12_heckeAt 50 = .ok (.iload 5, 2) := by decide +kernel
theorem dX12_heckeAt_52 : decode cX12_heckeAt 52 = .ok (.iload 4, 2) := by decide +kernel
theorem dX12_heckeAt_54 : decode cX12_heckeAt 54 = .ok (.imul, 1) := by decide +kernel
theorem dX12_heckeAt_55 : decode cX12_heckeAt 55 = .ok (.iload 8, 2) := by decide +kernel
theorem dX12_heckeAt_57 : decode cX12_heckeAt 57 = .ok (.iload 8, 2) := by decide +kernel
theorem dX12_heckeAt_59 : decode cX12_heckeAt 59 = .ok (.imul, 1) := by decide +kernel
theorem dX12_heckeAt_60 : decode cX12_heckeAt 60 = .ok (.idiv, 1) := by decide +kernel
theorem dX12_heckeAt_61 : decode cX12_heckeAt 61 = .ok (.iadd, 1) := by decide +kernel
theorem dX12_heckeAt_62 : decode cX12_heckeAt 62 = .ok (.iaload, 1) := by decide +kernel
theorem dX12_heckeAt_63 : decode cX12_heckeAt 63 = .ok (.i2l, 1) := by decide +kernel
theorem dX12_heckeAt_64 : decode cX12_heckeAt 64 = .ok (.lmul, 1) := by decide +kernel
theorem dX12_heckeAt_65 : decode cX12_heckeAt 65 = .ok (.ladd, 1) := by decide +kernel
theorem dX12_heckeAt_66 : decode cX12_heckeAt 66 = .ok (.lstore 6, 2) := by decide +kernel
theorem dX12_heckeAt_68 : decode cX12_heckeAt 68 = .ok (.iinc 8 1, 3) := by decide +kernel
theorem dX12_heckeAt_71 : decode cX12_heckeAt 71 = .ok (.goto (-58), 3) := by decide +kernel
theorem dX12_heckeAt_74 : decode cX12_heckeAt 74 = .ok (.aload_n 0, 1) := by decide +kernel
theorem dX12_heckeAt_75 : decode cX12_heckeAt 75 = .ok (.lload 6, 2) := by decide +kernel
theorem dX12_heckeAt_77 : decode cX12_heckeAt 77 = .ok (.invokevirtual 10, 3) := by decide +kernel
theorem dX12_heckeAt_80 : decode cX12_heckeAt 80 = .ok (.ireturn, 1) := by decide +kernel
theorem dX12_feed_0 : decode cX12_feed 0 = .ok (.aload_n 0, 1) := by decide +kernel
theorem dX12_feed_1 : decode cX12_feed 1 = .ok (.iconst 0, 1) := by decide +kernel
theorem dX12_feed_2 : decode cX12_feed 2 = .ok (.putfield 1, 3) := by decide +kernel
theorem dX12_feed_5 : decode cX12_feed 5 = .ok (.aload_n 0, 1) := by decide +kernel
theorem dX12_feed_6 : decode cX12_feed 6 = .ok (.getfield 75, 3) := by decide +kernel
theorem dX12_feed_9 : decode cX12_feed 9 = .ok (.bipush 20, 2) := by decide +kernel
theorem dX12_feed_11 : decode cX12_feed 11 = .ok (.iadd, 1) := by decide +kernel
theorem dX12_feed_12 : decode cX12_feed 12 = .ok (.sipush 600, 3) := by decide +kernel
theorem dX12_feed_15 : decode cX12_feed 15 = .ok (.if_icmp .le 5, 3) := by decide +kernel
theorem dX12_feed_18 : decode cX12_feed 18 = .ok (.iconst (-1), 1) := by decide +kernel
theorem dX12_feed_19 : decode cX12_feed 19 = .ok (.ireturn, 1) := by decide +kernel
theorem dX12_feed_20 : decode cX12_feed 20 = .ok (.aload_n 0, 1) := by decide +kernel
theorem dX12_feed_21 : decode cX12_feed 21 = .ok (.iload_n 1, 1) := by decide +kernel
theorem dX12_feed_22 : decode cX12_feed 22 = .ok (.invokevirtual 78, 3) := by decide +kernel
theorem dX12_feed_25 : decode cX12_feed 25 = .ok (.aload_n 0, 1) := by decide +kernel
theorem dX12_feed_26 : decode cX12_feed 26 = .ok (.iload_n 2, 1) := by decide +kernel
theorem dX12_feed_27 : decode cX12_feed 27 = .ok (.invokevirtual 78, 3) := by decide +kernel
theorem dX12_feed_30 : decode cX12_feed 30 = .ok (.aload_n 0, 1) := by decide +kernel
theorem dX12_feed_31 : decode cX12_feed 31 = .ok (.iload_n 3, 1) := by decide +kernel
theorem dX12_feed_32 : decode cX12_feed 32 = .ok (.invokevirtual 78, 3) := by decide +kernel
theorem dX12_feed_35 : decode cX12_feed 35 = .ok (.aload_n 0, 1) := by decide +kernel
theorem dX12_feed_36 : decode cX12_feed 36 = .ok (.iload 4, 2) := by decide +kernel
theorem dX12_feed_38 : decode cX12_feed 38 = .ok (.invokevirtual 78, 3) := by decide +kernel
theorem dX12_feed_41 : decode cX12_feed 41 = .ok (.aload_n 0, 1) := by decide +kernel
theorem dX12_feed_42 : decode cX12_feed 42 = .ok (.iload 5, 2) := by decide +kernel
theorem dX12_feed_44 : decode cX12_feed 44 = .ok (.invokevirtual 78, 3) := by decide +kernel
theorem dX12_feed_47 : decode cX12_feed 47 = .ok (.aload_n 0, 1) := by decide +kernel
theorem dX12_feed_48 : decode cX12_feed 48 = .ok (.getfield 75, 3) := by decide +kernel
theorem dX12_feed_51 : decode cX12_feed 51 = .ok (.ireturn, 1) := by decide +kernel
theorem dX12_puts_0 : decode cX12_puts 0 = .ok (.bipush 24, 2) := by decide +kernel
theorem dX12_puts_2 : decode cX12_puts 2 = .ok (.istore_n 2, 1) := by decide +kernel
theorem dX12_puts_3 : decode cX12_puts 3 = .ok (.iload_n 2, 1) := by decide +kernel
theorem dX12_puts_4 : decode cX12_puts 4 = .ok (.ifCond .lt 32, 3) := by decide +kernel
theorem dX12_puts_7 : decode cX12_puts 7 = .ok (.aload_n 0, 1) := by decide +kernel
theorem dX12_puts_8 : decode cX12_puts 8 = .ok (.getfield 81, 3) := by decide +kernel
theorem dX12_puts_11 : decode cX12_puts 11 = .ok (.aload_n 0, 1) := by decide +kernel
theorem dX12_puts_12 : decode cX12_puts 12 = .ok (.getfield 75, 3) := by decide +kernel
theorem dX12_puts_15 : decode cX12_puts 15 = .ok (.iload_n 1, 1) := by decide +kernel
theorem dX12_puts_16 : decode cX12_puts 16 = .ok (.iload_n 2, 1) := by decide +kernel
theorem dX12_puts_17 : decode cX12_puts 17 = .ok (.ishr, 1) := by decide +kernel
theorem dX12_puts_18 : decode cX12_puts 18 = .ok (.i2b, 1) := by decide +kernel
theorem dX12_puts_19 : decode cX12_puts 19 = .ok (.bastore, 1) := by decide +kernel
theorem dX12_puts_20 : decode cX12_puts 20 = .ok (.aload_n 0, 1) := by decide +kernel
theorem dX12_puts_21 : decode cX12_puts 21 = .ok (.dup, 1) := by decide +kernel
theorem dX12_puts_22 : decode cX12_puts 22 = .ok (.getfield 75, 3) := by decide +kernel
theorem dX12_puts_25 : decode cX12_puts 25 = .ok (.iconst 1, 1) := by decide +kernel
theorem dX12_puts_26 : decode cX12_puts 26 = .ok (.iadd, 1) := by decide +kernel
theorem dX12_puts_27 : decode cX12_puts 27 = .ok (.putfield 75, 3) := by decide +kernel
theorem dX12_puts_30 : decode cX12_puts 30 = .ok (.iinc 2 (-8), 3) := by decide +kernel
theorem dX12_puts_33 : decode cX12_puts 33 = .ok (.goto (-30), 3) := by decide +kernel
theorem dX12_puts_36 : decode cX12_puts 36 = .ok (.return_, 1) := by decide +kernel
theorem dX12_byteAt_0 : decode cX12_byteAt 0 = .ok (.iload_n 1, 1) := by decide +kernel
theorem dX12_byteAt_1 : decode cX12_byteAt 1 = .ok (.aload_n 0, 1) := by decide +kernel
theorem dX12_byteAt_2 : decode cX12_byteAt 2 = .ok (.getfield 85, 3) := by decide +kernel
theorem dX12_byteAt_5 : decode cX12_byteAt 5 = .ok (.if_icmp .ge 16, 3) := by decide +kernel
theorem dX12_byteAt_8 : decode cX12_byteAt 8 = .ok (.aload_n 0, 1) := by decide +kernel
theorem dX12_byteAt_9 : decode cX12_byteAt 9 = .ok (.getfield 81, 3) := by decide +kernel
theorem dX12_byteAt_12 : decode cX12_byteAt 12 = .ok (.iload_n 1, 1) := by decide +kernel
theorem dX12_byteAt_13 : decode cX12_byteAt 13 = .ok (.baload, 1) := by decide +kernel
theorem dX12_byteAt_14 : decode cX12_byteAt 14 = .ok (.sipush 255, 3) := by decide +kernel
theorem dX12_byteAt_17 : decode cX12_byteAt 17 = .ok (.iand, 1) := by decide +kernel
theorem dX12_byteAt_18 : decode cX12_byteAt 18 = .ok (.goto 4, 3) := by decide +kernel
theorem dX12_byteAt_21 : decode cX12_byteAt 21 = .ok (.iconst (-1), 1) := by decide +kernel
theorem dX12_byteAt_22 : decode cX12_byteAt 22 = .ok (.ireturn, 1) := by decide +kernel
theorem dX12_isSign_0 : decode cX12_isSign 0 = .ok (.iload_n 0, 1) := by decide +kernel
theorem dX12_isSign_1 : decode cX12_isSign 1 = .ok (.bipush 59, 2) := by decide +kernel
theorem dX12_isSign_3 : decode cX12_isSign 3 = .ok (.if_icmp .eq 39, 3) := by decide +kernel
theorem dX12_isSign_6 : decode cX12_isSign 6 = .ok (.iload_n 0, 1) := by decide +kernel
theorem dX12_isSign_7 : decode cX12_isSign 7 = .ok (.bipush 43, 2) := by decide +kernel
theorem dX12_isSign_9 : decode cX12_isSign 9 = .ok (.if_icmp .eq 33, 3) := by decide +kernel
theorem dX12_isSign_12 : decode cX12_isSign 12 = .ok (.iload_n 0, 1) := by decide +kernel
theorem dX12_isSign_13 : decode cX12_isSign 13 = .ok (.bipush 45, 2) := by decide +kernel
theorem dX12_isSign_15 : decode cX12_isSign 15 = .ok (.if_icmp .eq 27, 3) := by decide +kernel
theorem dX12_isSign_18 : decode cX12_isSign 18 = .ok (.iload_n 0, 1) := by decide +kernel
theorem dX12_isSign_19 : decode cX12_isSign 19 = .ok (.bipush 42, 2) := by decide +kernel
theorem dX12_isSign_21 : decode cX12_isSign 21 = .ok (.if_icmp .eq 21, 3) := by decide +kernel
theorem dX12_isSign_24 : decode cX12_isSign 24 = .ok (.iload_n 0, 1) := by decide +kernel
theorem dX12_isSign_25 : decode cX12_isSign 25 = .ok (.bipush 94, 2) := by decide +kernel
theorem dX12_isSign_27 : decode cX12_isSign 27 = .ok (.if_icmp .eq 15, 3) := by decide +kernel
theorem dX12_isSign_30 : decode cX12_isSign 30 = .ok (.iload_n 0, 1) := by decide +kernel
theorem dX12_isSign_31 : decode cX12_isSign 31 = .ok (.bipush 40, 2) := by decide +kernel
theorem dX12_isSign_33 : decode cX12_isSign 33 = .ok (.if_icmp .eq 9, 3) := by decide +kernel
theorem dX12_isSign_36 : decode cX12_isSign 36 = .ok (.iload_n 0, 1) := by decide +kernel
theorem dX12_isSign_37 : decode cX12_isSign 37 = .ok (.bipush 41, 2) := by decide +kernel
theorem dX12_isSign_39 : decode cX12_isSign 39 = .ok (.if_icmp .ne 7, 3) := by decide +kernel
theorem dX12_isSign_42 : decode cX12_isSign 42 = .ok (.iconst 1, 1) := by decide +kernel
theorem dX12_isSign_43 : decode cX12_isSign 43 = .ok (.goto 4, 3) := by decide +kernel
theorem dX12_isSign_46 : decode cX12_isSign 46 = .ok (.iconst 0, 1) := by decide +kernel
theorem dX12_isSign_47 : decode cX12_isSign 47 = .ok (.ireturn, 1) := by decide +kernel
theorem dX12_go_0 : decode cX12_go 0 = .ok (.aload_n 0, 1) := by decide +kernel
theorem dX12_go_1 : decode cX12_go 1 = .ok (.aload_n 0, 1) := by decide +kernel
theorem dX12_go_2 : decode cX12_go 2 = .ok (.getfield 88, 3) := by decide +kernel
theorem dX12_go_5 : decode cX12_go 5 = .ok (.invokevirtual 91, 3) := by decide +kernel
theorem dX12_go_8 : decode cX12_go 8 = .ok (.bipush 32, 2) := by decide +kernel
theorem dX12_go_10 : decode cX12_go 10 = .ok (.if_icmp .eq 16, 3) := by decide +kernel
theorem dX12_go_13 : decode cX12_go 13 = .ok (.aload_n 0, 1) := by decide +kernel
theorem dX12_go_14 : decode cX12_go 14 = .ok (.aload_n 0, 1) := by decide +kernel
theorem dX12_go_15 : decode cX12_go 15 = .ok (.getfield 88, 3) := by decide +kernel
theorem dX12_go_18 : decode cX12_go 18 = .ok (.invokevirtual 91, 3) := by decide +kernel
theorem dX12_go_21 : decode cX12_go 21 = .ok (.bipush 10, 2) := by decide +kernel
theorem dX12_go_23 : decode cX12_go 23 = .ok (.if_icmp .ne 16, 3) := by decide +kernel
theorem dX12_go_26 : decode cX12_go 26 = .ok (.aload_n 0, 1) := by decide +kernel
theorem dX12_go_27 : decode cX12_go 27 = .ok (.dup, 1) := by decide +kernel
theorem dX12_go_28 : decode cX12_go 28 = .ok (.getfield 88, 3) := by decide +kernel
theorem dX12_go_31 : decode cX12_go 31 = .ok (.iconst 1, 1) := by decide +kernel
theorem dX12_go_32 : decode cX12_go 32 = .ok (.iadd, 1) := by decide +kernel
theorem dX12_go_33 : decode cX12_go 33 = .ok (.putfield 88, 3) := by decide +kernel
theorem dX12_go_36 : decode cX12_go 36 = .ok (.goto (-36), 3) := by decide +kernel
theorem dX12_go_39 : decode cX12_go 39 = .ok (.aload_n 0, 1) := by decide +kernel
theorem dX12_go_40 : decode cX12_go 40 = .ok (.aload_n 0, 1) := by decide +kernel
theorem dX12_go_41 : decode cX12_go 41 = .ok (.getfield 88, 3) := by decide +kernel
theorem dX12_go_44 : decode cX12_go 44 = .ok (.putfield 94, 3) := by decide +kernel
theorem dX12_go_47 : decode cX12_go 47 = .ok (.aload_n 0, 1) := by decide +kernel
theorem dX12_go_48 : decode cX12_go 48 = .ok (.aload_n 0, 1) := by decide +kernel
theorem dX12_go_49 : decode cX12_go 49 = .ok (.getfield 88, 3) := by decide +kernel
theorem dX12_go_52 : decode cX12_go 52 = .ok (.invokevirtual 91, 3) := by decide +kernel
theorem dX12_go_55 : decode cX12_go 55 = .ok (.istore_n 1, 1) := by decide +kernel
theorem dX12_go_56 : decode cX12_go 56 = .ok (.iload_n 1, 1) := by decide +kernel
theorem dX12_go_57 : decode cX12_go 57 = .ok (.ifCond .ge 11, 3) := by decide +kernel
theorem dX12_go_60 : decode cX12_go 60 = .ok (.aload_n 0, 1) := by decide +kernel
theorem dX12_go_61 : decode cX12_go 61 = .ok (.iconst 0, 1) := by decide +kernel
theorem dX12_go_62 : decode cX12_go 62 = .ok (.putfield 97, 3) := by decide +kernel
theorem dX12_go_65 : decode cX12_go 65 = .ok (.goto 180, 3) := by decide +kernel
theorem dX12_go_68 : decode cX12_go 68 = .ok (.iload_n 1, 1) := by decide +kernel
theorem dX12_go_69 : decode cX12_go 69 = .ok (.bipush 97, 2) := by decide +kernel
theorem dX12_go_71 : decode cX12_go 71 = .ok (.bipush 122, 2) := by decide +kernel
theorem dX12_go_73 : decode cX12_go 73 = .ok (.invokestatic 45, 3) := by decide +kernel
theorem dX12_go_76 : decode cX12_go 76 = .ok (.ifCond .eq 42, 3) := by decide +kernel
theorem dX12_go_79 : decode cX12_go 79 = .ok (.aload_n 0, 1) := by decide +kernel
theorem dX12_go_80 : decode cX12_go 80 = .ok (.aload_n 0, 1) := by decide +kernel
theorem dX12_go_81 : decode cX12_go 81 = .ok (.getfield 88, 3) := by decide +kernel
theorem dX12_go_84 : decode cX12_go 84 = .ok (.invokevirtual 91, 3) := by decide +kernel
theorem dX12_go_87 : decode cX12_go 87 = .ok (.bipush 97, 2) := by decide +kernel
theorem dX12_go_89 : decode cX12_go 89 = .ok (.bipush 122, 2) := by decide +kernel
theorem dX12_go_91 : decode cX12_go 91 = .ok (.invokestatic 45, 3) := by decide +kernel
theorem dX12_go_94 : decode cX12_go 94 = .ok (.ifCond .eq 16, 3) := by decide +kernel
theorem dX12_go_97 : decode cX12_go 97 = .ok (.aload_n 0, 1) := by decide +kernel
theorem dX12_go_98 : decode cX12_go 98 = .ok (.dup, 1) := by decide +kernel
theorem dX12_go_99 : decode cX12_go 99 = .ok (.getfield 88, 3) := by decide +kernel
theorem dX12_go_102 : decode cX12_go 102 = .ok (.iconst 1, 1) := by decide +kernel
theorem dX12_go_103 : decode cX12_go 103 = .ok (.iadd, 1) := by decide +kernel
theorem dX12_go_104 : decode cX12_go 104 = .ok (.putfield 88, 3) := by decide +kernel
theorem dX12_go_107 : decode cX12_go 107 = .ok (.goto (-28), 3) := by decide +kernel
theorem dX12_go_110 : decode cX12_go 110 = .ok (.aload_n 0, 1) := by decide +kernel
theorem dX12_go_111 : decode cX12_go 111 = .ok (.iconst 1, 1) := by decide +kernel
theorem dX12_go_112 : decode cX12_go 112 = .ok (.putfield 97, 3) := by decide +kernel
theorem dX12_go_115 : decode cX12_go 115 = .ok (.goto 130, 3) := by decide +kernel
theorem dX12_go_118 : decode cX12_go 118 = .ok (.iload_n 1, 1) := by decide +kernel
theorem dX12_go_119 : decode cX12_go 119 = .ok (.bipush 48, 2) := by decide +kernel
theorem dX12_go_121 : decode cX12_go 121 = .ok (.bipush 57, 2) := by decide +kernel
theorem dX12_go_123 : decode cX12_go 123 = .ok (.invokestatic 45, 3) := by decide +kernel
theorem dX12_go_126 : decode cX12_go 126 = .ok (.ifCond .eq 88, 3) := by decide +kernel
theorem dX12_go_129 : decode cX12_go 129 = .ok (.aload_n 0, 1) := by decide +kernel
theorem dX12_go_130 : decode cX12_go 130 = .ok (.iconst 0, 1) := by decide +kernel
theorem dX12_go_131 : decode cX12_go 131 = .ok (.putfield 100, 3) := by decide +kernel
theorem dX12_go_134 : decode cX12_go 134 = .ok (.aload_n 0, 1) := by decide +kernel
theorem dX12_go_135 : decode cX12_go 135 = .ok (.aload_n 0, 1) := by decide +kernel
theorem dX12_go_136 : decode cX12_go 136 = .ok (.getfield 88, 3) := by decide +kernel
theorem dX12_go_139 : decode cX12_go 139 = .ok (.invokevirtual 91, 3) := by decide +kernel
theorem dX12_go_142 : decode cX12_go 142 = .ok (.bipush 48, 2) := by decide +kernel
theorem dX12_go_144 : decode cX12_go 144 = .ok (.bipush 57, 2) := by decide +kernel
theorem dX12_go_146 : decode cX12_go 146 = .ok (.invokestatic 45, 3) := by decide +kernel
theorem dX12_go_149 : decode cX12_go 149 = .ok (.ifCond .eq 57, 3) := by decide +kernel
theorem dX12_go_152 : decode cX12_go 152 = .ok (.aload_n 0, 1) := by decide +kernel
theorem dX12_go_153 : decode cX12_go 153 = .ok (.aload_n 0, 1) := by decide +kernel
theorem dX12_go_154 : decode cX12_go 154 = .ok (.getfield 88, 3) := by decide +kernel
theorem dX12_go_157 : decode cX12_go 157 = .ok (.aload_n 0, 1) := by decide +kernel
theorem dX12_go_158 : decode cX12_go 158 = .ok (.getfield 94, 3) := by decide +kernel
theorem dX12_go_161 : decode cX12_go 161 = .ok (.isub, 1) := by decide +kernel
theorem dX12_go_162 : decode cX12_go 162 = .ok (.iconst 4, 1) := by decide +kernel
theorem dX12_go_163 : decode cX12_go 163 = .ok (.if_icmp .ge 25, 3) := by decide +kernel
theorem dX12_go_166 : decode cX12_go 166 = .ok (.bipush 10, 2) := by decide +kernel
theorem dX12_go_168 : decode cX12_go 168 = .ok (.aload_n 0, 1) := by decide +kernel
theorem dX12_go_169 : decode cX12_go 169 = .ok (.getfield 100, 3) := by decide +kernel
theorem dX12_go_172 : decode cX12_go 172 = .ok (.imul, 1) := by decide +kernel
theorem dX12_go_173 : decode cX12_go 173 = .ok (.aload_n 0, 1) := by decide +kernel
theorem dX12_go_174 : decode cX12_go 174 = .ok (.aload_n 0, 1) := by decide +kernel
theorem dX12_go_175 : decode cX12_go 175 = .ok (.getfield 88, 3) := by decide +kernel
theorem dX12_go_178 : decode cX12_go 178 = .ok (.invokevirtual 91, 3) := by decide +kernel
theorem dX12_go_181 : decode cX12_go 181 = .ok (.iadd, 1) := by decide +kernel
theorem dX12_go_182 : decode cX12_go 182 = .ok (.bipush 48, 2) := by decide +kernel
theorem dX12_go_184 : decode cX12_go 184 = .ok (.isub, 1) := by decide +kernel
theorem dX12_go_185 : decode cX12_go 185 = .ok (.goto 5, 3) := by decide +kernel
theorem dX12_go_188 : decode cX12_go 188 = .ok (.ldc 103, 2) := by decide +kernel
theorem dX12_go_190 : decode cX12_go 190 = .ok (.putfield 100, 3) := by decide +kernel
theorem dX12_go_193 : decode cX12_go 193 = .ok (.aload_n 0, 1) := by decide +kernel
theorem dX12_go_194 : decode cX12_go 194 = .ok (.dup, 1) := by decide +kernel
theorem dX12_go_195 : decode cX12_go 195 = .ok (.getfield 88, 3) := by decide +kernel
theorem dX12_go_198 : decode cX12_go 198 = .ok (.iconst 1, 1) := by decide +kernel
theorem dX12_go_199 : decode cX12_go 199 = .ok (.iadd, 1) := by decide +kernel
theorem dX12_go_200 : decode cX12_go 200 = .ok (.putfield 88, 3) := by decide +kernel
theorem dX12_go_203 : decode cX12_go 203 = .ok (.goto (-69), 3) := by decide +kernel
theorem dX12_go_206 : decode cX12_go 206 = .ok (.aload_n 0, 1) := by decide +kernel
theorem dX12_go_207 : decode cX12_go 207 = .ok (.iconst 2, 1) := by decide +kernel
theorem dX12_go_208 : decode cX12_go 208 = .ok (.putfield 97, 3) := by decide +kernel
theorem dX12_go_211 : decode cX12_go 211 = .ok (.goto 34, 3) := by decide +kernel
theorem dX12_go_214 : decode cX12_go 214 = .ok (.aload_n 0, 1) := by decide +kernel
theorem dX12_go_215 : decode cX12_go 215 = .ok (.dup, 1) := by decide +kernel
theorem dX12_go_216 : decode cX12_go 216 = .ok (.getfield 88, 3) := by decide +kernel
theorem dX12_go_219 : decode cX12_go 219 = .ok (.iconst 1, 1) := by decide +kernel
theorem dX12_go_220 : decode cX12_go 220 = .ok (.iadd, 1) := by decide +kernel
theorem dX12_go_221 : decode cX12_go 221 = .ok (.putfield 88, 3) := by decide +kernel
theorem dX12_go_224 : decode cX12_go 224 = .ok (.aload_n 0, 1) := by decide +kernel
theorem dX12_go_225 : decode cX12_go 225 = .ok (.iload_n 1, 1) := by decide +kernel
theorem dX12_go_226 : decode cX12_go 226 = .ok (.putfield 100, 3) := by decide +kernel
theorem dX12_go_229 : decode cX12_go 229 = .ok (.aload_n 0, 1) := by decide +kernel
theorem dX12_go_230 : decode cX12_go 230 = .ok (.iload_n 1, 1) := by decide +kernel
theorem dX12_go_231 : decode cX12_go 231 = .ok (.invokestatic 104, 3) := by decide +kernel
theorem dX12_go_234 : decode cX12_go 234 = .ok (.ifCond .eq 7, 3) := by decide +kernel
theorem dX12_go_237 : decode cX12_go 237 = .ok (.iconst 3, 1) := by decide +kernel
theorem dX12_go_238 : decode cX12_go 238 = .ok (.goto 4, 3) := by decide +kernel
theorem dX12_go_241 : decode cX12_go 241 = .ok (.iconst 4, 1) := by decide +kernel
theorem dX12_go_242 : decode cX12_go 242 = .ok (.putfield 97, 3) := by decide +kernel
theorem dX12_go_245 : decode cX12_go 245 = .ok (.return_, 1) := by decide +kernel
theorem dX12_badAt_0 : decode cX12_badAt 0 = .ok (.aload_n 0, 1) := by decide +kernel
theorem dX12_badAt_1 : decode cX12_badAt 1 = .ok (.aload_n 0, 1) := by decide +kernel
theorem dX12_badAt_2 : decode cX12_badAt 2 = .ok (.getfield 108, 3) := by decide +kernel
theorem dX12_badAt_5 : decode cX12_badAt 5 = .ok (.ifCond .ne 12, 3) := by decide +kernel
theorem dX12_badAt_8 : decode cX12_badAt 8 = .ok (.bipush 8, 2) := by decide +kernel
theorem dX12_badAt_10 : decode cX12_badAt 10 = .ok (.iload_n 1, 1) := by decide +kernel
theorem dX12_badAt_11 : decode cX12_badAt 11 = .ok (.imul, 1) := by decide +kernel
theorem dX12_badAt_12 : decode cX12_badAt 12 = .ok (.iload_n 2, 1) := by decide +kernel
theorem dX12_badAt_13 : decode cX12_badAt 13 = .ok (.iadd, 1) := by decide +kernel
theorem dX12_badAt_14 : decode cX12_badAt 14 = .ok (.goto 7, 3) := by decide +kernel
theorem dX12_badAt_17 : decode cX12_badAt 17 = .ok (.aload_n 0, 1) := by decide +kernel
theorem dX12_badAt_18 : decode cX12_badAt 18 = .ok (.getfield 108, 3) := by decide +kernel
theorem dX12_badAt_21 : decode cX12_badAt 21 = .ok (.putfield 108, 3) := by decide +kernel
theorem dX12_badAt_24 : decode cX12_badAt 24 = .ok (.iconst 0, 1) := by decide +kernel
theorem dX12_badAt_25 : decode cX12_badAt 25 = .ok (.ireturn, 1) := by decide +kernel
theorem dX12_bad_0 : decode cX12_bad 0 = .ok (.aload_n 0, 1) := by decide +kernel
theorem dX12_bad_1 : decode cX12_bad 1 = .ok (.aload_n 0, 1) := by decide +kernel
theorem dX12_bad_2 : decode cX12_bad 2 = .ok (.getfield 94, 3) := by decide +kernel
theorem dX12_bad_5 : decode cX12_bad 5 = .ok (.iload_n 1, 1) := by decide +kernel
theorem dX12_bad_6 : decode cX12_bad 6 = .ok (.invokevirtual 111, 3) := by decide +kernel
theorem dX12_bad_9 : decode cX12_bad 9 = .ok (.ireturn, 1) := by decide +kernel
theorem dX12_is_0 : decode cX12_is 0 = .ok (.aload_n 0, 1) := by decide +kernel
theorem dX12_is_1 : decode cX12_is 1 = .ok (.getfield 97, 3) := by decide +kernel
theorem dX12_is_4 : decode cX12_is 4 = .ok (.iconst 3, 1) := by decide +kernel
theorem dX12_is_5 : decode cX12_is 5 = .ok (.if_icmp .ne 15, 3) := by decide +kernel
theorem dX12_is_8 : decode cX12_is 8 = .ok (.aload_n 0, 1) := by decide +kernel
theorem dX12_is_9 : decode cX12_is 9 = .ok (.getfield 100, 3) := by decide +kernel
theorem dX12_is_12 : decode cX12_is 12 = .ok (.iload_n 1, 1) := by decide +kernel
theorem dX12_is_13 : decode cX12_is 13 = .ok (.if_icmp .ne 7, 3) := by decide +kernel
theorem dX12_is_16 : decode cX12_is 16 = .ok (.iconst 1, 1) := by decide +kernel
theorem dX12_is_17 : decode cX12_is 17 = .ok (.goto 4, 3) := by decide +kernel
theorem dX12_is_20 : decode cX12_is 20 = .ok (.iconst 0, 1) := by decide +kernel
theorem dX12_is_21 : decode cX12_is 21 = .ok (.ireturn, 1) := by decide +kernel
theorem dX12_sign_0 : decode cX12_sign 0 = .ok (.aload_n 0, 1) := by decide +kernel
theorem dX12_sign_1 : decode cX12_sign 1 = .ok (.iload_n 1, 1) := by decide +kernel
theorem dX12_sign_2 : decode cX12_sign 2 = .ok (.invokevirtual 115, 3) := by decide +kernel
theorem dX12_sign_5 : decode cX12_sign 5 = .ok (.ifCond .ne 9, 3) := by decide +kernel
theorem dX12_sign_8 : decode cX12_sign 8 = .ok (.aload_n 0, 1) := by decide +kernel
theorem dX12_sign_9 : decode cX12_sign 9 = .ok (.iconst 1, 1) := by decide +kernel
theorem dX12_sign_10 : decode cX12_sign 10 = .ok (.invokevirtual 118, 3) := by decide +kernel
theorem dX12_sign_13 : decode cX12_sign 13 = .ok (.ireturn, 1) := by decide +kernel
theorem dX12_sign_14 : decode cX12_sign 14 = .ok (.aload_n 0, 1) := by decide +kernel
theorem dX12_sign_15 : decode cX12_sign 15 = .ok (.invokevirtual 121, 3) := by decide +kernel
theorem dX12_sign_18 : decode cX12_sign 18 = .ok (.iconst 1, 1) := by decide +kernel
theorem dX12_sign_19 : decode cX12_sign 19 = .ok (.ireturn, 1) := by decide +kernel
theorem dX12_isWord_0 : decode cX12_isWord 0 = .ok (.aload_n 0, 1) := by decide +kernel
theorem dX12_isWord_1 : decode cX12_isWord 1 = .ok (.getfield 88, 3) := by decide +kernel
theorem dX12_isWord_4 : decode cX12_isWord 4 = .ok (.aload_n 0, 1) := by decide +kernel
theorem dX12_isWord_5 : decode cX12_isWord 5 = .ok (.getfield 94, 3) := by decide +kernel
theorem dX12_isWord_8 : decode cX12_isWord 8 = .ok (.isub, 1) := by decide +kernel
theorem dX12_isWord_9 : decode cX12_isWord 9 = .ok (.istore 6, 2) := by decide +kernel
theorem dX12_isWord_11 : decode cX12_isWord 11 = .ok (.aload_n 0, 1) := by decide +kernel
theorem dX12_isWord_12 : decode cX12_isWord 12 = .ok (.getfield 97, 3) := by decide +kernel
theorem dX12_isWord_15 : decode cX12_isWord 15 = .ok (.iconst 1, 1) := by decide +kernel
theorem dX12_isWord_16 : decode cX12_isWord 16 = .ok (.if_icmp .ne 76, 3) := by decide +kernel
theorem dX12_isWord_19 : decode cX12_isWord 19 = .ok (.iload 6, 2) := by decide +kernel
theorem dX12_isWord_21 : decode cX12_isWord 21 = .ok (.ifCond .le 14, 3) := by decide +kernel
theorem dX12_isWord_24 : decode cX12_isWord 24 = .ok (.aload_n 0, 1) := by decide +kernel
theorem dX12_isWord_25 : decode cX12_isWord 25 = .ok (.aload_n 0, 1) := by decide +kernel
theorem dX12_isWord_26 : decode cX12_isWord 26 = .ok (.getfield 94, 3) := by decide +kernel
theorem dX12_isWord_29 : decode cX12_isWord 29 = .ok (.invokevirtual 91, 3) := by decide +kernel
theorem dX12_isWord_32 : decode cX12_isWord 32 = .ok (.goto 4, 3) := by decide +kernel
theorem dX12_isWord_35 : decode cX12_isWord 35 = .ok (.iconst 0, 1) := by decide +kernel
theorem dX12_isWord_36 : decode cX12_isWord 36 = .ok (.iload_n 1, 1) := by decide +kernel
theorem dX12_isWord_37 : decode cX12_isWord 37 = .ok (.if_icmp .ne 55, 3) := by decide +kernel
theorem dX12_isWord_40 : decode cX12_isWord 40 = .ok (.iload 6, 2) := by decide +kernel
theorem dX12_isWord_42 : decode cX12_isWord 42 = .ok (.iconst 1, 1) := by decide +kernel
theorem dX12_isWord_43 : decode cX12_isWord 43 = .ok (.if_icmp .le 16, 3) := by decide +kernel
theorem dX12_isWord_46 : decode cX12_isWord 46 = .ok (.aload_n 0, 1) := by decide +kernel
theorem dX12_isWord_47 : decode cX12_isWord 47 = .ok (.aload_n 0, 1) := by decide +kernel
theorem dX12_isWord_48 : decode cX12_isWord 48 = .ok (.getfield 94, 3) := by decide +kernel
theorem dX12_isWord_51 : decode cX12_isWord 51 = .ok (.iconst 1, 1) := by decide +kernel
theorem dX12_isWord_52 : decode cX12_isWord 52 = .ok (.iadd, 1) := by decide +kernel
theorem dX12_isWord_53 : decode cX12_isWord 53 = .ok (.invokevirtual 91, 3) := by decide +kernel
theorem dX12_isWord_56 : decode cX12_isWord 56 = .ok (.goto 4, 3) := by decide +kernel
theorem dX12_isWord_59 : decode cX12_isWord 59 = .ok (.iconst 0, 1) := by decide +kernel
theorem dX12_isWord_60 : decode cX12_isWord 60 = .ok (.iload_n 2, 1) := by decide +kernel
theorem dX12_isWord_61 : decode cX12_isWord 61 = .ok (.if_icmp .ne 31, 3) := by decide +kernel
theorem dX12_isWord_64 : decode cX12_isWord 64 = .ok (.iload 6, 2) := by decide +kernel
theorem dX12_isWord_66 : decode cX12_isWord 66 = .ok (.iconst 2, 1) := by decide +kernel
theorem dX12_isWord_67 : decode cX12_isWord 67 = .ok (.if_icmp .le 16, 3) := by decide +kernel
theorem dX12_isWord_70 : decode cX12_isWord 70 = .ok (.aload_n 0, 1) := by decide +kernel
theorem dX12_isWord_71 : decode cX12_isWord 71 = .ok (.aload_n 0, 1) := by decide +kernel
theorem dX12_isWord_72 : decode cX12_isWord 72 = .ok (.getfield 94, 3) := by decide +kernel
theorem dX12_isWord_75 : decode cX12_isWord 75 = .ok (.iconst 2, 1) := by decide +kernel
theorem dX12_isWord_76 : decode cX12_isWord 76 = .ok (.iadd, 1) := by decide +kernel
theorem dX12_isWord_77 : decode cX12_isWord 77 = .ok (.invokevirtual 91, 3) := by decide +kernel
theorem dX12_isWord_80 : decode cX12_isWord 80 = .ok (.goto 4, 3) := by decide +kernel
theorem dX12_isWord_83 : decode cX12_isWord 83 = .ok (.iconst 0, 1) := by decide +kernel
theorem dX12_isWord_84 : decode cX12_isWord 84 = .ok (.iload_n 3, 1) := by decide +kernel
theorem dX12_isWord_85 : decode cX12_isWord 85 = .ok (.if_icmp .ne 7, 3) := by decide +kernel
theorem dX12_isWord_88 : decode cX12_isWord 88 = .ok (.iconst 1, 1) := by decide +kernel
theorem dX12_isWord_89 : decode cX12_isWord 89 = .ok (.goto 4, 3) := by decide +kernel
theorem dX12_isWord_92 : decode cX12_isWord 92 = .ok (.iconst 0, 1) := by decide +kernel
theorem dX12_isWord_93 : decode cX12_isWord 93 = .ok (.istore 7, 2) := by decide +kernel
theorem dX12_isWord_95 : decode cX12_isWord 95 = .ok (.iload 7, 2) := by decide +kernel
theorem dX12_isWord_97 : decode cX12_isWord 97 = .ok (.ifCond .eq 64, 3) := by decide +kernel
theorem dX12_isWord_100 : decode cX12_isWord 100 = .ok (.iload 6, 2) := by decide +kernel
theorem dX12_isWord_102 : decode cX12_isWord 102 = .ok (.iconst 3, 1) := by decide +kernel
theorem dX12_isWord_103 : decode cX12_isWord 103 = .ok (.if_icmp .le 16, 3) := by decide +kernel
theorem dX12_isWord_106 : decode cX12_isWord 106 = .ok (.aload_n 0, 1) := by decide +kernel
theorem dX12_isWord_107 : decode cX12_isWord 107 = .ok (.aload_n 0, 1) := by decide +kernel
theorem dX12_isWord_108 : decode cX12_isWord 108 = .ok (.getfield 94, 3) := by decide +kernel
theorem dX12_isWord_111 : decode cX12_isWord 111 = .ok (.iconst 3, 1) := by decide +kernel
theorem dX12_isWord_112 : decode cX12_isWord 112 = .ok (.iadd, 1) := by decide +kernel
theorem dX12_isWord_113 : decode cX12_isWord 113 = .ok (.invokevirtual 91, 3) := by decide +kernel
theorem dX12_isWord_116 : decode cX12_isWord 116 = .ok (.goto 4, 3) := by decide +kernel
theorem dX12_isWord_119 : decode cX12_isWord 119 = .ok (.iconst 0, 1) := by decide +kernel
theorem dX12_isWord_120 : decode cX12_isWord 120 = .ok (.iload 4, 2) := by decide +kernel
theorem dX12_isWord_122 : decode cX12_isWord 122 = .ok (.if_icmp .ne 39, 3) := by decide +kernel
theorem dX12_isWord_125 : decode cX12_isWord 125 = .ok (.iload 6, 2) := by decide +kernel
theorem dX12_isWord_127 : decode cX12_isWord 127 = .ok (.iconst 4, 1) := by decide +kernel
theorem dX12_isWord_128 : decode cX12_isWord 128 = .ok (.if_icmp .le 16, 3) := by decide +kernel
theorem dX12_isWord_131 : decode cX12_isWord 131 = .ok (.aload_n 0, 1) := by decide +kernel
theorem dX12_isWord_132 : decode cX12_isWord 132 = .ok (.aload_n 0, 1) := by decide +kernel
theorem dX12_isWord_133 : decode cX12_isWord 133 = .ok (.getfield 94, 3) := by decide +kernel
theorem dX12_isWord_136 : decode cX12_isWord 136 = .ok (.iconst 4, 1) := by decide +kernel
theorem dX12_isWord_137 : decode cX12_isWord 137 = .ok (.iadd, 1) := by decide +kernel
theorem dX12_isWord_138 : decode cX12_isWord 138 = .ok (.invokevirtual 91, 3) := by decide +kernel
theorem dX12_isWord_141 : decode cX12_isWord 141 = .ok (.goto 4, 3) := by decide +kernel
theorem dX12_isWord_144 : decode cX12_isWord 144 = .ok (.iconst 0, 1) := by decide +kernel
theorem dX12_isWord_145 : decode cX12_isWord 145 = .ok (.iload 5, 2) := by decide +kernel
theorem dX12_isWord_147 : decode cX12_isWord 147 = .ok (.if_icmp .ne 14, 3) := by decide +kernel
theorem dX12_isWord_150 : decode cX12_isWord 150 = .ok (.iload 6, 2) := by decide +kernel
theorem dX12_isWord_152 : decode cX12_isWord 152 = .ok (.bipush 6, 2) := by decide +kernel
theorem dX12_isWord_154 : decode cX12_isWord 154 = .ok (.if_icmp .ge 7, 3) := by decide +kernel
theorem dX12_isWord_157 : decode cX12_isWord 157 = .ok (.iconst 1, 1) := by decide +kernel
theorem dX12_isWord_158 : decode cX12_isWord 158 = .ok (.goto 4, 3) := by decide +kernel
theorem dX12_isWord_161 : decode cX12_isWord 161 = .ok (.iconst 0, 1) := by decide +kernel
theorem dX12_isWord_162 : decode cX12_isWord 162 = .ok (.ireturn, 1) := by decide +kernel
theorem dX12_isOwn_0 : decode cX12_isOwn 0 = .ok (.aload_n 0, 1) := by decide +kernel
theorem dX12_isOwn_1 : decode cX12_isOwn 1 = .ok (.bipush 112, 2) := by decide +kernel
theorem dX12_isOwn_3 : decode cX12_isOwn 3 = .ok (.bipush 114, 2) := by decide +kernel
theorem dX12_isOwn_5 : decode cX12_isOwn 5 = .ok (.bipush 105, 2) := by decide +kernel
theorem dX12_isOwn_7 : decode cX12_isOwn 7 = .ok (.bipush 109, 2) := by decide +kernel
theorem dX12_isOwn_9 : decode cX12_isOwn 9 = .ok (.bipush 101, 2) := by decide +kernel
theorem dX12_isOwn_11 : decode cX12_isOwn 11 = .ok (.invokevirtual 125, 3) := by decide +kernel
theorem dX12_isOwn_14 : decode cX12_isOwn 14 = .ok (.ifCond .ne 80, 3) := by decide +kernel
theorem dX12_isOwn_17 : decode cX12_isOwn 17 = .ok (.aload_n 0, 1) := by decide +kernel
theorem dX12_isOwn_18 : decode cX12_isOwn 18 = .ok (.bipush 108, 2) := by decide +kernel
theorem dX12_isOwn_20 : decode cX12_isOwn 20 = .ok (.bipush 101, 2) := by decide +kernel
theorem dX12_isOwn_22 : decode cX12_isOwn 22 = .ok (.bipush 116, 2) := by decide +kernel
theorem dX12_isOwn_24 : decode cX12_isOwn 24 = .ok (.iconst 0, 1) := by decide +kernel
theorem dX12_isOwn_25 : decode cX12_isOwn 25 = .ok (.iconst 0, 1) := by decide +kernel
theorem dX12_isOwn_26 : decode cX12_isOwn 26 = .ok (.invokevirtual 125, 3) := by decide +kernel
theorem dX12_isOwn_29 : decode cX12_isOwn 29 = .ok (.ifCond .ne 65, 3) := by decide +kernel
theorem dX12_isOwn_32 : decode cX12_isOwn 32 = .ok (.aload_n 0, 1) := by decide +kernel
theorem dX12_isOwn_33 : decode cX12_isOwn 33 = .ok (.bipush 98, 2) := by decide +kernel
theorem dX12_isOwn_35 : decode cX12_isOwn 35 = .ok (.bipush 101, 2) := by decide +kernel
theorem dX12_isOwn_37 : decode cX12_isOwn 37 = .ok (.iconst 0, 1) := by decide +kernel
theorem dX12_isOwn_38 : decode cX12_isOwn 38 = .ok (.iconst 0, 1) := by decide +kernel
theorem dX12_isOwn_39 : decode cX12_isOwn 39 = .ok (.iconst 0, 1) := by decide +kernel
theorem dX12_isOwn_40 : decode cX12_isOwn 40 = .ok (.invokevirtual 125, 3) := by decide +kernel
theorem dX12_isOwn_43 : decode cX12_isOwn 43 = .ok (.ifCond .ne 51, 3) := by decide +kernel
theorem dX12_isOwn_46 : decode cX12_isOwn 46 = .ok (.aload_n 0, 1) := by decide +kernel
theorem dX12_isOwn_47 : decode cX12_isOwn 47 = .ok (.bipush 102, 2) := by decide +kernel
theorem dX12_isOwn_49 : decode cX12_isOwn 49 = .ok (.bipush 111, 2) := by decide +kernel
theorem dX12_isOwn_51 : decode cX12_isOwn 51 = .ok (.bipush 117, 2) := by decide +kernel
theorem dX12_isOwn_53 : decode cX12_isOwn 53 = .ok (.bipush 114, 2) := by decide +kernel
theorem dX12_isOwn_55 : decode cX12_isOwn 55 = .ok (.iconst 0, 1) := by decide +kernel
theorem dX12_isOwn_56 : decode cX12_isOwn 56 = .ok (.invokevirtual 125, 3) := by decide +kernel
theorem dX12_isOwn_59 : decode cX12_isOwn 59 = .ok (.ifCond .ne 35, 3) := by decide +kernel
theorem dX12_isOwn_62 : decode cX12_isOwn 62 = .ok (.aload_n 0, 1) := by decide +kernel
theorem dX12_isOwn_63 : decode cX12_isOwn 63 = .ok (.bipush 115, 2) := by decide +kernel
theorem dX12_isOwn_65 : decode cX12_isOwn 65 = .ok (.bipush 105, 2) := by decide +kernel
theorem dX12_isOwn_67 : decode cX12_isOwn 67 = .ok (.bipush 120, 2) := by decide +kernel
theorem dX12_isOwn_69 : decode cX12_isOwn 69 = .ok (.iconst 0, 1) := by decide +kernel
theorem dX12_isOwn_70 : decode cX12_isOwn 70 = .ok (.iconst 0, 1) := by decide +kernel
theorem dX12_isOwn_71 : decode cX12_isOwn 71 = .ok (.invokevirtual 125, 3) := by decide +kernel
theorem dX12_isOwn_74 : decode cX12_isOwn 74 = .ok (.ifCond .ne 20, 3) := by decide +kernel
theorem dX12_isOwn_77 : decode cX12_isOwn 77 = .ok (.aload_n 0, 1) := by decide +kernel
theorem dX12_isOwn_78 : decode cX12_isOwn 78 = .ok (.bipush 100, 2) := by decide +kernel
theorem dX12_isOwn_80 : decode cX12_isOwn 80 = .ok (.bipush 101, 2) := by decide +kernel
theorem dX12_isOwn_82 : decode cX12_isOwn 82 = .ok (.bipush 108, 2) := by decide +kernel
theorem dX12_isOwn_84 : decode cX12_isOwn 84 = .ok (.bipush 116, 2) := by decide +kernel
theorem dX12_isOwn_86 : decode cX12_isOwn 86 = .ok (.bipush 97, 2) := by decide +kernel
theorem dX12_isOwn_88 : decode cX12_isOwn 88 = .ok (.invokevirtual 125, 3) := by decide +kernel
theorem dX12_isOwn_91 : decode cX12_isOwn 91 = .ok (.ifCond .eq 7, 3) := by decide +kernel
theorem dX12_isOwn_94 : decode cX12_isOwn 94 = .ok (.iconst 1, 1) := by decide +kernel
theorem dX12_isOwn_95 : decode cX12_isOwn 95 = .ok (.goto 4, 3) := by decide +kernel
theorem dX12_isOwn_98 : decode cX12_isOwn 98 = .ok (.iconst 0, 1) := by decide +kernel
theorem dX12_isOwn_99 : decode cX12_isOwn 99 = .ok (.ireturn, 1) := by decide +kernel
theorem dX12_named_0 : decode cX12_named 0 = .ok (.iconst 0, 1) := by decide +kernel
theorem dX12_named_1 : decode cX12_named 1 = .ok (.istore_n 1, 1) := by decide +kernel
theorem dX12_named_2 : decode cX12_named 2 = .ok (.iload_n 1, 1) := by decide +kernel
theorem dX12_named_3 : decode cX12_named 3 = .ok (.aload_n 0, 1) := by decide +kernel
theorem dX12_named_4 : decode cX12_named 4 = .ok (.getfield 129, 3) := by decide +kernel
theorem dX12_named_7 : decode cX12_named 7 = .ok (.if_icmp .ge 91, 3) := by decide +kernel
theorem dX12_named_10 : decode cX12_named 10 = .ok (.aload_n 0, 1) := by decide +kernel
theorem dX12_named_11 : decode cX12_named 11 = .ok (.getfield 132, 3) := by decide +kernel
theorem dX12_named_14 : decode cX12_named 14 = .ok (.iload_n 1, 1) := by decide +kernel
theorem dX12_named_15 : decode cX12_named 15 = .ok (.iaload, 1) := by decide +kernel
theorem dX12_named_16 : decode cX12_named 16 = .ok (.aload_n 0, 1) := by decide +kernel
theorem dX12_named_17 : decode cX12_named 17 = .ok (.getfield 88, 3) := by decide +kernel
theorem dX12_named_20 : decode cX12_named 20 = .ok (.aload_n 0, 1) := by decide +kernel
theorem dX12_named_21 : decode cX12_named 21 = .ok (.getfield 94, 3) := by decide +kernel
theorem dX12_named_24 : decode cX12_named 24 = .ok (.isub, 1) := by decide +kernel
theorem dX12_named_25 : decode cX12_named 25 = .ok (.if_icmp .ne 7, 3) := by decide +kernel
theorem dX12_named_28 : decode cX12_named 28 = .ok (.iconst 1, 1) := by decide +kernel
theorem dX12_named_29 : decode cX12_named 29 = .ok (.goto 4, 3) := by decide +kernel
theorem dX12_named_32 : decode cX12_named 32 = .ok (.iconst 0, 1) := by decide +kernel
theorem dX12_named_33 : decode cX12_named 33 = .ok (.istore_n 2, 1) := by decide +kernel
theorem dX12_named_34 : decode cX12_named 34 = .ok (.iconst 0, 1) := by decide +kernel
theorem dX12_named_35 : decode cX12_named 35 = .ok (.istore_n 3, 1) := by decide +kernel
theorem dX12_named_36 : decode cX12_named 36 = .ok (.iload_n 3, 1) := by decide +kernel
theorem dX12_named_37 : decode cX12_named 37 = .ok (.aload_n 0, 1) := by decide +kernel
theorem dX12_named_38 : decode cX12_named 38 = .ok (.getfield 132, 3) := by decide +kernel
theorem dX12_named_41 : decode cX12_named 41 = .ok (.iload_n 1, 1) := by decide +kernel
theorem dX12_named_42 : decode cX12_named 42 = .ok (.iaload, 1) := by decide +kernel
theorem dX12_named_43 : decode cX12_named 43 = .ok (.if_icmp .ge 43, 3) := by decide +kernel
theorem dX12_named_46 : decode cX12_named 46 = .ok (.iload_n 2, 1) := by decide +kernel
theorem dX12_named_47 : decode cX12_named 47 = .ok (.ifCond .eq 39, 3) := by decide +kernel
theorem dX12_named_50 : decode cX12_named 50 = .ok (.aload_n 0, 1) := by decide +kernel
theorem dX12_named_51 : decode cX12_named 51 = .ok (.getfield 135, 3) := by decide +kernel
theorem dX12_named_54 : decode cX12_named 54 = .ok (.bipush 6, 2) := by decide +kernel
theorem dX12_named_56 : decode cX12_named 56 = .ok (.iload_n 1, 1) := by decide +kernel
theorem dX12_named_57 : decode cX12_named 57 = .ok (.imul, 1) := by decide +kernel
theorem dX12_named_58 : decode cX12_named 58 = .ok (.iload_n 3, 1) := by decide +kernel
theorem dX12_named_59 : decode cX12_named 59 = .ok (.iadd, 1) := by decide +kernel
theorem dX12_named_60 : decode cX12_named 60 = .ok (.iaload, 1) := by decide +kernel
theorem dX12_named_61 : decode cX12_named 61 = .ok (.aload_n 0, 1) := by decide +kernel
theorem dX12_named_62 : decode cX12_named 62 = .ok (.aload_n 0, 1) := by decide +kernel
theorem dX12_named_63 : decode cX12_named 63 = .ok (.getfield 94, 3) := by decide +kernel
theorem dX12_named_66 : decode cX12_named 66 = .ok (.iload_n 3, 1) := by decide +kernel
theorem dX12_named_67 : decode cX12_named 67 = .ok (.iadd, 1) := by decide +kernel
theorem dX12_named_68 : decode cX12_named 68 = .ok (.invokevirtual 91, 3) := by decide +kernel
theorem dX12_named_71 : decode cX12_named 71 = .ok (.if_icmp .ne 7, 3) := by decide +kernel
theorem dX12_named_74 : decode cX12_named 74 = .ok (.iconst 1, 1) := by decide +kernel
theorem dX12_named_75 : decode cX12_named 75 = .ok (.goto 4, 3) := by decide +kernel
theorem dX12_named_78 : decode cX12_named 78 = .ok (.iconst 0, 1) := by decide +kernel
theorem dX12_named_79 : decode cX12_named 79 = .ok (.istore_n 2, 1) := by decide +kernel
theorem dX12_named_80 : decode cX12_named 80 = .ok (.iinc 3 1, 3) := by decide +kernel
theorem dX12_named_83 : decode cX12_named 83 = .ok (.goto (-47), 3) := by decide +kernel
theorem dX12_named_86 : decode cX12_named 86 = .ok (.iload_n 2, 1) := by decide +kernel
theorem dX12_named_87 : decode cX12_named 87 = .ok (.ifCond .eq 5, 3) := by decide +kernel
theorem dX12_named_90 : decode cX12_named 90 = .ok (.iload_n 1, 1) := by decide +kernel
theorem dX12_named_91 : decode cX12_named 91 = .ok (.ireturn, 1) := by decide +kernel
theorem dX12_named_92 : decode cX12_named 92 = .ok (.iinc 1 1, 3) := by decide +kernel
theorem dX12_named_95 : decode cX12_named 95 = .ok (.goto (-93), 3) := by decide +kernel
theorem dX12_named_98 : decode cX12_named 98 = .ok (.iconst (-1), 1) := by decide +kernel
theorem dX12_named_99 : decode cX12_named 99 = .ok (.ireturn, 1) := by decide +kernel
theorem dX12_isName_0 : decode cX12_isName 0 = .ok (.aload_n 0, 1) := by decide +kernel
theorem dX12_isName_1 : decode cX12_isName 1 = .ok (.getfield 97, 3) := by decide +kernel
theorem dX12_isName_4 : decode cX12_isName 4 = .ok (.iconst 1, 1) := by decide +kernel
theorem dX12_isName_5 : decode cX12_isName 5 = .ok (.if_icmp .ne 28, 3) := by decide +kernel
theorem dX12_isName_8 : decode cX12_isName 8 = .ok (.aload_n 0, 1) := by decide +kernel
theorem dX12_isName_9 : decode cX12_isName 9 = .ok (.getfield 88, 3) := by decide +kernel
theorem dX12_isName_12 : decode cX12_isName 12 = .ok (.aload_n 0, 1) := by decide +kernel
theorem dX12_isName_13 : decode cX12_isName 13 = .ok (.getfield 94, 3) := by decide +kernel
theorem dX12_isName_16 : decode cX12_isName 16 = .ok (.isub, 1) := by decide +kernel
theorem dX12_isName_17 : decode cX12_isName 17 = .ok (.bipush 6, 2) := by decide +kernel
theorem dX12_isName_19 : decode cX12_isName 19 = .ok (.if_icmp .gt 14, 3) := by decide +kernel
theorem dX12_isName_22 : decode cX12_isName 22 = .ok (.aload_n 0, 1) := by decide +kernel
theorem dX12_isName_23 : decode cX12_isName 23 = .ok (.invokevirtual 138, 3) := by decide +kernel
theorem dX12_isName_26 : decode cX12_isName 26 = .ok (.ifCond .ne 7, 3) := by decide +kernel
theorem dX12_isName_29 : decode cX12_isName 29 = .ok (.iconst 1, 1) := by decide +kernel
theorem dX12_isName_30 : decode cX12_isName 30 = .ok (.goto 4, 3) := by decide +kernel
theorem dX12_isName_33 : decode cX12_isName 33 = .ok (.iconst 0, 1) := by decide +kernel
theorem dX12_isName_34 : decode cX12_isName 34 = .ok (.ireturn, 1) := by decide +kernel
theorem dX12_pushes_0 : decode cX12_pushes 0 = .ok (.aload_n 0, 1) := by decide +kernel
theorem dX12_pushes_1 : decode cX12_pushes 1 = .ok (.getfield 142, 3) := by decide +kernel
theorem dX12_pushes_4 : decode cX12_pushes 4 = .ok (.aload_n 0, 1) := by decide +kernel
theorem dX12_pushes_5 : decode cX12_pushes 5 = .ok (.getfield 145, 3) := by decide +kernel
theorem dX12_pushes_8 : decode cX12_pushes 8 = .ok (.iload_n 1, 1) := by decide +kernel
theorem dX12_pushes_9 : decode cX12_pushes 9 = .ok (.iastore, 1) := by decide +kernel
theorem dX12_pushes_10 : decode cX12_pushes 10 = .ok (.aload_n 2, 1) := by decide +kernel
theorem dX12_pushes_11 : decode cX12_pushes 11 = .ok (.iload_n 3, 1) := by decide +kernel
theorem dX12_pushes_12 : decode cX12_pushes 12 = .ok (.aload_n 0, 1) := by decide +kernel
theorem dX12_pushes_13 : decode cX12_pushes 13 = .ok (.getfield 148, 3) := by decide +kernel
theorem dX12_pushes_16 : decode cX12_pushes 16 = .ok (.sipush 181, 3) := by decide +kernel
theorem dX12_pushes_19 : decode cX12_pushes 19 = .ok (.aload_n 0, 1) := by decide +kernel
theorem dX12_pushes_20 : decode cX12_pushes 20 = .ok (.getfield 145, 3) := by decide +kernel
theorem dX12_pushes_23 : decode cX12_pushes 23 = .ok (.imul, 1) := by decide +kernel
theorem dX12_pushes_24 : decode cX12_pushes 24 = .ok (.invokestatic 58, 3) := by decide +kernel
theorem dX12_pushes_27 : decode cX12_pushes 27 = .ok (.aload_n 0, 1) := by decide +kernel
theorem dX12_pushes_28 : decode cX12_pushes 28 = .ok (.dup, 1) := by decide +kernel
theorem dX12_pushes_29 : decode cX12_pushes 29 = .ok (.getfield 145, 3) := by decide +kernel
theorem dX12_pushes_32 : decode cX12_pushes 32 = .ok (.iconst 1, 1) := by decide +kernel
theorem dX12_pushes_33 : decode cX12_pushes 33 = .ok (.iadd, 1) := by decide +kernel
theorem dX12_pushes_34 : decode cX12_pushes 34 = .ok (.putfield 145, 3) := by decide +kernel
theorem dX12_pushes_37 : decode cX12_pushes 37 = .ok (.return_, 1) := by decide +kernel
theorem dX12_pushesNumber_0 : decode cX12_pushesNumber 0 = .ok (.iconst 0, 1) := by decide +kernel
theorem dX12_pushesNumber_1 : decode cX12_pushesNumber 1 = .ok (.istore_n 2, 1) := by decide +kernel
theorem dX12_pushesNumber_2 : decode cX12_pushesNumber 2 = .ok (.iload_n 2, 1) := by decide +kernel
theorem dX12_pushesNumber_3 : decode cX12_pushesNumber 3 = .ok (.sipush 181, 3) := by decide +kernel
theorem dX12_pushesNumber_6 : decode cX12_pushesNumber 6 = .ok (.if_icmp .ge 29, 3) := by decide +kernel
theorem dX12_pushesNumber_9 : decode cX12_pushesNumber 9 = .ok (.aload_n 0, 1) := by decide +kernel
theorem dX12_pushesNumber_10 : decode cX12_pushesNumber 10 = .ok (.getfield 29, 3) := by decide +kernel
theorem dX12_pushesNumber_13 : decode cX12_pushesNumber 13 = .ok (.iload_n 2, 1) := by decide +kernel
theorem dX12_pushesNumber_14 : decode cX12_pushesNumber 14 = .ok (.iload_n 2, 1) := by decide +kernel
theorem dX12_pushesNumber_15 : decode cX12_pushesNumber 15 = .ok (.ifCond .ne 12, 3) := by decide +kernel
theorem dX12_pushesNumber_18 : decode cX12_pushesNumber 18 = .ok (.aload_n 0, 1) := by decide +kernel
theorem dX12_pushesNumber_19 : decode cX12_pushesNumber 19 = .ok (.iload_n 1, 1) := by decide +kernel
theorem dX12_pushesNumber_20 : decode cX12_pushesNumber 20 = .ok (.i2l, 1) := by decide +kernel
theorem dX12_pushesNumber_21 : decode cX12_pushesNumber 21 = .ok (.invokevirtual 10, 3) := by decide +kernel
theorem dX12_pushesNumber_24 : decode cX12_pushesNumber 24 = .ok (.goto 4, 3) := by decide +kernel
theorem dX12_pushesNumber_27 : decode cX12_pushesNumber 27 = .ok (.iconst 0, 1) := by decide +kernel
theorem dX12_pushesNumber_28 : decode cX12_pushesNumber 28 = .ok (.iastore, 1) := by decide +kernel
theorem dX12_pushesNumber_29 : decode cX12_pushesNumber 29 = .ok (.iinc 2 1, 3) := by decide +kernel
theorem dX12_pushesNumber_32 : decode cX12_pushesNumber 32 = .ok (.goto (-30), 3) := by decide +kernel
theorem dX12_pushesNumber_35 : decode cX12_pushesNumber 35 = .ok (.aload_n 0, 1) := by decide +kernel
theorem dX12_pushesNumber_36 : decode cX12_pushesNumber 36 = .ok (.iconst 0, 1) := by decide +kernel
theorem dX12_pushesNumber_37 : decode cX12_pushesNumber 37 = .ok (.aload_n 0, 1) := by decide +kernel
theorem dX12_pushesNumber_38 : decode cX12_pushesNumber 38 = .ok (.getfield 29, 3) := by decide +kernel
theorem dX12_pushesNumber_41 : decode cX12_pushesNumber 41 = .ok (.iconst 0, 1) := by decide +kernel
theorem dX12_pushesNumber_42 : decode cX12_pushesNumber 42 = .ok (.invokevirtual 151, 3) := by decide +kernel
theorem dX12_pushesNumber_45 : decode cX12_pushesNumber 45 = .ok (.return_, 1) := by decide +kernel
theorem dX12_atom_0 : decode cX12_atom 0 = .ok (.aload_n 0, 1) := by decide +kernel
theorem dX12_atom_1 : decode cX12_atom 1 = .ok (.getfield 97, 3) := by decide +kernel
theorem dX12_atom_4 : decode cX12_atom 4 = .ok (.iconst 2, 1) := by decide +kernel
theorem dX12_atom_5 : decode cX12_atom 5 = .ok (.if_icmp .ne 36, 3) := by decide +kernel
theorem dX12_atom_8 : decode cX12_atom 8 = .ok (.aload_n 0, 1) := by decide +kernel
theorem dX12_atom_9 : decode cX12_atom 9 = .ok (.getfield 88, 3) := by decide +kernel
theorem dX12_atom_12 : decode cX12_atom 12 = .ok (.aload_n 0, 1) := by decide +kernel
theorem dX12_atom_13 : decode cX12_atom 13 = .ok (.getfield 94, 3) := by decide +kernel
theorem dX12_atom_16 : decode cX12_atom 16 = .ok (.isub, 1) := by decide +kernel
theorem dX12_atom_17 : decode cX12_atom 17 = .ok (.iconst 4, 1) := by decide +kernel
theorem dX12_atom_18 : decode cX12_atom 18 = .ok (.if_icmp .le 9, 3) := by decide +kernel
theorem dX12_atom_21 : decode cX12_atom 21 = .ok (.aload_n 0, 1) := by decide +kernel
theorem dX12_atom_22 : decode cX12_atom 22 = .ok (.iconst 4, 1) := by decide +kernel
theorem dX12_atom_23 : decode cX12_atom 23 = .ok (.invokevirtual 118, 3) := by decide +kernel
theorem dX12_atom_26 : decode cX12_atom 26 = .ok (.ireturn, 1) := by decide +kernel
theorem dX12_atom_27 : decode cX12_atom 27 = .ok (.aload_n 0, 1) := by decide +kernel
theorem dX12_atom_28 : decode cX12_atom 28 = .ok (.aload_n 0, 1) := by decide +kernel
theorem dX12_atom_29 : decode cX12_atom 29 = .ok (.getfield 100, 3) := by decide +kernel
theorem dX12_atom_32 : decode cX12_atom 32 = .ok (.invokevirtual 155, 3) := by decide +kernel
theorem dX12_atom_35 : decode cX12_atom 35 = .ok (.aload_n 0, 1) := by decide +kernel
theorem dX12_atom_36 : decode cX12_atom 36 = .ok (.invokevirtual 121, 3) := by decide +kernel
theorem dX12_atom_39 : decode cX12_atom 39 = .ok (.iconst 1, 1) := by decide +kernel
theorem dX12_atom_40 : decode cX12_atom 40 = .ok (.ireturn, 1) := by decide +kernel
theorem dX12_atom_41 : decode cX12_atom 41 = .ok (.aload_n 0, 1) := by decide +kernel
theorem dX12_atom_42 : decode cX12_atom 42 = .ok (.bipush 40, 2) := by decide +kernel
theorem dX12_atom_44 : decode cX12_atom 44 = .ok (.invokevirtual 115, 3) := by decide +kernel
theorem dX12_atom_47 : decode cX12_atom 47 = .ok (.ifCond .eq 66, 3) := by decide +kernel
theorem dX12_atom_50 : decode cX12_atom 50 = .ok (.aload_n 0, 1) := by decide +kernel
theorem dX12_atom_51 : decode cX12_atom 51 = .ok (.getfield 158, 3) := by decide +kernel
theorem dX12_atom_54 : decode cX12_atom 54 = .ok (.bipush 8, 2) := by decide +kernel
theorem dX12_atom_56 : decode cX12_atom 56 = .ok (.if_icmp .ne 9, 3) := by decide +kernel
theorem dX12_atom_59 : decode cX12_atom 59 = .ok (.aload_n 0, 1) := by decide +kernel
theorem dX12_atom_60 : decode cX12_atom 60 = .ok (.iconst 5, 1) := by decide +kernel
theorem dX12_atom_61 : decode cX12_atom 61 = .ok (.invokevirtual 118, 3) := by decide +kernel
theorem dX12_atom_64 : decode cX12_atom 64 = .ok (.ireturn, 1) := by decide +kernel
theorem dX12_atom_65 : decode cX12_atom 65 = .ok (.aload_n 0, 1) := by decide +kernel
theorem dX12_atom_66 : decode cX12_atom 66 = .ok (.dup, 1) := by decide +kernel
theorem dX12_atom_67 : decode cX12_atom 67 = .ok (.getfield 158, 3) := by decide +kernel
theorem dX12_atom_70 : decode cX12_atom 70 = .ok (.iconst 1, 1) := by decide +kernel
theorem dX12_atom_71 : decode cX12_atom 71 = .ok (.iadd, 1) := by decide +kernel
theorem dX12_atom_72 : decode cX12_atom 72 = .ok (.putfield 158, 3) := by decide +kernel
theorem dX12_atom_75 : decode cX12_atom 75 = .ok (.aload_n 0, 1) := by decide +kernel
theorem dX12_atom_76 : decode cX12_atom 76 = .ok (.invokevirtual 121, 3) := by decide +kernel
theorem dX12_atom_79 : decode cX12_atom 79 = .ok (.aload_n 0, 1) := by decide +kernel
theorem dX12_atom_80 : decode cX12_atom 80 = .ok (.invokevirtual 161, 3) := by decide +kernel
theorem dX12_atom_83 : decode cX12_atom 83 = .ok (.ifCond .eq 16, 3) := by decide +kernel
theorem dX12_atom_86 : decode cX12_atom 86 = .ok (.aload_n 0, 1) := by decide +kernel
theorem dX12_atom_87 : decode cX12_atom 87 = .ok (.bipush 41, 2) := by decide +kernel
theorem dX12_atom_89 : decode cX12_atom 89 = .ok (.invokevirtual 164, 3) := by decide +kernel
theorem dX12_atom_92 : decode cX12_atom 92 = .ok (.ifCond .eq 7, 3) := by decide +kernel
theorem dX12_atom_95 : decode cX12_atom 95 = .ok (.iconst 1, 1) := by decide +kernel
theorem dX12_atom_96 : decode cX12_atom 96 = .ok (.goto 4, 3) := by decide +kernel
theorem dX12_atom_99 : decode cX12_atom 99 = .ok (.iconst 0, 1) := by decide +kernel
theorem dX12_atom_100 : decode cX12_atom 100 = .ok (.istore_n 1, 1) := by decide +kernel
theorem dX12_atom_101 : decode cX12_atom 101 = .ok (.aload_n 0, 1) := by decide +kernel
theorem dX12_atom_102 : decode cX12_atom 102 = .ok (.dup, 1) := by decide +kernel
theorem dX12_atom_103 : decode cX12_atom 103 = .ok (.getfield 158, 3) := by decide +kernel
theorem dX12_atom_106 : decode cX12_atom 106 = .ok (.iconst 1, 1) := by decide +kernel
theorem dX12_atom_107 : decode cX12_atom 107 = .ok (.isub, 1) := by decide +kernel
theorem dX12_atom_108 : decode cX12_atom 108 = .ok (.putfield 158, 3) := by decide +kernel
theorem dX12_atom_111 : decode cX12_atom 111 = .ok (.iload_n 1, 1) := by decide +kernel
theorem dX12_atom_112 : decode cX12_atom 112 = .ok (.ireturn, 1) := by decide +kernel
theorem dX12_atom_113 : decode cX12_atom 113 = .ok (.aload_n 0, 1) := by decide +kernel
theorem dX12_atom_114 : decode cX12_atom 114 = .ok (.bipush 102, 2) := by decide +kernel
theorem dX12_atom_116 : decode cX12_atom 116 = .ok (.bipush 111, 2) := by decide +kernel
theorem dX12_atom_118 : decode cX12_atom 118 = .ok (.bipush 117, 2) := by decide +kernel
theorem dX12_atom_120 : decode cX12_atom 120 = .ok (.bipush 114, 2) := by decide +kernel
theorem dX12_atom_122 : decode cX12_atom 122 = .ok (.iconst 0, 1) := by decide +kernel
theorem dX12_atom_123 : decode cX12_atom 123 = .ok (.invokevirtual 125, 3) := by decide +kernel
theorem dX12_atom_126 : decode cX12_atom 126 = .ok (.ifCond .eq 16, 3) := by decide +kernel
theorem dX12_atom_129 : decode cX12_atom 129 = .ok (.aload_n 0, 1) := by decide +kernel
theorem dX12_atom_130 : decode cX12_atom 130 = .ok (.iconst 4, 1) := by decide +kernel
theorem dX12_atom_131 : decode cX12_atom 131 = .ok (.aload_n 0, 1) := by decide +kernel
theorem dX12_atom_132 : decode cX12_atom 132 = .ok (.getfield 18, 3) := by decide +kernel
theorem dX12_atom_135 : decode cX12_atom 135 = .ok (.iconst 0, 1) := by decide +kernel
theorem dX12_atom_136 : decode cX12_atom 136 = .ok (.invokevirtual 151, 3) := by decide +kernel
theorem dX12_atom_139 : decode cX12_atom 139 = .ok (.goto 115, 3) := by decide +kernel
theorem dX12_atom_142 : decode cX12_atom 142 = .ok (.aload_n 0, 1) := by decide +kernel
theorem dX12_atom_143 : decode cX12_atom 143 = .ok (.bipush 115, 2) := by decide +kernel
theorem dX12_atom_145 : decode cX12_atom 145 = .ok (.bipush 105, 2) := by decide +kernel
theorem dX12_atom_147 : decode cX12_atom 147 = .ok (.bipush 120, 2) := by decide +kernel
theorem dX12_atom_149 : decode cX12_atom 149 = .ok (.iconst 0, 1) := by decide +kernel
theorem dX12_atom_150 : decode cX12_atom 150 = .ok (.iconst 0, 1) := by decide +kernel
theorem dX12_atom_151 : decode cX12_atom 151 = .ok (.invokevirtual 125, 3) := by decide +kernel
theorem dX12_atom_154 : decode cX12_atom 154 = .ok (.ifCond .eq 17, 3) := by decide +kernel
theorem dX12_atom_157 : decode cX12_atom 157 = .ok (.aload_n 0, 1) := by decide +kernel
theorem dX12_atom_158 : decode cX12_atom 158 = .ok (.bipush 6, 2) := by decide +kernel
theorem dX12_atom_160 : decode cX12_atom 160 = .ok (.aload_n 0, 1) := by decide +kernel
theorem dX12_atom_161 : decode cX12_atom 161 = .ok (.getfield 24, 3) := by decide +kernel
theorem dX12_atom_164 : decode cX12_atom 164 = .ok (.iconst 0, 1) := by decide +kernel
theorem dX12_atom_165 : decode cX12_atom 165 = .ok (.invokevirtual 151, 3) := by decide +kernel
theorem dX12_atom_168 : decode cX12_atom 168 = .ok (.goto 86, 3) := by decide +kernel
theorem dX12_atom_171 : decode cX12_atom 171 = .ok (.aload_n 0, 1) := by decide +kernel
theorem dX12_atom_172 : decode cX12_atom 172 = .ok (.bipush 100, 2) := by decide +kernel
theorem dX12_atom_174 : decode cX12_atom 174 = .ok (.bipush 101, 2) := by decide +kernel
theorem dX12_atom_176 : decode cX12_atom 176 = .ok (.bipush 108, 2) := by decide +kernel
theorem dX12_atom_178 : decode cX12_atom 178 = .ok (.bipush 116, 2) := by decide +kernel
theorem dX12_atom_180 : decode cX12_atom 180 = .ok (.bipush 97, 2) := by decide +kernel
theorem dX12_atom_182 : decode cX12_atom 182 = .ok (.invokevirtual 125, 3) := by decide +kernel
theorem dX12_atom_185 : decode cX12_atom 185 = .ok (.ifCond .eq 17, 3) := by decide +kernel
theorem dX12_atom_188 : decode cX12_atom 188 = .ok (.aload_n 0, 1) := by decide +kernel
theorem dX12_atom_189 : decode cX12_atom 189 = .ok (.bipush 12, 2) := by decide +kernel
theorem dX12_atom_191 : decode cX12_atom 191 = .ok (.aload_n 0, 1) := by decide +kernel
theorem dX12_atom_192 : decode cX12_atom 192 = .ok (.getfield 36, 3) := by decide +kernel
theorem dX12_atom_195 : decode cX12_atom 195 = .ok (.iconst 0, 1) := by decide +kernel
theorem dX12_atom_196 : decode cX12_atom 196 = .ok (.invokevirtual 151, 3) := by decide +kernel
theorem dX12_atom_199 : decode cX12_atom 199 = .ok (.goto 55, 3) := by decide +kernel
theorem dX12_atom_202 : decode cX12_atom 202 = .ok (.aload_n 0, 1) := by decide +kernel
theorem dX12_atom_203 : decode cX12_atom 203 = .ok (.invokevirtual 167, 3) := by decide +kernel
theorem dX12_atom_206 : decode cX12_atom 206 = .ok (.ifCond .ne 9, 3) := by decide +kernel
theorem dX12_atom_209 : decode cX12_atom 209 = .ok (.aload_n 0, 1) := by decide +kernel
theorem dX12_atom_210 : decode cX12_atom 210 = .ok (.iconst 1, 1) := by decide +kernel
theorem dX12_atom_211 : decode cX12_atom 211 = .ok (.invokevirtual 118, 3) := by decide +kernel
theorem dX12_atom_214 : decode cX12_atom 214 = .ok (.ireturn, 1) := by decide +kernel
theorem dX12_atom_215 : decode cX12_atom 215 = .ok (.aload_n 0, 1) := by decide +kernel
theorem dX12_atom_216 : decode cX12_atom 216 = .ok (.invokevirtual 170, 3) := by decide +kernel
theorem dX12_atom_219 : decode cX12_atom 219 = .ok (.iconst (-1), 1) := by decide +kernel
theorem dX12_atom_220 : decode cX12_atom 220 = .ok (.if_icmp .ne 9, 3) := by decide +kernel
theorem dX12_atom_223 : decode cX12_atom 223 = .ok (.aload_n 0, 1) := by decide +kernel
theorem dX12_atom_224 : decode cX12_atom 224 = .ok (.iconst 3, 1) := by decide +kernel
theorem dX12_atom_225 : decode cX12_atom 225 = .ok (.invokevirtual 118, 3) := by decide +kernel
theorem dX12_atom_228 : decode cX12_atom 228 = .ok (.ireturn, 1) := by decide +kernel
theorem dX12_atom_229 : decode cX12_atom 229 = .ok (.aload_n 0, 1) := by decide +kernel
theorem dX12_atom_230 : decode cX12_atom 230 = .ok (.aload_n 0, 1) := by decide +kernel
theorem dX12_atom_231 : decode cX12_atom 231 = .ok (.getfield 174, 3) := by decide +kernel
theorem dX12_atom_234 : decode cX12_atom 234 = .ok (.aload_n 0, 1) := by decide +kernel
theorem dX12_atom_235 : decode cX12_atom 235 = .ok (.invokevirtual 170, 3) := by decide +kernel
theorem dX12_atom_238 : decode cX12_atom 238 = .ok (.iaload, 1) := by decide +kernel
theorem dX12_atom_239 : decode cX12_atom 239 = .ok (.aload_n 0, 1) := by decide +kernel
theorem dX12_atom_240 : decode cX12_atom 240 = .ok (.getfield 177, 3) := by decide +kernel
theorem dX12_atom_243 : decode cX12_atom 243 = .ok (.sipush 181, 3) := by decide +kernel
theorem dX12_atom_246 : decode cX12_atom 246 = .ok (.aload_n 0, 1) := by decide +kernel
theorem dX12_atom_247 : decode cX12_atom 247 = .ok (.invokevirtual 170, 3) := by decide +kernel
theorem dX12_atom_250 : decode cX12_atom 250 = .ok (.imul, 1) := by decide +kernel
theorem dX12_atom_251 : decode cX12_atom 251 = .ok (.invokevirtual 151, 3) := by decide +kernel
theorem dX12_atom_254 : decode cX12_atom 254 = .ok (.aload_n 0, 1) := by decide +kernel
theorem dX12_atom_255 : decode cX12_atom 255 = .ok (.invokevirtual 121, 3) := by decide +kernel
theorem dX12_atom_258 : decode cX12_atom 258 = .ok (.iconst 1, 1) := by decide +kernel
theorem dX12_atom_259 : decode cX12_atom 259 = .ok (.ireturn, 1) := by decide +kernel
theorem dX12_joins_0 : decode cX12_joins 0 = .ok (.aload_n 0, 1) := by decide +kernel
theorem dX12_joins_1 : decode cX12_joins 1 = .ok (.aload_n 0, 1) := by decide +kernel
theorem dX12_joins_2 : decode cX12_joins 2 = .ok (.getfield 148, 3) := by decide +kernel
theorem dX12_joins_5 : decode cX12_joins 5 = .ok (.sipush 181, 3) := by decide +kernel
theorem dX12_joins_8 : decode cX12_joins 8 = .ok (.aload_n 0, 1) := by decide +kernel
theorem dX12_joins_9 : decode cX12_joins 9 = .ok (.getfield 145, 3) := by decide +kernel
theorem dX12_joins_12 : decode cX12_joins 12 = .ok (.iconst 2, 1) := by decide +kernel
theorem dX12_joins_13 : decode cX12_joins 13 = .ok (.isub, 1) := by decide +kernel
theorem dX12_joins_14 : decode cX12_joins 14 = .ok (.imul, 1) := by decide +kernel
theorem dX12_joins_15 : decode cX12_joins 15 = .ok (.aload_n 0, 1) := by decide +kernel
theorem dX12_joins_16 : decode cX12_joins 16 = .ok (.getfield 148, 3) := by decide +kernel
theorem dX12_joins_19 : decode cX12_joins 19 = .ok (.sipush 181, 3) := by decide +kernel
theorem dX12_joins_22 : decode cX12_joins 22 = .ok (.aload_n 0, 1) := by decide +kernel
theorem dX12_joins_23 : decode cX12_joins 23 = .ok (.getfield 145, 3) := by decide +kernel
theorem dX12_joins_26 : decode cX12_joins 26 = .ok (.iconst 1, 1) := by decide +kernel
theorem dX12_joins_27 : decode cX12_joins 27 = .ok (.isub, 1) := by decide +kernel
theorem dX12_joins_28 : decode cX12_joins 28 = .ok (.imul, 1) := by decide +kernel
theorem dX12_joins_29 : decode cX12_joins 29 = .ok (.aload_n 0, 1) := by decide +kernel
theorem dX12_joins_30 : decode cX12_joins 30 = .ok (.getfield 55, 3) := by decide +kernel
theorem dX12_joins_33 : decode cX12_joins 33 = .ok (.invokevirtual 32, 3) := by decide +kernel
theorem dX12_joins_36 : decode cX12_joins 36 = .ok (.aload_n 0, 1) := by decide +kernel
theorem dX12_joins_37 : decode cX12_joins 37 = .ok (.getfield 55, 3) := by decide +kernel
theorem dX12_joins_40 : decode cX12_joins 40 = .ok (.iconst 0, 1) := by decide +kernel
theorem dX12_joins_41 : decode cX12_joins 41 = .ok (.aload_n 0, 1) := by decide +kernel
theorem dX12_joins_42 : decode cX12_joins 42 = .ok (.getfield 148, 3) := by decide +kernel
theorem dX12_joins_45 : decode cX12_joins 45 = .ok (.sipush 181, 3) := by decide +kernel
theorem dX12_joins_48 : decode cX12_joins 48 = .ok (.aload_n 0, 1) := by decide +kernel
theorem dX12_joins_49 : decode cX12_joins 49 = .ok (.getfield 145, 3) := by decide +kernel
theorem dX12_joins_52 : decode cX12_joins 52 = .ok (.iconst 2, 1) := by decide +kernel
theorem dX12_joins_53 : decode cX12_joins 53 = .ok (.isub, 1) := by decide +kernel
theorem dX12_joins_54 : decode cX12_joins 54 = .ok (.imul, 1) := by decide +kernel
theorem dX12_joins_55 : decode cX12_joins 55 = .ok (.invokestatic 58, 3) := by decide +kernel
theorem dX12_joins_58 : decode cX12_joins 58 = .ok (.aload_n 0, 1) := by decide +kernel
theorem dX12_joins_59 : decode cX12_joins 59 = .ok (.getfield 142, 3) := by decide +kernel
theorem dX12_joins_62 : decode cX12_joins 62 = .ok (.aload_n 0, 1) := by decide +kernel
theorem dX12_joins_63 : decode cX12_joins 63 = .ok (.getfield 145, 3) := by decide +kernel
theorem dX12_joins_66 : decode cX12_joins 66 = .ok (.iconst 2, 1) := by decide +kernel
theorem dX12_joins_67 : decode cX12_joins 67 = .ok (.isub, 1) := by decide +kernel
theorem dX12_joins_68 : decode cX12_joins 68 = .ok (.dup2, 1) := by decide +kernel
theorem dX12_joins_69 : decode cX12_joins 69 = .ok (.iaload, 1) := by decide +kernel
theorem dX12_joins_70 : decode cX12_joins 70 = .ok (.aload_n 0, 1) := by decide +kernel
theorem dX12_joins_71 : decode cX12_joins 71 = .ok (.getfield 142, 3) := by decide +kernel
theorem dX12_joins_74 : decode cX12_joins 74 = .ok (.aload_n 0, 1) := by decide +kernel
theorem dX12_joins_75 : decode cX12_joins 75 = .ok (.getfield 145, 3) := by decide +kernel
theorem dX12_joins_78 : decode cX12_joins 78 = .ok (.iconst 1, 1) := by decide +kernel
theorem dX12_joins_79 : decode cX12_joins 79 = .ok (.isub, 1) := by decide +kernel
theorem dX12_joins_80 : decode cX12_joins 80 = .ok (.iaload, 1) := by decide +kernel
theorem dX12_joins_81 : decode cX12_joins 81 = .ok (.iadd, 1) := by decide +kernel
theorem dX12_joins_82 : decode cX12_joins 82 = .ok (.iastore, 1) := by decide +kernel
theorem dX12_joins_83 : decode cX12_joins 83 = .ok (.aload_n 0, 1) := by decide +kernel
theorem dX12_joins_84 : decode cX12_joins 84 = .ok (.dup, 1) := by decide +kernel
theorem dX12_joins_85 : decode cX12_joins 85 = .ok (.getfield 145, 3) := by decide +kernel
theorem dX12_joins_88 : decode cX12_joins 88 = .ok (.iconst 1, 1) := by decide +kernel
theorem dX12_joins_89 : decode cX12_joins 89 = .ok (.isub, 1) := by decide +kernel
theorem dX12_joins_90 : decode cX12_joins 90 = .ok (.putfield 145, 3) := by decide +kernel
theorem dX12_joins_93 : decode cX12_joins 93 = .ok (.return_, 1) := by decide +kernel
theorem dX12_power__0 : decode cX12_power_ 0 = .ok (.aload_n 0, 1) := by decide +kernel
theorem dX12_power__1 : decode cX12_power_ 1 = .ok (.getfield 94, 3) := by decide +kernel
theorem dX12_power__4 : decode cX12_power_ 4 = .ok (.istore_n 1, 1) := by decide +kernel
theorem dX12_power__5 : decode cX12_power_ 5 = .ok (.aload_n 0, 1) := by decide +kernel
theorem dX12_power__6 : decode cX12_power_ 6 = .ok (.invokevirtual 180, 3) := by decide +kernel
theorem dX12_power__9 : decode cX12_power_ 9 = .ok (.ifCond .ne 5, 3) := by decide +kernel
theorem dX12_power__12 : decode cX12_power_ 12 = .ok (.iconst 0, 1) := by decide +kernel
theorem dX12_power__13 : decode cX12_power_ 13 = .ok (.ireturn, 1) := by decide +kernel
theorem dX12_power__14 : decode cX12_power_ 14 = .ok (.aload_n 0, 1) := by decide +kernel
theorem dX12_power__15 : decode cX12_power_ 15 = .ok (.bipush 94, 2) := by decide +kernel
theorem dX12_power__17 : decode cX12_power_ 17 = .ok (.invokevirtual 115, 3) := by decide +kernel
theorem dX12_power__20 : decode cX12_power_ 20 = .ok (.ifCond .ne 5, 3) := by decide +kernel
theorem dX12_power__23 : decode cX12_power_ 23 = .ok (.iconst 1, 1) := by decide +kernel
theorem dX12_power__24 : decode cX12_power_ 24 = .ok (.ireturn, 1) := by decide +kernel
theorem dX12_power__25 : decode cX12_power_ 25 = .ok (.aload_n 0, 1) := by decide +kernel
theorem dX12_power__26 : decode cX12_power_ 26 = .ok (.invokevirtual 121, 3) := by decide +kernel
theorem dX12_power__29 : decode cX12_power_ 29 = .ok (.aload_n 0, 1) := by decide +kernel
theorem dX12_power__30 : decode cX12_power_ 30 = .ok (.getfield 97, 3) := by decide +kernel
theorem dX12_power__33 : decode cX12_power_ 33 = .ok (.iconst 2, 1) := by decide +kernel
theorem dX12_power__34 : decode cX12_power_ 34 = .ok (.if_icmp .eq 9, 3) := by decide +kernel
theorem dX12_power__37 : decode cX12_power_ 37 = .ok (.aload_n 0, 1) := by decide +kernel
theorem dX12_power__38 : decode cX12_power_ 38 = .ok (.iconst 1, 1) := by decide +kernel
theorem dX12_power__39 : decode cX12_power_ 39 = .ok (.invokevirtual 118, 3) := by decide +kernel
theorem dX12_power__42 : decode cX12_power_ 42 = .ok (.ireturn, 1) := by decide +kernel
theorem dX12_power__43 : decode cX12_power_ 43 = .ok (.aload_n 0, 1) := by decide +kernel
theorem dX12_power__44 : decode cX12_power_ 44 = .ok (.getfield 100, 3) := by decide +kernel
theorem dX12_power__47 : decode cX12_power_ 47 = .ok (.bipush 15, 2) := by decide +kernel
theorem dX12_power__49 : decode cX12_power_ 49 = .ok (.if_icmp .le 9, 3) := by decide +kernel
theorem dX12_power__52 : decode cX12_power_ 52 = .ok (.aload_n 0, 1) := by decide +kernel
theorem dX12_power__53 : decode cX12_power_ 53 = .ok (.iconst 4, 1) := by decide +kernel
theorem dX12_power__54 : decode cX12_power_ 54 = .ok (.invokevirtual 118, 3) := by decide +kernel
theorem dX12_power__57 : decode cX12_power_ 57 = .ok (.ireturn, 1) := by decide +kernel
theorem dX12_power__58 : decode cX12_power_ 58 = .ok (.aload_n 0, 1) := by decide +kernel
theorem dX12_power__59 : decode cX12_power_ 59 = .ok (.getfield 100, 3) := by decide +kernel
theorem dX12_power__62 : decode cX12_power_ 62 = .ok (.istore_n 2, 1) := by decide +kernel
theorem dX12_power__63 : decode cX12_power_ 63 = .ok (.aload_n 0, 1) := by decide +kernel
theorem dX12_power__64 : decode cX12_power_ 64 = .ok (.invokevirtual 121, 3) := by decide +kernel
theorem dX12_power__67 : decode cX12_power_ 67 = .ok (.aload_n 0, 1) := by decide +kernel
theorem dX12_power__68 : decode cX12_power_ 68 = .ok (.getfield 142, 3) := by decide +kernel
theorem dX12_power__71 : decode cX12_power_ 71 = .ok (.aload_n 0, 1) := by decide +kernel
theorem dX12_power__72 : decode cX12_power_ 72 = .ok (.getfield 145, 3) := by decide +kernel
theorem dX12_power__75 : decode cX12_power_ 75 = .ok (.iconst 1, 1) := by decide +kernel
theorem dX12_power__76 : decode cX12_power_ 76 = .ok (.isub, 1) := by decide +kernel
theorem dX12_power__77 : decode cX12_power_ 77 = .ok (.iaload, 1) := by decide +kernel
theorem dX12_power__78 : decode cX12_power_ 78 = .ok (.iload_n 2, 1) := by decide +kernel
theorem dX12_power__79 : decode cX12_power_ 79 = .ok (.imul, 1) := by decide +kernel
theorem dX12_power__80 : decode cX12_power_ 80 = .ok (.bipush 60, 2) := by decide +kernel
theorem dX12_power__82 : decode cX12_power_ 82 = .ok (.if_icmp .le 11, 3) := by decide +kernel
theorem dX12_power__85 : decode cX12_power_ 85 = .ok (.aload_n 0, 1) := by decide +kernel
theorem dX12_power__86 : decode cX12_power_ 86 = .ok (.iload_n 1, 1) := by decide +kernel
theorem dX12_power__87 : decode cX12_power_ 87 = .ok (.bipush 7, 2) := by decide +kernel
theorem dX12_power__89 : decode cX12_power_ 89 = .ok (.invokevirtual 111, 3) := by decide +kernel
theorem dX12_power__92 : decode cX12_power_ 92 = .ok (.ireturn, 1) := by decide +kernel
theorem dX12_power__93 : decode cX12_power_ 93 = .ok (.aload_n 0, 1) := by decide +kernel
theorem dX12_power__94 : decode cX12_power_ 94 = .ok (.getfield 145, 3) := by decide +kernel
theorem dX12_power__97 : decode cX12_power_ 97 = .ok (.iconst 1, 1) := by decide +kernel
theorem dX12_power__98 : decode cX12_power_ 98 = .ok (.isub, 1) := by decide +kernel
theorem dX12_power__99 : decode cX12_power_ 99 = .ok (.istore_n 3, 1) := by decide +kernel
theorem dX12_power__100 : decode cX12_power_ 100 = .ok (.aload_n 0, 1) := by decide +kernel
theorem dX12_power__101 : decode cX12_power_ 101 = .ok (.iconst 1, 1) := by decide +kernel
theorem dX12_power__102 : decode cX12_power_ 102 = .ok (.invokevirtual 155, 3) := by decide +kernel
theorem dX12_power__105 : decode cX12_power_ 105 = .ok (.iconst 0, 1) := by decide +kernel
theorem dX12_power__106 : decode cX12_power_ 106 = .ok (.istore 4, 2) := by decide +kernel
theorem dX12_power__108 : decode cX12_power_ 108 = .ok (.iload 4, 2) := by decide +kernel
theorem dX12_power__110 : decode cX12_power_ 110 = .ok (.iload_n 2, 1) := by decide +kernel
theorem dX12_power__111 : decode cX12_power_ 111 = .ok (.if_icmp .ge 62, 3) := by decide +kernel
theorem dX12_power__114 : decode cX12_power_ 114 = .ok (.aload_n 0, 1) := by decide +kernel
theorem dX12_power__115 : decode cX12_power_ 115 = .ok (.aload_n 0, 1) := by decide +kernel
theorem dX12_power__116 : decode cX12_power_ 116 = .ok (.getfield 148, 3) := by decide +kernel
theorem dX12_power__119 : decode cX12_power_ 119 = .ok (.sipush 181, 3) := by decide +kernel
theorem dX12_power__122 : decode cX12_power_ 122 = .ok (.iload_n 3, 1) := by decide +kernel
theorem dX12_power__123 : decode cX12_power_ 123 = .ok (.imul, 1) := by decide +kernel
theorem dX12_power__124 : decode cX12_power_ 124 = .ok (.aload_n 0, 1) := by decide +kernel
theorem dX12_power__125 : decode cX12_power_ 125 = .ok (.getfield 148, 3) := by decide +kernel
theorem dX12_power__128 : decode cX12_power_ 128 = .ok (.sipush 181, 3) := by decide +kernel
theorem dX12_power__131 : decode cX12_power_ 131 = .ok (.aload_n 0, 1) := by decide +kernel
theorem dX12_power__132 : decode cX12_power_ 132 = .ok (.getfield 145, 3) := by decide +kernel
theorem dX12_power__135 : decode cX12_power_ 135 = .ok (.iconst 1, 1) := by decide +kernel
theorem dX12_power__136 : decode cX12_power_ 136 = .ok (.isub, 1) := by decide +kernel
theorem dX12_power__137 : decode cX12_power_ 137 = .ok (.imul, 1) := by decide +kernel
theorem dX12_power__138 : decode cX12_power_ 138 = .ok (.aload_n 0, 1) := by decide +kernel
theorem dX12_power__139 : decode cX12_power_ 139 = .ok (.getfield 55, 3) := by decide +kernel
theorem dX12_power__142 : decode cX12_power_ 142 = .ok (.invokevirtual 32, 3) := by decide +kernel
theorem dX12_power__145 : decode cX12_power_ 145 = .ok (.aload_n 0, 1) := by decide +kernel
theorem dX12_power__146 : decode cX12_power_ 146 = .ok (.getfield 55, 3) := by decide +kernel
theorem dX12_power__149 : decode cX12_power_ 149 = .ok (.iconst 0, 1) := by decide +kernel
theorem dX12_power__150 : decode cX12_power_ 150 = .ok (.aload_n 0, 1) := by decide +kernel
theorem dX12_power__151 : decode cX12_power_ 151 = .ok (.getfield 148, 3) := by decide +kernel
theorem dX12_power__154 : decode cX12_power_ 154 = .ok (.sipush 181, 3) := by decide +kernel
theorem dX12_power__157 : decode cX12_power_ 157 = .ok (.aload_n 0, 1) := by decide +kernel
theorem dX12_power__158 : decode cX12_power_ 158 = .ok (.getfield 145, 3) := by decide +kernel
theorem dX12_power__161 : decode cX12_power_ 161 = .ok (.iconst 1, 1) := by decide +kernel
theorem dX12_power__162 : decode cX12_power_ 162 = .ok (.isub, 1) := by decide +kernel
theorem dX12_power__163 : decode cX12_power_ 163 = .ok (.imul, 1) := by decide +kernel
theorem dX12_power__164 : decode cX12_power_ 164 = .ok (.invokestatic 58, 3) := by decide +kernel
theorem dX12_power__167 : decode cX12_power_ 167 = .ok (.iinc 4 1, 3) := by decide +kernel
theorem dX12_power__170 : decode cX12_power_ 170 = .ok (.goto (-62), 3) := by decide +kernel
theorem dX12_power__173 : decode cX12_power_ 173 = .ok (.aload_n 0, 1) := by decide +kernel
theorem dX12_power__174 : decode cX12_power_ 174 = .ok (.getfield 148, 3) := by decide +kernel
theorem dX12_power__177 : decode cX12_power_ 177 = .ok (.sipush 181, 3) := by decide +kernel
theorem dX12_power__180 : decode cX12_power_ 180 = .ok (.aload_n 0, 1) := by decide +kernel
theorem dX12_power__181 : decode cX12_power_ 181 = .ok (.getfield 145, 3) := by decide +kernel
theorem dX12_power__184 : decode cX12_power_ 184 = .ok (.iconst 1, 1) := by decide +kernel
theorem dX12_power__185 : decode cX12_power_ 185 = .ok (.isub, 1) := by decide +kernel
theorem dX12_power__186 : decode cX12_power_ 186 = .ok (.imul, 1) := by decide +kernel
theorem dX12_power__187 : decode cX12_power_ 187 = .ok (.aload_n 0, 1) := by decide +kernel
theorem dX12_power__188 : decode cX12_power_ 188 = .ok (.getfield 148, 3) := by decide +kernel
theorem dX12_power__191 : decode cX12_power_ 191 = .ok (.sipush 181, 3) := by decide +kernel
theorem dX12_power__194 : decode cX12_power_ 194 = .ok (.iload_n 3, 1) := by decide +kernel
theorem dX12_power__195 : decode cX12_power_ 195 = .ok (.imul, 1) := by decide +kernel
theorem dX12_power__196 : decode cX12_power_ 196 = .ok (.invokestatic 58, 3) := by decide +kernel
theorem dX12_power__199 : decode cX12_power_ 199 = .ok (.aload_n 0, 1) := by decide +kernel
theorem dX12_power__200 : decode cX12_power_ 200 = .ok (.getfield 142, 3) := by decide +kernel
theorem dX12_power__203 : decode cX12_power_ 203 = .ok (.iload_n 3, 1) := by decide +kernel
theorem dX12_power__204 : decode cX12_power_ 204 = .ok (.dup2, 1) := by decide +kernel
theorem dX12_power__205 : decode cX12_power_ 205 = .ok (.iaload, 1) := by decide +kernel
theorem dX12_power__206 : decode cX12_power_ 206 = .ok (.iload_n 2, 1) := by decide +kernel
theorem dX12_power__207 : decode cX12_power_ 207 = .ok (.imul, 1) := by decide +kernel
theorem dX12_power__208 : decode cX12_power_ 208 = .ok (.iastore, 1) := by decide +kernel
theorem dX12_power__209 : decode cX12_power_ 209 = .ok (.aload_n 0, 1) := by decide +kernel
theorem dX12_power__210 : decode cX12_power_ 210 = .ok (.dup, 1) := by decide +kernel
theorem dX12_power__211 : decode cX12_power_ 211 = .ok (.getfield 145, 3) := by decide +kernel
theorem dX12_power__214 : decode cX12_power_ 214 = .ok (.iconst 1, 1) := by decide +kernel
theorem dX12_power__215 : decode cX12_power_ 215 = .ok (.isub, 1) := by decide +kernel
theorem dX12_power__216 : decode cX12_power_ 216 = .ok (.putfield 145, 3) := by decide +kernel
theorem dX12_power__219 : decode cX12_power_ 219 = .ok (.iconst 1, 1) := by decide +kernel
