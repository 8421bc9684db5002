theorem dX0_init_0 : decode cX0_init 0 = .ok (.aload_n 0, 1) := by decide +kernel
theorem dX0_init_1 : decode cX0_init 1 = .ok (.invokespecial 3, 3) := by decide +kernel
theorem dX0_init_4 : decode cX0_init 4 = .ok (.aload_n 0, 1) := by decide +kernel
theorem dX0_init_5 : decode cX0_init 5 = .ok (.bipush 6, 2) := by decide +kernel
theorem dX0_init_7 : decode cX0_init 7 = .ok (.invokestatic 9, 3) := by decide +kernel
theorem dX0_init_10 : decode cX0_init 10 = .ok (.putfield 13, 3) := by decide +kernel
theorem dX0_init_13 : decode cX0_init 13 = .ok (.aload_n 0, 1) := by decide +kernel
theorem dX0_init_14 : decode cX0_init 14 = .ok (.bipush 6, 2) := by decide +kernel
theorem dX0_init_16 : decode cX0_init 16 = .ok (.newarray .int, 2) := by decide +kernel
theorem dX0_init_18 : decode cX0_init 18 = .ok (.putfield 19, 3) := by decide +kernel
theorem dX0_init_21 : decode cX0_init 21 = .ok (.aload_n 0, 1) := by decide +kernel
theorem dX0_init_22 : decode cX0_init 22 = .ok (.new 23, 3) := by decide +kernel
theorem dX0_init_25 : decode cX0_init 25 = .ok (.dup, 1) := by decide +kernel
theorem dX0_init_26 : decode cX0_init 26 = .ok (.invokespecial 25, 3) := by decide +kernel
theorem dX0_init_29 : decode cX0_init 29 = .ok (.putfield 26, 3) := by decide +kernel
theorem dX0_init_32 : decode cX0_init 32 = .ok (.aload_n 0, 1) := by decide +kernel
theorem dX0_init_33 : decode cX0_init 33 = .ok (.bipush 9, 2) := by decide +kernel
theorem dX0_init_35 : decode cX0_init 35 = .ok (.invokestatic 9, 3) := by decide +kernel
theorem dX0_init_38 : decode cX0_init 38 = .ok (.putfield 30, 3) := by decide +kernel
theorem dX0_init_41 : decode cX0_init 41 = .ok (.aload_n 0, 1) := by decide +kernel
theorem dX0_init_42 : decode cX0_init 42 = .ok (.bipush 9, 2) := by decide +kernel
theorem dX0_init_44 : decode cX0_init 44 = .ok (.invokestatic 9, 3) := by decide +kernel
theorem dX0_init_47 : decode cX0_init 47 = .ok (.putfield 33, 3) := by decide +kernel
theorem dX0_init_50 : decode cX0_init 50 = .ok (.aload_n 0, 1) := by decide +kernel
theorem dX0_init_51 : decode cX0_init 51 = .ok (.bipush 9, 2) := by decide +kernel
theorem dX0_init_53 : decode cX0_init 53 = .ok (.invokestatic 9, 3) := by decide +kernel
theorem dX0_init_56 : decode cX0_init 56 = .ok (.putfield 36, 3) := by decide +kernel
theorem dX0_init_59 : decode cX0_init 59 = .ok (.aload_n 0, 1) := by decide +kernel
theorem dX0_init_60 : decode cX0_init 60 = .ok (.new 39, 3) := by decide +kernel
theorem dX0_init_63 : decode cX0_init 63 = .ok (.dup, 1) := by decide +kernel
theorem dX0_init_64 : decode cX0_init 64 = .ok (.invokespecial 41, 3) := by decide +kernel
theorem dX0_init_67 : decode cX0_init 67 = .ok (.putfield 42, 3) := by decide +kernel
theorem dX0_init_70 : decode cX0_init 70 = .ok (.return_, 1) := by decide +kernel
theorem dX0_open_0 : decode cX0_open 0 = .ok (.aload_n 0, 1) := by decide +kernel
theorem dX0_open_1 : decode cX0_open 1 = .ok (.getfield 26, 3) := by decide +kernel
theorem dX0_open_4 : decode cX0_open 4 = .ok (.aload_n 1, 1) := by decide +kernel
theorem dX0_open_5 : decode cX0_open 5 = .ok (.iload_n 2, 1) := by decide +kernel
theorem dX0_open_6 : decode cX0_open 6 = .ok (.invokevirtual 46, 3) := by decide +kernel
theorem dX0_open_9 : decode cX0_open 9 = .ok (.aload_n 0, 1) := by decide +kernel
theorem dX0_open_10 : decode cX0_open 10 = .ok (.iconst 0, 1) := by decide +kernel
theorem dX0_open_11 : decode cX0_open 11 = .ok (.putfield 50, 3) := by decide +kernel
theorem dX0_open_14 : decode cX0_open 14 = .ok (.aload_n 0, 1) := by decide +kernel
theorem dX0_open_15 : decode cX0_open 15 = .ok (.sipush 1009, 3) := by decide +kernel
theorem dX0_open_18 : decode cX0_open 18 = .ok (.putfield 54, 3) := by decide +kernel
theorem dX0_open_21 : decode cX0_open 21 = .ok (.aload_n 0, 1) := by decide +kernel
theorem dX0_open_22 : decode cX0_open 22 = .ok (.iconst 0, 1) := by decide +kernel
theorem dX0_open_23 : decode cX0_open 23 = .ok (.putfield 57, 3) := by decide +kernel
theorem dX0_open_26 : decode cX0_open 26 = .ok (.return_, 1) := by decide +kernel
theorem dX0_kind_0 : decode cX0_kind 0 = .ok (.aload_n 0, 1) := by decide +kernel
theorem dX0_kind_1 : decode cX0_kind 1 = .ok (.getfield 26, 3) := by decide +kernel
theorem dX0_kind_4 : decode cX0_kind 4 = .ok (.getfield 60, 3) := by decide +kernel
theorem dX0_kind_7 : decode cX0_kind 7 = .ok (.aload_n 0, 1) := by decide +kernel
theorem dX0_kind_8 : decode cX0_kind 8 = .ok (.getfield 50, 3) := by decide +kernel
theorem dX0_kind_11 : decode cX0_kind 11 = .ok (.iaload, 1) := by decide +kernel
theorem dX0_kind_12 : decode cX0_kind 12 = .ok (.ireturn, 1) := by decide +kernel
theorem dX0_value_0 : decode cX0_value 0 = .ok (.aload_n 0, 1) := by decide +kernel
theorem dX0_value_1 : decode cX0_value 1 = .ok (.getfield 26, 3) := by decide +kernel
theorem dX0_value_4 : decode cX0_value 4 = .ok (.getfield 63, 3) := by decide +kernel
theorem dX0_value_7 : decode cX0_value 7 = .ok (.aload_n 0, 1) := by decide +kernel
theorem dX0_value_8 : decode cX0_value 8 = .ok (.getfield 50, 3) := by decide +kernel
theorem dX0_value_11 : decode cX0_value 11 = .ok (.iaload, 1) := by decide +kernel
theorem dX0_value_12 : decode cX0_value 12 = .ok (.ireturn, 1) := by decide +kernel
theorem dX0_goOn_0 : decode cX0_goOn 0 = .ok (.aload_n 0, 1) := by decide +kernel
theorem dX0_goOn_1 : decode cX0_goOn 1 = .ok (.getfield 50, 3) := by decide +kernel
theorem dX0_goOn_4 : decode cX0_goOn 4 = .ok (.aload_n 0, 1) := by decide +kernel
theorem dX0_goOn_5 : decode cX0_goOn 5 = .ok (.getfield 26, 3) := by decide +kernel
theorem dX0_goOn_8 : decode cX0_goOn 8 = .ok (.getfield 66, 3) := by decide +kernel
theorem dX0_goOn_11 : decode cX0_goOn 11 = .ok (.if_icmp .ge 13, 3) := by decide +kernel
theorem dX0_goOn_14 : decode cX0_goOn 14 = .ok (.aload_n 0, 1) := by decide +kernel
theorem dX0_goOn_15 : decode cX0_goOn 15 = .ok (.dup, 1) := by decide +kernel
theorem dX0_goOn_16 : decode cX0_goOn 16 = .ok (.getfield 50, 3) := by decide +kernel
theorem dX0_goOn_19 : decode cX0_goOn 19 = .ok (.iconst 1, 1) := by decide +kernel
theorem dX0_goOn_20 : decode cX0_goOn 20 = .ok (.iadd, 1) := by decide +kernel
theorem dX0_goOn_21 : decode cX0_goOn 21 = .ok (.putfield 50, 3) := by decide +kernel
theorem dX0_goOn_24 : decode cX0_goOn 24 = .ok (.return_, 1) := by decide +kernel
theorem dX0_fail_0 : decode cX0_fail 0 = .ok (.aload_n 0, 1) := by decide +kernel
theorem dX0_fail_1 : decode cX0_fail 1 = .ok (.bipush 8, 2) := by decide +kernel
theorem dX0_fail_3 : decode cX0_fail 3 = .ok (.aload_n 0, 1) := by decide +kernel
theorem dX0_fail_4 : decode cX0_fail 4 = .ok (.getfield 26, 3) := by decide +kernel
theorem dX0_fail_7 : decode cX0_fail 7 = .ok (.getfield 69, 3) := by decide +kernel
theorem dX0_fail_10 : decode cX0_fail 10 = .ok (.iload_n 2, 1) := by decide +kernel
theorem dX0_fail_11 : decode cX0_fail 11 = .ok (.iaload, 1) := by decide +kernel
theorem dX0_fail_12 : decode cX0_fail 12 = .ok (.imul, 1) := by decide +kernel
theorem dX0_fail_13 : decode cX0_fail 13 = .ok (.iload_n 1, 1) := by decide +kernel
theorem dX0_fail_14 : decode cX0_fail 14 = .ok (.iadd, 1) := by decide +kernel
theorem dX0_fail_15 : decode cX0_fail 15 = .ok (.putfield 72, 3) := by decide +kernel
theorem dX0_fail_18 : decode cX0_fail 18 = .ok (.iconst 0, 1) := by decide +kernel
theorem dX0_fail_19 : decode cX0_fail 19 = .ok (.ireturn, 1) := by decide +kernel
theorem dX0_expect_0 : decode cX0_expect 0 = .ok (.aload_n 0, 1) := by decide +kernel
theorem dX0_expect_1 : decode cX0_expect 1 = .ok (.invokevirtual 75, 3) := by decide +kernel
theorem dX0_expect_4 : decode cX0_expect 4 = .ok (.iload_n 1, 1) := by decide +kernel
theorem dX0_expect_5 : decode cX0_expect 5 = .ok (.if_icmp .eq 13, 3) := by decide +kernel
theorem dX0_expect_8 : decode cX0_expect 8 = .ok (.aload_n 0, 1) := by decide +kernel
theorem dX0_expect_9 : decode cX0_expect 9 = .ok (.iconst 1, 1) := by decide +kernel
theorem dX0_expect_10 : decode cX0_expect 10 = .ok (.aload_n 0, 1) := by decide +kernel
theorem dX0_expect_11 : decode cX0_expect 11 = .ok (.getfield 50, 3) := by decide +kernel
theorem dX0_expect_14 : decode cX0_expect 14 = .ok (.invokevirtual 79, 3) := by decide +kernel
theorem dX0_expect_17 : decode cX0_expect 17 = .ok (.ireturn, 1) := by decide +kernel
theorem dX0_expect_18 : decode cX0_expect 18 = .ok (.aload_n 0, 1) := by decide +kernel
theorem dX0_expect_19 : decode cX0_expect 19 = .ok (.invokevirtual 83, 3) := by decide +kernel
theorem dX0_expect_22 : decode cX0_expect 22 = .ok (.iconst 1, 1) := by decide +kernel
theorem dX0_expect_23 : decode cX0_expect 23 = .ok (.ireturn, 1) := by decide +kernel
theorem dX0_readPrime_0 : decode cX0_readPrime 0 = .ok (.aload_n 0, 1) := by decide +kernel
theorem dX0_readPrime_1 : decode cX0_readPrime 1 = .ok (.invokevirtual 75, 3) := by decide +kernel
theorem dX0_readPrime_4 : decode cX0_readPrime 4 = .ok (.iconst 4, 1) := by decide +kernel
theorem dX0_readPrime_5 : decode cX0_readPrime 5 = .ok (.if_icmp .eq 5, 3) := by decide +kernel
theorem dX0_readPrime_8 : decode cX0_readPrime 8 = .ok (.iconst 1, 1) := by decide +kernel
theorem dX0_readPrime_9 : decode cX0_readPrime 9 = .ok (.ireturn, 1) := by decide +kernel
theorem dX0_readPrime_10 : decode cX0_readPrime 10 = .ok (.aload_n 0, 1) := by decide +kernel
theorem dX0_readPrime_11 : decode cX0_readPrime 11 = .ok (.invokevirtual 83, 3) := by decide +kernel
theorem dX0_readPrime_14 : decode cX0_readPrime 14 = .ok (.aload_n 0, 1) := by decide +kernel
theorem dX0_readPrime_15 : decode cX0_readPrime 15 = .ok (.invokevirtual 75, 3) := by decide +kernel
theorem dX0_readPrime_18 : decode cX0_readPrime 18 = .ok (.iconst 3, 1) := by decide +kernel
theorem dX0_readPrime_19 : decode cX0_readPrime 19 = .ok (.if_icmp .eq 13, 3) := by decide +kernel
theorem dX0_readPrime_22 : decode cX0_readPrime 22 = .ok (.aload_n 0, 1) := by decide +kernel
theorem dX0_readPrime_23 : decode cX0_readPrime 23 = .ok (.iconst 1, 1) := by decide +kernel
theorem dX0_readPrime_24 : decode cX0_readPrime 24 = .ok (.aload_n 0, 1) := by decide +kernel
theorem dX0_readPrime_25 : decode cX0_readPrime 25 = .ok (.getfield 50, 3) := by decide +kernel
theorem dX0_readPrime_28 : decode cX0_readPrime 28 = .ok (.invokevirtual 79, 3) := by decide +kernel
theorem dX0_readPrime_31 : decode cX0_readPrime 31 = .ok (.ireturn, 1) := by decide +kernel
theorem dX0_readPrime_32 : decode cX0_readPrime 32 = .ok (.aload_n 0, 1) := by decide +kernel
theorem dX0_readPrime_33 : decode cX0_readPrime 33 = .ok (.invokevirtual 86, 3) := by decide +kernel
theorem dX0_readPrime_36 : decode cX0_readPrime 36 = .ok (.invokestatic 89, 3) := by decide +kernel
theorem dX0_readPrime_39 : decode cX0_readPrime 39 = .ok (.ifCond .ne 13, 3) := by decide +kernel
theorem dX0_readPrime_42 : decode cX0_readPrime 42 = .ok (.aload_n 0, 1) := by decide +kernel
theorem dX0_readPrime_43 : decode cX0_readPrime 43 = .ok (.iconst 4, 1) := by decide +kernel
theorem dX0_readPrime_44 : decode cX0_readPrime 44 = .ok (.aload_n 0, 1) := by decide +kernel
theorem dX0_readPrime_45 : decode cX0_readPrime 45 = .ok (.getfield 50, 3) := by decide +kernel
theorem dX0_readPrime_48 : decode cX0_readPrime 48 = .ok (.invokevirtual 79, 3) := by decide +kernel
theorem dX0_readPrime_51 : decode cX0_readPrime 51 = .ok (.ireturn, 1) := by decide +kernel
theorem dX0_readPrime_52 : decode cX0_readPrime 52 = .ok (.aload_n 0, 1) := by decide +kernel
theorem dX0_readPrime_53 : decode cX0_readPrime 53 = .ok (.aload_n 0, 1) := by decide +kernel
theorem dX0_readPrime_54 : decode cX0_readPrime 54 = .ok (.invokevirtual 86, 3) := by decide +kernel
theorem dX0_readPrime_57 : decode cX0_readPrime 57 = .ok (.putfield 54, 3) := by decide +kernel
theorem dX0_readPrime_60 : decode cX0_readPrime 60 = .ok (.aload_n 0, 1) := by decide +kernel
theorem dX0_readPrime_61 : decode cX0_readPrime 61 = .ok (.invokevirtual 83, 3) := by decide +kernel
theorem dX0_readPrime_64 : decode cX0_readPrime 64 = .ok (.aload_n 0, 1) := by decide +kernel
theorem dX0_readPrime_65 : decode cX0_readPrime 65 = .ok (.bipush 59, 2) := by decide +kernel
theorem dX0_readPrime_67 : decode cX0_readPrime 67 = .ok (.invokevirtual 93, 3) := by decide +kernel
theorem dX0_readPrime_70 : decode cX0_readPrime 70 = .ok (.ireturn, 1) := by decide +kernel
theorem dX0_isPrime_0 : decode cX0_isPrime 0 = .ok (.iload_n 0, 1) := by decide +kernel
theorem dX0_isPrime_1 : decode cX0_isPrime 1 = .ok (.bipush 101, 2) := by decide +kernel
theorem dX0_isPrime_3 : decode cX0_isPrime 3 = .ok (.if_icmp .lt 10, 3) := by decide +kernel
theorem dX0_isPrime_6 : decode cX0_isPrime 6 = .ok (.iload_n 0, 1) := by decide +kernel
theorem dX0_isPrime_7 : decode cX0_isPrime 7 = .ok (.sipush 9973, 3) := by decide +kernel
theorem dX0_isPrime_10 : decode cX0_isPrime 10 = .ok (.if_icmp .le 5, 3) := by decide +kernel
theorem dX0_isPrime_13 : decode cX0_isPrime 13 = .ok (.iconst 0, 1) := by decide +kernel
theorem dX0_isPrime_14 : decode cX0_isPrime 14 = .ok (.ireturn, 1) := by decide +kernel
theorem dX0_isPrime_15 : decode cX0_isPrime 15 = .ok (.iconst 2, 1) := by decide +kernel
theorem dX0_isPrime_16 : decode cX0_isPrime 16 = .ok (.istore_n 1, 1) := by decide +kernel
theorem dX0_isPrime_17 : decode cX0_isPrime 17 = .ok (.iload_n 1, 1) := by decide +kernel
theorem dX0_isPrime_18 : decode cX0_isPrime 18 = .ok (.iload_n 1, 1) := by decide +kernel
theorem dX0_isPrime_19 : decode cX0_isPrime 19 = .ok (.imul, 1) := by decide +kernel
theorem dX0_isPrime_20 : decode cX0_isPrime 20 = .ok (.iload_n 0, 1) := by decide +kernel
theorem dX0_isPrime_21 : decode cX0_isPrime 21 = .ok (.if_icmp .gt 17, 3) := by decide +kernel
theorem dX0_isPrime_24 : decode cX0_isPrime 24 = .ok (.iload_n 0, 1) := by decide +kernel
theorem dX0_isPrime_25 : decode cX0_isPrime 25 = .ok (.iload_n 1, 1) := by decide +kernel
theorem dX0_isPrime_26 : decode cX0_isPrime 26 = .ok (.irem, 1) := by decide +kernel
theorem dX0_isPrime_27 : decode cX0_isPrime 27 = .ok (.ifCond .ne 5, 3) := by decide +kernel
theorem dX0_isPrime_30 : decode cX0_isPrime 30 = .ok (.iconst 0, 1) := by decide +kernel
theorem dX0_isPrime_31 : decode cX0_isPrime 31 = .ok (.ireturn, 1) := by decide +kernel
theorem dX0_isPrime_32 : decode cX0_isPrime 32 = .ok (.iinc 1 1, 3) := by decide +kernel
theorem dX0_isPrime_35 : decode cX0_isPrime 35 = .ok (.goto (-18), 3) := by decide +kernel
theorem dX0_isPrime_38 : decode cX0_isPrime 38 = .ok (.iconst 1, 1) := by decide +kernel
theorem dX0_isPrime_39 : decode cX0_isPrime 39 = .ok (.ireturn, 1) := by decide +kernel
theorem dX0_readLets_0 : decode cX0_readLets 0 = .ok (.iconst 0, 1) := by decide +kernel
theorem dX0_readLets_1 : decode cX0_readLets 1 = .ok (.istore_n 1, 1) := by decide +kernel
theorem dX0_readLets_2 : decode cX0_readLets 2 = .ok (.iload_n 1, 1) := by decide +kernel
theorem dX0_readLets_3 : decode cX0_readLets 3 = .ok (.bipush 6, 2) := by decide +kernel
theorem dX0_readLets_5 : decode cX0_readLets 5 = .ok (.if_icmp .gt 159, 3) := by decide +kernel
theorem dX0_readLets_8 : decode cX0_readLets 8 = .ok (.aload_n 0, 1) := by decide +kernel
theorem dX0_readLets_9 : decode cX0_readLets 9 = .ok (.invokevirtual 75, 3) := by decide +kernel
theorem dX0_readLets_12 : decode cX0_readLets 12 = .ok (.ifCond .eq 152, 3) := by decide +kernel
theorem dX0_readLets_15 : decode cX0_readLets 15 = .ok (.aload_n 0, 1) := by decide +kernel
theorem dX0_readLets_16 : decode cX0_readLets 16 = .ok (.invokevirtual 75, 3) := by decide +kernel
theorem dX0_readLets_19 : decode cX0_readLets 19 = .ok (.iconst 5, 1) := by decide +kernel
theorem dX0_readLets_20 : decode cX0_readLets 20 = .ok (.if_icmp .ne 22, 3) := by decide +kernel
theorem dX0_readLets_23 : decode cX0_readLets 23 = .ok (.aload_n 0, 1) := by decide +kernel
theorem dX0_readLets_24 : decode cX0_readLets 24 = .ok (.getfield 57, 3) := by decide +kernel
theorem dX0_readLets_27 : decode cX0_readLets 27 = .ok (.bipush 6, 2) := by decide +kernel
theorem dX0_readLets_29 : decode cX0_readLets 29 = .ok (.if_icmp .lt 13, 3) := by decide +kernel
theorem dX0_readLets_32 : decode cX0_readLets 32 = .ok (.aload_n 0, 1) := by decide +kernel
theorem dX0_readLets_33 : decode cX0_readLets 33 = .ok (.iconst 5, 1) := by decide +kernel
theorem dX0_readLets_34 : decode cX0_readLets 34 = .ok (.aload_n 0, 1) := by decide +kernel
theorem dX0_readLets_35 : decode cX0_readLets 35 = .ok (.getfield 50, 3) := by decide +kernel
theorem dX0_readLets_38 : decode cX0_readLets 38 = .ok (.invokevirtual 79, 3) := by decide +kernel
theorem dX0_readLets_41 : decode cX0_readLets 41 = .ok (.ireturn, 1) := by decide +kernel
theorem dX0_readLets_42 : decode cX0_readLets 42 = .ok (.aload_n 0, 1) := by decide +kernel
theorem dX0_readLets_43 : decode cX0_readLets 43 = .ok (.iconst 5, 1) := by decide +kernel
theorem dX0_readLets_44 : decode cX0_readLets 44 = .ok (.invokevirtual 93, 3) := by decide +kernel
theorem dX0_readLets_47 : decode cX0_readLets 47 = .ok (.ifCond .ne 5, 3) := by decide +kernel
theorem dX0_readLets_50 : decode cX0_readLets 50 = .ok (.iconst 0, 1) := by decide +kernel
theorem dX0_readLets_51 : decode cX0_readLets 51 = .ok (.ireturn, 1) := by decide +kernel
theorem dX0_readLets_52 : decode cX0_readLets 52 = .ok (.aload_n 0, 1) := by decide +kernel
theorem dX0_readLets_53 : decode cX0_readLets 53 = .ok (.invokevirtual 86, 3) := by decide +kernel
theorem dX0_readLets_56 : decode cX0_readLets 56 = .ok (.istore_n 2, 1) := by decide +kernel
theorem dX0_readLets_57 : decode cX0_readLets 57 = .ok (.aload_n 0, 1) := by decide +kernel
theorem dX0_readLets_58 : decode cX0_readLets 58 = .ok (.invokevirtual 75, 3) := by decide +kernel
theorem dX0_readLets_61 : decode cX0_readLets 61 = .ok (.iconst 2, 1) := by decide +kernel
theorem dX0_readLets_62 : decode cX0_readLets 62 = .ok (.if_icmp .ne 22, 3) := by decide +kernel
theorem dX0_readLets_65 : decode cX0_readLets 65 = .ok (.aload_n 0, 1) := by decide +kernel
theorem dX0_readLets_66 : decode cX0_readLets 66 = .ok (.iload_n 2, 1) := by decide +kernel
theorem dX0_readLets_67 : decode cX0_readLets 67 = .ok (.invokevirtual 96, 3) := by decide +kernel
theorem dX0_readLets_70 : decode cX0_readLets 70 = .ok (.iconst (-1), 1) := by decide +kernel
theorem dX0_readLets_71 : decode cX0_readLets 71 = .ok (.if_icmp .eq 13, 3) := by decide +kernel
theorem dX0_readLets_74 : decode cX0_readLets 74 = .ok (.aload_n 0, 1) := by decide +kernel
theorem dX0_readLets_75 : decode cX0_readLets 75 = .ok (.iconst 2, 1) := by decide +kernel
theorem dX0_readLets_76 : decode cX0_readLets 76 = .ok (.aload_n 0, 1) := by decide +kernel
theorem dX0_readLets_77 : decode cX0_readLets 77 = .ok (.getfield 50, 3) := by decide +kernel
theorem dX0_readLets_80 : decode cX0_readLets 80 = .ok (.invokevirtual 79, 3) := by decide +kernel
theorem dX0_readLets_83 : decode cX0_readLets 83 = .ok (.ireturn, 1) := by decide +kernel
theorem dX0_readLets_84 : decode cX0_readLets 84 = .ok (.aload_n 0, 1) := by decide +kernel
theorem dX0_readLets_85 : decode cX0_readLets 85 = .ok (.iconst 2, 1) := by decide +kernel
theorem dX0_readLets_86 : decode cX0_readLets 86 = .ok (.invokevirtual 93, 3) := by decide +kernel
theorem dX0_readLets_89 : decode cX0_readLets 89 = .ok (.ifCond .eq 29, 3) := by decide +kernel
theorem dX0_readLets_92 : decode cX0_readLets 92 = .ok (.aload_n 0, 1) := by decide +kernel
theorem dX0_readLets_93 : decode cX0_readLets 93 = .ok (.bipush 6, 2) := by decide +kernel
theorem dX0_readLets_95 : decode cX0_readLets 95 = .ok (.invokevirtual 93, 3) := by decide +kernel
theorem dX0_readLets_98 : decode cX0_readLets 98 = .ok (.ifCond .eq 20, 3) := by decide +kernel
theorem dX0_readLets_101 : decode cX0_readLets 101 = .ok (.aload_n 0, 1) := by decide +kernel
theorem dX0_readLets_102 : decode cX0_readLets 102 = .ok (.iconst 0, 1) := by decide +kernel
theorem dX0_readLets_103 : decode cX0_readLets 103 = .ok (.invokevirtual 100, 3) := by decide +kernel
theorem dX0_readLets_106 : decode cX0_readLets 106 = .ok (.ifCond .eq 12, 3) := by decide +kernel
theorem dX0_readLets_109 : decode cX0_readLets 109 = .ok (.aload_n 0, 1) := by decide +kernel
theorem dX0_readLets_110 : decode cX0_readLets 110 = .ok (.bipush 59, 2) := by decide +kernel
theorem dX0_readLets_112 : decode cX0_readLets 112 = .ok (.invokevirtual 93, 3) := by decide +kernel
theorem dX0_readLets_115 : decode cX0_readLets 115 = .ok (.ifCond .ne 5, 3) := by decide +kernel
theorem dX0_readLets_118 : decode cX0_readLets 118 = .ok (.iconst 0, 1) := by decide +kernel
theorem dX0_readLets_119 : decode cX0_readLets 119 = .ok (.ireturn, 1) := by decide +kernel
theorem dX0_readLets_120 : decode cX0_readLets 120 = .ok (.aload_n 0, 1) := by decide +kernel
theorem dX0_readLets_121 : decode cX0_readLets 121 = .ok (.getfield 19, 3) := by decide +kernel
theorem dX0_readLets_124 : decode cX0_readLets 124 = .ok (.aload_n 0, 1) := by decide +kernel
theorem dX0_readLets_125 : decode cX0_readLets 125 = .ok (.getfield 57, 3) := by decide +kernel
theorem dX0_readLets_128 : decode cX0_readLets 128 = .ok (.iload_n 2, 1) := by decide +kernel
theorem dX0_readLets_129 : decode cX0_readLets 129 = .ok (.iastore, 1) := by decide +kernel
theorem dX0_readLets_130 : decode cX0_readLets 130 = .ok (.aload_n 0, 1) := by decide +kernel
theorem dX0_readLets_131 : decode cX0_readLets 131 = .ok (.getfield 13, 3) := by decide +kernel
theorem dX0_readLets_134 : decode cX0_readLets 134 = .ok (.aload_n 0, 1) := by decide +kernel
theorem dX0_readLets_135 : decode cX0_readLets 135 = .ok (.getfield 57, 3) := by decide +kernel
theorem dX0_readLets_138 : decode cX0_readLets 138 = .ok (.aaload, 1) := by decide +kernel
theorem dX0_readLets_139 : decode cX0_readLets 139 = .ok (.aload_n 0, 1) := by decide +kernel
theorem dX0_readLets_140 : decode cX0_readLets 140 = .ok (.getfield 30, 3) := by decide +kernel
theorem dX0_readLets_143 : decode cX0_readLets 143 = .ok (.iconst 0, 1) := by decide +kernel
theorem dX0_readLets_144 : decode cX0_readLets 144 = .ok (.aaload, 1) := by decide +kernel
theorem dX0_readLets_145 : decode cX0_readLets 145 = .ok (.invokevirtual 103, 3) := by decide +kernel
theorem dX0_readLets_148 : decode cX0_readLets 148 = .ok (.aload_n 0, 1) := by decide +kernel
theorem dX0_readLets_149 : decode cX0_readLets 149 = .ok (.dup, 1) := by decide +kernel
theorem dX0_readLets_150 : decode cX0_readLets 150 = .ok (.getfield 57, 3) := by decide +kernel
theorem dX0_readLets_153 : decode cX0_readLets 153 = .ok (.iconst 1, 1) := by decide +kernel
theorem dX0_readLets_154 : decode cX0_readLets 154 = .ok (.iadd, 1) := by decide +kernel
theorem dX0_readLets_155 : decode cX0_readLets 155 = .ok (.putfield 57, 3) := by decide +kernel
theorem dX0_readLets_158 : decode cX0_readLets 158 = .ok (.iinc 1 1, 3) := by decide +kernel
theorem dX0_readLets_161 : decode cX0_readLets 161 = .ok (.goto (-159), 3) := by decide +kernel
theorem dX0_readLets_164 : decode cX0_readLets 164 = .ok (.iconst 1, 1) := by decide +kernel
theorem dX0_readLets_165 : decode cX0_readLets 165 = .ok (.ireturn, 1) := by decide +kernel
theorem dX0_findLet_0 : decode cX0_findLet 0 = .ok (.iconst 0, 1) := by decide +kernel
theorem dX0_findLet_1 : decode cX0_findLet 1 = .ok (.istore_n 2, 1) := by decide +kernel
theorem dX0_findLet_2 : decode cX0_findLet 2 = .ok (.iload_n 2, 1) := by decide +kernel
theorem dX0_findLet_3 : decode cX0_findLet 3 = .ok (.aload_n 0, 1) := by decide +kernel
theorem dX0_findLet_4 : decode cX0_findLet 4 = .ok (.getfield 57, 3) := by decide +kernel
theorem dX0_findLet_7 : decode cX0_findLet 7 = .ok (.if_icmp .ge 21, 3) := by decide +kernel
theorem dX0_findLet_10 : decode cX0_findLet 10 = .ok (.aload_n 0, 1) := by decide +kernel
theorem dX0_findLet_11 : decode cX0_findLet 11 = .ok (.getfield 19, 3) := by decide +kernel
theorem dX0_findLet_14 : decode cX0_findLet 14 = .ok (.iload_n 2, 1) := by decide +kernel
theorem dX0_findLet_15 : decode cX0_findLet 15 = .ok (.iaload, 1) := by decide +kernel
theorem dX0_findLet_16 : decode cX0_findLet 16 = .ok (.iload_n 1, 1) := by decide +kernel
theorem dX0_findLet_17 : decode cX0_findLet 17 = .ok (.if_icmp .ne 5, 3) := by decide +kernel
theorem dX0_findLet_20 : decode cX0_findLet 20 = .ok (.iload_n 2, 1) := by decide +kernel
theorem dX0_findLet_21 : decode cX0_findLet 21 = .ok (.ireturn, 1) := by decide +kernel
theorem dX0_findLet_22 : decode cX0_findLet 22 = .ok (.iinc 2 1, 3) := by decide +kernel
theorem dX0_findLet_25 : decode cX0_findLet 25 = .ok (.goto (-23), 3) := by decide +kernel
theorem dX0_findLet_28 : decode cX0_findLet 28 = .ok (.iconst (-1), 1) := by decide +kernel
theorem dX0_findLet_29 : decode cX0_findLet 29 = .ok (.ireturn, 1) := by decide +kernel
theorem dX0_readSum_0 : decode cX0_readSum 0 = .ok (.aload_n 0, 1) := by decide +kernel
theorem dX0_readSum_1 : decode cX0_readSum 1 = .ok (.iload_n 1, 1) := by decide +kernel
theorem dX0_readSum_2 : decode cX0_readSum 2 = .ok (.invokevirtual 107, 3) := by decide +kernel
theorem dX0_readSum_5 : decode cX0_readSum 5 = .ok (.ifCond .ne 5, 3) := by decide +kernel
theorem dX0_readSum_8 : decode cX0_readSum 8 = .ok (.iconst 0, 1) := by decide +kernel
theorem dX0_readSum_9 : decode cX0_readSum 9 = .ok (.ireturn, 1) := by decide +kernel
theorem dX0_readSum_10 : decode cX0_readSum 10 = .ok (.aload_n 0, 1) := by decide +kernel
theorem dX0_readSum_11 : decode cX0_readSum 11 = .ok (.getfield 30, 3) := by decide +kernel
theorem dX0_readSum_14 : decode cX0_readSum 14 = .ok (.iload_n 1, 1) := by decide +kernel
theorem dX0_readSum_15 : decode cX0_readSum 15 = .ok (.aaload, 1) := by decide +kernel
theorem dX0_readSum_16 : decode cX0_readSum 16 = .ok (.astore_n 2, 1) := by decide +kernel
theorem dX0_readSum_17 : decode cX0_readSum 17 = .ok (.aload_n 0, 1) := by decide +kernel
theorem dX0_readSum_18 : decode cX0_readSum 18 = .ok (.getfield 33, 3) := by decide +kernel
theorem dX0_readSum_21 : decode cX0_readSum 21 = .ok (.iload_n 1, 1) := by decide +kernel
theorem dX0_readSum_22 : decode cX0_readSum 22 = .ok (.aaload, 1) := by decide +kernel
theorem dX0_readSum_23 : decode cX0_readSum 23 = .ok (.astore_n 3, 1) := by decide +kernel
theorem dX0_readSum_24 : decode cX0_readSum 24 = .ok (.aload_n 2, 1) := by decide +kernel
theorem dX0_readSum_25 : decode cX0_readSum 25 = .ok (.aload_n 3, 1) := by decide +kernel
theorem dX0_readSum_26 : decode cX0_readSum 26 = .ok (.invokevirtual 103, 3) := by decide +kernel
theorem dX0_readSum_29 : decode cX0_readSum 29 = .ok (.iconst 0, 1) := by decide +kernel
theorem dX0_readSum_30 : decode cX0_readSum 30 = .ok (.istore 4, 2) := by decide +kernel
theorem dX0_readSum_32 : decode cX0_readSum 32 = .ok (.iload 4, 2) := by decide +kernel
theorem dX0_readSum_34 : decode cX0_readSum 34 = .ok (.aload_n 0, 1) := by decide +kernel
theorem dX0_readSum_35 : decode cX0_readSum 35 = .ok (.getfield 26, 3) := by decide +kernel
theorem dX0_readSum_38 : decode cX0_readSum 38 = .ok (.getfield 66, 3) := by decide +kernel
theorem dX0_readSum_41 : decode cX0_readSum 41 = .ok (.if_icmp .ge 99, 3) := by decide +kernel
theorem dX0_readSum_44 : decode cX0_readSum 44 = .ok (.aload_n 0, 1) := by decide +kernel
theorem dX0_readSum_45 : decode cX0_readSum 45 = .ok (.invokevirtual 75, 3) := by decide +kernel
theorem dX0_readSum_48 : decode cX0_readSum 48 = .ok (.bipush 43, 2) := by decide +kernel
theorem dX0_readSum_50 : decode cX0_readSum 50 = .ok (.if_icmp .eq 12, 3) := by decide +kernel
theorem dX0_readSum_53 : decode cX0_readSum 53 = .ok (.aload_n 0, 1) := by decide +kernel
theorem dX0_readSum_54 : decode cX0_readSum 54 = .ok (.invokevirtual 75, 3) := by decide +kernel
theorem dX0_readSum_57 : decode cX0_readSum 57 = .ok (.bipush 45, 2) := by decide +kernel
theorem dX0_readSum_59 : decode cX0_readSum 59 = .ok (.if_icmp .ne 81, 3) := by decide +kernel
theorem dX0_readSum_62 : decode cX0_readSum 62 = .ok (.aload_n 0, 1) := by decide +kernel
theorem dX0_readSum_63 : decode cX0_readSum 63 = .ok (.invokevirtual 75, 3) := by decide +kernel
theorem dX0_readSum_66 : decode cX0_readSum 66 = .ok (.bipush 43, 2) := by decide +kernel
theorem dX0_readSum_68 : decode cX0_readSum 68 = .ok (.if_icmp .ne 7, 3) := by decide +kernel
theorem dX0_readSum_71 : decode cX0_readSum 71 = .ok (.iconst 1, 1) := by decide +kernel
theorem dX0_readSum_72 : decode cX0_readSum 72 = .ok (.goto 9, 3) := by decide +kernel
theorem dX0_readSum_75 : decode cX0_readSum 75 = .ok (.aload_n 0, 1) := by decide +kernel
theorem dX0_readSum_76 : decode cX0_readSum 76 = .ok (.getfield 54, 3) := by decide +kernel
theorem dX0_readSum_79 : decode cX0_readSum 79 = .ok (.iconst 1, 1) := by decide +kernel
theorem dX0_readSum_80 : decode cX0_readSum 80 = .ok (.isub, 1) := by decide +kernel
theorem dX0_readSum_81 : decode cX0_readSum 81 = .ok (.istore 5, 2) := by decide +kernel
theorem dX0_readSum_83 : decode cX0_readSum 83 = .ok (.aload_n 0, 1) := by decide +kernel
theorem dX0_readSum_84 : decode cX0_readSum 84 = .ok (.invokevirtual 83, 3) := by decide +kernel
theorem dX0_readSum_87 : decode cX0_readSum 87 = .ok (.aload_n 0, 1) := by decide +kernel
theorem dX0_readSum_88 : decode cX0_readSum 88 = .ok (.getfield 50, 3) := by decide +kernel
theorem dX0_readSum_91 : decode cX0_readSum 91 = .ok (.istore 6, 2) := by decide +kernel
theorem dX0_readSum_93 : decode cX0_readSum 93 = .ok (.aload_n 0, 1) := by decide +kernel
theorem dX0_readSum_94 : decode cX0_readSum 94 = .ok (.iload_n 1, 1) := by decide +kernel
theorem dX0_readSum_95 : decode cX0_readSum 95 = .ok (.invokevirtual 107, 3) := by decide +kernel
theorem dX0_readSum_98 : decode cX0_readSum 98 = .ok (.ifCond .ne 5, 3) := by decide +kernel
theorem dX0_readSum_101 : decode cX0_readSum 101 = .ok (.iconst 0, 1) := by decide +kernel
theorem dX0_readSum_102 : decode cX0_readSum 102 = .ok (.ireturn, 1) := by decide +kernel
theorem dX0_readSum_103 : decode cX0_readSum 103 = .ok (.aload_n 3, 1) := by decide +kernel
theorem dX0_readSum_104 : decode cX0_readSum 104 = .ok (.getfield 110, 3) := by decide +kernel
theorem dX0_readSum_107 : decode cX0_readSum 107 = .ok (.aload_n 2, 1) := by decide +kernel
theorem dX0_readSum_108 : decode cX0_readSum 108 = .ok (.getfield 110, 3) := by decide +kernel
theorem dX0_readSum_111 : decode cX0_readSum 111 = .ok (.if_icmp .eq 12, 3) := by decide +kernel
theorem dX0_readSum_114 : decode cX0_readSum 114 = .ok (.aload_n 0, 1) := by decide +kernel
theorem dX0_readSum_115 : decode cX0_readSum 115 = .ok (.bipush 6, 2) := by decide +kernel
theorem dX0_readSum_117 : decode cX0_readSum 117 = .ok (.iload 6, 2) := by decide +kernel
theorem dX0_readSum_119 : decode cX0_readSum 119 = .ok (.invokevirtual 79, 3) := by decide +kernel
theorem dX0_readSum_122 : decode cX0_readSum 122 = .ok (.ireturn, 1) := by decide +kernel
theorem dX0_readSum_123 : decode cX0_readSum 123 = .ok (.aload_n 2, 1) := by decide +kernel
theorem dX0_readSum_124 : decode cX0_readSum 124 = .ok (.aload_n 3, 1) := by decide +kernel
theorem dX0_readSum_125 : decode cX0_readSum 125 = .ok (.iload 5, 2) := by decide +kernel
theorem dX0_readSum_127 : decode cX0_readSum 127 = .ok (.aload_n 0, 1) := by decide +kernel
theorem dX0_readSum_128 : decode cX0_readSum 128 = .ok (.getfield 54, 3) := by decide +kernel
theorem dX0_readSum_131 : decode cX0_readSum 131 = .ok (.invokevirtual 113, 3) := by decide +kernel
theorem dX0_readSum_134 : decode cX0_readSum 134 = .ok (.iinc 4 1, 3) := by decide +kernel
theorem dX0_readSum_137 : decode cX0_readSum 137 = .ok (.goto (-105), 3) := by decide +kernel
theorem dX0_readSum_140 : decode cX0_readSum 140 = .ok (.iconst 1, 1) := by decide +kernel
theorem dX0_readSum_141 : decode cX0_readSum 141 = .ok (.ireturn, 1) := by decide +kernel
theorem dX0_readProduct_0 : decode cX0_readProduct 0 = .ok (.aload_n 0, 1) := by decide +kernel
theorem dX0_readProduct_1 : decode cX0_readProduct 1 = .ok (.iload_n 1, 1) := by decide +kernel
theorem dX0_readProduct_2 : decode cX0_readProduct 2 = .ok (.invokevirtual 117, 3) := by decide +kernel
theorem dX0_readProduct_5 : decode cX0_readProduct 5 = .ok (.ifCond .ne 5, 3) := by decide +kernel
theorem dX0_readProduct_8 : decode cX0_readProduct 8 = .ok (.iconst 0, 1) := by decide +kernel
theorem dX0_readProduct_9 : decode cX0_readProduct 9 = .ok (.ireturn, 1) := by decide +kernel
theorem dX0_readProduct_10 : decode cX0_readProduct 10 = .ok (.aload_n 0, 1) := by decide +kernel
theorem dX0_readProduct_11 : decode cX0_readProduct 11 = .ok (.getfield 33, 3) := by decide +kernel
theorem dX0_readProduct_14 : decode cX0_readProduct 14 = .ok (.iload_n 1, 1) := by decide +kernel
theorem dX0_readProduct_15 : decode cX0_readProduct 15 = .ok (.aaload, 1) := by decide +kernel
theorem dX0_readProduct_16 : decode cX0_readProduct 16 = .ok (.astore_n 2, 1) := by decide +kernel
theorem dX0_readProduct_17 : decode cX0_readProduct 17 = .ok (.aload_n 0, 1) := by decide +kernel
theorem dX0_readProduct_18 : decode cX0_readProduct 18 = .ok (.getfield 36, 3) := by decide +kernel
theorem dX0_readProduct_21 : decode cX0_readProduct 21 = .ok (.iload_n 1, 1) := by decide +kernel
theorem dX0_readProduct_22 : decode cX0_readProduct 22 = .ok (.aaload, 1) := by decide +kernel
theorem dX0_readProduct_23 : decode cX0_readProduct 23 = .ok (.astore_n 3, 1) := by decide +kernel
theorem dX0_readProduct_24 : decode cX0_readProduct 24 = .ok (.aload_n 2, 1) := by decide +kernel
theorem dX0_readProduct_25 : decode cX0_readProduct 25 = .ok (.aload_n 3, 1) := by decide +kernel
theorem dX0_readProduct_26 : decode cX0_readProduct 26 = .ok (.invokevirtual 103, 3) := by decide +kernel
theorem dX0_readProduct_29 : decode cX0_readProduct 29 = .ok (.iconst 0, 1) := by decide +kernel
theorem dX0_readProduct_30 : decode cX0_readProduct 30 = .ok (.istore 4, 2) := by decide +kernel
theorem dX0_readProduct_32 : decode cX0_readProduct 32 = .ok (.iload 4, 2) := by decide +kernel
theorem dX0_readProduct_34 : decode cX0_readProduct 34 = .ok (.aload_n 0, 1) := by decide +kernel
theorem dX0_readProduct_35 : decode cX0_readProduct 35 = .ok (.getfield 26, 3) := by decide +kernel
theorem dX0_readProduct_38 : decode cX0_readProduct 38 = .ok (.getfield 66, 3) := by decide +kernel
theorem dX0_readProduct_41 : decode cX0_readProduct 41 = .ok (.if_icmp .ge 70, 3) := by decide +kernel
theorem dX0_readProduct_44 : decode cX0_readProduct 44 = .ok (.aload_n 0, 1) := by decide +kernel
theorem dX0_readProduct_45 : decode cX0_readProduct 45 = .ok (.invokevirtual 75, 3) := by decide +kernel
theorem dX0_readProduct_48 : decode cX0_readProduct 48 = .ok (.bipush 42, 2) := by decide +kernel
theorem dX0_readProduct_50 : decode cX0_readProduct 50 = .ok (.if_icmp .ne 61, 3) := by decide +kernel
theorem dX0_readProduct_53 : decode cX0_readProduct 53 = .ok (.aload_n 0, 1) := by decide +kernel
theorem dX0_readProduct_54 : decode cX0_readProduct 54 = .ok (.invokevirtual 83, 3) := by decide +kernel
theorem dX0_readProduct_57 : decode cX0_readProduct 57 = .ok (.aload_n 0, 1) := by decide +kernel
theorem dX0_readProduct_58 : decode cX0_readProduct 58 = .ok (.getfield 50, 3) := by decide +kernel
theorem dX0_readProduct_61 : decode cX0_readProduct 61 = .ok (.istore 5, 2) := by decide +kernel
theorem dX0_readProduct_63 : decode cX0_readProduct 63 = .ok (.aload_n 0, 1) := by decide +kernel
theorem dX0_readProduct_64 : decode cX0_readProduct 64 = .ok (.iload_n 1, 1) := by decide +kernel
theorem dX0_readProduct_65 : decode cX0_readProduct 65 = .ok (.invokevirtual 117, 3) := by decide +kernel
theorem dX0_readProduct_68 : decode cX0_readProduct 68 = .ok (.ifCond .ne 5, 3) := by decide +kernel
theorem dX0_readProduct_71 : decode cX0_readProduct 71 = .ok (.iconst 0, 1) := by decide +kernel
theorem dX0_readProduct_72 : decode cX0_readProduct 72 = .ok (.ireturn, 1) := by decide +kernel
theorem dX0_readProduct_73 : decode cX0_readProduct 73 = .ok (.aload_n 2, 1) := by decide +kernel
theorem dX0_readProduct_74 : decode cX0_readProduct 74 = .ok (.getfield 110, 3) := by decide +kernel
theorem dX0_readProduct_77 : decode cX0_readProduct 77 = .ok (.aload_n 3, 1) := by decide +kernel
theorem dX0_readProduct_78 : decode cX0_readProduct 78 = .ok (.getfield 110, 3) := by decide +kernel
theorem dX0_readProduct_81 : decode cX0_readProduct 81 = .ok (.iadd, 1) := by decide +kernel
theorem dX0_readProduct_82 : decode cX0_readProduct 82 = .ok (.bipush 60, 2) := by decide +kernel
theorem dX0_readProduct_84 : decode cX0_readProduct 84 = .ok (.if_icmp .le 12, 3) := by decide +kernel
theorem dX0_readProduct_87 : decode cX0_readProduct 87 = .ok (.aload_n 0, 1) := by decide +kernel
theorem dX0_readProduct_88 : decode cX0_readProduct 88 = .ok (.bipush 7, 2) := by decide +kernel
theorem dX0_readProduct_90 : decode cX0_readProduct 90 = .ok (.iload 5, 2) := by decide +kernel
theorem dX0_readProduct_92 : decode cX0_readProduct 92 = .ok (.invokevirtual 79, 3) := by decide +kernel
theorem dX0_readProduct_95 : decode cX0_readProduct 95 = .ok (.ireturn, 1) := by decide +kernel
theorem dX0_readProduct_96 : decode cX0_readProduct 96 = .ok (.aload_n 2, 1) := by decide +kernel
theorem dX0_readProduct_97 : decode cX0_readProduct 97 = .ok (.aload_n 3, 1) := by decide +kernel
theorem dX0_readProduct_98 : decode cX0_readProduct 98 = .ok (.aload_n 0, 1) := by decide +kernel
theorem dX0_readProduct_99 : decode cX0_readProduct 99 = .ok (.getfield 54, 3) := by decide +kernel
theorem dX0_readProduct_102 : decode cX0_readProduct 102 = .ok (.invokevirtual 120, 3) := by decide +kernel
theorem dX0_readProduct_105 : decode cX0_readProduct 105 = .ok (.iinc 4 1, 3) := by decide +kernel
theorem dX0_readProduct_108 : decode cX0_readProduct 108 = .ok (.goto (-76), 3) := by decide +kernel
theorem dX0_readProduct_111 : decode cX0_readProduct 111 = .ok (.iconst 1, 1) := by decide +kernel
theorem dX0_readProduct_112 : decode cX0_readProduct 112 = .ok (.ireturn, 1) := by decide +kernel
theorem dX0_readPower_0 : decode cX0_readPower 0 = .ok (.aload_n 0, 1) := by decide +kernel
theorem dX0_readPower_1 : decode cX0_readPower 1 = .ok (.getfield 50, 3) := by decide +kernel
theorem dX0_readPower_4 : decode cX0_readPower 4 = .ok (.istore_n 2, 1) := by decide +kernel
theorem dX0_readPower_5 : decode cX0_readPower 5 = .ok (.aload_n 0, 1) := by decide +kernel
theorem dX0_readPower_6 : decode cX0_readPower 6 = .ok (.iload_n 1, 1) := by decide +kernel
theorem dX0_readPower_7 : decode cX0_readPower 7 = .ok (.invokevirtual 124, 3) := by decide +kernel
theorem dX0_readPower_10 : decode cX0_readPower 10 = .ok (.ifCond .ne 5, 3) := by decide +kernel
theorem dX0_readPower_13 : decode cX0_readPower 13 = .ok (.iconst 0, 1) := by decide +kernel
theorem dX0_readPower_14 : decode cX0_readPower 14 = .ok (.ireturn, 1) := by decide +kernel
theorem dX0_readPower_15 : decode cX0_readPower 15 = .ok (.aload_n 0, 1) := by decide +kernel
theorem dX0_readPower_16 : decode cX0_readPower 16 = .ok (.invokevirtual 75, 3) := by decide +kernel
theorem dX0_readPower_19 : decode cX0_readPower 19 = .ok (.bipush 94, 2) := by decide +kernel
theorem dX0_readPower_21 : decode cX0_readPower 21 = .ok (.if_icmp .eq 5, 3) := by decide +kernel
theorem dX0_readPower_24 : decode cX0_readPower 24 = .ok (.iconst 1, 1) := by decide +kernel
theorem dX0_readPower_25 : decode cX0_readPower 25 = .ok (.ireturn, 1) := by decide +kernel
theorem dX0_readPower_26 : decode cX0_readPower 26 = .ok (.aload_n 0, 1) := by decide +kernel
theorem dX0_readPower_27 : decode cX0_readPower 27 = .ok (.invokevirtual 83, 3) := by decide +kernel
theorem dX0_readPower_30 : decode cX0_readPower 30 = .ok (.aload_n 0, 1) := by decide +kernel
theorem dX0_readPower_31 : decode cX0_readPower 31 = .ok (.invokevirtual 75, 3) := by decide +kernel
theorem dX0_readPower_34 : decode cX0_readPower 34 = .ok (.iconst 3, 1) := by decide +kernel
theorem dX0_readPower_35 : decode cX0_readPower 35 = .ok (.if_icmp .eq 13, 3) := by decide +kernel
theorem dX0_readPower_38 : decode cX0_readPower 38 = .ok (.aload_n 0, 1) := by decide +kernel
theorem dX0_readPower_39 : decode cX0_readPower 39 = .ok (.iconst 1, 1) := by decide +kernel
theorem dX0_readPower_40 : decode cX0_readPower 40 = .ok (.aload_n 0, 1) := by decide +kernel
theorem dX0_readPower_41 : decode cX0_readPower 41 = .ok (.getfield 50, 3) := by decide +kernel
theorem dX0_readPower_44 : decode cX0_readPower 44 = .ok (.invokevirtual 79, 3) := by decide +kernel
theorem dX0_readPower_47 : decode cX0_readPower 47 = .ok (.ireturn, 1) := by decide +kernel
theorem dX0_readPower_48 : decode cX0_readPower 48 = .ok (.aload_n 0, 1) := by decide +kernel
theorem dX0_readPower_49 : decode cX0_readPower 49 = .ok (.invokevirtual 86, 3) := by decide +kernel
theorem dX0_readPower_52 : decode cX0_readPower 52 = .ok (.istore_n 3, 1) := by decide +kernel
theorem dX0_readPower_53 : decode cX0_readPower 53 = .ok (.iload_n 3, 1) := by decide +kernel
theorem dX0_readPower_54 : decode cX0_readPower 54 = .ok (.ifCond .lt 9, 3) := by decide +kernel
theorem dX0_readPower_57 : decode cX0_readPower 57 = .ok (.iload_n 3, 1) := by decide +kernel
theorem dX0_readPower_58 : decode cX0_readPower 58 = .ok (.bipush 15, 2) := by decide +kernel
theorem dX0_readPower_60 : decode cX0_readPower 60 = .ok (.if_icmp .le 13, 3) := by decide +kernel
theorem dX0_readPower_63 : decode cX0_readPower 63 = .ok (.aload_n 0, 1) := by decide +kernel
theorem dX0_readPower_64 : decode cX0_readPower 64 = .ok (.iconst 4, 1) := by decide +kernel
theorem dX0_readPower_65 : decode cX0_readPower 65 = .ok (.aload_n 0, 1) := by decide +kernel
theorem dX0_readPower_66 : decode cX0_readPower 66 = .ok (.getfield 50, 3) := by decide +kernel
theorem dX0_readPower_69 : decode cX0_readPower 69 = .ok (.invokevirtual 79, 3) := by decide +kernel
theorem dX0_readPower_72 : decode cX0_readPower 72 = .ok (.ireturn, 1) := by decide +kernel
theorem dX0_readPower_73 : decode cX0_readPower 73 = .ok (.aload_n 0, 1) := by decide +kernel
theorem dX0_readPower_74 : decode cX0_readPower 74 = .ok (.invokevirtual 83, 3) := by decide +kernel
theorem dX0_readPower_77 : decode cX0_readPower 77 = .ok (.aload_n 0, 1) := by decide +kernel
theorem dX0_readPower_78 : decode cX0_readPower 78 = .ok (.getfield 36, 3) := by decide +kernel
theorem dX0_readPower_81 : decode cX0_readPower 81 = .ok (.iload_n 1, 1) := by decide +kernel
theorem dX0_readPower_82 : decode cX0_readPower 82 = .ok (.aaload, 1) := by decide +kernel
theorem dX0_readPower_83 : decode cX0_readPower 83 = .ok (.getfield 110, 3) := by decide +kernel
theorem dX0_readPower_86 : decode cX0_readPower 86 = .ok (.iload_n 3, 1) := by decide +kernel
theorem dX0_readPower_87 : decode cX0_readPower 87 = .ok (.imul, 1) := by decide +kernel
theorem dX0_readPower_88 : decode cX0_readPower 88 = .ok (.bipush 60, 2) := by decide +kernel
theorem dX0_readPower_90 : decode cX0_readPower 90 = .ok (.if_icmp .le 11, 3) := by decide +kernel
theorem dX0_readPower_93 : decode cX0_readPower 93 = .ok (.aload_n 0, 1) := by decide +kernel
theorem dX0_readPower_94 : decode cX0_readPower 94 = .ok (.bipush 7, 2) := by decide +kernel
theorem dX0_readPower_96 : decode cX0_readPower 96 = .ok (.iload_n 2, 1) := by decide +kernel
theorem dX0_readPower_97 : decode cX0_readPower 97 = .ok (.invokevirtual 79, 3) := by decide +kernel
theorem dX0_readPower_100 : decode cX0_readPower 100 = .ok (.ireturn, 1) := by decide +kernel
theorem dX0_readPower_101 : decode cX0_readPower 101 = .ok (.aload_n 0, 1) := by decide +kernel
theorem dX0_readPower_102 : decode cX0_readPower 102 = .ok (.aload_n 0, 1) := by decide +kernel
theorem dX0_readPower_103 : decode cX0_readPower 103 = .ok (.getfield 36, 3) := by decide +kernel
theorem dX0_readPower_106 : decode cX0_readPower 106 = .ok (.iload_n 1, 1) := by decide +kernel
theorem dX0_readPower_107 : decode cX0_readPower 107 = .ok (.aaload, 1) := by decide +kernel
theorem dX0_readPower_108 : decode cX0_readPower 108 = .ok (.iload_n 3, 1) := by decide +kernel
theorem dX0_readPower_109 : decode cX0_readPower 109 = .ok (.invokevirtual 127, 3) := by decide +kernel
theorem dX0_readPower_112 : decode cX0_readPower 112 = .ok (.iconst 1, 1) := by decide +kernel
theorem dX0_readPower_113 : decode cX0_readPower 113 = .ok (.ireturn, 1) := by decide +kernel
theorem dX0_raise_0 : decode cX0_raise 0 = .ok (.aload_n 0, 1) := by decide +kernel
theorem dX0_raise_1 : decode cX0_raise 1 = .ok (.getfield 42, 3) := by decide +kernel
theorem dX0_raise_4 : decode cX0_raise 4 = .ok (.aload_n 1, 1) := by decide +kernel
theorem dX0_raise_5 : decode cX0_raise 5 = .ok (.invokevirtual 103, 3) := by decide +kernel
theorem dX0_raise_8 : decode cX0_raise 8 = .ok (.aload_n 1, 1) := by decide +kernel
theorem dX0_raise_9 : decode cX0_raise 9 = .ok (.iconst 1, 1) := by decide +kernel
theorem dX0_raise_10 : decode cX0_raise 10 = .ok (.invokevirtual 130, 3) := by decide +kernel
theorem dX0_raise_13 : decode cX0_raise 13 = .ok (.iconst 0, 1) := by decide +kernel
theorem dX0_raise_14 : decode cX0_raise 14 = .ok (.istore_n 3, 1) := by decide +kernel
theorem dX0_raise_15 : decode cX0_raise 15 = .ok (.iload_n 3, 1) := by decide +kernel
theorem dX0_raise_16 : decode cX0_raise 16 = .ok (.iload_n 2, 1) := by decide +kernel
theorem dX0_raise_17 : decode cX0_raise 17 = .ok (.if_icmp .ge 21, 3) := by decide +kernel
theorem dX0_raise_20 : decode cX0_raise 20 = .ok (.aload_n 1, 1) := by decide +kernel
theorem dX0_raise_21 : decode cX0_raise 21 = .ok (.aload_n 0, 1) := by decide +kernel
theorem dX0_raise_22 : decode cX0_raise 22 = .ok (.getfield 42, 3) := by decide +kernel
theorem dX0_raise_25 : decode cX0_raise 25 = .ok (.aload_n 0, 1) := by decide +kernel
theorem dX0_raise_26 : decode cX0_raise 26 = .ok (.getfield 54, 3) := by decide +kernel
theorem dX0_raise_29 : decode cX0_raise 29 = .ok (.invokevirtual 120, 3) := by decide +kernel
theorem dX0_raise_32 : decode cX0_raise 32 = .ok (.iinc 3 1, 3) := by decide +kernel
theorem dX0_raise_35 : decode cX0_raise 35 = .ok (.goto (-20), 3) := by decide +kernel
theorem dX0_raise_38 : decode cX0_raise 38 = .ok (.return_, 1) := by decide +kernel
theorem dX0_readAtom_0 : decode cX0_readAtom 0 = .ok (.aload_n 0, 1) := by decide +kernel
theorem dX0_readAtom_1 : decode cX0_readAtom 1 = .ok (.getfield 36, 3) := by decide +kernel
theorem dX0_readAtom_4 : decode cX0_readAtom 4 = .ok (.iload_n 1, 1) := by decide +kernel
theorem dX0_readAtom_5 : decode cX0_readAtom 5 = .ok (.aaload, 1) := by decide +kernel
theorem dX0_readAtom_6 : decode cX0_readAtom 6 = .ok (.astore_n 2, 1) := by decide +kernel
theorem dX0_readAtom_7 : decode cX0_readAtom 7 = .ok (.aload_n 0, 1) := by decide +kernel
theorem dX0_readAtom_8 : decode cX0_readAtom 8 = .ok (.invokevirtual 75, 3) := by decide +kernel
theorem dX0_readAtom_11 : decode cX0_readAtom 11 = .ok (.lookupswitch 239 #[(2, 131), (3, 57), (7, 93), (8, 105), (9, 118), (40, 173)], 57) := by decide +kernel
theorem dX0_readAtom_68 : decode cX0_readAtom 68 = .ok (.aload_n 0, 1) := by decide +kernel
theorem dX0_readAtom_69 : decode cX0_readAtom 69 = .ok (.invokevirtual 86, 3) := by decide +kernel
theorem dX0_readAtom_72 : decode cX0_readAtom 72 = .ok (.ifCond .ge 13, 3) := by decide +kernel
theorem dX0_readAtom_75 : decode cX0_readAtom 75 = .ok (.aload_n 0, 1) := by decide +kernel
theorem dX0_readAtom_76 : decode cX0_readAtom 76 = .ok (.iconst 4, 1) := by decide +kernel
theorem dX0_readAtom_77 : decode cX0_readAtom 77 = .ok (.aload_n 0, 1) := by decide +kernel
theorem dX0_readAtom_78 : decode cX0_readAtom 78 = .ok (.getfield 50, 3) := by decide +kernel
theorem dX0_readAtom_81 : decode cX0_readAtom 81 = .ok (.invokevirtual 79, 3) := by decide +kernel
theorem dX0_readAtom_84 : decode cX0_readAtom 84 = .ok (.ireturn, 1) := by decide +kernel
theorem dX0_readAtom_85 : decode cX0_readAtom 85 = .ok (.aload_n 2, 1) := by decide +kernel
theorem dX0_readAtom_86 : decode cX0_readAtom 86 = .ok (.aload_n 0, 1) := by decide +kernel
theorem dX0_readAtom_87 : decode cX0_readAtom 87 = .ok (.invokevirtual 86, 3) := by decide +kernel
theorem dX0_readAtom_90 : decode cX0_readAtom 90 = .ok (.i2l, 1) := by decide +kernel
theorem dX0_readAtom_91 : decode cX0_readAtom 91 = .ok (.aload_n 0, 1) := by decide +kernel
theorem dX0_readAtom_92 : decode cX0_readAtom 92 = .ok (.getfield 54, 3) := by decide +kernel
theorem dX0_readAtom_95 : decode cX0_readAtom 95 = .ok (.invokestatic 134, 3) := by decide +kernel
theorem dX0_readAtom_98 : decode cX0_readAtom 98 = .ok (.invokevirtual 130, 3) := by decide +kernel
theorem dX0_readAtom_101 : decode cX0_readAtom 101 = .ok (.goto 159, 3) := by decide +kernel
theorem dX0_readAtom_104 : decode cX0_readAtom 104 = .ok (.aload_n 0, 1) := by decide +kernel
theorem dX0_readAtom_105 : decode cX0_readAtom 105 = .ok (.aload_n 2, 1) := by decide +kernel
theorem dX0_readAtom_106 : decode cX0_readAtom 106 = .ok (.iconst 4, 1) := by decide +kernel
theorem dX0_readAtom_107 : decode cX0_readAtom 107 = .ok (.getstatic 140, 3) := by decide +kernel
theorem dX0_readAtom_110 : decode cX0_readAtom 110 = .ok (.invokevirtual 143, 3) := by decide +kernel
theorem dX0_readAtom_113 : decode cX0_readAtom 113 = .ok (.goto 147, 3) := by decide +kernel
theorem dX0_readAtom_116 : decode cX0_readAtom 116 = .ok (.aload_n 0, 1) := by decide +kernel
theorem dX0_readAtom_117 : decode cX0_readAtom 117 = .ok (.aload_n 2, 1) := by decide +kernel
theorem dX0_readAtom_118 : decode cX0_readAtom 118 = .ok (.bipush 6, 2) := by decide +kernel
theorem dX0_readAtom_120 : decode cX0_readAtom 120 = .ok (.getstatic 147, 3) := by decide +kernel
theorem dX0_readAtom_123 : decode cX0_readAtom 123 = .ok (.invokevirtual 143, 3) := by decide +kernel
theorem dX0_readAtom_126 : decode cX0_readAtom 126 = .ok (.goto 134, 3) := by decide +kernel
theorem dX0_readAtom_129 : decode cX0_readAtom 129 = .ok (.aload_n 0, 1) := by decide +kernel
theorem dX0_readAtom_130 : decode cX0_readAtom 130 = .ok (.aload_n 2, 1) := by decide +kernel
theorem dX0_readAtom_131 : decode cX0_readAtom 131 = .ok (.bipush 12, 2) := by decide +kernel
theorem dX0_readAtom_133 : decode cX0_readAtom 133 = .ok (.getstatic 150, 3) := by decide +kernel
theorem dX0_readAtom_136 : decode cX0_readAtom 136 = .ok (.invokevirtual 143, 3) := by decide +kernel
theorem dX0_readAtom_139 : decode cX0_readAtom 139 = .ok (.goto 121, 3) := by decide +kernel
theorem dX0_readAtom_142 : decode cX0_readAtom 142 = .ok (.aload_n 0, 1) := by decide +kernel
theorem dX0_readAtom_143 : decode cX0_readAtom 143 = .ok (.aload_n 0, 1) := by decide +kernel
theorem dX0_readAtom_144 : decode cX0_readAtom 144 = .ok (.invokevirtual 86, 3) := by decide +kernel
theorem dX0_readAtom_147 : decode cX0_readAtom 147 = .ok (.invokevirtual 96, 3) := by decide +kernel
theorem dX0_readAtom_150 : decode cX0_readAtom 150 = .ok (.iconst (-1), 1) := by decide +kernel
theorem dX0_readAtom_151 : decode cX0_readAtom 151 = .ok (.if_icmp .ne 13, 3) := by decide +kernel
theorem dX0_readAtom_154 : decode cX0_readAtom 154 = .ok (.aload_n 0, 1) := by decide +kernel
theorem dX0_readAtom_155 : decode cX0_readAtom 155 = .ok (.iconst 3, 1) := by decide +kernel
theorem dX0_readAtom_156 : decode cX0_readAtom 156 = .ok (.aload_n 0, 1) := by decide +kernel
theorem dX0_readAtom_157 : decode cX0_readAtom 157 = .ok (.getfield 50, 3) := by decide +kernel
theorem dX0_readAtom_160 : decode cX0_readAtom 160 = .ok (.invokevirtual 79, 3) := by decide +kernel
theorem dX0_readAtom_163 : decode cX0_readAtom 163 = .ok (.ireturn, 1) := by decide +kernel
theorem dX0_readAtom_164 : decode cX0_readAtom 164 = .ok (.aload_n 2, 1) := by decide +kernel
theorem dX0_readAtom_165 : decode cX0_readAtom 165 = .ok (.aload_n 0, 1) := by decide +kernel
theorem dX0_readAtom_166 : decode cX0_readAtom 166 = .ok (.getfield 13, 3) := by decide +kernel
theorem dX0_readAtom_169 : decode cX0_readAtom 169 = .ok (.aload_n 0, 1) := by decide +kernel
theorem dX0_readAtom_170 : decode cX0_readAtom 170 = .ok (.aload_n 0, 1) := by decide +kernel
theorem dX0_readAtom_171 : decode cX0_readAtom 171 = .ok (.invokevirtual 86, 3) := by decide +kernel
theorem dX0_readAtom_174 : decode cX0_readAtom 174 = .ok (.invokevirtual 96, 3) := by decide +kernel
theorem dX0_readAtom_177 : decode cX0_readAtom 177 = .ok (.aaload, 1) := by decide +kernel
theorem dX0_readAtom_178 : decode cX0_readAtom 178 = .ok (.invokevirtual 103, 3) := by decide +kernel
theorem dX0_readAtom_181 : decode cX0_readAtom 181 = .ok (.goto 79, 3) := by decide +kernel
theorem dX0_readAtom_184 : decode cX0_readAtom 184 = .ok (.iload_n 1, 1) := by decide +kernel
theorem dX0_readAtom_185 : decode cX0_readAtom 185 = .ok (.bipush 8, 2) := by decide +kernel
theorem dX0_readAtom_187 : decode cX0_readAtom 187 = .ok (.if_icmp .lt 13, 3) := by decide +kernel
theorem dX0_readAtom_190 : decode cX0_readAtom 190 = .ok (.aload_n 0, 1) := by decide +kernel
theorem dX0_readAtom_191 : decode cX0_readAtom 191 = .ok (.iconst 5, 1) := by decide +kernel
theorem dX0_readAtom_192 : decode cX0_readAtom 192 = .ok (.aload_n 0, 1) := by decide +kernel
theorem dX0_readAtom_193 : decode cX0_readAtom 193 = .ok (.getfield 50, 3) := by decide +kernel
theorem dX0_readAtom_196 : decode cX0_readAtom 196 = .ok (.invokevirtual 79, 3) := by decide +kernel
theorem dX0_readAtom_199 : decode cX0_readAtom 199 = .ok (.ireturn, 1) := by decide +kernel
theorem dX0_readAtom_200 : decode cX0_readAtom 200 = .ok (.aload_n 0, 1) := by decide +kernel
theorem dX0_readAtom_201 : decode cX0_readAtom 201 = .ok (.invokevirtual 83, 3) := by decide +kernel
theorem dX0_readAtom_204 : decode cX0_readAtom 204 = .ok (.aload_n 0, 1) := by decide +kernel
theorem dX0_readAtom_205 : decode cX0_readAtom 205 = .ok (.iload_n 1, 1) := by decide +kernel
theorem dX0_readAtom_206 : decode cX0_readAtom 206 = .ok (.iconst 1, 1) := by decide +kernel
theorem dX0_readAtom_207 : decode cX0_readAtom 207 = .ok (.iadd, 1) := by decide +kernel
theorem dX0_readAtom_208 : decode cX0_readAtom 208 = .ok (.invokevirtual 100, 3) := by decide +kernel
theorem dX0_readAtom_211 : decode cX0_readAtom 211 = .ok (.ifCond .ne 5, 3) := by decide +kernel
theorem dX0_readAtom_214 : decode cX0_readAtom 214 = .ok (.iconst 0, 1) := by decide +kernel
theorem dX0_readAtom_215 : decode cX0_readAtom 215 = .ok (.ireturn, 1) := by decide +kernel
theorem dX0_readAtom_216 : decode cX0_readAtom 216 = .ok (.aload_n 0, 1) := by decide +kernel
theorem dX0_readAtom_217 : decode cX0_readAtom 217 = .ok (.invokevirtual 75, 3) := by decide +kernel
theorem dX0_readAtom_220 : decode cX0_readAtom 220 = .ok (.bipush 41, 2) := by decide +kernel
theorem dX0_readAtom_222 : decode cX0_readAtom 222 = .ok (.if_icmp .eq 13, 3) := by decide +kernel
theorem dX0_readAtom_225 : decode cX0_readAtom 225 = .ok (.aload_n 0, 1) := by decide +kernel
theorem dX0_readAtom_226 : decode cX0_readAtom 226 = .ok (.iconst 1, 1) := by decide +kernel
theorem dX0_readAtom_227 : decode cX0_readAtom 227 = .ok (.aload_n 0, 1) := by decide +kernel
theorem dX0_readAtom_228 : decode cX0_readAtom 228 = .ok (.getfield 50, 3) := by decide +kernel
theorem dX0_readAtom_231 : decode cX0_readAtom 231 = .ok (.invokevirtual 79, 3) := by decide +kernel
theorem dX0_readAtom_234 : decode cX0_readAtom 234 = .ok (.ireturn, 1) := by decide +kernel
theorem dX0_readAtom_235 : decode cX0_readAtom 235 = .ok (.aload_n 2, 1) := by decide +kernel
theorem dX0_readAtom_236 : decode cX0_readAtom 236 = .ok (.aload_n 0, 1) := by decide +kernel
theorem dX0_readAtom_237 : decode cX0_readAtom 237 = .ok (.getfield 30, 3) := by decide +kernel
theorem dX0_readAtom_240 : decode cX0_readAtom 240 = .ok (.iload_n 1, 1) := by decide +kernel
theorem dX0_readAtom_241 : decode cX0_readAtom 241 = .ok (.iconst 1, 1) := by decide +kernel
theorem dX0_readAtom_242 : decode cX0_readAtom 242 = .ok (.iadd, 1) := by decide +kernel
theorem dX0_readAtom_243 : decode cX0_readAtom 243 = .ok (.aaload, 1) := by decide +kernel
theorem dX0_readAtom_244 : decode cX0_readAtom 244 = .ok (.invokevirtual 103, 3) := by decide +kernel
theorem dX0_readAtom_247 : decode cX0_readAtom 247 = .ok (.goto 13, 3) := by decide +kernel
theorem dX0_readAtom_250 : decode cX0_readAtom 250 = .ok (.aload_n 0, 1) := by decide +kernel
theorem dX0_readAtom_251 : decode cX0_readAtom 251 = .ok (.iconst 1, 1) := by decide +kernel
theorem dX0_readAtom_252 : decode cX0_readAtom 252 = .ok (.aload_n 0, 1) := by decide +kernel
theorem dX0_readAtom_253 : decode cX0_readAtom 253 = .ok (.getfield 50, 3) := by decide +kernel
theorem dX0_readAtom_256 : decode cX0_readAtom 256 = .ok (.invokevirtual 79, 3) := by decide +kernel
theorem dX0_readAtom_259 : decode cX0_readAtom 259 = .ok (.ireturn, 1) := by decide +kernel
theorem dX0_readAtom_260 : decode cX0_readAtom 260 = .ok (.aload_n 0, 1) := by decide +kernel
theorem dX0_readAtom_261 : decode cX0_readAtom 261 = .ok (.invokevirtual 83, 3) := by decide +kernel
theorem dX0_readAtom_264 : decode cX0_readAtom 264 = .ok (.iconst 1, 1) := by decide +kernel
theorem dX0_readAtom_265 : decode cX0_readAtom 265 = .ok (.ireturn, 1) := by decide +kernel
theorem dX0_setKnown_0 : decode cX0_setKnown 0 = .ok (.aload_n 1, 1) := by decide +kernel
theorem dX0_setKnown_1 : decode cX0_setKnown 1 = .ok (.iload_n 2, 1) := by decide +kernel
theorem dX0_setKnown_2 : decode cX0_setKnown 2 = .ok (.putfield 110, 3) := by decide +kernel
theorem dX0_setKnown_5 : decode cX0_setKnown 5 = .ok (.iconst 0, 1) := by decide +kernel
theorem dX0_setKnown_6 : decode cX0_setKnown 6 = .ok (.istore 4, 2) := by decide +kernel
theorem dX0_setKnown_8 : decode cX0_setKnown 8 = .ok (.iload 4, 2) := by decide +kernel
theorem dX0_setKnown_10 : decode cX0_setKnown 10 = .ok (.bipush 6, 2) := by decide +kernel
theorem dX0_setKnown_12 : decode cX0_setKnown 12 = .ok (.if_icmp .ge 28, 3) := by decide +kernel
theorem dX0_setKnown_15 : decode cX0_setKnown 15 = .ok (.aload_n 1, 1) := by decide +kernel
theorem dX0_setKnown_16 : decode cX0_setKnown 16 = .ok (.getfield 153, 3) := by decide +kernel
theorem dX0_setKnown_19 : decode cX0_setKnown 19 = .ok (.iload 4, 2) := by decide +kernel
theorem dX0_setKnown_21 : decode cX0_setKnown 21 = .ok (.aload_n 3, 1) := by decide +kernel
theorem dX0_setKnown_22 : decode cX0_setKnown 22 = .ok (.iload 4, 2) := by decide +kernel
theorem dX0_setKnown_24 : decode cX0_setKnown 24 = .ok (.iaload, 1) := by decide +kernel
theorem dX0_setKnown_25 : decode cX0_setKnown 25 = .ok (.i2l, 1) := by decide +kernel
theorem dX0_setKnown_26 : decode cX0_setKnown 26 = .ok (.aload_n 0, 1) := by decide +kernel
theorem dX0_setKnown_27 : decode cX0_setKnown 27 = .ok (.getfield 54, 3) := by decide +kernel
theorem dX0_setKnown_30 : decode cX0_setKnown 30 = .ok (.invokestatic 134, 3) := by decide +kernel
theorem dX0_setKnown_33 : decode cX0_setKnown 33 = .ok (.iastore, 1) := by decide +kernel
theorem dX0_setKnown_34 : decode cX0_setKnown 34 = .ok (.iinc 4 1, 3) := by decide +kernel
theorem dX0_setKnown_37 : decode cX0_setKnown 37 = .ok (.goto (-29), 3) := by decide +kernel
theorem dX0_setKnown_40 : decode cX0_setKnown 40 = .ok (.return_, 1) := by decide +kernel
