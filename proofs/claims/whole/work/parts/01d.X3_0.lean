theorem dX3_init_0 : decode cX3_init 0 = .ok (.aload_n 0, 1) := by decide +kernel
theorem dX3_init_1 : decode cX3_init 1 = .ok (.invokespecial 3, 3) := by decide +kernel
theorem dX3_init_4 : decode cX3_init 4 = .ok (.aload_n 0, 1) := by decide +kernel
theorem dX3_init_5 : decode cX3_init 5 = .ok (.iconst 4, 1) := by decide +kernel
theorem dX3_init_6 : decode cX3_init 6 = .ok (.invokestatic 9, 3) := by decide +kernel
theorem dX3_init_9 : decode cX3_init 9 = .ok (.putfield 13, 3) := by decide +kernel
theorem dX3_init_12 : decode cX3_init 12 = .ok (.aload_n 0, 1) := by decide +kernel
theorem dX3_init_13 : decode cX3_init 13 = .ok (.invokestatic 19, 3) := by decide +kernel
theorem dX3_init_16 : decode cX3_init 16 = .ok (.putfield 23, 3) := by decide +kernel
theorem dX3_init_19 : decode cX3_init 19 = .ok (.return_, 1) := by decide +kernel
theorem dX3_lay_0 : decode cX3_lay 0 = .ok (.aload_n 1, 1) := by decide +kernel
theorem dX3_lay_1 : decode cX3_lay 1 = .ok (.aload_n 2, 1) := by decide +kernel
theorem dX3_lay_2 : decode cX3_lay 2 = .ok (.aload_n 0, 1) := by decide +kernel
theorem dX3_lay_3 : decode cX3_lay 3 = .ok (.getfield 13, 3) := by decide +kernel
theorem dX3_lay_6 : decode cX3_lay 6 = .ok (.aload_n 0, 1) := by decide +kernel
theorem dX3_lay_7 : decode cX3_lay 7 = .ok (.getfield 23, 3) := by decide +kernel
theorem dX3_lay_10 : decode cX3_lay 10 = .ok (.invokestatic 27, 3) := by decide +kernel
theorem dX3_lay_13 : decode cX3_lay 13 = .ok (.aload_n 0, 1) := by decide +kernel
theorem dX3_lay_14 : decode cX3_lay 14 = .ok (.iconst 1, 1) := by decide +kernel
theorem dX3_lay_15 : decode cX3_lay 15 = .ok (.putfield 31, 3) := by decide +kernel
theorem dX3_lay_18 : decode cX3_lay 18 = .ok (.return_, 1) := by decide +kernel
theorem dX3_bringBack_0 : decode cX3_bringBack 0 = .ok (.aload_n 0, 1) := by decide +kernel
theorem dX3_bringBack_1 : decode cX3_bringBack 1 = .ok (.getfield 31, 3) := by decide +kernel
theorem dX3_bringBack_4 : decode cX3_bringBack 4 = .ok (.ifCond .ne 5, 3) := by decide +kernel
theorem dX3_bringBack_7 : decode cX3_bringBack 7 = .ok (.iconst 0, 1) := by decide +kernel
theorem dX3_bringBack_8 : decode cX3_bringBack 8 = .ok (.ireturn, 1) := by decide +kernel
theorem dX3_bringBack_9 : decode cX3_bringBack 9 = .ok (.iconst 0, 1) := by decide +kernel
theorem dX3_bringBack_10 : decode cX3_bringBack 10 = .ok (.istore_n 3, 1) := by decide +kernel
theorem dX3_bringBack_11 : decode cX3_bringBack 11 = .ok (.iload_n 3, 1) := by decide +kernel
theorem dX3_bringBack_12 : decode cX3_bringBack 12 = .ok (.iconst 2, 1) := by decide +kernel
theorem dX3_bringBack_13 : decode cX3_bringBack 13 = .ok (.if_icmp .ge 29, 3) := by decide +kernel
theorem dX3_bringBack_16 : decode cX3_bringBack 16 = .ok (.aload_n 2, 1) := by decide +kernel
theorem dX3_bringBack_17 : decode cX3_bringBack 17 = .ok (.iload_n 3, 1) := by decide +kernel
theorem dX3_bringBack_18 : decode cX3_bringBack 18 = .ok (.aaload, 1) := by decide +kernel
theorem dX3_bringBack_19 : decode cX3_bringBack 19 = .ok (.getfield 35, 3) := by decide +kernel
theorem dX3_bringBack_22 : decode cX3_bringBack 22 = .ok (.aload_n 0, 1) := by decide +kernel
theorem dX3_bringBack_23 : decode cX3_bringBack 23 = .ok (.getfield 23, 3) := by decide +kernel
theorem dX3_bringBack_26 : decode cX3_bringBack 26 = .ok (.iload_n 3, 1) := by decide +kernel
theorem dX3_bringBack_27 : decode cX3_bringBack 27 = .ok (.aaload, 1) := by decide +kernel
theorem dX3_bringBack_28 : decode cX3_bringBack 28 = .ok (.getfield 35, 3) := by decide +kernel
theorem dX3_bringBack_31 : decode cX3_bringBack 31 = .ok (.if_icmp .eq 5, 3) := by decide +kernel
theorem dX3_bringBack_34 : decode cX3_bringBack 34 = .ok (.iconst 0, 1) := by decide +kernel
theorem dX3_bringBack_35 : decode cX3_bringBack 35 = .ok (.ireturn, 1) := by decide +kernel
theorem dX3_bringBack_36 : decode cX3_bringBack 36 = .ok (.iinc 3 1, 3) := by decide +kernel
theorem dX3_bringBack_39 : decode cX3_bringBack 39 = .ok (.goto (-28), 3) := by decide +kernel
theorem dX3_bringBack_42 : decode cX3_bringBack 42 = .ok (.aload_n 0, 1) := by decide +kernel
theorem dX3_bringBack_43 : decode cX3_bringBack 43 = .ok (.getfield 13, 3) := by decide +kernel
theorem dX3_bringBack_46 : decode cX3_bringBack 46 = .ok (.aload_n 0, 1) := by decide +kernel
theorem dX3_bringBack_47 : decode cX3_bringBack 47 = .ok (.getfield 23, 3) := by decide +kernel
theorem dX3_bringBack_50 : decode cX3_bringBack 50 = .ok (.aload_n 1, 1) := by decide +kernel
theorem dX3_bringBack_51 : decode cX3_bringBack 51 = .ok (.aload_n 2, 1) := by decide +kernel
theorem dX3_bringBack_52 : decode cX3_bringBack 52 = .ok (.invokestatic 27, 3) := by decide +kernel
theorem dX3_bringBack_55 : decode cX3_bringBack 55 = .ok (.iconst 1, 1) := by decide +kernel
theorem dX3_bringBack_56 : decode cX3_bringBack 56 = .ok (.ireturn, 1) := by decide +kernel
theorem dX3_copyAll_0 : decode cX3_copyAll 0 = .ok (.iconst 0, 1) := by decide +kernel
theorem dX3_copyAll_1 : decode cX3_copyAll 1 = .ok (.istore 4, 2) := by decide +kernel
theorem dX3_copyAll_3 : decode cX3_copyAll 3 = .ok (.iload 4, 2) := by decide +kernel
theorem dX3_copyAll_5 : decode cX3_copyAll 5 = .ok (.iconst 4, 1) := by decide +kernel
theorem dX3_copyAll_6 : decode cX3_copyAll 6 = .ok (.if_icmp .ge 20, 3) := by decide +kernel
theorem dX3_copyAll_9 : decode cX3_copyAll 9 = .ok (.aload_n 2, 1) := by decide +kernel
theorem dX3_copyAll_10 : decode cX3_copyAll 10 = .ok (.iload 4, 2) := by decide +kernel
theorem dX3_copyAll_12 : decode cX3_copyAll 12 = .ok (.aaload, 1) := by decide +kernel
theorem dX3_copyAll_13 : decode cX3_copyAll 13 = .ok (.aload_n 0, 1) := by decide +kernel
theorem dX3_copyAll_14 : decode cX3_copyAll 14 = .ok (.iload 4, 2) := by decide +kernel
theorem dX3_copyAll_16 : decode cX3_copyAll 16 = .ok (.aaload, 1) := by decide +kernel
theorem dX3_copyAll_17 : decode cX3_copyAll 17 = .ok (.invokevirtual 40, 3) := by decide +kernel
theorem dX3_copyAll_20 : decode cX3_copyAll 20 = .ok (.iinc 4 1, 3) := by decide +kernel
theorem dX3_copyAll_23 : decode cX3_copyAll 23 = .ok (.goto (-20), 3) := by decide +kernel
theorem dX3_copyAll_26 : decode cX3_copyAll 26 = .ok (.iconst 0, 1) := by decide +kernel
theorem dX3_copyAll_27 : decode cX3_copyAll 27 = .ok (.istore 4, 2) := by decide +kernel
theorem dX3_copyAll_29 : decode cX3_copyAll 29 = .ok (.iload 4, 2) := by decide +kernel
theorem dX3_copyAll_31 : decode cX3_copyAll 31 = .ok (.iconst 2, 1) := by decide +kernel
theorem dX3_copyAll_32 : decode cX3_copyAll 32 = .ok (.if_icmp .ge 20, 3) := by decide +kernel
theorem dX3_copyAll_35 : decode cX3_copyAll 35 = .ok (.aload_n 3, 1) := by decide +kernel
theorem dX3_copyAll_36 : decode cX3_copyAll 36 = .ok (.iload 4, 2) := by decide +kernel
theorem dX3_copyAll_38 : decode cX3_copyAll 38 = .ok (.aaload, 1) := by decide +kernel
theorem dX3_copyAll_39 : decode cX3_copyAll 39 = .ok (.aload_n 1, 1) := by decide +kernel
theorem dX3_copyAll_40 : decode cX3_copyAll 40 = .ok (.iload 4, 2) := by decide +kernel
theorem dX3_copyAll_42 : decode cX3_copyAll 42 = .ok (.aaload, 1) := by decide +kernel
theorem dX3_copyAll_43 : decode cX3_copyAll 43 = .ok (.invokevirtual 46, 3) := by decide +kernel
theorem dX3_copyAll_46 : decode cX3_copyAll 46 = .ok (.iinc 4 1, 3) := by decide +kernel
theorem dX3_copyAll_49 : decode cX3_copyAll 49 = .ok (.goto (-20), 3) := by decide +kernel
theorem dX3_copyAll_52 : decode cX3_copyAll 52 = .ok (.return_, 1) := by decide +kernel
