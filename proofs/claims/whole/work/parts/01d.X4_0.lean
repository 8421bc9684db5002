theorem dX4_of_0 : decode cX4_of 0 = .ok (.iload_n 2, 1) := by decide +kernel
theorem dX4_of_1 : decode cX4_of 1 = .ok (.ifCond .gt 5, 3) := by decide +kernel
theorem dX4_of_4 : decode cX4_of 4 = .ok (.iconst 0, 1) := by decide +kernel
theorem dX4_of_5 : decode cX4_of 5 = .ok (.ireturn, 1) := by decide +kernel
theorem dX4_of_6 : decode cX4_of 6 = .ok (.lload_n 0, 1) := by decide +kernel
theorem dX4_of_7 : decode cX4_of 7 = .ok (.iload_n 2, 1) := by decide +kernel
theorem dX4_of_8 : decode cX4_of 8 = .ok (.i2l, 1) := by decide +kernel
theorem dX4_of_9 : decode cX4_of 9 = .ok (.lrem, 1) := by decide +kernel
theorem dX4_of_10 : decode cX4_of 10 = .ok (.l2i, 1) := by decide +kernel
theorem dX4_of_11 : decode cX4_of 11 = .ok (.istore_n 3, 1) := by decide +kernel
theorem dX4_of_12 : decode cX4_of 12 = .ok (.iload_n 3, 1) := by decide +kernel
theorem dX4_of_13 : decode cX4_of 13 = .ok (.ifCond .ge 9, 3) := by decide +kernel
theorem dX4_of_16 : decode cX4_of 16 = .ok (.iload_n 3, 1) := by decide +kernel
theorem dX4_of_17 : decode cX4_of 17 = .ok (.iload_n 2, 1) := by decide +kernel
theorem dX4_of_18 : decode cX4_of 18 = .ok (.iadd, 1) := by decide +kernel
theorem dX4_of_19 : decode cX4_of 19 = .ok (.goto 4, 3) := by decide +kernel
theorem dX4_of_22 : decode cX4_of 22 = .ok (.iload_n 3, 1) := by decide +kernel
theorem dX4_of_23 : decode cX4_of 23 = .ok (.ireturn, 1) := by decide +kernel
theorem dX4_power_0 : decode cX4_power 0 = .ok (.iconst 1, 1) := by decide +kernel
theorem dX4_power_1 : decode cX4_power 1 = .ok (.istore_n 3, 1) := by decide +kernel
theorem dX4_power_2 : decode cX4_power 2 = .ok (.iload_n 0, 1) := by decide +kernel
theorem dX4_power_3 : decode cX4_power 3 = .ok (.i2l, 1) := by decide +kernel
theorem dX4_power_4 : decode cX4_power 4 = .ok (.iload_n 2, 1) := by decide +kernel
theorem dX4_power_5 : decode cX4_power 5 = .ok (.invokestatic 7, 3) := by decide +kernel
theorem dX4_power_8 : decode cX4_power 8 = .ok (.istore 4, 2) := by decide +kernel
theorem dX4_power_10 : decode cX4_power 10 = .ok (.iload_n 1, 1) := by decide +kernel
theorem dX4_power_11 : decode cX4_power 11 = .ok (.istore 5, 2) := by decide +kernel
theorem dX4_power_13 : decode cX4_power 13 = .ok (.iload 5, 2) := by decide +kernel
theorem dX4_power_15 : decode cX4_power 15 = .ok (.ifCond .le 44, 3) := by decide +kernel
theorem dX4_power_18 : decode cX4_power 18 = .ok (.iload 5, 2) := by decide +kernel
theorem dX4_power_20 : decode cX4_power 20 = .ok (.iconst 1, 1) := by decide +kernel
theorem dX4_power_21 : decode cX4_power 21 = .ok (.iand, 1) := by decide +kernel
theorem dX4_power_22 : decode cX4_power 22 = .ok (.iconst 1, 1) := by decide +kernel
theorem dX4_power_23 : decode cX4_power 23 = .ok (.if_icmp .ne 14, 3) := by decide +kernel
theorem dX4_power_26 : decode cX4_power 26 = .ok (.iload_n 3, 1) := by decide +kernel
theorem dX4_power_27 : decode cX4_power 27 = .ok (.i2l, 1) := by decide +kernel
theorem dX4_power_28 : decode cX4_power 28 = .ok (.iload 4, 2) := by decide +kernel
theorem dX4_power_30 : decode cX4_power 30 = .ok (.i2l, 1) := by decide +kernel
theorem dX4_power_31 : decode cX4_power 31 = .ok (.lmul, 1) := by decide +kernel
theorem dX4_power_32 : decode cX4_power 32 = .ok (.iload_n 2, 1) := by decide +kernel
theorem dX4_power_33 : decode cX4_power 33 = .ok (.invokestatic 7, 3) := by decide +kernel
theorem dX4_power_36 : decode cX4_power 36 = .ok (.istore_n 3, 1) := by decide +kernel
theorem dX4_power_37 : decode cX4_power 37 = .ok (.iload 4, 2) := by decide +kernel
theorem dX4_power_39 : decode cX4_power 39 = .ok (.i2l, 1) := by decide +kernel
theorem dX4_power_40 : decode cX4_power 40 = .ok (.iload 4, 2) := by decide +kernel
theorem dX4_power_42 : decode cX4_power 42 = .ok (.i2l, 1) := by decide +kernel
theorem dX4_power_43 : decode cX4_power 43 = .ok (.lmul, 1) := by decide +kernel
theorem dX4_power_44 : decode cX4_power 44 = .ok (.iload_n 2, 1) := by decide +kernel
theorem dX4_power_45 : decode cX4_power 45 = .ok (.invokestatic 7, 3) := by decide +kernel
theorem dX4_power_48 : decode cX4_power 48 = .ok (.istore 4, 2) := by decide +kernel
theorem dX4_power_50 : decode cX4_power 50 = .ok (.iload 5, 2) := by decide +kernel
theorem dX4_power_52 : decode cX4_power 52 = .ok (.iconst 1, 1) := by decide +kernel
theorem dX4_power_53 : decode cX4_power 53 = .ok (.ishr, 1) := by decide +kernel
theorem dX4_power_54 : decode cX4_power 54 = .ok (.istore 5, 2) := by decide +kernel
theorem dX4_power_56 : decode cX4_power 56 = .ok (.goto (-43), 3) := by decide +kernel
theorem dX4_power_59 : decode cX4_power 59 = .ok (.iload_n 3, 1) := by decide +kernel
theorem dX4_power_60 : decode cX4_power 60 = .ok (.ireturn, 1) := by decide +kernel
theorem dX4_divide_0 : decode cX4_divide 0 = .ok (.iload_n 0, 1) := by decide +kernel
theorem dX4_divide_1 : decode cX4_divide 1 = .ok (.i2l, 1) := by decide +kernel
theorem dX4_divide_2 : decode cX4_divide 2 = .ok (.iload_n 1, 1) := by decide +kernel
theorem dX4_divide_3 : decode cX4_divide 3 = .ok (.iload_n 2, 1) := by decide +kernel
theorem dX4_divide_4 : decode cX4_divide 4 = .ok (.iconst 2, 1) := by decide +kernel
theorem dX4_divide_5 : decode cX4_divide 5 = .ok (.isub, 1) := by decide +kernel
theorem dX4_divide_6 : decode cX4_divide 6 = .ok (.iload_n 2, 1) := by decide +kernel
theorem dX4_divide_7 : decode cX4_divide 7 = .ok (.invokestatic 13, 3) := by decide +kernel
theorem dX4_divide_10 : decode cX4_divide 10 = .ok (.i2l, 1) := by decide +kernel
theorem dX4_divide_11 : decode cX4_divide 11 = .ok (.lmul, 1) := by decide +kernel
theorem dX4_divide_12 : decode cX4_divide 12 = .ok (.iload_n 2, 1) := by decide +kernel
theorem dX4_divide_13 : decode cX4_divide 13 = .ok (.invokestatic 7, 3) := by decide +kernel
theorem dX4_divide_16 : decode cX4_divide 16 = .ok (.ireturn, 1) := by decide +kernel
