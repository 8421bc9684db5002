theorem dX10_isAsked_0 : decode cX10_isAsked 0 = .ok (.iload_n 0, 1) := by decide +kernel
theorem dX10_isAsked_1 : decode cX10_isAsked 1 = .ok (.invokestatic 9, 3) := by decide +kernel
theorem dX10_isAsked_4 : decode cX10_isAsked 4 = .ok (.ifCond .eq 23, 3) := by decide +kernel
theorem dX10_isAsked_7 : decode cX10_isAsked 7 = .ok (.iload_n 0, 1) := by decide +kernel
theorem dX10_isAsked_8 : decode cX10_isAsked 8 = .ok (.iconst 4, 1) := by decide +kernel
theorem dX10_isAsked_9 : decode cX10_isAsked 9 = .ok (.if_icmp .lt 18, 3) := by decide +kernel
theorem dX10_isAsked_12 : decode cX10_isAsked 12 = .ok (.iload_n 1, 1) := by decide +kernel
theorem dX10_isAsked_13 : decode cX10_isAsked 13 = .ok (.iconst 1, 1) := by decide +kernel
theorem dX10_isAsked_14 : decode cX10_isAsked 14 = .ok (.if_icmp .lt 13, 3) := by decide +kernel
theorem dX10_isAsked_17 : decode cX10_isAsked 17 = .ok (.iload_n 1, 1) := by decide +kernel
theorem dX10_isAsked_18 : decode cX10_isAsked 18 = .ok (.bipush 60, 2) := by decide +kernel
theorem dX10_isAsked_20 : decode cX10_isAsked 20 = .ok (.if_icmp .gt 7, 3) := by decide +kernel
theorem dX10_isAsked_23 : decode cX10_isAsked 23 = .ok (.iconst 1, 1) := by decide +kernel
theorem dX10_isAsked_24 : decode cX10_isAsked 24 = .ok (.goto 4, 3) := by decide +kernel
theorem dX10_isAsked_27 : decode cX10_isAsked 27 = .ok (.iconst 0, 1) := by decide +kernel
theorem dX10_isAsked_28 : decode cX10_isAsked 28 = .ok (.ireturn, 1) := by decide +kernel
theorem dX10_exact_0 : decode cX10_exact 0 = .ok (.lconst 0, 1) := by decide +kernel
theorem dX10_exact_1 : decode cX10_exact 1 = .ok (.lstore_n 2, 1) := by decide +kernel
theorem dX10_exact_2 : decode cX10_exact 2 = .ok (.iload_n 1, 1) := by decide +kernel
theorem dX10_exact_3 : decode cX10_exact 3 = .ok (.invokestatic 17, 3) := by decide +kernel
theorem dX10_exact_6 : decode cX10_exact 6 = .ok (.istore 4, 2) := by decide +kernel
theorem dX10_exact_8 : decode cX10_exact 8 = .ok (.iload 4, 2) := by decide +kernel
theorem dX10_exact_10 : decode cX10_exact 10 = .ok (.ineg, 1) := by decide +kernel
theorem dX10_exact_11 : decode cX10_exact 11 = .ok (.istore 5, 2) := by decide +kernel
theorem dX10_exact_13 : decode cX10_exact 13 = .ok (.iload 5, 2) := by decide +kernel
theorem dX10_exact_15 : decode cX10_exact 15 = .ok (.iload 4, 2) := by decide +kernel
theorem dX10_exact_17 : decode cX10_exact 17 = .ok (.if_icmp .gt 41, 3) := by decide +kernel
theorem dX10_exact_20 : decode cX10_exact 20 = .ok (.iconst 4, 1) := by decide +kernel
theorem dX10_exact_21 : decode cX10_exact 21 = .ok (.iload_n 1, 1) := by decide +kernel
theorem dX10_exact_22 : decode cX10_exact 22 = .ok (.imul, 1) := by decide +kernel
theorem dX10_exact_23 : decode cX10_exact 23 = .ok (.iload 5, 2) := by decide +kernel
theorem dX10_exact_25 : decode cX10_exact 25 = .ok (.iload 5, 2) := by decide +kernel
theorem dX10_exact_27 : decode cX10_exact 27 = .ok (.imul, 1) := by decide +kernel
theorem dX10_exact_28 : decode cX10_exact 28 = .ok (.isub, 1) := by decide +kernel
theorem dX10_exact_29 : decode cX10_exact 29 = .ok (.invokestatic 21, 3) := by decide +kernel
theorem dX10_exact_32 : decode cX10_exact 32 = .ok (.i2l, 1) := by decide +kernel
theorem dX10_exact_33 : decode cX10_exact 33 = .ok (.lstore 6, 2) := by decide +kernel
theorem dX10_exact_35 : decode cX10_exact 35 = .ok (.lload_n 2, 1) := by decide +kernel
theorem dX10_exact_36 : decode cX10_exact 36 = .ok (.iload_n 0, 1) := by decide +kernel
theorem dX10_exact_37 : decode cX10_exact 37 = .ok (.iload 5, 2) := by decide +kernel
theorem dX10_exact_39 : decode cX10_exact 39 = .ok (.iload_n 1, 1) := by decide +kernel
theorem dX10_exact_40 : decode cX10_exact 40 = .ok (.invokestatic 26, 3) := by decide +kernel
theorem dX10_exact_43 : decode cX10_exact 43 = .ok (.lload 6, 2) := by decide +kernel
theorem dX10_exact_45 : decode cX10_exact 45 = .ok (.invokestatic 30, 3) := by decide +kernel
theorem dX10_exact_48 : decode cX10_exact 48 = .ok (.invokestatic 34, 3) := by decide +kernel
theorem dX10_exact_51 : decode cX10_exact 51 = .ok (.lstore_n 2, 1) := by decide +kernel
theorem dX10_exact_52 : decode cX10_exact 52 = .ok (.iinc 5 1, 3) := by decide +kernel
theorem dX10_exact_55 : decode cX10_exact 55 = .ok (.goto (-42), 3) := by decide +kernel
theorem dX10_exact_58 : decode cX10_exact 58 = .ok (.iconst 1, 1) := by decide +kernel
theorem dX10_exact_59 : decode cX10_exact 59 = .ok (.istore 5, 2) := by decide +kernel
theorem dX10_exact_61 : decode cX10_exact 61 = .ok (.iload 5, 2) := by decide +kernel
theorem dX10_exact_63 : decode cX10_exact 63 = .ok (.iload_n 1, 1) := by decide +kernel
theorem dX10_exact_64 : decode cX10_exact 64 = .ok (.if_icmp .gt 42, 3) := by decide +kernel
theorem dX10_exact_67 : decode cX10_exact 67 = .ok (.iload_n 1, 1) := by decide +kernel
theorem dX10_exact_68 : decode cX10_exact 68 = .ok (.iload 5, 2) := by decide +kernel
theorem dX10_exact_70 : decode cX10_exact 70 = .ok (.irem, 1) := by decide +kernel
theorem dX10_exact_71 : decode cX10_exact 71 = .ok (.ifCond .ne 29, 3) := by decide +kernel
theorem dX10_exact_74 : decode cX10_exact 74 = .ok (.lload_n 2, 1) := by decide +kernel
theorem dX10_exact_75 : decode cX10_exact 75 = .ok (.iload 5, 2) := by decide +kernel
theorem dX10_exact_77 : decode cX10_exact 77 = .ok (.iload_n 1, 1) := by decide +kernel
theorem dX10_exact_78 : decode cX10_exact 78 = .ok (.iload 5, 2) := by decide +kernel
theorem dX10_exact_80 : decode cX10_exact 80 = .ok (.idiv, 1) := by decide +kernel
theorem dX10_exact_81 : decode cX10_exact 81 = .ok (.invokestatic 37, 3) := by decide +kernel
theorem dX10_exact_84 : decode cX10_exact 84 = .ok (.iload_n 0, 1) := by decide +kernel
theorem dX10_exact_85 : decode cX10_exact 85 = .ok (.iconst 1, 1) := by decide +kernel
theorem dX10_exact_86 : decode cX10_exact 86 = .ok (.isub, 1) := by decide +kernel
theorem dX10_exact_87 : decode cX10_exact 87 = .ok (.invokestatic 43, 3) := by decide +kernel
theorem dX10_exact_90 : decode cX10_exact 90 = .ok (.ldc2_w 47, 3) := by decide +kernel
theorem dX10_exact_93 : decode cX10_exact 93 = .ok (.invokestatic 30, 3) := by decide +kernel
theorem dX10_exact_96 : decode cX10_exact 96 = .ok (.invokestatic 34, 3) := by decide +kernel
theorem dX10_exact_99 : decode cX10_exact 99 = .ok (.lstore_n 2, 1) := by decide +kernel
theorem dX10_exact_100 : decode cX10_exact 100 = .ok (.iinc 5 1, 3) := by decide +kernel
theorem dX10_exact_103 : decode cX10_exact 103 = .ok (.goto (-42), 3) := by decide +kernel
theorem dX10_exact_106 : decode cX10_exact 106 = .ok (.lload_n 2, 1) := by decide +kernel
theorem dX10_exact_107 : decode cX10_exact 107 = .ok (.ldc2_w 49, 3) := by decide +kernel
theorem dX10_exact_110 : decode cX10_exact 110 = .ok (.lcmp, 1) := by decide +kernel
theorem dX10_exact_111 : decode cX10_exact 111 = .ok (.ifCond .ne 9, 3) := by decide +kernel
theorem dX10_exact_114 : decode cX10_exact 114 = .ok (.ldc2_w 49, 3) := by decide +kernel
theorem dX10_exact_117 : decode cX10_exact 117 = .ok (.goto 9, 3) := by decide +kernel
theorem dX10_exact_120 : decode cX10_exact 120 = .ok (.lload_n 2, 1) := by decide +kernel
theorem dX10_exact_121 : decode cX10_exact 121 = .ok (.lneg, 1) := by decide +kernel
theorem dX10_exact_122 : decode cX10_exact 122 = .ok (.ldc2_w 51, 3) := by decide +kernel
theorem dX10_exact_125 : decode cX10_exact 125 = .ok (.ldiv, 1) := by decide +kernel
theorem dX10_exact_126 : decode cX10_exact 126 = .ok (.lreturn, 1) := by decide +kernel
theorem dX10_reachOf_0 : decode cX10_reachOf 0 = .ok (.iconst 0, 1) := by decide +kernel
theorem dX10_reachOf_1 : decode cX10_reachOf 1 = .ok (.istore_n 1, 1) := by decide +kernel
theorem dX10_reachOf_2 : decode cX10_reachOf 2 = .ok (.iconst 1, 1) := by decide +kernel
theorem dX10_reachOf_3 : decode cX10_reachOf 3 = .ok (.istore_n 2, 1) := by decide +kernel
theorem dX10_reachOf_4 : decode cX10_reachOf 4 = .ok (.iload_n 2, 1) := by decide +kernel
theorem dX10_reachOf_5 : decode cX10_reachOf 5 = .ok (.iload_n 2, 1) := by decide +kernel
theorem dX10_reachOf_6 : decode cX10_reachOf 6 = .ok (.imul, 1) := by decide +kernel
theorem dX10_reachOf_7 : decode cX10_reachOf 7 = .ok (.iconst 4, 1) := by decide +kernel
theorem dX10_reachOf_8 : decode cX10_reachOf 8 = .ok (.iload_n 0, 1) := by decide +kernel
theorem dX10_reachOf_9 : decode cX10_reachOf 9 = .ok (.imul, 1) := by decide +kernel
theorem dX10_reachOf_10 : decode cX10_reachOf 10 = .ok (.if_icmp .gt 11, 3) := by decide +kernel
theorem dX10_reachOf_13 : decode cX10_reachOf 13 = .ok (.iload_n 2, 1) := by decide +kernel
theorem dX10_reachOf_14 : decode cX10_reachOf 14 = .ok (.istore_n 1, 1) := by decide +kernel
theorem dX10_reachOf_15 : decode cX10_reachOf 15 = .ok (.iinc 2 1, 3) := by decide +kernel
theorem dX10_reachOf_18 : decode cX10_reachOf 18 = .ok (.goto (-14), 3) := by decide +kernel
theorem dX10_reachOf_21 : decode cX10_reachOf 21 = .ok (.iload_n 1, 1) := by decide +kernel
theorem dX10_reachOf_22 : decode cX10_reachOf 22 = .ok (.ireturn, 1) := by decide +kernel
theorem dX10_exactQ_0 : decode cX10_exactQ 0 = .ok (.lconst 1, 1) := by decide +kernel
theorem dX10_exactQ_1 : decode cX10_exactQ 1 = .ok (.lstore_n 3, 1) := by decide +kernel
theorem dX10_exactQ_2 : decode cX10_exactQ 2 = .ok (.iload_n 1, 1) := by decide +kernel
theorem dX10_exactQ_3 : decode cX10_exactQ 3 = .ok (.i2l, 1) := by decide +kernel
theorem dX10_exactQ_4 : decode cX10_exactQ 4 = .ok (.lstore 5, 2) := by decide +kernel
theorem dX10_exactQ_6 : decode cX10_exactQ 6 = .ok (.iconst 4, 1) := by decide +kernel
theorem dX10_exactQ_7 : decode cX10_exactQ 7 = .ok (.istore 7, 2) := by decide +kernel
theorem dX10_exactQ_9 : decode cX10_exactQ 9 = .ok (.iload 7, 2) := by decide +kernel
theorem dX10_exactQ_11 : decode cX10_exactQ 11 = .ok (.iload_n 0, 1) := by decide +kernel
theorem dX10_exactQ_12 : decode cX10_exactQ 12 = .ok (.if_icmp .gt 35, 3) := by decide +kernel
theorem dX10_exactQ_15 : decode cX10_exactQ 15 = .ok (.iload_n 1, 1) := by decide +kernel
theorem dX10_exactQ_16 : decode cX10_exactQ 16 = .ok (.i2l, 1) := by decide +kernel
theorem dX10_exactQ_17 : decode cX10_exactQ 17 = .ok (.lload 5, 2) := by decide +kernel
theorem dX10_exactQ_19 : decode cX10_exactQ 19 = .ok (.invokestatic 30, 3) := by decide +kernel
theorem dX10_exactQ_22 : decode cX10_exactQ 22 = .ok (.iload_n 2, 1) := by decide +kernel
theorem dX10_exactQ_23 : decode cX10_exactQ 23 = .ok (.ineg, 1) := by decide +kernel
theorem dX10_exactQ_24 : decode cX10_exactQ 24 = .ok (.i2l, 1) := by decide +kernel
theorem dX10_exactQ_25 : decode cX10_exactQ 25 = .ok (.lload_n 3, 1) := by decide +kernel
theorem dX10_exactQ_26 : decode cX10_exactQ 26 = .ok (.invokestatic 30, 3) := by decide +kernel
theorem dX10_exactQ_29 : decode cX10_exactQ 29 = .ok (.invokestatic 34, 3) := by decide +kernel
theorem dX10_exactQ_32 : decode cX10_exactQ 32 = .ok (.lstore 8, 2) := by decide +kernel
theorem dX10_exactQ_34 : decode cX10_exactQ 34 = .ok (.lload 5, 2) := by decide +kernel
theorem dX10_exactQ_36 : decode cX10_exactQ 36 = .ok (.lstore_n 3, 1) := by decide +kernel
theorem dX10_exactQ_37 : decode cX10_exactQ 37 = .ok (.lload 8, 2) := by decide +kernel
theorem dX10_exactQ_39 : decode cX10_exactQ 39 = .ok (.lstore 5, 2) := by decide +kernel
theorem dX10_exactQ_41 : decode cX10_exactQ 41 = .ok (.iinc 7 1, 3) := by decide +kernel
theorem dX10_exactQ_44 : decode cX10_exactQ 44 = .ok (.goto (-35), 3) := by decide +kernel
theorem dX10_exactQ_47 : decode cX10_exactQ 47 = .ok (.lload 5, 2) := by decide +kernel
theorem dX10_exactQ_49 : decode cX10_exactQ 49 = .ok (.lreturn, 1) := by decide +kernel
theorem dX10_exactPower_0 : decode cX10_exactPower 0 = .ok (.lconst 1, 1) := by decide +kernel
theorem dX10_exactPower_1 : decode cX10_exactPower 1 = .ok (.lstore_n 2, 1) := by decide +kernel
theorem dX10_exactPower_2 : decode cX10_exactPower 2 = .ok (.iconst 0, 1) := by decide +kernel
theorem dX10_exactPower_3 : decode cX10_exactPower 3 = .ok (.istore 4, 2) := by decide +kernel
theorem dX10_exactPower_5 : decode cX10_exactPower 5 = .ok (.iload 4, 2) := by decide +kernel
theorem dX10_exactPower_7 : decode cX10_exactPower 7 = .ok (.iload_n 1, 1) := by decide +kernel
theorem dX10_exactPower_8 : decode cX10_exactPower 8 = .ok (.if_icmp .ge 16, 3) := by decide +kernel
theorem dX10_exactPower_11 : decode cX10_exactPower 11 = .ok (.lload_n 2, 1) := by decide +kernel
theorem dX10_exactPower_12 : decode cX10_exactPower 12 = .ok (.iload_n 0, 1) := by decide +kernel
theorem dX10_exactPower_13 : decode cX10_exactPower 13 = .ok (.i2l, 1) := by decide +kernel
theorem dX10_exactPower_14 : decode cX10_exactPower 14 = .ok (.invokestatic 30, 3) := by decide +kernel
theorem dX10_exactPower_17 : decode cX10_exactPower 17 = .ok (.lstore_n 2, 1) := by decide +kernel
theorem dX10_exactPower_18 : decode cX10_exactPower 18 = .ok (.iinc 4 1, 3) := by decide +kernel
theorem dX10_exactPower_21 : decode cX10_exactPower 21 = .ok (.goto (-16), 3) := by decide +kernel
theorem dX10_exactPower_24 : decode cX10_exactPower 24 = .ok (.lload_n 2, 1) := by decide +kernel
theorem dX10_exactPower_25 : decode cX10_exactPower 25 = .ok (.lreturn, 1) := by decide +kernel
theorem dX10_add_0 : decode cX10_add 0 = .ok (.lload_n 0, 1) := by decide +kernel
theorem dX10_add_1 : decode cX10_add 1 = .ok (.ldc2_w 49, 3) := by decide +kernel
theorem dX10_add_4 : decode cX10_add 4 = .ok (.lcmp, 1) := by decide +kernel
theorem dX10_add_5 : decode cX10_add 5 = .ok (.ifCond .eq 11, 3) := by decide +kernel
theorem dX10_add_8 : decode cX10_add 8 = .ok (.lload_n 2, 1) := by decide +kernel
theorem dX10_add_9 : decode cX10_add 9 = .ok (.ldc2_w 49, 3) := by decide +kernel
theorem dX10_add_12 : decode cX10_add 12 = .ok (.lcmp, 1) := by decide +kernel
theorem dX10_add_13 : decode cX10_add 13 = .ok (.ifCond .ne 7, 3) := by decide +kernel
theorem dX10_add_16 : decode cX10_add 16 = .ok (.ldc2_w 49, 3) := by decide +kernel
theorem dX10_add_19 : decode cX10_add 19 = .ok (.lreturn, 1) := by decide +kernel
theorem dX10_add_20 : decode cX10_add 20 = .ok (.lload_n 0, 1) := by decide +kernel
theorem dX10_add_21 : decode cX10_add 21 = .ok (.lload_n 2, 1) := by decide +kernel
theorem dX10_add_22 : decode cX10_add 22 = .ok (.ladd, 1) := by decide +kernel
theorem dX10_add_23 : decode cX10_add 23 = .ok (.ldc2_w 53, 3) := by decide +kernel
theorem dX10_add_26 : decode cX10_add 26 = .ok (.lcmp, 1) := by decide +kernel
theorem dX10_add_27 : decode cX10_add 27 = .ok (.ifCond .gt 13, 3) := by decide +kernel
theorem dX10_add_30 : decode cX10_add 30 = .ok (.lload_n 0, 1) := by decide +kernel
theorem dX10_add_31 : decode cX10_add 31 = .ok (.lload_n 2, 1) := by decide +kernel
theorem dX10_add_32 : decode cX10_add 32 = .ok (.ladd, 1) := by decide +kernel
theorem dX10_add_33 : decode cX10_add 33 = .ok (.ldc2_w 55, 3) := by decide +kernel
theorem dX10_add_36 : decode cX10_add 36 = .ok (.lcmp, 1) := by decide +kernel
theorem dX10_add_37 : decode cX10_add 37 = .ok (.ifCond .ge 9, 3) := by decide +kernel
theorem dX10_add_40 : decode cX10_add 40 = .ok (.ldc2_w 49, 3) := by decide +kernel
theorem dX10_add_43 : decode cX10_add 43 = .ok (.goto 6, 3) := by decide +kernel
theorem dX10_add_46 : decode cX10_add 46 = .ok (.lload_n 0, 1) := by decide +kernel
theorem dX10_add_47 : decode cX10_add 47 = .ok (.lload_n 2, 1) := by decide +kernel
theorem dX10_add_48 : decode cX10_add 48 = .ok (.ladd, 1) := by decide +kernel
theorem dX10_add_49 : decode cX10_add 49 = .ok (.lreturn, 1) := by decide +kernel
theorem dX10_multiply_0 : decode cX10_multiply 0 = .ok (.lload_n 0, 1) := by decide +kernel
theorem dX10_multiply_1 : decode cX10_multiply 1 = .ok (.ldc2_w 49, 3) := by decide +kernel
theorem dX10_multiply_4 : decode cX10_multiply 4 = .ok (.lcmp, 1) := by decide +kernel
theorem dX10_multiply_5 : decode cX10_multiply 5 = .ok (.ifCond .eq 11, 3) := by decide +kernel
theorem dX10_multiply_8 : decode cX10_multiply 8 = .ok (.lload_n 2, 1) := by decide +kernel
theorem dX10_multiply_9 : decode cX10_multiply 9 = .ok (.ldc2_w 49, 3) := by decide +kernel
theorem dX10_multiply_12 : decode cX10_multiply 12 = .ok (.lcmp, 1) := by decide +kernel
theorem dX10_multiply_13 : decode cX10_multiply 13 = .ok (.ifCond .ne 7, 3) := by decide +kernel
theorem dX10_multiply_16 : decode cX10_multiply 16 = .ok (.ldc2_w 49, 3) := by decide +kernel
theorem dX10_multiply_19 : decode cX10_multiply 19 = .ok (.lreturn, 1) := by decide +kernel
theorem dX10_multiply_20 : decode cX10_multiply 20 = .ok (.lload_n 2, 1) := by decide +kernel
theorem dX10_multiply_21 : decode cX10_multiply 21 = .ok (.lconst 0, 1) := by decide +kernel
theorem dX10_multiply_22 : decode cX10_multiply 22 = .ok (.lcmp, 1) := by decide +kernel
theorem dX10_multiply_23 : decode cX10_multiply 23 = .ok (.ifCond .ne 5, 3) := by decide +kernel
theorem dX10_multiply_26 : decode cX10_multiply 26 = .ok (.lconst 0, 1) := by decide +kernel
theorem dX10_multiply_27 : decode cX10_multiply 27 = .ok (.lreturn, 1) := by decide +kernel
theorem dX10_multiply_28 : decode cX10_multiply 28 = .ok (.lload_n 0, 1) := by decide +kernel
theorem dX10_multiply_29 : decode cX10_multiply 29 = .ok (.invokestatic 57, 3) := by decide +kernel
theorem dX10_multiply_32 : decode cX10_multiply 32 = .ok (.ldc2_w 53, 3) := by decide +kernel
theorem dX10_multiply_35 : decode cX10_multiply 35 = .ok (.lload_n 2, 1) := by decide +kernel
theorem dX10_multiply_36 : decode cX10_multiply 36 = .ok (.invokestatic 57, 3) := by decide +kernel
theorem dX10_multiply_39 : decode cX10_multiply 39 = .ok (.ldiv, 1) := by decide +kernel
theorem dX10_multiply_40 : decode cX10_multiply 40 = .ok (.lcmp, 1) := by decide +kernel
theorem dX10_multiply_41 : decode cX10_multiply 41 = .ok (.ifCond .le 9, 3) := by decide +kernel
theorem dX10_multiply_44 : decode cX10_multiply 44 = .ok (.ldc2_w 49, 3) := by decide +kernel
theorem dX10_multiply_47 : decode cX10_multiply 47 = .ok (.goto 6, 3) := by decide +kernel
theorem dX10_multiply_50 : decode cX10_multiply 50 = .ok (.lload_n 0, 1) := by decide +kernel
theorem dX10_multiply_51 : decode cX10_multiply 51 = .ok (.lload_n 2, 1) := by decide +kernel
theorem dX10_multiply_52 : decode cX10_multiply 52 = .ok (.lmul, 1) := by decide +kernel
theorem dX10_multiply_53 : decode cX10_multiply 53 = .ok (.lreturn, 1) := by decide +kernel
theorem dX10_left_0 : decode cX10_left 0 = .ok (.lconst 0, 1) := by decide +kernel
theorem dX10_left_1 : decode cX10_left 1 = .ok (.lstore_n 3, 1) := by decide +kernel
theorem dX10_left_2 : decode cX10_left 2 = .ok (.iload_n 1, 1) := by decide +kernel
theorem dX10_left_3 : decode cX10_left 3 = .ok (.invokestatic 17, 3) := by decide +kernel
theorem dX10_left_6 : decode cX10_left 6 = .ok (.istore 5, 2) := by decide +kernel
theorem dX10_left_8 : decode cX10_left 8 = .ok (.iload 5, 2) := by decide +kernel
theorem dX10_left_10 : decode cX10_left 10 = .ok (.ineg, 1) := by decide +kernel
theorem dX10_left_11 : decode cX10_left 11 = .ok (.istore 6, 2) := by decide +kernel
theorem dX10_left_13 : decode cX10_left 13 = .ok (.iload 6, 2) := by decide +kernel
theorem dX10_left_15 : decode cX10_left 15 = .ok (.iload 5, 2) := by decide +kernel
theorem dX10_left_17 : decode cX10_left 17 = .ok (.if_icmp .gt 35, 3) := by decide +kernel
theorem dX10_left_20 : decode cX10_left 20 = .ok (.lload_n 3, 1) := by decide +kernel
theorem dX10_left_21 : decode cX10_left 21 = .ok (.iload_n 0, 1) := by decide +kernel
theorem dX10_left_22 : decode cX10_left 22 = .ok (.iload 6, 2) := by decide +kernel
theorem dX10_left_24 : decode cX10_left 24 = .ok (.iload_n 1, 1) := by decide +kernel
theorem dX10_left_25 : decode cX10_left 25 = .ok (.iload_n 2, 1) := by decide +kernel
theorem dX10_left_26 : decode cX10_left 26 = .ok (.invokestatic 61, 3) := by decide +kernel
theorem dX10_left_29 : decode cX10_left 29 = .ok (.i2l, 1) := by decide +kernel
theorem dX10_left_30 : decode cX10_left 30 = .ok (.iconst 4, 1) := by decide +kernel
theorem dX10_left_31 : decode cX10_left 31 = .ok (.iload_n 1, 1) := by decide +kernel
theorem dX10_left_32 : decode cX10_left 32 = .ok (.imul, 1) := by decide +kernel
theorem dX10_left_33 : decode cX10_left 33 = .ok (.iload 6, 2) := by decide +kernel
theorem dX10_left_35 : decode cX10_left 35 = .ok (.iload 6, 2) := by decide +kernel
theorem dX10_left_37 : decode cX10_left 37 = .ok (.imul, 1) := by decide +kernel
theorem dX10_left_38 : decode cX10_left 38 = .ok (.isub, 1) := by decide +kernel
theorem dX10_left_39 : decode cX10_left 39 = .ok (.invokestatic 21, 3) := by decide +kernel
theorem dX10_left_42 : decode cX10_left 42 = .ok (.i2l, 1) := by decide +kernel
theorem dX10_left_43 : decode cX10_left 43 = .ok (.lmul, 1) := by decide +kernel
theorem dX10_left_44 : decode cX10_left 44 = .ok (.ladd, 1) := by decide +kernel
theorem dX10_left_45 : decode cX10_left 45 = .ok (.lstore_n 3, 1) := by decide +kernel
theorem dX10_left_46 : decode cX10_left 46 = .ok (.iinc 6 1, 3) := by decide +kernel
theorem dX10_left_49 : decode cX10_left 49 = .ok (.goto (-36), 3) := by decide +kernel
theorem dX10_left_52 : decode cX10_left 52 = .ok (.iconst 1, 1) := by decide +kernel
theorem dX10_left_53 : decode cX10_left 53 = .ok (.istore 6, 2) := by decide +kernel
theorem dX10_left_55 : decode cX10_left 55 = .ok (.iload 6, 2) := by decide +kernel
theorem dX10_left_57 : decode cX10_left 57 = .ok (.iload_n 1, 1) := by decide +kernel
theorem dX10_left_58 : decode cX10_left 58 = .ok (.if_icmp .gt 40, 3) := by decide +kernel
theorem dX10_left_61 : decode cX10_left 61 = .ok (.iload_n 1, 1) := by decide +kernel
theorem dX10_left_62 : decode cX10_left 62 = .ok (.iload 6, 2) := by decide +kernel
theorem dX10_left_64 : decode cX10_left 64 = .ok (.irem, 1) := by decide +kernel
theorem dX10_left_65 : decode cX10_left 65 = .ok (.ifCond .ne 27, 3) := by decide +kernel
theorem dX10_left_68 : decode cX10_left 68 = .ok (.lload_n 3, 1) := by decide +kernel
theorem dX10_left_69 : decode cX10_left 69 = .ok (.ldc2_w 47, 3) := by decide +kernel
theorem dX10_left_72 : decode cX10_left 72 = .ok (.iload 6, 2) := by decide +kernel
theorem dX10_left_74 : decode cX10_left 74 = .ok (.iload_n 1, 1) := by decide +kernel
theorem dX10_left_75 : decode cX10_left 75 = .ok (.iload 6, 2) := by decide +kernel
theorem dX10_left_77 : decode cX10_left 77 = .ok (.idiv, 1) := by decide +kernel
theorem dX10_left_78 : decode cX10_left 78 = .ok (.invokestatic 37, 3) := by decide +kernel
theorem dX10_left_81 : decode cX10_left 81 = .ok (.iload_n 0, 1) := by decide +kernel
theorem dX10_left_82 : decode cX10_left 82 = .ok (.iconst 1, 1) := by decide +kernel
theorem dX10_left_83 : decode cX10_left 83 = .ok (.isub, 1) := by decide +kernel
theorem dX10_left_84 : decode cX10_left 84 = .ok (.iload_n 2, 1) := by decide +kernel
theorem dX10_left_85 : decode cX10_left 85 = .ok (.invokestatic 65, 3) := by decide +kernel
theorem dX10_left_88 : decode cX10_left 88 = .ok (.i2l, 1) := by decide +kernel
theorem dX10_left_89 : decode cX10_left 89 = .ok (.lmul, 1) := by decide +kernel
theorem dX10_left_90 : decode cX10_left 90 = .ok (.ladd, 1) := by decide +kernel
theorem dX10_left_91 : decode cX10_left 91 = .ok (.lstore_n 3, 1) := by decide +kernel
theorem dX10_left_92 : decode cX10_left 92 = .ok (.iinc 6 1, 3) := by decide +kernel
theorem dX10_left_95 : decode cX10_left 95 = .ok (.goto (-40), 3) := by decide +kernel
theorem dX10_left_98 : decode cX10_left 98 = .ok (.lload_n 3, 1) := by decide +kernel
theorem dX10_left_99 : decode cX10_left 99 = .ok (.lneg, 1) := by decide +kernel
theorem dX10_left_100 : decode cX10_left 100 = .ok (.iload_n 2, 1) := by decide +kernel
theorem dX10_left_101 : decode cX10_left 101 = .ok (.invokestatic 71, 3) := by decide +kernel
theorem dX10_left_104 : decode cX10_left 104 = .ok (.bipush 24, 2) := by decide +kernel
theorem dX10_left_106 : decode cX10_left 106 = .ok (.iload_n 2, 1) := by decide +kernel
theorem dX10_left_107 : decode cX10_left 107 = .ok (.invokestatic 75, 3) := by decide +kernel
theorem dX10_left_110 : decode cX10_left 110 = .ok (.ireturn, 1) := by decide +kernel
theorem dX10_leftQ_0 : decode cX10_leftQ 0 = .ok (.iconst 1, 1) := by decide +kernel
theorem dX10_leftQ_1 : decode cX10_leftQ 1 = .ok (.istore 4, 2) := by decide +kernel
theorem dX10_leftQ_3 : decode cX10_leftQ 3 = .ok (.iload_n 1, 1) := by decide +kernel
theorem dX10_leftQ_4 : decode cX10_leftQ 4 = .ok (.i2l, 1) := by decide +kernel
theorem dX10_leftQ_5 : decode cX10_leftQ 5 = .ok (.iload_n 3, 1) := by decide +kernel
theorem dX10_leftQ_6 : decode cX10_leftQ 6 = .ok (.invokestatic 71, 3) := by decide +kernel
theorem dX10_leftQ_9 : decode cX10_leftQ 9 = .ok (.istore 5, 2) := by decide +kernel
theorem dX10_leftQ_11 : decode cX10_leftQ 11 = .ok (.iconst 4, 1) := by decide +kernel
theorem dX10_leftQ_12 : decode cX10_leftQ 12 = .ok (.istore 6, 2) := by decide +kernel
theorem dX10_leftQ_14 : decode cX10_leftQ 14 = .ok (.iload 6, 2) := by decide +kernel
theorem dX10_leftQ_16 : decode cX10_leftQ 16 = .ok (.iload_n 0, 1) := by decide +kernel
theorem dX10_leftQ_17 : decode cX10_leftQ 17 = .ok (.if_icmp .gt 36, 3) := by decide +kernel
theorem dX10_leftQ_20 : decode cX10_leftQ 20 = .ok (.iload_n 1, 1) := by decide +kernel
theorem dX10_leftQ_21 : decode cX10_leftQ 21 = .ok (.i2l, 1) := by decide +kernel
theorem dX10_leftQ_22 : decode cX10_leftQ 22 = .ok (.iload 5, 2) := by decide +kernel
theorem dX10_leftQ_24 : decode cX10_leftQ 24 = .ok (.i2l, 1) := by decide +kernel
theorem dX10_leftQ_25 : decode cX10_leftQ 25 = .ok (.lmul, 1) := by decide +kernel
theorem dX10_leftQ_26 : decode cX10_leftQ 26 = .ok (.iload_n 2, 1) := by decide +kernel
theorem dX10_leftQ_27 : decode cX10_leftQ 27 = .ok (.i2l, 1) := by decide +kernel
theorem dX10_leftQ_28 : decode cX10_leftQ 28 = .ok (.iload 4, 2) := by decide +kernel
theorem dX10_leftQ_30 : decode cX10_leftQ 30 = .ok (.i2l, 1) := by decide +kernel
theorem dX10_leftQ_31 : decode cX10_leftQ 31 = .ok (.lmul, 1) := by decide +kernel
theorem dX10_leftQ_32 : decode cX10_leftQ 32 = .ok (.lsub, 1) := by decide +kernel
theorem dX10_leftQ_33 : decode cX10_leftQ 33 = .ok (.iload_n 3, 1) := by decide +kernel
theorem dX10_leftQ_34 : decode cX10_leftQ 34 = .ok (.invokestatic 71, 3) := by decide +kernel
theorem dX10_leftQ_37 : decode cX10_leftQ 37 = .ok (.istore 7, 2) := by decide +kernel
theorem dX10_leftQ_39 : decode cX10_leftQ 39 = .ok (.iload 5, 2) := by decide +kernel
theorem dX10_leftQ_41 : decode cX10_leftQ 41 = .ok (.istore 4, 2) := by decide +kernel
theorem dX10_leftQ_43 : decode cX10_leftQ 43 = .ok (.iload 7, 2) := by decide +kernel
theorem dX10_leftQ_45 : decode cX10_leftQ 45 = .ok (.istore 5, 2) := by decide +kernel
theorem dX10_leftQ_47 : decode cX10_leftQ 47 = .ok (.iinc 6 1, 3) := by decide +kernel
theorem dX10_leftQ_50 : decode cX10_leftQ 50 = .ok (.goto (-36), 3) := by decide +kernel
theorem dX10_leftQ_53 : decode cX10_leftQ 53 = .ok (.iload 5, 2) := by decide +kernel
theorem dX10_leftQ_55 : decode cX10_leftQ 55 = .ok (.ireturn, 1) := by decide +kernel
theorem dX10_shareOf_0 : decode cX10_shareOf 0 = .ok (.iload_n 2, 1) := by decide +kernel
theorem dX10_shareOf_1 : decode cX10_shareOf 1 = .ok (.invokestatic 78, 3) := by decide +kernel
theorem dX10_shareOf_4 : decode cX10_shareOf 4 = .ok (.istore 4, 2) := by decide +kernel
theorem dX10_shareOf_6 : decode cX10_shareOf 6 = .ok (.iload 4, 2) := by decide +kernel
theorem dX10_shareOf_8 : decode cX10_shareOf 8 = .ok (.ifCond .ne 5, 3) := by decide +kernel
theorem dX10_shareOf_11 : decode cX10_shareOf 11 = .ok (.fconst 0, 1) := by decide +kernel
theorem dX10_shareOf_12 : decode cX10_shareOf 12 = .ok (.freturn, 1) := by decide +kernel
theorem dX10_shareOf_13 : decode cX10_shareOf 13 = .ok (.fconst 1, 1) := by decide +kernel
theorem dX10_shareOf_14 : decode cX10_shareOf 14 = .ok (.fstore 5, 2) := by decide +kernel
theorem dX10_shareOf_16 : decode cX10_shareOf 16 = .ok (.iconst 0, 1) := by decide +kernel
theorem dX10_shareOf_17 : decode cX10_shareOf 17 = .ok (.istore 6, 2) := by decide +kernel
theorem dX10_shareOf_19 : decode cX10_shareOf 19 = .ok (.iload 6, 2) := by decide +kernel
theorem dX10_shareOf_21 : decode cX10_shareOf 21 = .ok (.iload_n 2, 1) := by decide +kernel
theorem dX10_shareOf_22 : decode cX10_shareOf 22 = .ok (.iconst 2, 1) := by decide +kernel
theorem dX10_shareOf_23 : decode cX10_shareOf 23 = .ok (.isub, 1) := by decide +kernel
theorem dX10_shareOf_24 : decode cX10_shareOf 24 = .ok (.iconst 2, 1) := by decide +kernel
theorem dX10_shareOf_25 : decode cX10_shareOf 25 = .ok (.idiv, 1) := by decide +kernel
theorem dX10_shareOf_26 : decode cX10_shareOf 26 = .ok (.if_icmp .ge 16, 3) := by decide +kernel
theorem dX10_shareOf_29 : decode cX10_shareOf 29 = .ok (.fload 5, 2) := by decide +kernel
theorem dX10_shareOf_31 : decode cX10_shareOf 31 = .ok (.iload_n 3, 1) := by decide +kernel
theorem dX10_shareOf_32 : decode cX10_shareOf 32 = .ok (.i2f, 1) := by decide +kernel
theorem dX10_shareOf_33 : decode cX10_shareOf 33 = .ok (.fmul, 1) := by decide +kernel
theorem dX10_shareOf_34 : decode cX10_shareOf 34 = .ok (.fstore 5, 2) := by decide +kernel
theorem dX10_shareOf_36 : decode cX10_shareOf 36 = .ok (.iinc 6 1, 3) := by decide +kernel
theorem dX10_shareOf_39 : decode cX10_shareOf 39 = .ok (.goto (-20), 3) := by decide +kernel
theorem dX10_shareOf_42 : decode cX10_shareOf 42 = .ok (.iload_n 3, 1) := by decide +kernel
theorem dX10_shareOf_43 : decode cX10_shareOf 43 = .ok (.i2f, 1) := by decide +kernel
theorem dX10_shareOf_44 : decode cX10_shareOf 44 = .ok (.fstore 6, 2) := by decide +kernel
theorem dX10_shareOf_46 : decode cX10_shareOf 46 = .ok (.iconst 0, 1) := by decide +kernel
theorem dX10_shareOf_47 : decode cX10_shareOf 47 = .ok (.istore 7, 2) := by decide +kernel
theorem dX10_shareOf_49 : decode cX10_shareOf 49 = .ok (.iload 7, 2) := by decide +kernel
theorem dX10_shareOf_51 : decode cX10_shareOf 51 = .ok (.bipush 20, 2) := by decide +kernel
theorem dX10_shareOf_53 : decode cX10_shareOf 53 = .ok (.if_icmp .ge 21, 3) := by decide +kernel
theorem dX10_shareOf_56 : decode cX10_shareOf 56 = .ok (.fload 6, 2) := by decide +kernel
theorem dX10_shareOf_58 : decode cX10_shareOf 58 = .ok (.iload_n 3, 1) := by decide +kernel
theorem dX10_shareOf_59 : decode cX10_shareOf 59 = .ok (.i2f, 1) := by decide +kernel
theorem dX10_shareOf_60 : decode cX10_shareOf 60 = .ok (.fload 6, 2) := by decide +kernel
theorem dX10_shareOf_62 : decode cX10_shareOf 62 = .ok (.fdiv, 1) := by decide +kernel
theorem dX10_shareOf_63 : decode cX10_shareOf 63 = .ok (.fadd, 1) := by decide +kernel
theorem dX10_shareOf_64 : decode cX10_shareOf 64 = .ok (.fconst 2, 1) := by decide +kernel
theorem dX10_shareOf_65 : decode cX10_shareOf 65 = .ok (.fdiv, 1) := by decide +kernel
theorem dX10_shareOf_66 : decode cX10_shareOf 66 = .ok (.fstore 6, 2) := by decide +kernel
theorem dX10_shareOf_68 : decode cX10_shareOf 68 = .ok (.iinc 7 1, 3) := by decide +kernel
theorem dX10_shareOf_71 : decode cX10_shareOf 71 = .ok (.goto (-22), 3) := by decide +kernel
theorem dX10_shareOf_74 : decode cX10_shareOf 74 = .ok (.fload 5, 2) := by decide +kernel
theorem dX10_shareOf_76 : decode cX10_shareOf 76 = .ok (.fload 6, 2) := by decide +kernel
theorem dX10_shareOf_78 : decode cX10_shareOf 78 = .ok (.fmul, 1) := by decide +kernel
theorem dX10_shareOf_79 : decode cX10_shareOf 79 = .ok (.fstore 5, 2) := by decide +kernel
theorem dX10_shareOf_81 : decode cX10_shareOf 81 = .ok (.lload_n 0, 1) := by decide +kernel
theorem dX10_shareOf_82 : decode cX10_shareOf 82 = .ok (.l2f, 1) := by decide +kernel
theorem dX10_shareOf_83 : decode cX10_shareOf 83 = .ok (.fconst 2, 1) := by decide +kernel
theorem dX10_shareOf_84 : decode cX10_shareOf 84 = .ok (.fload 5, 2) := by decide +kernel
theorem dX10_shareOf_86 : decode cX10_shareOf 86 = .ok (.fmul, 1) := by decide +kernel
theorem dX10_shareOf_87 : decode cX10_shareOf 87 = .ok (.iload 4, 2) := by decide +kernel
theorem dX10_shareOf_89 : decode cX10_shareOf 89 = .ok (.i2f, 1) := by decide +kernel
theorem dX10_shareOf_90 : decode cX10_shareOf 90 = .ok (.fmul, 1) := by decide +kernel
theorem dX10_shareOf_91 : decode cX10_shareOf 91 = .ok (.fdiv, 1) := by decide +kernel
theorem dX10_shareOf_92 : decode cX10_shareOf 92 = .ok (.freturn, 1) := by decide +kernel
theorem dX10_bitsOf_0 : decode cX10_bitsOf 0 = .ok (.fload_n 0, 1) := by decide +kernel
theorem dX10_bitsOf_1 : decode cX10_bitsOf 1 = .ok (.fconst 0, 1) := by decide +kernel
theorem dX10_bitsOf_2 : decode cX10_bitsOf 2 = .ok (.fcmp .l, 1) := by decide +kernel
theorem dX10_bitsOf_3 : decode cX10_bitsOf 3 = .ok (.ifCond .ne 5, 3) := by decide +kernel
theorem dX10_bitsOf_6 : decode cX10_bitsOf 6 = .ok (.iconst 0, 1) := by decide +kernel
theorem dX10_bitsOf_7 : decode cX10_bitsOf 7 = .ok (.ireturn, 1) := by decide +kernel
theorem dX10_bitsOf_8 : decode cX10_bitsOf 8 = .ok (.fload_n 0, 1) := by decide +kernel
theorem dX10_bitsOf_9 : decode cX10_bitsOf 9 = .ok (.fconst 0, 1) := by decide +kernel
theorem dX10_bitsOf_10 : decode cX10_bitsOf 10 = .ok (.fcmp .g, 1) := by decide +kernel
theorem dX10_bitsOf_11 : decode cX10_bitsOf 11 = .ok (.ifCond .ge 8, 3) := by decide +kernel
theorem dX10_bitsOf_14 : decode cX10_bitsOf 14 = .ok (.fload_n 0, 1) := by decide +kernel
theorem dX10_bitsOf_15 : decode cX10_bitsOf 15 = .ok (.fneg, 1) := by decide +kernel
theorem dX10_bitsOf_16 : decode cX10_bitsOf 16 = .ok (.goto 4, 3) := by decide +kernel
theorem dX10_bitsOf_19 : decode cX10_bitsOf 19 = .ok (.fload_n 0, 1) := by decide +kernel
theorem dX10_bitsOf_20 : decode cX10_bitsOf 20 = .ok (.fstore_n 1, 1) := by decide +kernel
theorem dX10_bitsOf_21 : decode cX10_bitsOf 21 = .ok (.sipush 150, 3) := by decide +kernel
theorem dX10_bitsOf_24 : decode cX10_bitsOf 24 = .ok (.istore_n 2, 1) := by decide +kernel
theorem dX10_bitsOf_25 : decode cX10_bitsOf 25 = .ok (.iconst 0, 1) := by decide +kernel
theorem dX10_bitsOf_26 : decode cX10_bitsOf 26 = .ok (.istore_n 3, 1) := by decide +kernel
theorem dX10_bitsOf_27 : decode cX10_bitsOf 27 = .ok (.iload_n 3, 1) := by decide +kernel
theorem dX10_bitsOf_28 : decode cX10_bitsOf 28 = .ok (.sipush 150, 3) := by decide +kernel
theorem dX10_bitsOf_31 : decode cX10_bitsOf 31 = .ok (.if_icmp .ge 23, 3) := by decide +kernel
theorem dX10_bitsOf_34 : decode cX10_bitsOf 34 = .ok (.fload_n 1, 1) := by decide +kernel
theorem dX10_bitsOf_35 : decode cX10_bitsOf 35 = .ok (.ldc 81, 2) := by decide +kernel
theorem dX10_bitsOf_37 : decode cX10_bitsOf 37 = .ok (.fcmp .g, 1) := by decide +kernel
theorem dX10_bitsOf_38 : decode cX10_bitsOf 38 = .ok (.ifCond .ge 16, 3) := by decide +kernel
theorem dX10_bitsOf_41 : decode cX10_bitsOf 41 = .ok (.fload_n 1, 1) := by decide +kernel
theorem dX10_bitsOf_42 : decode cX10_bitsOf 42 = .ok (.fconst 2, 1) := by decide +kernel
theorem dX10_bitsOf_43 : decode cX10_bitsOf 43 = .ok (.fmul, 1) := by decide +kernel
theorem dX10_bitsOf_44 : decode cX10_bitsOf 44 = .ok (.fstore_n 1, 1) := by decide +kernel
theorem dX10_bitsOf_45 : decode cX10_bitsOf 45 = .ok (.iinc 2 (-1), 3) := by decide +kernel
theorem dX10_bitsOf_48 : decode cX10_bitsOf 48 = .ok (.iinc 3 1, 3) := by decide +kernel
theorem dX10_bitsOf_51 : decode cX10_bitsOf 51 = .ok (.goto (-24), 3) := by decide +kernel
theorem dX10_bitsOf_54 : decode cX10_bitsOf 54 = .ok (.fload_n 0, 1) := by decide +kernel
theorem dX10_bitsOf_55 : decode cX10_bitsOf 55 = .ok (.fconst 0, 1) := by decide +kernel
theorem dX10_bitsOf_56 : decode cX10_bitsOf 56 = .ok (.fcmp .g, 1) := by decide +kernel
theorem dX10_bitsOf_57 : decode cX10_bitsOf 57 = .ok (.ifCond .ge 8, 3) := by decide +kernel
theorem dX10_bitsOf_60 : decode cX10_bitsOf 60 = .ok (.ldc 84, 2) := by decide +kernel
theorem dX10_bitsOf_62 : decode cX10_bitsOf 62 = .ok (.goto 4, 3) := by decide +kernel
theorem dX10_bitsOf_65 : decode cX10_bitsOf 65 = .ok (.iconst 0, 1) := by decide +kernel
theorem dX10_bitsOf_66 : decode cX10_bitsOf 66 = .ok (.istore_n 3, 1) := by decide +kernel
theorem dX10_bitsOf_67 : decode cX10_bitsOf 67 = .ok (.iload_n 3, 1) := by decide +kernel
theorem dX10_bitsOf_68 : decode cX10_bitsOf 68 = .ok (.iload_n 2, 1) := by decide +kernel
theorem dX10_bitsOf_69 : decode cX10_bitsOf 69 = .ok (.bipush 23, 2) := by decide +kernel
theorem dX10_bitsOf_71 : decode cX10_bitsOf 71 = .ok (.ishl, 1) := by decide +kernel
theorem dX10_bitsOf_72 : decode cX10_bitsOf 72 = .ok (.ior, 1) := by decide +kernel
theorem dX10_bitsOf_73 : decode cX10_bitsOf 73 = .ok (.fload_n 1, 1) := by decide +kernel
theorem dX10_bitsOf_74 : decode cX10_bitsOf 74 = .ok (.f2i, 1) := by decide +kernel
theorem dX10_bitsOf_75 : decode cX10_bitsOf 75 = .ok (.ldc 85, 2) := by decide +kernel
theorem dX10_bitsOf_77 : decode cX10_bitsOf 77 = .ok (.isub, 1) := by decide +kernel
theorem dX10_bitsOf_78 : decode cX10_bitsOf 78 = .ok (.ior, 1) := by decide +kernel
theorem dX10_bitsOf_79 : decode cX10_bitsOf 79 = .ok (.ireturn, 1) := by decide +kernel
