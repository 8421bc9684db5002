theorem dX1_inTwelfths_0 : decode cX1_inTwelfths 0 = .ok (.iload_n 0, 1) := by decide +kernel
theorem dX1_inTwelfths_1 : decode cX1_inTwelfths 1 = .ok (.ifCond .ne 5, 3) := by decide +kernel
theorem dX1_inTwelfths_4 : decode cX1_inTwelfths 4 = .ok (.iconst (-1), 1) := by decide +kernel
theorem dX1_inTwelfths_5 : decode cX1_inTwelfths 5 = .ok (.ireturn, 1) := by decide +kernel
theorem dX1_inTwelfths_6 : decode cX1_inTwelfths 6 = .ok (.iload_n 0, 1) := by decide +kernel
theorem dX1_inTwelfths_7 : decode cX1_inTwelfths 7 = .ok (.invokestatic 7, 3) := by decide +kernel
theorem dX1_inTwelfths_10 : decode cX1_inTwelfths 10 = .ok (.ifCond .eq 11, 3) := by decide +kernel
theorem dX1_inTwelfths_13 : decode cX1_inTwelfths 13 = .ok (.iload_n 0, 1) := by decide +kernel
theorem dX1_inTwelfths_14 : decode cX1_inTwelfths 14 = .ok (.iconst 0, 1) := by decide +kernel
theorem dX1_inTwelfths_15 : decode cX1_inTwelfths 15 = .ok (.invokestatic 13, 3) := by decide +kernel
theorem dX1_inTwelfths_18 : decode cX1_inTwelfths 18 = .ok (.goto 4, 3) := by decide +kernel
theorem dX1_inTwelfths_21 : decode cX1_inTwelfths 21 = .ok (.iconst 0, 1) := by decide +kernel
theorem dX1_inTwelfths_22 : decode cX1_inTwelfths 22 = .ok (.ireturn, 1) := by decide +kernel
theorem dX1_ofNothingInCommon_0 : decode cX1_ofNothingInCommon 0 = .ok (.iload_n 0, 1) := by decide +kernel
theorem dX1_ofNothingInCommon_1 : decode cX1_ofNothingInCommon 1 = .ok (.invokestatic 7, 3) := by decide +kernel
theorem dX1_ofNothingInCommon_4 : decode cX1_ofNothingInCommon 4 = .ok (.ifCond .eq 11, 3) := by decide +kernel
theorem dX1_ofNothingInCommon_7 : decode cX1_ofNothingInCommon 7 = .ok (.iload_n 0, 1) := by decide +kernel
theorem dX1_ofNothingInCommon_8 : decode cX1_ofNothingInCommon 8 = .ok (.iconst 1, 1) := by decide +kernel
theorem dX1_ofNothingInCommon_9 : decode cX1_ofNothingInCommon 9 = .ok (.invokestatic 13, 3) := by decide +kernel
theorem dX1_ofNothingInCommon_12 : decode cX1_ofNothingInCommon 12 = .ok (.goto 4, 3) := by decide +kernel
theorem dX1_ofNothingInCommon_15 : decode cX1_ofNothingInCommon 15 = .ok (.iconst 0, 1) := by decide +kernel
theorem dX1_ofNothingInCommon_16 : decode cX1_ofNothingInCommon 16 = .ok (.ireturn, 1) := by decide +kernel
theorem dX1_isDiscriminant_0 : decode cX1_isDiscriminant 0 = .ok (.iload_n 0, 1) := by decide +kernel
theorem dX1_isDiscriminant_1 : decode cX1_isDiscriminant 1 = .ok (.iconst 1, 1) := by decide +kernel
theorem dX1_isDiscriminant_2 : decode cX1_isDiscriminant 2 = .ok (.if_icmp .lt 27, 3) := by decide +kernel
theorem dX1_isDiscriminant_5 : decode cX1_isDiscriminant 5 = .ok (.iload_n 0, 1) := by decide +kernel
theorem dX1_isDiscriminant_6 : decode cX1_isDiscriminant 6 = .ok (.sipush 2000, 3) := by decide +kernel
theorem dX1_isDiscriminant_9 : decode cX1_isDiscriminant 9 = .ok (.if_icmp .gt 20, 3) := by decide +kernel
theorem dX1_isDiscriminant_12 : decode cX1_isDiscriminant 12 = .ok (.iload_n 0, 1) := by decide +kernel
theorem dX1_isDiscriminant_13 : decode cX1_isDiscriminant 13 = .ok (.iconst 4, 1) := by decide +kernel
theorem dX1_isDiscriminant_14 : decode cX1_isDiscriminant 14 = .ok (.irem, 1) := by decide +kernel
theorem dX1_isDiscriminant_15 : decode cX1_isDiscriminant 15 = .ok (.ifCond .eq 10, 3) := by decide +kernel
theorem dX1_isDiscriminant_18 : decode cX1_isDiscriminant 18 = .ok (.iload_n 0, 1) := by decide +kernel
theorem dX1_isDiscriminant_19 : decode cX1_isDiscriminant 19 = .ok (.iconst 4, 1) := by decide +kernel
theorem dX1_isDiscriminant_20 : decode cX1_isDiscriminant 20 = .ok (.irem, 1) := by decide +kernel
theorem dX1_isDiscriminant_21 : decode cX1_isDiscriminant 21 = .ok (.iconst 3, 1) := by decide +kernel
theorem dX1_isDiscriminant_22 : decode cX1_isDiscriminant 22 = .ok (.if_icmp .ne 7, 3) := by decide +kernel
theorem dX1_isDiscriminant_25 : decode cX1_isDiscriminant 25 = .ok (.iconst 1, 1) := by decide +kernel
theorem dX1_isDiscriminant_26 : decode cX1_isDiscriminant 26 = .ok (.goto 4, 3) := by decide +kernel
theorem dX1_isDiscriminant_29 : decode cX1_isDiscriminant 29 = .ok (.iconst 0, 1) := by decide +kernel
theorem dX1_isDiscriminant_30 : decode cX1_isDiscriminant 30 = .ok (.ireturn, 1) := by decide +kernel
theorem dX1_addUp_0 : decode cX1_addUp 0 = .ok (.iconst 0, 1) := by decide +kernel
theorem dX1_addUp_1 : decode cX1_addUp 1 = .ok (.istore_n 2, 1) := by decide +kernel
theorem dX1_addUp_2 : decode cX1_addUp 2 = .ok (.iconst 1, 1) := by decide +kernel
theorem dX1_addUp_3 : decode cX1_addUp 3 = .ok (.istore_n 3, 1) := by decide +kernel
theorem dX1_addUp_4 : decode cX1_addUp 4 = .ok (.iconst 3, 1) := by decide +kernel
theorem dX1_addUp_5 : decode cX1_addUp 5 = .ok (.iload_n 3, 1) := by decide +kernel
theorem dX1_addUp_6 : decode cX1_addUp 6 = .ok (.imul, 1) := by decide +kernel
theorem dX1_addUp_7 : decode cX1_addUp 7 = .ok (.iload_n 3, 1) := by decide +kernel
theorem dX1_addUp_8 : decode cX1_addUp 8 = .ok (.imul, 1) := by decide +kernel
theorem dX1_addUp_9 : decode cX1_addUp 9 = .ok (.iload_n 0, 1) := by decide +kernel
theorem dX1_addUp_10 : decode cX1_addUp 10 = .ok (.if_icmp .gt 95, 3) := by decide +kernel
theorem dX1_addUp_13 : decode cX1_addUp 13 = .ok (.iconst 1, 1) := by decide +kernel
theorem dX1_addUp_14 : decode cX1_addUp 14 = .ok (.iload_n 3, 1) := by decide +kernel
theorem dX1_addUp_15 : decode cX1_addUp 15 = .ok (.isub, 1) := by decide +kernel
theorem dX1_addUp_16 : decode cX1_addUp 16 = .ok (.istore 4, 2) := by decide +kernel
theorem dX1_addUp_18 : decode cX1_addUp 18 = .ok (.iload 4, 2) := by decide +kernel
theorem dX1_addUp_20 : decode cX1_addUp 20 = .ok (.iload_n 3, 1) := by decide +kernel
theorem dX1_addUp_21 : decode cX1_addUp 21 = .ok (.if_icmp .gt 78, 3) := by decide +kernel
theorem dX1_addUp_24 : decode cX1_addUp 24 = .ok (.iload_n 0, 1) := by decide +kernel
theorem dX1_addUp_25 : decode cX1_addUp 25 = .ok (.iload 4, 2) := by decide +kernel
theorem dX1_addUp_27 : decode cX1_addUp 27 = .ok (.iload 4, 2) := by decide +kernel
theorem dX1_addUp_29 : decode cX1_addUp 29 = .ok (.imul, 1) := by decide +kernel
theorem dX1_addUp_30 : decode cX1_addUp 30 = .ok (.iadd, 1) := by decide +kernel
theorem dX1_addUp_31 : decode cX1_addUp 31 = .ok (.istore 5, 2) := by decide +kernel
theorem dX1_addUp_33 : decode cX1_addUp 33 = .ok (.iload 5, 2) := by decide +kernel
theorem dX1_addUp_35 : decode cX1_addUp 35 = .ok (.iconst 4, 1) := by decide +kernel
theorem dX1_addUp_36 : decode cX1_addUp 36 = .ok (.iload_n 3, 1) := by decide +kernel
theorem dX1_addUp_37 : decode cX1_addUp 37 = .ok (.imul, 1) := by decide +kernel
theorem dX1_addUp_38 : decode cX1_addUp 38 = .ok (.idiv, 1) := by decide +kernel
theorem dX1_addUp_39 : decode cX1_addUp 39 = .ok (.istore 6, 2) := by decide +kernel
theorem dX1_addUp_41 : decode cX1_addUp 41 = .ok (.iload 5, 2) := by decide +kernel
theorem dX1_addUp_43 : decode cX1_addUp 43 = .ok (.iconst 4, 1) := by decide +kernel
theorem dX1_addUp_44 : decode cX1_addUp 44 = .ok (.iload_n 3, 1) := by decide +kernel
theorem dX1_addUp_45 : decode cX1_addUp 45 = .ok (.imul, 1) := by decide +kernel
theorem dX1_addUp_46 : decode cX1_addUp 46 = .ok (.irem, 1) := by decide +kernel
theorem dX1_addUp_47 : decode cX1_addUp 47 = .ok (.ifCond .ne 46, 3) := by decide +kernel
theorem dX1_addUp_50 : decode cX1_addUp 50 = .ok (.iload 6, 2) := by decide +kernel
theorem dX1_addUp_52 : decode cX1_addUp 52 = .ok (.iload_n 3, 1) := by decide +kernel
theorem dX1_addUp_53 : decode cX1_addUp 53 = .ok (.if_icmp .gt 14, 3) := by decide +kernel
theorem dX1_addUp_56 : decode cX1_addUp 56 = .ok (.iload 6, 2) := by decide +kernel
theorem dX1_addUp_58 : decode cX1_addUp 58 = .ok (.iload_n 3, 1) := by decide +kernel
theorem dX1_addUp_59 : decode cX1_addUp 59 = .ok (.if_icmp .ne 34, 3) := by decide +kernel
theorem dX1_addUp_62 : decode cX1_addUp 62 = .ok (.iload 4, 2) := by decide +kernel
theorem dX1_addUp_64 : decode cX1_addUp 64 = .ok (.ifCond .lt 29, 3) := by decide +kernel
theorem dX1_addUp_67 : decode cX1_addUp 67 = .ok (.iload_n 2, 1) := by decide +kernel
theorem dX1_addUp_68 : decode cX1_addUp 68 = .ok (.iload_n 1, 1) := by decide +kernel
theorem dX1_addUp_69 : decode cX1_addUp 69 = .ok (.ifCond .eq 14, 3) := by decide +kernel
theorem dX1_addUp_72 : decode cX1_addUp 72 = .ok (.iload_n 3, 1) := by decide +kernel
theorem dX1_addUp_73 : decode cX1_addUp 73 = .ok (.iload 4, 2) := by decide +kernel
theorem dX1_addUp_75 : decode cX1_addUp 75 = .ok (.iload 6, 2) := by decide +kernel
theorem dX1_addUp_77 : decode cX1_addUp 77 = .ok (.invokestatic 17, 3) := by decide +kernel
theorem dX1_addUp_80 : decode cX1_addUp 80 = .ok (.goto 11, 3) := by decide +kernel
theorem dX1_addUp_83 : decode cX1_addUp 83 = .ok (.iload_n 3, 1) := by decide +kernel
theorem dX1_addUp_84 : decode cX1_addUp 84 = .ok (.iload 4, 2) := by decide +kernel
theorem dX1_addUp_86 : decode cX1_addUp 86 = .ok (.iload 6, 2) := by decide +kernel
theorem dX1_addUp_88 : decode cX1_addUp 88 = .ok (.invokestatic 21, 3) := by decide +kernel
theorem dX1_addUp_91 : decode cX1_addUp 91 = .ok (.iadd, 1) := by decide +kernel
theorem dX1_addUp_92 : decode cX1_addUp 92 = .ok (.istore_n 2, 1) := by decide +kernel
theorem dX1_addUp_93 : decode cX1_addUp 93 = .ok (.iinc 4 1, 3) := by decide +kernel
theorem dX1_addUp_96 : decode cX1_addUp 96 = .ok (.goto (-78), 3) := by decide +kernel
theorem dX1_addUp_99 : decode cX1_addUp 99 = .ok (.iinc 3 1, 3) := by decide +kernel
theorem dX1_addUp_102 : decode cX1_addUp 102 = .ok (.goto (-98), 3) := by decide +kernel
theorem dX1_addUp_105 : decode cX1_addUp 105 = .ok (.iload_n 2, 1) := by decide +kernel
theorem dX1_addUp_106 : decode cX1_addUp 106 = .ok (.ireturn, 1) := by decide +kernel
theorem dX1_onlyIfPrimitive_0 : decode cX1_onlyIfPrimitive 0 = .ok (.iconst 2, 1) := by decide +kernel
theorem dX1_onlyIfPrimitive_1 : decode cX1_onlyIfPrimitive 1 = .ok (.istore_n 3, 1) := by decide +kernel
theorem dX1_onlyIfPrimitive_2 : decode cX1_onlyIfPrimitive 2 = .ok (.iload_n 3, 1) := by decide +kernel
theorem dX1_onlyIfPrimitive_3 : decode cX1_onlyIfPrimitive 3 = .ok (.iload_n 0, 1) := by decide +kernel
theorem dX1_onlyIfPrimitive_4 : decode cX1_onlyIfPrimitive 4 = .ok (.if_icmp .gt 29, 3) := by decide +kernel
theorem dX1_onlyIfPrimitive_7 : decode cX1_onlyIfPrimitive 7 = .ok (.iload_n 0, 1) := by decide +kernel
theorem dX1_onlyIfPrimitive_8 : decode cX1_onlyIfPrimitive 8 = .ok (.iload_n 3, 1) := by decide +kernel
theorem dX1_onlyIfPrimitive_9 : decode cX1_onlyIfPrimitive 9 = .ok (.irem, 1) := by decide +kernel
theorem dX1_onlyIfPrimitive_10 : decode cX1_onlyIfPrimitive 10 = .ok (.ifCond .ne 17, 3) := by decide +kernel
theorem dX1_onlyIfPrimitive_13 : decode cX1_onlyIfPrimitive 13 = .ok (.iload_n 1, 1) := by decide +kernel
theorem dX1_onlyIfPrimitive_14 : decode cX1_onlyIfPrimitive 14 = .ok (.iload_n 3, 1) := by decide +kernel
theorem dX1_onlyIfPrimitive_15 : decode cX1_onlyIfPrimitive 15 = .ok (.irem, 1) := by decide +kernel
theorem dX1_onlyIfPrimitive_16 : decode cX1_onlyIfPrimitive 16 = .ok (.ifCond .ne 11, 3) := by decide +kernel
theorem dX1_onlyIfPrimitive_19 : decode cX1_onlyIfPrimitive 19 = .ok (.iload_n 2, 1) := by decide +kernel
theorem dX1_onlyIfPrimitive_20 : decode cX1_onlyIfPrimitive 20 = .ok (.iload_n 3, 1) := by decide +kernel
theorem dX1_onlyIfPrimitive_21 : decode cX1_onlyIfPrimitive 21 = .ok (.irem, 1) := by decide +kernel
theorem dX1_onlyIfPrimitive_22 : decode cX1_onlyIfPrimitive 22 = .ok (.ifCond .ne 5, 3) := by decide +kernel
theorem dX1_onlyIfPrimitive_25 : decode cX1_onlyIfPrimitive 25 = .ok (.iconst 0, 1) := by decide +kernel
theorem dX1_onlyIfPrimitive_26 : decode cX1_onlyIfPrimitive 26 = .ok (.ireturn, 1) := by decide +kernel
theorem dX1_onlyIfPrimitive_27 : decode cX1_onlyIfPrimitive 27 = .ok (.iinc 3 1, 3) := by decide +kernel
theorem dX1_onlyIfPrimitive_30 : decode cX1_onlyIfPrimitive 30 = .ok (.goto (-28), 3) := by decide +kernel
theorem dX1_onlyIfPrimitive_33 : decode cX1_onlyIfPrimitive 33 = .ok (.iconst 1, 1) := by decide +kernel
theorem dX1_onlyIfPrimitive_34 : decode cX1_onlyIfPrimitive 34 = .ok (.ireturn, 1) := by decide +kernel
theorem dX1_twelfths_0 : decode cX1_twelfths 0 = .ok (.iload_n 0, 1) := by decide +kernel
theorem dX1_twelfths_1 : decode cX1_twelfths 1 = .ok (.iload_n 2, 1) := by decide +kernel
theorem dX1_twelfths_2 : decode cX1_twelfths 2 = .ok (.if_icmp .eq 6, 3) := by decide +kernel
theorem dX1_twelfths_5 : decode cX1_twelfths 5 = .ok (.bipush 12, 2) := by decide +kernel
theorem dX1_twelfths_7 : decode cX1_twelfths 7 = .ok (.ireturn, 1) := by decide +kernel
theorem dX1_twelfths_8 : decode cX1_twelfths 8 = .ok (.iload_n 1, 1) := by decide +kernel
theorem dX1_twelfths_9 : decode cX1_twelfths 9 = .ok (.ifCond .ne 6, 3) := by decide +kernel
theorem dX1_twelfths_12 : decode cX1_twelfths 12 = .ok (.bipush 6, 2) := by decide +kernel
theorem dX1_twelfths_14 : decode cX1_twelfths 14 = .ok (.ireturn, 1) := by decide +kernel
theorem dX1_twelfths_15 : decode cX1_twelfths 15 = .ok (.iload_n 0, 1) := by decide +kernel
theorem dX1_twelfths_16 : decode cX1_twelfths 16 = .ok (.iload_n 1, 1) := by decide +kernel
theorem dX1_twelfths_17 : decode cX1_twelfths 17 = .ok (.if_icmp .ne 7, 3) := by decide +kernel
theorem dX1_twelfths_20 : decode cX1_twelfths 20 = .ok (.iconst 4, 1) := by decide +kernel
theorem dX1_twelfths_21 : decode cX1_twelfths 21 = .ok (.goto 5, 3) := by decide +kernel
theorem dX1_twelfths_24 : decode cX1_twelfths 24 = .ok (.bipush 12, 2) := by decide +kernel
theorem dX1_twelfths_26 : decode cX1_twelfths 26 = .ok (.ireturn, 1) := by decide +kernel
