theorem dX9_init_0 : decode cX9_init 0 = .ok (.aload_n 0, 1) := by decide +kernel
theorem dX9_init_1 : decode cX9_init 1 = .ok (.invokespecial 3, 3) := by decide +kernel
theorem dX9_init_4 : decode cX9_init 4 = .ok (.aload_n 0, 1) := by decide +kernel
theorem dX9_init_5 : decode cX9_init 5 = .ok (.sipush 601, 3) := by decide +kernel
theorem dX9_init_8 : decode cX9_init 8 = .ok (.newarray .int, 2) := by decide +kernel
theorem dX9_init_10 : decode cX9_init 10 = .ok (.putfield 9, 3) := by decide +kernel
theorem dX9_init_13 : decode cX9_init 13 = .ok (.aload_n 0, 1) := by decide +kernel
theorem dX9_init_14 : decode cX9_init 14 = .ok (.sipush 601, 3) := by decide +kernel
theorem dX9_init_17 : decode cX9_init 17 = .ok (.newarray .int, 2) := by decide +kernel
theorem dX9_init_19 : decode cX9_init 19 = .ok (.putfield 15, 3) := by decide +kernel
theorem dX9_init_22 : decode cX9_init 22 = .ok (.aload_n 0, 1) := by decide +kernel
theorem dX9_init_23 : decode cX9_init 23 = .ok (.sipush 601, 3) := by decide +kernel
theorem dX9_init_26 : decode cX9_init 26 = .ok (.newarray .int, 2) := by decide +kernel
theorem dX9_init_28 : decode cX9_init 28 = .ok (.putfield 18, 3) := by decide +kernel
theorem dX9_init_31 : decode cX9_init 31 = .ok (.return_, 1) := by decide +kernel
theorem dX9_scan_0 : decode cX9_scan 0 = .ok (.aload_n 0, 1) := by decide +kernel
theorem dX9_scan_1 : decode cX9_scan 1 = .ok (.iconst 0, 1) := by decide +kernel
theorem dX9_scan_2 : decode cX9_scan 2 = .ok (.putfield 21, 3) := by decide +kernel
theorem dX9_scan_5 : decode cX9_scan 5 = .ok (.iconst 0, 1) := by decide +kernel
theorem dX9_scan_6 : decode cX9_scan 6 = .ok (.istore_n 3, 1) := by decide +kernel
theorem dX9_scan_7 : decode cX9_scan 7 = .ok (.iload_n 3, 1) := by decide +kernel
theorem dX9_scan_8 : decode cX9_scan 8 = .ok (.iload_n 2, 1) := by decide +kernel
theorem dX9_scan_9 : decode cX9_scan 9 = .ok (.if_icmp .ge 131, 3) := by decide +kernel
theorem dX9_scan_12 : decode cX9_scan 12 = .ok (.aload_n 1, 1) := by decide +kernel
theorem dX9_scan_13 : decode cX9_scan 13 = .ok (.iload_n 3, 1) := by decide +kernel
theorem dX9_scan_14 : decode cX9_scan 14 = .ok (.baload, 1) := by decide +kernel
theorem dX9_scan_15 : decode cX9_scan 15 = .ok (.istore 4, 2) := by decide +kernel
theorem dX9_scan_17 : decode cX9_scan 17 = .ok (.iload_n 3, 1) := by decide +kernel
theorem dX9_scan_18 : decode cX9_scan 18 = .ok (.ifCond .le 11, 3) := by decide +kernel
theorem dX9_scan_21 : decode cX9_scan 21 = .ok (.aload_n 1, 1) := by decide +kernel
theorem dX9_scan_22 : decode cX9_scan 22 = .ok (.iload_n 3, 1) := by decide +kernel
theorem dX9_scan_23 : decode cX9_scan 23 = .ok (.iconst 1, 1) := by decide +kernel
theorem dX9_scan_24 : decode cX9_scan 24 = .ok (.isub, 1) := by decide +kernel
theorem dX9_scan_25 : decode cX9_scan 25 = .ok (.baload, 1) := by decide +kernel
theorem dX9_scan_26 : decode cX9_scan 26 = .ok (.goto 5, 3) := by decide +kernel
theorem dX9_scan_29 : decode cX9_scan 29 = .ok (.bipush 32, 2) := by decide +kernel
theorem dX9_scan_31 : decode cX9_scan 31 = .ok (.istore 5, 2) := by decide +kernel
theorem dX9_scan_33 : decode cX9_scan 33 = .ok (.iload 4, 2) := by decide +kernel
theorem dX9_scan_35 : decode cX9_scan 35 = .ok (.invokestatic 25, 3) := by decide +kernel
theorem dX9_scan_38 : decode cX9_scan 38 = .ok (.ifCond .eq 26, 3) := by decide +kernel
theorem dX9_scan_41 : decode cX9_scan 41 = .ok (.iload 5, 2) := by decide +kernel
theorem dX9_scan_43 : decode cX9_scan 43 = .ok (.invokestatic 25, 3) := by decide +kernel
theorem dX9_scan_46 : decode cX9_scan 46 = .ok (.ifCond .ne 88, 3) := by decide +kernel
theorem dX9_scan_49 : decode cX9_scan 49 = .ok (.aload_n 0, 1) := by decide +kernel
theorem dX9_scan_50 : decode cX9_scan 50 = .ok (.aload_n 1, 1) := by decide +kernel
theorem dX9_scan_51 : decode cX9_scan 51 = .ok (.iload_n 3, 1) := by decide +kernel
theorem dX9_scan_52 : decode cX9_scan 52 = .ok (.aload_n 1, 1) := by decide +kernel
theorem dX9_scan_53 : decode cX9_scan 53 = .ok (.iload_n 3, 1) := by decide +kernel
theorem dX9_scan_54 : decode cX9_scan 54 = .ok (.iload_n 2, 1) := by decide +kernel
theorem dX9_scan_55 : decode cX9_scan 55 = .ok (.invokestatic 29, 3) := by decide +kernel
theorem dX9_scan_58 : decode cX9_scan 58 = .ok (.invokevirtual 33, 3) := by decide +kernel
theorem dX9_scan_61 : decode cX9_scan 61 = .ok (.goto 73, 3) := by decide +kernel
theorem dX9_scan_64 : decode cX9_scan 64 = .ok (.iload 4, 2) := by decide +kernel
theorem dX9_scan_66 : decode cX9_scan 66 = .ok (.invokestatic 37, 3) := by decide +kernel
theorem dX9_scan_69 : decode cX9_scan 69 = .ok (.ifCond .eq 31, 3) := by decide +kernel
theorem dX9_scan_72 : decode cX9_scan 72 = .ok (.iload 5, 2) := by decide +kernel
theorem dX9_scan_74 : decode cX9_scan 74 = .ok (.invokestatic 37, 3) := by decide +kernel
theorem dX9_scan_77 : decode cX9_scan 77 = .ok (.ifCond .ne 57, 3) := by decide +kernel
theorem dX9_scan_80 : decode cX9_scan 80 = .ok (.aload_n 0, 1) := by decide +kernel
theorem dX9_scan_81 : decode cX9_scan 81 = .ok (.iconst 3, 1) := by decide +kernel
theorem dX9_scan_82 : decode cX9_scan 82 = .ok (.iload_n 3, 1) := by decide +kernel
theorem dX9_scan_83 : decode cX9_scan 83 = .ok (.aload_n 1, 1) := by decide +kernel
theorem dX9_scan_84 : decode cX9_scan 84 = .ok (.iload_n 3, 1) := by decide +kernel
theorem dX9_scan_85 : decode cX9_scan 85 = .ok (.aload_n 1, 1) := by decide +kernel
theorem dX9_scan_86 : decode cX9_scan 86 = .ok (.iload_n 3, 1) := by decide +kernel
theorem dX9_scan_87 : decode cX9_scan 87 = .ok (.iload_n 2, 1) := by decide +kernel
theorem dX9_scan_88 : decode cX9_scan 88 = .ok (.invokestatic 40, 3) := by decide +kernel
theorem dX9_scan_91 : decode cX9_scan 91 = .ok (.invokestatic 43, 3) := by decide +kernel
theorem dX9_scan_94 : decode cX9_scan 94 = .ok (.invokevirtual 46, 3) := by decide +kernel
theorem dX9_scan_97 : decode cX9_scan 97 = .ok (.goto 37, 3) := by decide +kernel
theorem dX9_scan_100 : decode cX9_scan 100 = .ok (.iload 4, 2) := by decide +kernel
theorem dX9_scan_102 : decode cX9_scan 102 = .ok (.bipush 32, 2) := by decide +kernel
theorem dX9_scan_104 : decode cX9_scan 104 = .ok (.if_icmp .eq 30, 3) := by decide +kernel
theorem dX9_scan_107 : decode cX9_scan 107 = .ok (.iload 4, 2) := by decide +kernel
theorem dX9_scan_109 : decode cX9_scan 109 = .ok (.bipush 10, 2) := by decide +kernel
theorem dX9_scan_111 : decode cX9_scan 111 = .ok (.if_icmp .eq 23, 3) := by decide +kernel
theorem dX9_scan_114 : decode cX9_scan 114 = .ok (.aload_n 0, 1) := by decide +kernel
theorem dX9_scan_115 : decode cX9_scan 115 = .ok (.iload 4, 2) := by decide +kernel
theorem dX9_scan_117 : decode cX9_scan 117 = .ok (.invokestatic 50, 3) := by decide +kernel
theorem dX9_scan_120 : decode cX9_scan 120 = .ok (.ifCond .eq 8, 3) := by decide +kernel
theorem dX9_scan_123 : decode cX9_scan 123 = .ok (.iload 4, 2) := by decide +kernel
theorem dX9_scan_125 : decode cX9_scan 125 = .ok (.goto 4, 3) := by decide +kernel
theorem dX9_scan_128 : decode cX9_scan 128 = .ok (.iconst 1, 1) := by decide +kernel
theorem dX9_scan_129 : decode cX9_scan 129 = .ok (.iload_n 3, 1) := by decide +kernel
theorem dX9_scan_130 : decode cX9_scan 130 = .ok (.iconst 0, 1) := by decide +kernel
theorem dX9_scan_131 : decode cX9_scan 131 = .ok (.invokevirtual 46, 3) := by decide +kernel
theorem dX9_scan_134 : decode cX9_scan 134 = .ok (.iinc 3 1, 3) := by decide +kernel
theorem dX9_scan_137 : decode cX9_scan 137 = .ok (.goto (-130), 3) := by decide +kernel
theorem dX9_scan_140 : decode cX9_scan 140 = .ok (.aload_n 0, 1) := by decide +kernel
theorem dX9_scan_141 : decode cX9_scan 141 = .ok (.getfield 9, 3) := by decide +kernel
theorem dX9_scan_144 : decode cX9_scan 144 = .ok (.aload_n 0, 1) := by decide +kernel
theorem dX9_scan_145 : decode cX9_scan 145 = .ok (.getfield 21, 3) := by decide +kernel
theorem dX9_scan_148 : decode cX9_scan 148 = .ok (.iconst 0, 1) := by decide +kernel
theorem dX9_scan_149 : decode cX9_scan 149 = .ok (.iastore, 1) := by decide +kernel
theorem dX9_scan_150 : decode cX9_scan 150 = .ok (.aload_n 0, 1) := by decide +kernel
theorem dX9_scan_151 : decode cX9_scan 151 = .ok (.getfield 15, 3) := by decide +kernel
theorem dX9_scan_154 : decode cX9_scan 154 = .ok (.aload_n 0, 1) := by decide +kernel
theorem dX9_scan_155 : decode cX9_scan 155 = .ok (.getfield 21, 3) := by decide +kernel
theorem dX9_scan_158 : decode cX9_scan 158 = .ok (.iload_n 2, 1) := by decide +kernel
theorem dX9_scan_159 : decode cX9_scan 159 = .ok (.iastore, 1) := by decide +kernel
theorem dX9_scan_160 : decode cX9_scan 160 = .ok (.return_, 1) := by decide +kernel
theorem dX9_addToken_0 : decode cX9_addToken 0 = .ok (.aload_n 0, 1) := by decide +kernel
theorem dX9_addToken_1 : decode cX9_addToken 1 = .ok (.getfield 9, 3) := by decide +kernel
theorem dX9_addToken_4 : decode cX9_addToken 4 = .ok (.aload_n 0, 1) := by decide +kernel
theorem dX9_addToken_5 : decode cX9_addToken 5 = .ok (.getfield 21, 3) := by decide +kernel
theorem dX9_addToken_8 : decode cX9_addToken 8 = .ok (.iload_n 1, 1) := by decide +kernel
theorem dX9_addToken_9 : decode cX9_addToken 9 = .ok (.iastore, 1) := by decide +kernel
theorem dX9_addToken_10 : decode cX9_addToken 10 = .ok (.aload_n 0, 1) := by decide +kernel
theorem dX9_addToken_11 : decode cX9_addToken 11 = .ok (.getfield 15, 3) := by decide +kernel
theorem dX9_addToken_14 : decode cX9_addToken 14 = .ok (.aload_n 0, 1) := by decide +kernel
theorem dX9_addToken_15 : decode cX9_addToken 15 = .ok (.getfield 21, 3) := by decide +kernel
theorem dX9_addToken_18 : decode cX9_addToken 18 = .ok (.iload_n 2, 1) := by decide +kernel
theorem dX9_addToken_19 : decode cX9_addToken 19 = .ok (.iastore, 1) := by decide +kernel
theorem dX9_addToken_20 : decode cX9_addToken 20 = .ok (.aload_n 0, 1) := by decide +kernel
theorem dX9_addToken_21 : decode cX9_addToken 21 = .ok (.getfield 18, 3) := by decide +kernel
theorem dX9_addToken_24 : decode cX9_addToken 24 = .ok (.aload_n 0, 1) := by decide +kernel
theorem dX9_addToken_25 : decode cX9_addToken 25 = .ok (.getfield 21, 3) := by decide +kernel
theorem dX9_addToken_28 : decode cX9_addToken 28 = .ok (.iload_n 3, 1) := by decide +kernel
theorem dX9_addToken_29 : decode cX9_addToken 29 = .ok (.iastore, 1) := by decide +kernel
theorem dX9_addToken_30 : decode cX9_addToken 30 = .ok (.aload_n 0, 1) := by decide +kernel
theorem dX9_addToken_31 : decode cX9_addToken 31 = .ok (.dup, 1) := by decide +kernel
theorem dX9_addToken_32 : decode cX9_addToken 32 = .ok (.getfield 21, 3) := by decide +kernel
theorem dX9_addToken_35 : decode cX9_addToken 35 = .ok (.iconst 1, 1) := by decide +kernel
theorem dX9_addToken_36 : decode cX9_addToken 36 = .ok (.iadd, 1) := by decide +kernel
theorem dX9_addToken_37 : decode cX9_addToken 37 = .ok (.putfield 21, 3) := by decide +kernel
theorem dX9_addToken_40 : decode cX9_addToken 40 = .ok (.return_, 1) := by decide +kernel
theorem dX9_addWord_0 : decode cX9_addWord 0 = .ok (.iload_n 3, 1) := by decide +kernel
theorem dX9_addWord_1 : decode cX9_addWord 1 = .ok (.iload_n 2, 1) := by decide +kernel
theorem dX9_addWord_2 : decode cX9_addWord 2 = .ok (.isub, 1) := by decide +kernel
theorem dX9_addWord_3 : decode cX9_addWord 3 = .ok (.bipush 6, 2) := by decide +kernel
theorem dX9_addWord_5 : decode cX9_addWord 5 = .ok (.if_icmp .le 11, 3) := by decide +kernel
theorem dX9_addWord_8 : decode cX9_addWord 8 = .ok (.aload_n 0, 1) := by decide +kernel
theorem dX9_addWord_9 : decode cX9_addWord 9 = .ok (.iconst 1, 1) := by decide +kernel
theorem dX9_addWord_10 : decode cX9_addWord 10 = .ok (.iload_n 2, 1) := by decide +kernel
theorem dX9_addWord_11 : decode cX9_addWord 11 = .ok (.iconst 0, 1) := by decide +kernel
theorem dX9_addWord_12 : decode cX9_addWord 12 = .ok (.invokevirtual 46, 3) := by decide +kernel
theorem dX9_addWord_15 : decode cX9_addWord 15 = .ok (.return_, 1) := by decide +kernel
theorem dX9_addWord_16 : decode cX9_addWord 16 = .ok (.iconst 0, 1) := by decide +kernel
theorem dX9_addWord_17 : decode cX9_addWord 17 = .ok (.istore 4, 2) := by decide +kernel
theorem dX9_addWord_19 : decode cX9_addWord 19 = .ok (.iload_n 2, 1) := by decide +kernel
theorem dX9_addWord_20 : decode cX9_addWord 20 = .ok (.istore 5, 2) := by decide +kernel
theorem dX9_addWord_22 : decode cX9_addWord 22 = .ok (.iload 5, 2) := by decide +kernel
theorem dX9_addWord_24 : decode cX9_addWord 24 = .ok (.iload_n 3, 1) := by decide +kernel
theorem dX9_addWord_25 : decode cX9_addWord 25 = .ok (.if_icmp .ge 26, 3) := by decide +kernel
theorem dX9_addWord_28 : decode cX9_addWord 28 = .ok (.iload 4, 2) := by decide +kernel
theorem dX9_addWord_30 : decode cX9_addWord 30 = .ok (.bipush 32, 2) := by decide +kernel
theorem dX9_addWord_32 : decode cX9_addWord 32 = .ok (.imul, 1) := by decide +kernel
theorem dX9_addWord_33 : decode cX9_addWord 33 = .ok (.aload_n 1, 1) := by decide +kernel
theorem dX9_addWord_34 : decode cX9_addWord 34 = .ok (.iload 5, 2) := by decide +kernel
theorem dX9_addWord_36 : decode cX9_addWord 36 = .ok (.baload, 1) := by decide +kernel
theorem dX9_addWord_37 : decode cX9_addWord 37 = .ok (.bipush 97, 2) := by decide +kernel
theorem dX9_addWord_39 : decode cX9_addWord 39 = .ok (.isub, 1) := by decide +kernel
theorem dX9_addWord_40 : decode cX9_addWord 40 = .ok (.iconst 1, 1) := by decide +kernel
theorem dX9_addWord_41 : decode cX9_addWord 41 = .ok (.iadd, 1) := by decide +kernel
theorem dX9_addWord_42 : decode cX9_addWord 42 = .ok (.iadd, 1) := by decide +kernel
theorem dX9_addWord_43 : decode cX9_addWord 43 = .ok (.istore 4, 2) := by decide +kernel
theorem dX9_addWord_45 : decode cX9_addWord 45 = .ok (.iinc 5 1, 3) := by decide +kernel
theorem dX9_addWord_48 : decode cX9_addWord 48 = .ok (.goto (-26), 3) := by decide +kernel
theorem dX9_addWord_51 : decode cX9_addWord 51 = .ok (.aload_n 0, 1) := by decide +kernel
theorem dX9_addWord_52 : decode cX9_addWord 52 = .ok (.aload_n 1, 1) := by decide +kernel
theorem dX9_addWord_53 : decode cX9_addWord 53 = .ok (.iload_n 2, 1) := by decide +kernel
theorem dX9_addWord_54 : decode cX9_addWord 54 = .ok (.iload_n 3, 1) := by decide +kernel
theorem dX9_addWord_55 : decode cX9_addWord 55 = .ok (.invokestatic 53, 3) := by decide +kernel
theorem dX9_addWord_58 : decode cX9_addWord 58 = .ok (.iload_n 2, 1) := by decide +kernel
theorem dX9_addWord_59 : decode cX9_addWord 59 = .ok (.iload 4, 2) := by decide +kernel
theorem dX9_addWord_61 : decode cX9_addWord 61 = .ok (.invokevirtual 46, 3) := by decide +kernel
theorem dX9_addWord_64 : decode cX9_addWord 64 = .ok (.return_, 1) := by decide +kernel
theorem dX9_kindOfWord_0 : decode cX9_kindOfWord 0 = .ok (.aload_n 0, 1) := by decide +kernel
theorem dX9_kindOfWord_1 : decode cX9_kindOfWord 1 = .ok (.iload_n 1, 1) := by decide +kernel
theorem dX9_kindOfWord_2 : decode cX9_kindOfWord 2 = .ok (.iload_n 2, 1) := by decide +kernel
theorem dX9_kindOfWord_3 : decode cX9_kindOfWord 3 = .ok (.ldc 56, 2) := by decide +kernel
theorem dX9_kindOfWord_5 : decode cX9_kindOfWord 5 = .ok (.invokestatic 58, 3) := by decide +kernel
theorem dX9_kindOfWord_8 : decode cX9_kindOfWord 8 = .ok (.ifCond .eq 5, 3) := by decide +kernel
theorem dX9_kindOfWord_11 : decode cX9_kindOfWord 11 = .ok (.iconst 4, 1) := by decide +kernel
theorem dX9_kindOfWord_12 : decode cX9_kindOfWord 12 = .ok (.ireturn, 1) := by decide +kernel
theorem dX9_kindOfWord_13 : decode cX9_kindOfWord 13 = .ok (.aload_n 0, 1) := by decide +kernel
theorem dX9_kindOfWord_14 : decode cX9_kindOfWord 14 = .ok (.iload_n 1, 1) := by decide +kernel
theorem dX9_kindOfWord_15 : decode cX9_kindOfWord 15 = .ok (.iload_n 2, 1) := by decide +kernel
theorem dX9_kindOfWord_16 : decode cX9_kindOfWord 16 = .ok (.ldc 62, 2) := by decide +kernel
theorem dX9_kindOfWord_18 : decode cX9_kindOfWord 18 = .ok (.invokestatic 58, 3) := by decide +kernel
theorem dX9_kindOfWord_21 : decode cX9_kindOfWord 21 = .ok (.ifCond .eq 5, 3) := by decide +kernel
theorem dX9_kindOfWord_24 : decode cX9_kindOfWord 24 = .ok (.iconst 5, 1) := by decide +kernel
theorem dX9_kindOfWord_25 : decode cX9_kindOfWord 25 = .ok (.ireturn, 1) := by decide +kernel
theorem dX9_kindOfWord_26 : decode cX9_kindOfWord 26 = .ok (.aload_n 0, 1) := by decide +kernel
theorem dX9_kindOfWord_27 : decode cX9_kindOfWord 27 = .ok (.iload_n 1, 1) := by decide +kernel
theorem dX9_kindOfWord_28 : decode cX9_kindOfWord 28 = .ok (.iload_n 2, 1) := by decide +kernel
theorem dX9_kindOfWord_29 : decode cX9_kindOfWord 29 = .ok (.ldc 64, 2) := by decide +kernel
theorem dX9_kindOfWord_31 : decode cX9_kindOfWord 31 = .ok (.invokestatic 58, 3) := by decide +kernel
theorem dX9_kindOfWord_34 : decode cX9_kindOfWord 34 = .ok (.ifCond .eq 6, 3) := by decide +kernel
theorem dX9_kindOfWord_37 : decode cX9_kindOfWord 37 = .ok (.bipush 6, 2) := by decide +kernel
theorem dX9_kindOfWord_39 : decode cX9_kindOfWord 39 = .ok (.ireturn, 1) := by decide +kernel
theorem dX9_kindOfWord_40 : decode cX9_kindOfWord 40 = .ok (.aload_n 0, 1) := by decide +kernel
theorem dX9_kindOfWord_41 : decode cX9_kindOfWord 41 = .ok (.iload_n 1, 1) := by decide +kernel
theorem dX9_kindOfWord_42 : decode cX9_kindOfWord 42 = .ok (.iload_n 2, 1) := by decide +kernel
theorem dX9_kindOfWord_43 : decode cX9_kindOfWord 43 = .ok (.ldc 66, 2) := by decide +kernel
theorem dX9_kindOfWord_45 : decode cX9_kindOfWord 45 = .ok (.invokestatic 58, 3) := by decide +kernel
theorem dX9_kindOfWord_48 : decode cX9_kindOfWord 48 = .ok (.ifCond .eq 6, 3) := by decide +kernel
theorem dX9_kindOfWord_51 : decode cX9_kindOfWord 51 = .ok (.bipush 7, 2) := by decide +kernel
theorem dX9_kindOfWord_53 : decode cX9_kindOfWord 53 = .ok (.ireturn, 1) := by decide +kernel
theorem dX9_kindOfWord_54 : decode cX9_kindOfWord 54 = .ok (.aload_n 0, 1) := by decide +kernel
theorem dX9_kindOfWord_55 : decode cX9_kindOfWord 55 = .ok (.iload_n 1, 1) := by decide +kernel
theorem dX9_kindOfWord_56 : decode cX9_kindOfWord 56 = .ok (.iload_n 2, 1) := by decide +kernel
theorem dX9_kindOfWord_57 : decode cX9_kindOfWord 57 = .ok (.ldc 68, 2) := by decide +kernel
theorem dX9_kindOfWord_59 : decode cX9_kindOfWord 59 = .ok (.invokestatic 58, 3) := by decide +kernel
theorem dX9_kindOfWord_62 : decode cX9_kindOfWord 62 = .ok (.ifCond .eq 6, 3) := by decide +kernel
theorem dX9_kindOfWord_65 : decode cX9_kindOfWord 65 = .ok (.bipush 8, 2) := by decide +kernel
theorem dX9_kindOfWord_67 : decode cX9_kindOfWord 67 = .ok (.ireturn, 1) := by decide +kernel
theorem dX9_kindOfWord_68 : decode cX9_kindOfWord 68 = .ok (.aload_n 0, 1) := by decide +kernel
theorem dX9_kindOfWord_69 : decode cX9_kindOfWord 69 = .ok (.iload_n 1, 1) := by decide +kernel
theorem dX9_kindOfWord_70 : decode cX9_kindOfWord 70 = .ok (.iload_n 2, 1) := by decide +kernel
theorem dX9_kindOfWord_71 : decode cX9_kindOfWord 71 = .ok (.ldc 70, 2) := by decide +kernel
theorem dX9_kindOfWord_73 : decode cX9_kindOfWord 73 = .ok (.invokestatic 58, 3) := by decide +kernel
theorem dX9_kindOfWord_76 : decode cX9_kindOfWord 76 = .ok (.ifCond .eq 8, 3) := by decide +kernel
theorem dX9_kindOfWord_79 : decode cX9_kindOfWord 79 = .ok (.bipush 9, 2) := by decide +kernel
theorem dX9_kindOfWord_81 : decode cX9_kindOfWord 81 = .ok (.goto 4, 3) := by decide +kernel
theorem dX9_kindOfWord_84 : decode cX9_kindOfWord 84 = .ok (.iconst 2, 1) := by decide +kernel
theorem dX9_kindOfWord_85 : decode cX9_kindOfWord 85 = .ok (.ireturn, 1) := by decide +kernel
theorem dX9_isWord_0 : decode cX9_isWord 0 = .ok (.iload_n 2, 1) := by decide +kernel
theorem dX9_isWord_1 : decode cX9_isWord 1 = .ok (.iload_n 1, 1) := by decide +kernel
theorem dX9_isWord_2 : decode cX9_isWord 2 = .ok (.isub, 1) := by decide +kernel
theorem dX9_isWord_3 : decode cX9_isWord 3 = .ok (.aload_n 3, 1) := by decide +kernel
theorem dX9_isWord_4 : decode cX9_isWord 4 = .ok (.invokevirtual 72, 3) := by decide +kernel
theorem dX9_isWord_7 : decode cX9_isWord 7 = .ok (.if_icmp .eq 5, 3) := by decide +kernel
theorem dX9_isWord_10 : decode cX9_isWord 10 = .ok (.iconst 0, 1) := by decide +kernel
theorem dX9_isWord_11 : decode cX9_isWord 11 = .ok (.ireturn, 1) := by decide +kernel
theorem dX9_isWord_12 : decode cX9_isWord 12 = .ok (.iload_n 1, 1) := by decide +kernel
theorem dX9_isWord_13 : decode cX9_isWord 13 = .ok (.istore 4, 2) := by decide +kernel
theorem dX9_isWord_15 : decode cX9_isWord 15 = .ok (.iload 4, 2) := by decide +kernel
theorem dX9_isWord_17 : decode cX9_isWord 17 = .ok (.iload_n 2, 1) := by decide +kernel
theorem dX9_isWord_18 : decode cX9_isWord 18 = .ok (.if_icmp .ge 26, 3) := by decide +kernel
theorem dX9_isWord_21 : decode cX9_isWord 21 = .ok (.aload_n 0, 1) := by decide +kernel
theorem dX9_isWord_22 : decode cX9_isWord 22 = .ok (.iload 4, 2) := by decide +kernel
theorem dX9_isWord_24 : decode cX9_isWord 24 = .ok (.baload, 1) := by decide +kernel
theorem dX9_isWord_25 : decode cX9_isWord 25 = .ok (.aload_n 3, 1) := by decide +kernel
theorem dX9_isWord_26 : decode cX9_isWord 26 = .ok (.iload 4, 2) := by decide +kernel
theorem dX9_isWord_28 : decode cX9_isWord 28 = .ok (.iload_n 1, 1) := by decide +kernel
theorem dX9_isWord_29 : decode cX9_isWord 29 = .ok (.isub, 1) := by decide +kernel
theorem dX9_isWord_30 : decode cX9_isWord 30 = .ok (.invokevirtual 78, 3) := by decide +kernel
theorem dX9_isWord_33 : decode cX9_isWord 33 = .ok (.if_icmp .eq 5, 3) := by decide +kernel
theorem dX9_isWord_36 : decode cX9_isWord 36 = .ok (.iconst 0, 1) := by decide +kernel
theorem dX9_isWord_37 : decode cX9_isWord 37 = .ok (.ireturn, 1) := by decide +kernel
theorem dX9_isWord_38 : decode cX9_isWord 38 = .ok (.iinc 4 1, 3) := by decide +kernel
theorem dX9_isWord_41 : decode cX9_isWord 41 = .ok (.goto (-26), 3) := by decide +kernel
theorem dX9_isWord_44 : decode cX9_isWord 44 = .ok (.iconst 1, 1) := by decide +kernel
theorem dX9_isWord_45 : decode cX9_isWord 45 = .ok (.ireturn, 1) := by decide +kernel
theorem dX9_endOfWord_0 : decode cX9_endOfWord 0 = .ok (.iload_n 1, 1) := by decide +kernel
theorem dX9_endOfWord_1 : decode cX9_endOfWord 1 = .ok (.istore_n 3, 1) := by decide +kernel
theorem dX9_endOfWord_2 : decode cX9_endOfWord 2 = .ok (.iload_n 3, 1) := by decide +kernel
theorem dX9_endOfWord_3 : decode cX9_endOfWord 3 = .ok (.iload_n 2, 1) := by decide +kernel
theorem dX9_endOfWord_4 : decode cX9_endOfWord 4 = .ok (.if_icmp .ge 18, 3) := by decide +kernel
theorem dX9_endOfWord_7 : decode cX9_endOfWord 7 = .ok (.aload_n 0, 1) := by decide +kernel
theorem dX9_endOfWord_8 : decode cX9_endOfWord 8 = .ok (.iload_n 3, 1) := by decide +kernel
theorem dX9_endOfWord_9 : decode cX9_endOfWord 9 = .ok (.baload, 1) := by decide +kernel
theorem dX9_endOfWord_10 : decode cX9_endOfWord 10 = .ok (.invokestatic 25, 3) := by decide +kernel
theorem dX9_endOfWord_13 : decode cX9_endOfWord 13 = .ok (.ifCond .eq 9, 3) := by decide +kernel
theorem dX9_endOfWord_16 : decode cX9_endOfWord 16 = .ok (.iinc 3 1, 3) := by decide +kernel
theorem dX9_endOfWord_19 : decode cX9_endOfWord 19 = .ok (.goto (-17), 3) := by decide +kernel
theorem dX9_endOfWord_22 : decode cX9_endOfWord 22 = .ok (.iload_n 3, 1) := by decide +kernel
theorem dX9_endOfWord_23 : decode cX9_endOfWord 23 = .ok (.ireturn, 1) := by decide +kernel
theorem dX9_endOfNumber_0 : decode cX9_endOfNumber 0 = .ok (.iload_n 1, 1) := by decide +kernel
theorem dX9_endOfNumber_1 : decode cX9_endOfNumber 1 = .ok (.istore_n 3, 1) := by decide +kernel
theorem dX9_endOfNumber_2 : decode cX9_endOfNumber 2 = .ok (.iload_n 3, 1) := by decide +kernel
theorem dX9_endOfNumber_3 : decode cX9_endOfNumber 3 = .ok (.iload_n 2, 1) := by decide +kernel
theorem dX9_endOfNumber_4 : decode cX9_endOfNumber 4 = .ok (.if_icmp .ge 18, 3) := by decide +kernel
theorem dX9_endOfNumber_7 : decode cX9_endOfNumber 7 = .ok (.aload_n 0, 1) := by decide +kernel
theorem dX9_endOfNumber_8 : decode cX9_endOfNumber 8 = .ok (.iload_n 3, 1) := by decide +kernel
theorem dX9_endOfNumber_9 : decode cX9_endOfNumber 9 = .ok (.baload, 1) := by decide +kernel
theorem dX9_endOfNumber_10 : decode cX9_endOfNumber 10 = .ok (.invokestatic 37, 3) := by decide +kernel
theorem dX9_endOfNumber_13 : decode cX9_endOfNumber 13 = .ok (.ifCond .eq 9, 3) := by decide +kernel
theorem dX9_endOfNumber_16 : decode cX9_endOfNumber 16 = .ok (.iinc 3 1, 3) := by decide +kernel
theorem dX9_endOfNumber_19 : decode cX9_endOfNumber 19 = .ok (.goto (-17), 3) := by decide +kernel
theorem dX9_endOfNumber_22 : decode cX9_endOfNumber 22 = .ok (.iload_n 3, 1) := by decide +kernel
theorem dX9_endOfNumber_23 : decode cX9_endOfNumber 23 = .ok (.ireturn, 1) := by decide +kernel
theorem dX9_numberOf_0 : decode cX9_numberOf 0 = .ok (.iload_n 2, 1) := by decide +kernel
theorem dX9_numberOf_1 : decode cX9_numberOf 1 = .ok (.iload_n 1, 1) := by decide +kernel
theorem dX9_numberOf_2 : decode cX9_numberOf 2 = .ok (.isub, 1) := by decide +kernel
theorem dX9_numberOf_3 : decode cX9_numberOf 3 = .ok (.iconst 4, 1) := by decide +kernel
theorem dX9_numberOf_4 : decode cX9_numberOf 4 = .ok (.if_icmp .le 5, 3) := by decide +kernel
theorem dX9_numberOf_7 : decode cX9_numberOf 7 = .ok (.iconst (-1), 1) := by decide +kernel
theorem dX9_numberOf_8 : decode cX9_numberOf 8 = .ok (.ireturn, 1) := by decide +kernel
theorem dX9_numberOf_9 : decode cX9_numberOf 9 = .ok (.iconst 0, 1) := by decide +kernel
theorem dX9_numberOf_10 : decode cX9_numberOf 10 = .ok (.istore_n 3, 1) := by decide +kernel
theorem dX9_numberOf_11 : decode cX9_numberOf 11 = .ok (.iload_n 1, 1) := by decide +kernel
theorem dX9_numberOf_12 : decode cX9_numberOf 12 = .ok (.istore 4, 2) := by decide +kernel
theorem dX9_numberOf_14 : decode cX9_numberOf 14 = .ok (.iload 4, 2) := by decide +kernel
theorem dX9_numberOf_16 : decode cX9_numberOf 16 = .ok (.iload_n 2, 1) := by decide +kernel
theorem dX9_numberOf_17 : decode cX9_numberOf 17 = .ok (.if_icmp .ge 22, 3) := by decide +kernel
theorem dX9_numberOf_20 : decode cX9_numberOf 20 = .ok (.iload_n 3, 1) := by decide +kernel
theorem dX9_numberOf_21 : decode cX9_numberOf 21 = .ok (.bipush 10, 2) := by decide +kernel
theorem dX9_numberOf_23 : decode cX9_numberOf 23 = .ok (.imul, 1) := by decide +kernel
theorem dX9_numberOf_24 : decode cX9_numberOf 24 = .ok (.aload_n 0, 1) := by decide +kernel
theorem dX9_numberOf_25 : decode cX9_numberOf 25 = .ok (.iload 4, 2) := by decide +kernel
theorem dX9_numberOf_27 : decode cX9_numberOf 27 = .ok (.baload, 1) := by decide +kernel
theorem dX9_numberOf_28 : decode cX9_numberOf 28 = .ok (.bipush 48, 2) := by decide +kernel
theorem dX9_numberOf_30 : decode cX9_numberOf 30 = .ok (.isub, 1) := by decide +kernel
theorem dX9_numberOf_31 : decode cX9_numberOf 31 = .ok (.iadd, 1) := by decide +kernel
theorem dX9_numberOf_32 : decode cX9_numberOf 32 = .ok (.istore_n 3, 1) := by decide +kernel
theorem dX9_numberOf_33 : decode cX9_numberOf 33 = .ok (.iinc 4 1, 3) := by decide +kernel
theorem dX9_numberOf_36 : decode cX9_numberOf 36 = .ok (.goto (-22), 3) := by decide +kernel
theorem dX9_numberOf_39 : decode cX9_numberOf 39 = .ok (.iload_n 3, 1) := by decide +kernel
theorem dX9_numberOf_40 : decode cX9_numberOf 40 = .ok (.ireturn, 1) := by decide +kernel
theorem dX9_isLetter_0 : decode cX9_isLetter 0 = .ok (.iload_n 0, 1) := by decide +kernel
theorem dX9_isLetter_1 : decode cX9_isLetter 1 = .ok (.bipush 97, 2) := by decide +kernel
theorem dX9_isLetter_3 : decode cX9_isLetter 3 = .ok (.if_icmp .lt 13, 3) := by decide +kernel
theorem dX9_isLetter_6 : decode cX9_isLetter 6 = .ok (.iload_n 0, 1) := by decide +kernel
theorem dX9_isLetter_7 : decode cX9_isLetter 7 = .ok (.bipush 122, 2) := by decide +kernel
theorem dX9_isLetter_9 : decode cX9_isLetter 9 = .ok (.if_icmp .gt 7, 3) := by decide +kernel
theorem dX9_isLetter_12 : decode cX9_isLetter 12 = .ok (.iconst 1, 1) := by decide +kernel
theorem dX9_isLetter_13 : decode cX9_isLetter 13 = .ok (.goto 4, 3) := by decide +kernel
theorem dX9_isLetter_16 : decode cX9_isLetter 16 = .ok (.iconst 0, 1) := by decide +kernel
theorem dX9_isLetter_17 : decode cX9_isLetter 17 = .ok (.ireturn, 1) := by decide +kernel
theorem dX9_isDigit_0 : decode cX9_isDigit 0 = .ok (.iload_n 0, 1) := by decide +kernel
theorem dX9_isDigit_1 : decode cX9_isDigit 1 = .ok (.bipush 48, 2) := by decide +kernel
theorem dX9_isDigit_3 : decode cX9_isDigit 3 = .ok (.if_icmp .lt 13, 3) := by decide +kernel
theorem dX9_isDigit_6 : decode cX9_isDigit 6 = .ok (.iload_n 0, 1) := by decide +kernel
theorem dX9_isDigit_7 : decode cX9_isDigit 7 = .ok (.bipush 57, 2) := by decide +kernel
theorem dX9_isDigit_9 : decode cX9_isDigit 9 = .ok (.if_icmp .gt 7, 3) := by decide +kernel
theorem dX9_isDigit_12 : decode cX9_isDigit 12 = .ok (.iconst 1, 1) := by decide +kernel
theorem dX9_isDigit_13 : decode cX9_isDigit 13 = .ok (.goto 4, 3) := by decide +kernel
theorem dX9_isDigit_16 : decode cX9_isDigit 16 = .ok (.iconst 0, 1) := by decide +kernel
theorem dX9_isDigit_17 : decode cX9_isDigit 17 = .ok (.ireturn, 1) := by decide +kernel
theorem dX9_isSign_0 : decode cX9_isSign 0 = .ok (.iload_n 0, 1) := by decide +kernel
theorem dX9_isSign_1 : decode cX9_isSign 1 = .ok (.bipush 59, 2) := by decide +kernel
theorem dX9_isSign_3 : decode cX9_isSign 3 = .ok (.if_icmp .eq 39, 3) := by decide +kernel
theorem dX9_isSign_6 : decode cX9_isSign 6 = .ok (.iload_n 0, 1) := by decide +kernel
theorem dX9_isSign_7 : decode cX9_isSign 7 = .ok (.bipush 43, 2) := by decide +kernel
theorem dX9_isSign_9 : decode cX9_isSign 9 = .ok (.if_icmp .eq 33, 3) := by decide +kernel
theorem dX9_isSign_12 : decode cX9_isSign 12 = .ok (.iload_n 0, 1) := by decide +kernel
theorem dX9_isSign_13 : decode cX9_isSign 13 = .ok (.bipush 45, 2) := by decide +kernel
theorem dX9_isSign_15 : decode cX9_isSign 15 = .ok (.if_icmp .eq 27, 3) := by decide +kernel
theorem dX9_isSign_18 : decode cX9_isSign 18 = .ok (.iload_n 0, 1) := by decide +kernel
theorem dX9_isSign_19 : decode cX9_isSign 19 = .ok (.bipush 42, 2) := by decide +kernel
theorem dX9_isSign_21 : decode cX9_isSign 21 = .ok (.if_icmp .eq 21, 3) := by decide +kernel
theorem dX9_isSign_24 : decode cX9_isSign 24 = .ok (.iload_n 0, 1) := by decide +kernel
theorem dX9_isSign_25 : decode cX9_isSign 25 = .ok (.bipush 94, 2) := by decide +kernel
theorem dX9_isSign_27 : decode cX9_isSign 27 = .ok (.if_icmp .eq 15, 3) := by decide +kernel
theorem dX9_isSign_30 : decode cX9_isSign 30 = .ok (.iload_n 0, 1) := by decide +kernel
theorem dX9_isSign_31 : decode cX9_isSign 31 = .ok (.bipush 40, 2) := by decide +kernel
theorem dX9_isSign_33 : decode cX9_isSign 33 = .ok (.if_icmp .eq 9, 3) := by decide +kernel
theorem dX9_isSign_36 : decode cX9_isSign 36 = .ok (.iload_n 0, 1) := by decide +kernel
theorem dX9_isSign_37 : decode cX9_isSign 37 = .ok (.bipush 41, 2) := by decide +kernel
theorem dX9_isSign_39 : decode cX9_isSign 39 = .ok (.if_icmp .ne 7, 3) := by decide +kernel
theorem dX9_isSign_42 : decode cX9_isSign 42 = .ok (.iconst 1, 1) := by decide +kernel
theorem dX9_isSign_43 : decode cX9_isSign 43 = .ok (.goto 4, 3) := by decide +kernel
theorem dX9_isSign_46 : decode cX9_isSign 46 = .ok (.iconst 0, 1) := by decide +kernel
theorem dX9_isSign_47 : decode cX9_isSign 47 = .ok (.ireturn, 1) := by decide +kernel
