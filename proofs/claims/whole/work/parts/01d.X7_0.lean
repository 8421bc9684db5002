theorem dX7_init_0 : decode cX7_init 0 = .ok (.aload_n 0, 1) := by decide +kernel
theorem dX7_init_1 : decode cX7_init 1 = .ok (.invokespecial 3, 3) := by decide +kernel
theorem dX7_init_4 : decode cX7_init 4 = .ok (.aload_n 0, 1) := by decide +kernel
theorem dX7_init_5 : decode cX7_init 5 = .ok (.iconst 0, 1) := by decide +kernel
theorem dX7_init_6 : decode cX7_init 6 = .ok (.iconst 0, 1) := by decide +kernel
theorem dX7_init_7 : decode cX7_init 7 = .ok (.multianewarray 9 2, 4) := by decide +kernel
theorem dX7_init_11 : decode cX7_init 11 = .ok (.putfield 11, 3) := by decide +kernel
theorem dX7_init_14 : decode cX7_init 14 = .ok (.aload_n 0, 1) := by decide +kernel
theorem dX7_init_15 : decode cX7_init 15 = .ok (.bipush 6, 2) := by decide +kernel
theorem dX7_init_17 : decode cX7_init 17 = .ok (.newarray .int, 2) := by decide +kernel
theorem dX7_init_19 : decode cX7_init 19 = .ok (.putfield 16, 3) := by decide +kernel
theorem dX7_init_22 : decode cX7_init 22 = .ok (.aload_n 0, 1) := by decide +kernel
theorem dX7_init_23 : decode cX7_init 23 = .ok (.iload_n 1, 1) := by decide +kernel
theorem dX7_init_24 : decode cX7_init 24 = .ok (.putfield 20, 3) := by decide +kernel
theorem dX7_init_27 : decode cX7_init 27 = .ok (.aload_n 0, 1) := by decide +kernel
theorem dX7_init_28 : decode cX7_init 28 = .ok (.iload_n 1, 1) := by decide +kernel
theorem dX7_init_29 : decode cX7_init 29 = .ok (.invokestatic 24, 3) := by decide +kernel
theorem dX7_init_32 : decode cX7_init 32 = .ok (.putfield 28, 3) := by decide +kernel
theorem dX7_init_35 : decode cX7_init 35 = .ok (.return_, 1) := by decide +kernel
theorem dX7_isReady_0 : decode cX7_isReady 0 = .ok (.aload_n 0, 1) := by decide +kernel
theorem dX7_isReady_1 : decode cX7_isReady 1 = .ok (.getfield 31, 3) := by decide +kernel
theorem dX7_isReady_4 : decode cX7_isReady 4 = .ok (.iload_n 1, 1) := by decide +kernel
theorem dX7_isReady_5 : decode cX7_isReady 5 = .ok (.if_icmp .ne 15, 3) := by decide +kernel
theorem dX7_isReady_8 : decode cX7_isReady 8 = .ok (.aload_n 0, 1) := by decide +kernel
theorem dX7_isReady_9 : decode cX7_isReady 9 = .ok (.getfield 34, 3) := by decide +kernel
theorem dX7_isReady_12 : decode cX7_isReady 12 = .ok (.iload_n 2, 1) := by decide +kernel
theorem dX7_isReady_13 : decode cX7_isReady 13 = .ok (.if_icmp .lt 7, 3) := by decide +kernel
theorem dX7_isReady_16 : decode cX7_isReady 16 = .ok (.iconst 1, 1) := by decide +kernel
theorem dX7_isReady_17 : decode cX7_isReady 17 = .ok (.goto 4, 3) := by decide +kernel
theorem dX7_isReady_20 : decode cX7_isReady 20 = .ok (.iconst 0, 1) := by decide +kernel
theorem dX7_isReady_21 : decode cX7_isReady 21 = .ok (.ireturn, 1) := by decide +kernel
theorem dX7_begin_0 : decode cX7_begin 0 = .ok (.aload_n 0, 1) := by decide +kernel
theorem dX7_begin_1 : decode cX7_begin 1 = .ok (.iload_n 1, 1) := by decide +kernel
theorem dX7_begin_2 : decode cX7_begin 2 = .ok (.putfield 31, 3) := by decide +kernel
theorem dX7_begin_5 : decode cX7_begin 5 = .ok (.aload_n 0, 1) := by decide +kernel
theorem dX7_begin_6 : decode cX7_begin 6 = .ok (.iload_n 2, 1) := by decide +kernel
theorem dX7_begin_7 : decode cX7_begin 7 = .ok (.putfield 34, 3) := by decide +kernel
theorem dX7_begin_10 : decode cX7_begin 10 = .ok (.aload_n 0, 1) := by decide +kernel
theorem dX7_begin_11 : decode cX7_begin 11 = .ok (.getfield 11, 3) := by decide +kernel
theorem dX7_begin_14 : decode cX7_begin 14 = .ok (.arraylength, 1) := by decide +kernel
theorem dX7_begin_15 : decode cX7_begin 15 = .ok (.aload_n 0, 1) := by decide +kernel
theorem dX7_begin_16 : decode cX7_begin 16 = .ok (.getfield 28, 3) := by decide +kernel
theorem dX7_begin_19 : decode cX7_begin 19 = .ok (.if_icmp .eq 18, 3) := by decide +kernel
theorem dX7_begin_22 : decode cX7_begin 22 = .ok (.aload_n 0, 1) := by decide +kernel
theorem dX7_begin_23 : decode cX7_begin 23 = .ok (.aload_n 0, 1) := by decide +kernel
theorem dX7_begin_24 : decode cX7_begin 24 = .ok (.getfield 28, 3) := by decide +kernel
theorem dX7_begin_27 : decode cX7_begin 27 = .ok (.sipush 181, 3) := by decide +kernel
theorem dX7_begin_30 : decode cX7_begin 30 = .ok (.multianewarray 9 2, 4) := by decide +kernel
theorem dX7_begin_34 : decode cX7_begin 34 = .ok (.putfield 11, 3) := by decide +kernel
theorem dX7_begin_37 : decode cX7_begin 37 = .ok (.return_, 1) := by decide +kernel
theorem dX7_makeAlone_0 : decode cX7_makeAlone 0 = .ok (.aload_n 0, 1) := by decide +kernel
theorem dX7_makeAlone_1 : decode cX7_makeAlone 1 = .ok (.iload_n 1, 1) := by decide +kernel
theorem dX7_makeAlone_2 : decode cX7_makeAlone 2 = .ok (.iload_n 2, 1) := by decide +kernel
theorem dX7_makeAlone_3 : decode cX7_makeAlone 3 = .ok (.invokevirtual 37, 3) := by decide +kernel
theorem dX7_makeAlone_6 : decode cX7_makeAlone 6 = .ok (.aload_n 0, 1) := by decide +kernel
theorem dX7_makeAlone_7 : decode cX7_makeAlone 7 = .ok (.getfield 11, 3) := by decide +kernel
theorem dX7_makeAlone_10 : decode cX7_makeAlone 10 = .ok (.iconst 0, 1) := by decide +kernel
theorem dX7_makeAlone_11 : decode cX7_makeAlone 11 = .ok (.aaload, 1) := by decide +kernel
theorem dX7_makeAlone_12 : decode cX7_makeAlone 12 = .ok (.astore_n 3, 1) := by decide +kernel
theorem dX7_makeAlone_13 : decode cX7_makeAlone 13 = .ok (.aload_n 3, 1) := by decide +kernel
theorem dX7_makeAlone_14 : decode cX7_makeAlone 14 = .ok (.iconst 0, 1) := by decide +kernel
theorem dX7_makeAlone_15 : decode cX7_makeAlone 15 = .ok (.invokestatic 41, 3) := by decide +kernel
theorem dX7_makeAlone_18 : decode cX7_makeAlone 18 = .ok (.aload_n 0, 1) := by decide +kernel
theorem dX7_makeAlone_19 : decode cX7_makeAlone 19 = .ok (.invokevirtual 47, 3) := by decide +kernel
theorem dX7_makeAlone_22 : decode cX7_makeAlone 22 = .ok (.i2l, 1) := by decide +kernel
theorem dX7_makeAlone_23 : decode cX7_makeAlone 23 = .ok (.aload_n 0, 1) := by decide +kernel
theorem dX7_makeAlone_24 : decode cX7_makeAlone 24 = .ok (.getfield 31, 3) := by decide +kernel
theorem dX7_makeAlone_27 : decode cX7_makeAlone 27 = .ok (.invokestatic 51, 3) := by decide +kernel
theorem dX7_makeAlone_30 : decode cX7_makeAlone 30 = .ok (.istore 4, 2) := by decide +kernel
theorem dX7_makeAlone_32 : decode cX7_makeAlone 32 = .ok (.iconst 1, 1) := by decide +kernel
theorem dX7_makeAlone_33 : decode cX7_makeAlone 33 = .ok (.istore 5, 2) := by decide +kernel
theorem dX7_makeAlone_35 : decode cX7_makeAlone 35 = .ok (.iload 5, 2) := by decide +kernel
theorem dX7_makeAlone_37 : decode cX7_makeAlone 37 = .ok (.aload_n 0, 1) := by decide +kernel
theorem dX7_makeAlone_38 : decode cX7_makeAlone 38 = .ok (.getfield 34, 3) := by decide +kernel
theorem dX7_makeAlone_41 : decode cX7_makeAlone 41 = .ok (.if_icmp .gt 58, 3) := by decide +kernel
theorem dX7_makeAlone_44 : decode cX7_makeAlone 44 = .ok (.iload 5, 2) := by decide +kernel
theorem dX7_makeAlone_46 : decode cX7_makeAlone 46 = .ok (.aload_n 0, 1) := by decide +kernel
theorem dX7_makeAlone_47 : decode cX7_makeAlone 47 = .ok (.getfield 20, 3) := by decide +kernel
theorem dX7_makeAlone_50 : decode cX7_makeAlone 50 = .ok (.iconst 1, 1) := by decide +kernel
theorem dX7_makeAlone_51 : decode cX7_makeAlone 51 = .ok (.isub, 1) := by decide +kernel
theorem dX7_makeAlone_52 : decode cX7_makeAlone 52 = .ok (.aload_n 0, 1) := by decide +kernel
theorem dX7_makeAlone_53 : decode cX7_makeAlone 53 = .ok (.getfield 31, 3) := by decide +kernel
theorem dX7_makeAlone_56 : decode cX7_makeAlone 56 = .ok (.invokestatic 57, 3) := by decide +kernel
theorem dX7_makeAlone_59 : decode cX7_makeAlone 59 = .ok (.istore 6, 2) := by decide +kernel
theorem dX7_makeAlone_61 : decode cX7_makeAlone 61 = .ok (.iload 5, 2) := by decide +kernel
theorem dX7_makeAlone_63 : decode cX7_makeAlone 63 = .ok (.istore 7, 2) := by decide +kernel
theorem dX7_makeAlone_65 : decode cX7_makeAlone 65 = .ok (.iload 7, 2) := by decide +kernel
theorem dX7_makeAlone_67 : decode cX7_makeAlone 67 = .ok (.aload_n 0, 1) := by decide +kernel
theorem dX7_makeAlone_68 : decode cX7_makeAlone 68 = .ok (.getfield 34, 3) := by decide +kernel
theorem dX7_makeAlone_71 : decode cX7_makeAlone 71 = .ok (.if_icmp .gt 22, 3) := by decide +kernel
theorem dX7_makeAlone_74 : decode cX7_makeAlone 74 = .ok (.aload_n 3, 1) := by decide +kernel
theorem dX7_makeAlone_75 : decode cX7_makeAlone 75 = .ok (.iload 7, 2) := by decide +kernel
theorem dX7_makeAlone_77 : decode cX7_makeAlone 77 = .ok (.dup2, 1) := by decide +kernel
theorem dX7_makeAlone_78 : decode cX7_makeAlone 78 = .ok (.iaload, 1) := by decide +kernel
theorem dX7_makeAlone_79 : decode cX7_makeAlone 79 = .ok (.iload 6, 2) := by decide +kernel
theorem dX7_makeAlone_81 : decode cX7_makeAlone 81 = .ok (.iadd, 1) := by decide +kernel
theorem dX7_makeAlone_82 : decode cX7_makeAlone 82 = .ok (.iastore, 1) := by decide +kernel
theorem dX7_makeAlone_83 : decode cX7_makeAlone 83 = .ok (.iload 7, 2) := by decide +kernel
theorem dX7_makeAlone_85 : decode cX7_makeAlone 85 = .ok (.iload 5, 2) := by decide +kernel
theorem dX7_makeAlone_87 : decode cX7_makeAlone 87 = .ok (.iadd, 1) := by decide +kernel
theorem dX7_makeAlone_88 : decode cX7_makeAlone 88 = .ok (.istore 7, 2) := by decide +kernel
theorem dX7_makeAlone_90 : decode cX7_makeAlone 90 = .ok (.goto (-25), 3) := by decide +kernel
theorem dX7_makeAlone_93 : decode cX7_makeAlone 93 = .ok (.iinc 5 1, 3) := by decide +kernel
theorem dX7_makeAlone_96 : decode cX7_makeAlone 96 = .ok (.goto (-61), 3) := by decide +kernel
theorem dX7_makeAlone_99 : decode cX7_makeAlone 99 = .ok (.iconst 1, 1) := by decide +kernel
theorem dX7_makeAlone_100 : decode cX7_makeAlone 100 = .ok (.istore 5, 2) := by decide +kernel
theorem dX7_makeAlone_102 : decode cX7_makeAlone 102 = .ok (.iload 5, 2) := by decide +kernel
theorem dX7_makeAlone_104 : decode cX7_makeAlone 104 = .ok (.aload_n 0, 1) := by decide +kernel
theorem dX7_makeAlone_105 : decode cX7_makeAlone 105 = .ok (.getfield 34, 3) := by decide +kernel
theorem dX7_makeAlone_108 : decode cX7_makeAlone 108 = .ok (.if_icmp .gt 29, 3) := by decide +kernel
theorem dX7_makeAlone_111 : decode cX7_makeAlone 111 = .ok (.aload_n 3, 1) := by decide +kernel
theorem dX7_makeAlone_112 : decode cX7_makeAlone 112 = .ok (.iload 5, 2) := by decide +kernel
theorem dX7_makeAlone_114 : decode cX7_makeAlone 114 = .ok (.aload_n 3, 1) := by decide +kernel
theorem dX7_makeAlone_115 : decode cX7_makeAlone 115 = .ok (.iload 5, 2) := by decide +kernel
theorem dX7_makeAlone_117 : decode cX7_makeAlone 117 = .ok (.iaload, 1) := by decide +kernel
theorem dX7_makeAlone_118 : decode cX7_makeAlone 118 = .ok (.i2l, 1) := by decide +kernel
theorem dX7_makeAlone_119 : decode cX7_makeAlone 119 = .ok (.iload 4, 2) := by decide +kernel
theorem dX7_makeAlone_121 : decode cX7_makeAlone 121 = .ok (.i2l, 1) := by decide +kernel
theorem dX7_makeAlone_122 : decode cX7_makeAlone 122 = .ok (.lmul, 1) := by decide +kernel
theorem dX7_makeAlone_123 : decode cX7_makeAlone 123 = .ok (.aload_n 0, 1) := by decide +kernel
theorem dX7_makeAlone_124 : decode cX7_makeAlone 124 = .ok (.getfield 31, 3) := by decide +kernel
theorem dX7_makeAlone_127 : decode cX7_makeAlone 127 = .ok (.invokestatic 51, 3) := by decide +kernel
theorem dX7_makeAlone_130 : decode cX7_makeAlone 130 = .ok (.iastore, 1) := by decide +kernel
theorem dX7_makeAlone_131 : decode cX7_makeAlone 131 = .ok (.iinc 5 1, 3) := by decide +kernel
theorem dX7_makeAlone_134 : decode cX7_makeAlone 134 = .ok (.goto (-32), 3) := by decide +kernel
theorem dX7_makeAlone_137 : decode cX7_makeAlone 137 = .ok (.aload_n 3, 1) := by decide +kernel
theorem dX7_makeAlone_138 : decode cX7_makeAlone 138 = .ok (.iconst 0, 1) := by decide +kernel
theorem dX7_makeAlone_139 : decode cX7_makeAlone 139 = .ok (.iconst 1, 1) := by decide +kernel
theorem dX7_makeAlone_140 : decode cX7_makeAlone 140 = .ok (.iastore, 1) := by decide +kernel
theorem dX7_makeAlone_141 : decode cX7_makeAlone 141 = .ok (.return_, 1) := by decide +kernel
theorem dX7_factorOfSums_0 : decode cX7_factorOfSums 0 = .ok (.aload_n 0, 1) := by decide +kernel
theorem dX7_factorOfSums_1 : decode cX7_factorOfSums 1 = .ok (.getfield 20, 3) := by decide +kernel
theorem dX7_factorOfSums_4 : decode cX7_factorOfSums 4 = .ok (.tableswitch 78 0 10 #[60, 78, 78, 78, 62, 78, 66, 78, 70, 78, 74], 60) := by decide +kernel
theorem dX7_factorOfSums_64 : decode cX7_factorOfSums 64 = .ok (.iconst 0, 1) := by decide +kernel
theorem dX7_factorOfSums_65 : decode cX7_factorOfSums 65 = .ok (.ireturn, 1) := by decide +kernel
theorem dX7_factorOfSums_66 : decode cX7_factorOfSums 66 = .ok (.sipush 240, 3) := by decide +kernel
theorem dX7_factorOfSums_69 : decode cX7_factorOfSums 69 = .ok (.ireturn, 1) := by decide +kernel
theorem dX7_factorOfSums_70 : decode cX7_factorOfSums 70 = .ok (.sipush (-504), 3) := by decide +kernel
theorem dX7_factorOfSums_73 : decode cX7_factorOfSums 73 = .ok (.ireturn, 1) := by decide +kernel
theorem dX7_factorOfSums_74 : decode cX7_factorOfSums 74 = .ok (.sipush 480, 3) := by decide +kernel
theorem dX7_factorOfSums_77 : decode cX7_factorOfSums 77 = .ok (.ireturn, 1) := by decide +kernel
theorem dX7_factorOfSums_78 : decode cX7_factorOfSums 78 = .ok (.sipush (-264), 3) := by decide +kernel
theorem dX7_factorOfSums_81 : decode cX7_factorOfSums 81 = .ok (.ireturn, 1) := by decide +kernel
theorem dX7_factorOfSums_82 : decode cX7_factorOfSums 82 = .ok (.bipush (-24), 2) := by decide +kernel
theorem dX7_factorOfSums_84 : decode cX7_factorOfSums 84 = .ok (.ireturn, 1) := by decide +kernel
theorem dX7_makeTwelve_0 : decode cX7_makeTwelve 0 = .ok (.aload_n 0, 1) := by decide +kernel
theorem dX7_makeTwelve_1 : decode cX7_makeTwelve 1 = .ok (.aload_n 1, 1) := by decide +kernel
theorem dX7_makeTwelve_2 : decode cX7_makeTwelve 2 = .ok (.getfield 31, 3) := by decide +kernel
theorem dX7_makeTwelve_5 : decode cX7_makeTwelve 5 = .ok (.iload 4, 2) := by decide +kernel
theorem dX7_makeTwelve_7 : decode cX7_makeTwelve 7 = .ok (.invokevirtual 37, 3) := by decide +kernel
theorem dX7_makeTwelve_10 : decode cX7_makeTwelve 10 = .ok (.aload_n 0, 1) := by decide +kernel
theorem dX7_makeTwelve_11 : decode cX7_makeTwelve 11 = .ok (.getfield 11, 3) := by decide +kernel
theorem dX7_makeTwelve_14 : decode cX7_makeTwelve 14 = .ok (.iconst 0, 1) := by decide +kernel
theorem dX7_makeTwelve_15 : decode cX7_makeTwelve 15 = .ok (.aaload, 1) := by decide +kernel
theorem dX7_makeTwelve_16 : decode cX7_makeTwelve 16 = .ok (.astore 5, 2) := by decide +kernel
theorem dX7_makeTwelve_18 : decode cX7_makeTwelve 18 = .ok (.aload_n 0, 1) := by decide +kernel
theorem dX7_makeTwelve_19 : decode cX7_makeTwelve 19 = .ok (.getfield 11, 3) := by decide +kernel
theorem dX7_makeTwelve_22 : decode cX7_makeTwelve 22 = .ok (.iconst 1, 1) := by decide +kernel
theorem dX7_makeTwelve_23 : decode cX7_makeTwelve 23 = .ok (.aaload, 1) := by decide +kernel
theorem dX7_makeTwelve_24 : decode cX7_makeTwelve 24 = .ok (.astore 6, 2) := by decide +kernel
theorem dX7_makeTwelve_26 : decode cX7_makeTwelve 26 = .ok (.aload_n 0, 1) := by decide +kernel
theorem dX7_makeTwelve_27 : decode cX7_makeTwelve 27 = .ok (.aload 5, 2) := by decide +kernel
theorem dX7_makeTwelve_29 : decode cX7_makeTwelve 29 = .ok (.aload_n 1, 1) := by decide +kernel
theorem dX7_makeTwelve_30 : decode cX7_makeTwelve 30 = .ok (.getfield 11, 3) := by decide +kernel
theorem dX7_makeTwelve_33 : decode cX7_makeTwelve 33 = .ok (.iconst 0, 1) := by decide +kernel
theorem dX7_makeTwelve_34 : decode cX7_makeTwelve 34 = .ok (.aaload, 1) := by decide +kernel
theorem dX7_makeTwelve_35 : decode cX7_makeTwelve 35 = .ok (.aload_n 3, 1) := by decide +kernel
theorem dX7_makeTwelve_36 : decode cX7_makeTwelve 36 = .ok (.getfield 11, 3) := by decide +kernel
theorem dX7_makeTwelve_39 : decode cX7_makeTwelve 39 = .ok (.iconst 0, 1) := by decide +kernel
theorem dX7_makeTwelve_40 : decode cX7_makeTwelve 40 = .ok (.aaload, 1) := by decide +kernel
theorem dX7_makeTwelve_41 : decode cX7_makeTwelve 41 = .ok (.invokevirtual 61, 3) := by decide +kernel
theorem dX7_makeTwelve_44 : decode cX7_makeTwelve 44 = .ok (.aload_n 0, 1) := by decide +kernel
theorem dX7_makeTwelve_45 : decode cX7_makeTwelve 45 = .ok (.aload 6, 2) := by decide +kernel
theorem dX7_makeTwelve_47 : decode cX7_makeTwelve 47 = .ok (.aload_n 2, 1) := by decide +kernel
theorem dX7_makeTwelve_48 : decode cX7_makeTwelve 48 = .ok (.getfield 11, 3) := by decide +kernel
theorem dX7_makeTwelve_51 : decode cX7_makeTwelve 51 = .ok (.iconst 0, 1) := by decide +kernel
theorem dX7_makeTwelve_52 : decode cX7_makeTwelve 52 = .ok (.aaload, 1) := by decide +kernel
theorem dX7_makeTwelve_53 : decode cX7_makeTwelve 53 = .ok (.aload_n 2, 1) := by decide +kernel
theorem dX7_makeTwelve_54 : decode cX7_makeTwelve 54 = .ok (.getfield 11, 3) := by decide +kernel
theorem dX7_makeTwelve_57 : decode cX7_makeTwelve 57 = .ok (.iconst 0, 1) := by decide +kernel
theorem dX7_makeTwelve_58 : decode cX7_makeTwelve 58 = .ok (.aaload, 1) := by decide +kernel
theorem dX7_makeTwelve_59 : decode cX7_makeTwelve 59 = .ok (.invokevirtual 61, 3) := by decide +kernel
theorem dX7_makeTwelve_62 : decode cX7_makeTwelve 62 = .ok (.iconst 1, 1) := by decide +kernel
theorem dX7_makeTwelve_63 : decode cX7_makeTwelve 63 = .ok (.sipush 1728, 3) := by decide +kernel
theorem dX7_makeTwelve_66 : decode cX7_makeTwelve 66 = .ok (.aload_n 0, 1) := by decide +kernel
theorem dX7_makeTwelve_67 : decode cX7_makeTwelve 67 = .ok (.getfield 31, 3) := by decide +kernel
theorem dX7_makeTwelve_70 : decode cX7_makeTwelve 70 = .ok (.invokestatic 65, 3) := by decide +kernel
theorem dX7_makeTwelve_73 : decode cX7_makeTwelve 73 = .ok (.istore 7, 2) := by decide +kernel
theorem dX7_makeTwelve_75 : decode cX7_makeTwelve 75 = .ok (.iconst 0, 1) := by decide +kernel
theorem dX7_makeTwelve_76 : decode cX7_makeTwelve 76 = .ok (.istore 8, 2) := by decide +kernel
theorem dX7_makeTwelve_78 : decode cX7_makeTwelve 78 = .ok (.iload 8, 2) := by decide +kernel
theorem dX7_makeTwelve_80 : decode cX7_makeTwelve 80 = .ok (.aload_n 0, 1) := by decide +kernel
theorem dX7_makeTwelve_81 : decode cX7_makeTwelve 81 = .ok (.getfield 34, 3) := by decide +kernel
theorem dX7_makeTwelve_84 : decode cX7_makeTwelve 84 = .ok (.if_icmp .gt 37, 3) := by decide +kernel
theorem dX7_makeTwelve_87 : decode cX7_makeTwelve 87 = .ok (.aload 6, 2) := by decide +kernel
theorem dX7_makeTwelve_89 : decode cX7_makeTwelve 89 = .ok (.iload 8, 2) := by decide +kernel
theorem dX7_makeTwelve_91 : decode cX7_makeTwelve 91 = .ok (.aload 5, 2) := by decide +kernel
theorem dX7_makeTwelve_93 : decode cX7_makeTwelve 93 = .ok (.iload 8, 2) := by decide +kernel
theorem dX7_makeTwelve_95 : decode cX7_makeTwelve 95 = .ok (.iaload, 1) := by decide +kernel
theorem dX7_makeTwelve_96 : decode cX7_makeTwelve 96 = .ok (.aload 6, 2) := by decide +kernel
theorem dX7_makeTwelve_98 : decode cX7_makeTwelve 98 = .ok (.iload 8, 2) := by decide +kernel
theorem dX7_makeTwelve_100 : decode cX7_makeTwelve 100 = .ok (.iaload, 1) := by decide +kernel
theorem dX7_makeTwelve_101 : decode cX7_makeTwelve 101 = .ok (.isub, 1) := by decide +kernel
theorem dX7_makeTwelve_102 : decode cX7_makeTwelve 102 = .ok (.i2l, 1) := by decide +kernel
theorem dX7_makeTwelve_103 : decode cX7_makeTwelve 103 = .ok (.iload 7, 2) := by decide +kernel
theorem dX7_makeTwelve_105 : decode cX7_makeTwelve 105 = .ok (.i2l, 1) := by decide +kernel
theorem dX7_makeTwelve_106 : decode cX7_makeTwelve 106 = .ok (.lmul, 1) := by decide +kernel
theorem dX7_makeTwelve_107 : decode cX7_makeTwelve 107 = .ok (.aload_n 0, 1) := by decide +kernel
theorem dX7_makeTwelve_108 : decode cX7_makeTwelve 108 = .ok (.getfield 31, 3) := by decide +kernel
theorem dX7_makeTwelve_111 : decode cX7_makeTwelve 111 = .ok (.invokestatic 51, 3) := by decide +kernel
theorem dX7_makeTwelve_114 : decode cX7_makeTwelve 114 = .ok (.iastore, 1) := by decide +kernel
theorem dX7_makeTwelve_115 : decode cX7_makeTwelve 115 = .ok (.iinc 8 1, 3) := by decide +kernel
theorem dX7_makeTwelve_118 : decode cX7_makeTwelve 118 = .ok (.goto (-40), 3) := by decide +kernel
theorem dX7_makeTwelve_121 : decode cX7_makeTwelve 121 = .ok (.aload_n 0, 1) := by decide +kernel
theorem dX7_makeTwelve_122 : decode cX7_makeTwelve 122 = .ok (.invokevirtual 68, 3) := by decide +kernel
theorem dX7_makeTwelve_125 : decode cX7_makeTwelve 125 = .ok (.return_, 1) := by decide +kernel
theorem dX7_makeFrom_0 : decode cX7_makeFrom 0 = .ok (.aload_n 0, 1) := by decide +kernel
theorem dX7_makeFrom_1 : decode cX7_makeFrom 1 = .ok (.aload_n 2, 1) := by decide +kernel
theorem dX7_makeFrom_2 : decode cX7_makeFrom 2 = .ok (.getfield 31, 3) := by decide +kernel
theorem dX7_makeFrom_5 : decode cX7_makeFrom 5 = .ok (.iload_n 3, 1) := by decide +kernel
theorem dX7_makeFrom_6 : decode cX7_makeFrom 6 = .ok (.invokevirtual 37, 3) := by decide +kernel
theorem dX7_makeFrom_9 : decode cX7_makeFrom 9 = .ok (.aload_n 0, 1) := by decide +kernel
theorem dX7_makeFrom_10 : decode cX7_makeFrom 10 = .ok (.aload_n 0, 1) := by decide +kernel
theorem dX7_makeFrom_11 : decode cX7_makeFrom 11 = .ok (.getfield 11, 3) := by decide +kernel
theorem dX7_makeFrom_14 : decode cX7_makeFrom 14 = .ok (.iconst 0, 1) := by decide +kernel
theorem dX7_makeFrom_15 : decode cX7_makeFrom 15 = .ok (.aaload, 1) := by decide +kernel
theorem dX7_makeFrom_16 : decode cX7_makeFrom 16 = .ok (.aload_n 1, 1) := by decide +kernel
theorem dX7_makeFrom_17 : decode cX7_makeFrom 17 = .ok (.getfield 11, 3) := by decide +kernel
theorem dX7_makeFrom_20 : decode cX7_makeFrom 20 = .ok (.iconst 0, 1) := by decide +kernel
theorem dX7_makeFrom_21 : decode cX7_makeFrom 21 = .ok (.aaload, 1) := by decide +kernel
theorem dX7_makeFrom_22 : decode cX7_makeFrom 22 = .ok (.aload_n 2, 1) := by decide +kernel
theorem dX7_makeFrom_23 : decode cX7_makeFrom 23 = .ok (.getfield 11, 3) := by decide +kernel
theorem dX7_makeFrom_26 : decode cX7_makeFrom 26 = .ok (.iconst 0, 1) := by decide +kernel
theorem dX7_makeFrom_27 : decode cX7_makeFrom 27 = .ok (.aaload, 1) := by decide +kernel
theorem dX7_makeFrom_28 : decode cX7_makeFrom 28 = .ok (.invokevirtual 61, 3) := by decide +kernel
theorem dX7_makeFrom_31 : decode cX7_makeFrom 31 = .ok (.iconst 1, 1) := by decide +kernel
theorem dX7_makeFrom_32 : decode cX7_makeFrom 32 = .ok (.istore 4, 2) := by decide +kernel
theorem dX7_makeFrom_34 : decode cX7_makeFrom 34 = .ok (.iload 4, 2) := by decide +kernel
theorem dX7_makeFrom_36 : decode cX7_makeFrom 36 = .ok (.aload_n 0, 1) := by decide +kernel
theorem dX7_makeFrom_37 : decode cX7_makeFrom 37 = .ok (.getfield 28, 3) := by decide +kernel
theorem dX7_makeFrom_40 : decode cX7_makeFrom 40 = .ok (.if_icmp .ge 35, 3) := by decide +kernel
theorem dX7_makeFrom_43 : decode cX7_makeFrom 43 = .ok (.aload_n 0, 1) := by decide +kernel
theorem dX7_makeFrom_44 : decode cX7_makeFrom 44 = .ok (.aload_n 0, 1) := by decide +kernel
theorem dX7_makeFrom_45 : decode cX7_makeFrom 45 = .ok (.getfield 11, 3) := by decide +kernel
theorem dX7_makeFrom_48 : decode cX7_makeFrom 48 = .ok (.iload 4, 2) := by decide +kernel
theorem dX7_makeFrom_50 : decode cX7_makeFrom 50 = .ok (.aaload, 1) := by decide +kernel
theorem dX7_makeFrom_51 : decode cX7_makeFrom 51 = .ok (.aload_n 1, 1) := by decide +kernel
theorem dX7_makeFrom_52 : decode cX7_makeFrom 52 = .ok (.getfield 11, 3) := by decide +kernel
theorem dX7_makeFrom_55 : decode cX7_makeFrom 55 = .ok (.iload 4, 2) := by decide +kernel
theorem dX7_makeFrom_57 : decode cX7_makeFrom 57 = .ok (.iconst 1, 1) := by decide +kernel
theorem dX7_makeFrom_58 : decode cX7_makeFrom 58 = .ok (.isub, 1) := by decide +kernel
theorem dX7_makeFrom_59 : decode cX7_makeFrom 59 = .ok (.aaload, 1) := by decide +kernel
theorem dX7_makeFrom_60 : decode cX7_makeFrom 60 = .ok (.aload_n 2, 1) := by decide +kernel
theorem dX7_makeFrom_61 : decode cX7_makeFrom 61 = .ok (.getfield 11, 3) := by decide +kernel
theorem dX7_makeFrom_64 : decode cX7_makeFrom 64 = .ok (.iconst 1, 1) := by decide +kernel
theorem dX7_makeFrom_65 : decode cX7_makeFrom 65 = .ok (.aaload, 1) := by decide +kernel
theorem dX7_makeFrom_66 : decode cX7_makeFrom 66 = .ok (.invokevirtual 61, 3) := by decide +kernel
theorem dX7_makeFrom_69 : decode cX7_makeFrom 69 = .ok (.iinc 4 1, 3) := by decide +kernel
theorem dX7_makeFrom_72 : decode cX7_makeFrom 72 = .ok (.goto (-38), 3) := by decide +kernel
theorem dX7_makeFrom_75 : decode cX7_makeFrom 75 = .ok (.aload_n 0, 1) := by decide +kernel
theorem dX7_makeFrom_76 : decode cX7_makeFrom 76 = .ok (.invokevirtual 68, 3) := by decide +kernel
theorem dX7_makeFrom_79 : decode cX7_makeFrom 79 = .ok (.return_, 1) := by decide +kernel
theorem dX7_multiply_0 : decode cX7_multiply 0 = .ok (.iconst 0, 1) := by decide +kernel
theorem dX7_multiply_1 : decode cX7_multiply 1 = .ok (.istore 4, 2) := by decide +kernel
theorem dX7_multiply_3 : decode cX7_multiply 3 = .ok (.iload 4, 2) := by decide +kernel
theorem dX7_multiply_5 : decode cX7_multiply 5 = .ok (.aload_n 0, 1) := by decide +kernel
theorem dX7_multiply_6 : decode cX7_multiply 6 = .ok (.getfield 34, 3) := by decide +kernel
theorem dX7_multiply_9 : decode cX7_multiply 9 = .ok (.if_icmp .gt 60, 3) := by decide +kernel
theorem dX7_multiply_12 : decode cX7_multiply 12 = .ok (.lconst 0, 1) := by decide +kernel
theorem dX7_multiply_13 : decode cX7_multiply 13 = .ok (.lstore 5, 2) := by decide +kernel
theorem dX7_multiply_15 : decode cX7_multiply 15 = .ok (.iconst 0, 1) := by decide +kernel
theorem dX7_multiply_16 : decode cX7_multiply 16 = .ok (.istore 7, 2) := by decide +kernel
theorem dX7_multiply_18 : decode cX7_multiply 18 = .ok (.iload 7, 2) := by decide +kernel
theorem dX7_multiply_20 : decode cX7_multiply 20 = .ok (.iload 4, 2) := by decide +kernel
theorem dX7_multiply_22 : decode cX7_multiply 22 = .ok (.if_icmp .gt 28, 3) := by decide +kernel
theorem dX7_multiply_25 : decode cX7_multiply 25 = .ok (.lload 5, 2) := by decide +kernel
theorem dX7_multiply_27 : decode cX7_multiply 27 = .ok (.aload_n 2, 1) := by decide +kernel
theorem dX7_multiply_28 : decode cX7_multiply 28 = .ok (.iload 7, 2) := by decide +kernel
theorem dX7_multiply_30 : decode cX7_multiply 30 = .ok (.iaload, 1) := by decide +kernel
theorem dX7_multiply_31 : decode cX7_multiply 31 = .ok (.i2l, 1) := by decide +kernel
theorem dX7_multiply_32 : decode cX7_multiply 32 = .ok (.aload_n 3, 1) := by decide +kernel
theorem dX7_multiply_33 : decode cX7_multiply 33 = .ok (.iload 4, 2) := by decide +kernel
theorem dX7_multiply_35 : decode cX7_multiply 35 = .ok (.iload 7, 2) := by decide +kernel
theorem dX7_multiply_37 : decode cX7_multiply 37 = .ok (.isub, 1) := by decide +kernel
theorem dX7_multiply_38 : decode cX7_multiply 38 = .ok (.iaload, 1) := by decide +kernel
theorem dX7_multiply_39 : decode cX7_multiply 39 = .ok (.i2l, 1) := by decide +kernel
theorem dX7_multiply_40 : decode cX7_multiply 40 = .ok (.lmul, 1) := by decide +kernel
theorem dX7_multiply_41 : decode cX7_multiply 41 = .ok (.ladd, 1) := by decide +kernel
theorem dX7_multiply_42 : decode cX7_multiply 42 = .ok (.lstore 5, 2) := by decide +kernel
theorem dX7_multiply_44 : decode cX7_multiply 44 = .ok (.iinc 7 1, 3) := by decide +kernel
theorem dX7_multiply_47 : decode cX7_multiply 47 = .ok (.goto (-29), 3) := by decide +kernel
theorem dX7_multiply_50 : decode cX7_multiply 50 = .ok (.aload_n 1, 1) := by decide +kernel
theorem dX7_multiply_51 : decode cX7_multiply 51 = .ok (.iload 4, 2) := by decide +kernel
theorem dX7_multiply_53 : decode cX7_multiply 53 = .ok (.lload 5, 2) := by decide +kernel
theorem dX7_multiply_55 : decode cX7_multiply 55 = .ok (.aload_n 0, 1) := by decide +kernel
theorem dX7_multiply_56 : decode cX7_multiply 56 = .ok (.getfield 31, 3) := by decide +kernel
theorem dX7_multiply_59 : decode cX7_multiply 59 = .ok (.invokestatic 51, 3) := by decide +kernel
theorem dX7_multiply_62 : decode cX7_multiply 62 = .ok (.iastore, 1) := by decide +kernel
theorem dX7_multiply_63 : decode cX7_multiply 63 = .ok (.iinc 4 1, 3) := by decide +kernel
theorem dX7_multiply_66 : decode cX7_multiply 66 = .ok (.goto (-63), 3) := by decide +kernel
theorem dX7_multiply_69 : decode cX7_multiply 69 = .ok (.return_, 1) := by decide +kernel
theorem dX7_reduce_0 : decode cX7_reduce 0 = .ok (.aload_n 0, 1) := by decide +kernel
theorem dX7_reduce_1 : decode cX7_reduce 1 = .ok (.getfield 28, 3) := by decide +kernel
theorem dX7_reduce_4 : decode cX7_reduce 4 = .ok (.iconst 2, 1) := by decide +kernel
theorem dX7_reduce_5 : decode cX7_reduce 5 = .ok (.isub, 1) := by decide +kernel
theorem dX7_reduce_6 : decode cX7_reduce 6 = .ok (.istore_n 1, 1) := by decide +kernel
theorem dX7_reduce_7 : decode cX7_reduce 7 = .ok (.iload_n 1, 1) := by decide +kernel
theorem dX7_reduce_8 : decode cX7_reduce 8 = .ok (.ifCond .lt 51, 3) := by decide +kernel
theorem dX7_reduce_11 : decode cX7_reduce 11 = .ok (.iload_n 1, 1) := by decide +kernel
theorem dX7_reduce_12 : decode cX7_reduce 12 = .ok (.iconst 1, 1) := by decide +kernel
theorem dX7_reduce_13 : decode cX7_reduce 13 = .ok (.iadd, 1) := by decide +kernel
theorem dX7_reduce_14 : decode cX7_reduce 14 = .ok (.istore_n 2, 1) := by decide +kernel
theorem dX7_reduce_15 : decode cX7_reduce 15 = .ok (.iload_n 2, 1) := by decide +kernel
theorem dX7_reduce_16 : decode cX7_reduce 16 = .ok (.aload_n 0, 1) := by decide +kernel
theorem dX7_reduce_17 : decode cX7_reduce 17 = .ok (.getfield 28, 3) := by decide +kernel
theorem dX7_reduce_20 : decode cX7_reduce 20 = .ok (.if_icmp .ge 33, 3) := by decide +kernel
theorem dX7_reduce_23 : decode cX7_reduce 23 = .ok (.aload_n 0, 1) := by decide +kernel
theorem dX7_reduce_24 : decode cX7_reduce 24 = .ok (.aload_n 0, 1) := by decide +kernel
theorem dX7_reduce_25 : decode cX7_reduce 25 = .ok (.getfield 11, 3) := by decide +kernel
theorem dX7_reduce_28 : decode cX7_reduce 28 = .ok (.iload_n 1, 1) := by decide +kernel
theorem dX7_reduce_29 : decode cX7_reduce 29 = .ok (.aaload, 1) := by decide +kernel
theorem dX7_reduce_30 : decode cX7_reduce 30 = .ok (.aload_n 0, 1) := by decide +kernel
theorem dX7_reduce_31 : decode cX7_reduce 31 = .ok (.getfield 11, 3) := by decide +kernel
theorem dX7_reduce_34 : decode cX7_reduce 34 = .ok (.iload_n 2, 1) := by decide +kernel
theorem dX7_reduce_35 : decode cX7_reduce 35 = .ok (.aaload, 1) := by decide +kernel
theorem dX7_reduce_36 : decode cX7_reduce 36 = .ok (.aload_n 0, 1) := by decide +kernel
theorem dX7_reduce_37 : decode cX7_reduce 37 = .ok (.getfield 11, 3) := by decide +kernel
theorem dX7_reduce_40 : decode cX7_reduce 40 = .ok (.iload_n 1, 1) := by decide +kernel
theorem dX7_reduce_41 : decode cX7_reduce 41 = .ok (.aaload, 1) := by decide +kernel
theorem dX7_reduce_42 : decode cX7_reduce 42 = .ok (.iload_n 2, 1) := by decide +kernel
theorem dX7_reduce_43 : decode cX7_reduce 43 = .ok (.iaload, 1) := by decide +kernel
theorem dX7_reduce_44 : decode cX7_reduce 44 = .ok (.invokevirtual 71, 3) := by decide +kernel
theorem dX7_reduce_47 : decode cX7_reduce 47 = .ok (.iinc 2 1, 3) := by decide +kernel
theorem dX7_reduce_50 : decode cX7_reduce 50 = .ok (.goto (-35), 3) := by decide +kernel
theorem dX7_reduce_53 : decode cX7_reduce 53 = .ok (.iinc 1 (-1), 3) := by decide +kernel
theorem dX7_reduce_56 : decode cX7_reduce 56 = .ok (.goto (-49), 3) := by decide +kernel
theorem dX7_reduce_59 : decode cX7_reduce 59 = .ok (.return_, 1) := by decide +kernel
theorem dX7_subtract_0 : decode cX7_subtract 0 = .ok (.iconst 0, 1) := by decide +kernel
theorem dX7_subtract_1 : decode cX7_subtract 1 = .ok (.istore 4, 2) := by decide +kernel
theorem dX7_subtract_3 : decode cX7_subtract 3 = .ok (.iload 4, 2) := by decide +kernel
theorem dX7_subtract_5 : decode cX7_subtract 5 = .ok (.aload_n 0, 1) := by decide +kernel
theorem dX7_subtract_6 : decode cX7_subtract 6 = .ok (.getfield 34, 3) := by decide +kernel
theorem dX7_subtract_9 : decode cX7_subtract 9 = .ok (.if_icmp .gt 34, 3) := by decide +kernel
theorem dX7_subtract_12 : decode cX7_subtract 12 = .ok (.aload_n 1, 1) := by decide +kernel
theorem dX7_subtract_13 : decode cX7_subtract 13 = .ok (.iload 4, 2) := by decide +kernel
theorem dX7_subtract_15 : decode cX7_subtract 15 = .ok (.aload_n 1, 1) := by decide +kernel
theorem dX7_subtract_16 : decode cX7_subtract 16 = .ok (.iload 4, 2) := by decide +kernel
theorem dX7_subtract_18 : decode cX7_subtract 18 = .ok (.iaload, 1) := by decide +kernel
theorem dX7_subtract_19 : decode cX7_subtract 19 = .ok (.i2l, 1) := by decide +kernel
theorem dX7_subtract_20 : decode cX7_subtract 20 = .ok (.iload_n 3, 1) := by decide +kernel
theorem dX7_subtract_21 : decode cX7_subtract 21 = .ok (.i2l, 1) := by decide +kernel
theorem dX7_subtract_22 : decode cX7_subtract 22 = .ok (.aload_n 2, 1) := by decide +kernel
theorem dX7_subtract_23 : decode cX7_subtract 23 = .ok (.iload 4, 2) := by decide +kernel
theorem dX7_subtract_25 : decode cX7_subtract 25 = .ok (.iaload, 1) := by decide +kernel
theorem dX7_subtract_26 : decode cX7_subtract 26 = .ok (.i2l, 1) := by decide +kernel
theorem dX7_subtract_27 : decode cX7_subtract 27 = .ok (.lmul, 1) := by decide +kernel
theorem dX7_subtract_28 : decode cX7_subtract 28 = .ok (.lsub, 1) := by decide +kernel
theorem dX7_subtract_29 : decode cX7_subtract 29 = .ok (.aload_n 0, 1) := by decide +kernel
theorem dX7_subtract_30 : decode cX7_subtract 30 = .ok (.getfield 31, 3) := by decide +kernel
theorem dX7_subtract_33 : decode cX7_subtract 33 = .ok (.invokestatic 51, 3) := by decide +kernel
theorem dX7_subtract_36 : decode cX7_subtract 36 = .ok (.iastore, 1) := by decide +kernel
theorem dX7_subtract_37 : decode cX7_subtract 37 = .ok (.iinc 4 1, 3) := by decide +kernel
theorem dX7_subtract_40 : decode cX7_subtract 40 = .ok (.goto (-37), 3) := by decide +kernel
theorem dX7_subtract_43 : decode cX7_subtract 43 = .ok (.return_, 1) := by decide +kernel
theorem dX7_expand_0 : decode cX7_expand 0 = .ok (.lconst 0, 1) := by decide +kernel
theorem dX7_expand_1 : decode cX7_expand 1 = .ok (.lstore_n 3, 1) := by decide +kernel
theorem dX7_expand_2 : decode cX7_expand 2 = .ok (.iconst 0, 1) := by decide +kernel
theorem dX7_expand_3 : decode cX7_expand 3 = .ok (.istore 5, 2) := by decide +kernel
theorem dX7_expand_5 : decode cX7_expand 5 = .ok (.iload 5, 2) := by decide +kernel
theorem dX7_expand_7 : decode cX7_expand 7 = .ok (.aload_n 0, 1) := by decide +kernel
theorem dX7_expand_8 : decode cX7_expand 8 = .ok (.getfield 28, 3) := by decide +kernel
theorem dX7_expand_11 : decode cX7_expand 11 = .ok (.if_icmp .ge 28, 3) := by decide +kernel
theorem dX7_expand_14 : decode cX7_expand 14 = .ok (.lload_n 3, 1) := by decide +kernel
theorem dX7_expand_15 : decode cX7_expand 15 = .ok (.aload_n 1, 1) := by decide +kernel
theorem dX7_expand_16 : decode cX7_expand 16 = .ok (.iload 5, 2) := by decide +kernel
theorem dX7_expand_18 : decode cX7_expand 18 = .ok (.iaload, 1) := by decide +kernel
theorem dX7_expand_19 : decode cX7_expand 19 = .ok (.i2l, 1) := by decide +kernel
theorem dX7_expand_20 : decode cX7_expand 20 = .ok (.aload_n 0, 1) := by decide +kernel
theorem dX7_expand_21 : decode cX7_expand 21 = .ok (.getfield 11, 3) := by decide +kernel
theorem dX7_expand_24 : decode cX7_expand 24 = .ok (.iload 5, 2) := by decide +kernel
theorem dX7_expand_26 : decode cX7_expand 26 = .ok (.aaload, 1) := by decide +kernel
theorem dX7_expand_27 : decode cX7_expand 27 = .ok (.iload_n 2, 1) := by decide +kernel
theorem dX7_expand_28 : decode cX7_expand 28 = .ok (.iaload, 1) := by decide +kernel
theorem dX7_expand_29 : decode cX7_expand 29 = .ok (.i2l, 1) := by decide +kernel
theorem dX7_expand_30 : decode cX7_expand 30 = .ok (.lmul, 1) := by decide +kernel
theorem dX7_expand_31 : decode cX7_expand 31 = .ok (.ladd, 1) := by decide +kernel
theorem dX7_expand_32 : decode cX7_expand 32 = .ok (.lstore_n 3, 1) := by decide +kernel
theorem dX7_expand_33 : decode cX7_expand 33 = .ok (.iinc 5 1, 3) := by decide +kernel
theorem dX7_expand_36 : decode cX7_expand 36 = .ok (.goto (-31), 3) := by decide +kernel
theorem dX7_expand_39 : decode cX7_expand 39 = .ok (.lload_n 3, 1) := by decide +kernel
theorem dX7_expand_40 : decode cX7_expand 40 = .ok (.aload_n 0, 1) := by decide +kernel
theorem dX7_expand_41 : decode cX7_expand 41 = .ok (.getfield 31, 3) := by decide +kernel
theorem dX7_expand_44 : decode cX7_expand 44 = .ok (.invokestatic 51, 3) := by decide +kernel
theorem dX7_expand_47 : decode cX7_expand 47 = .ok (.ireturn, 1) := by decide +kernel
theorem dX7_complete_0 : decode cX7_complete 0 = .ok (.aload_n 1, 1) := by decide +kernel
theorem dX7_complete_1 : decode cX7_complete 1 = .ok (.aload_n 0, 1) := by decide +kernel
theorem dX7_complete_2 : decode cX7_complete 2 = .ok (.getfield 20, 3) := by decide +kernel
theorem dX7_complete_5 : decode cX7_complete 5 = .ok (.putfield 75, 3) := by decide +kernel
theorem dX7_complete_8 : decode cX7_complete 8 = .ok (.aload_n 0, 1) := by decide +kernel
theorem dX7_complete_9 : decode cX7_complete 9 = .ok (.getfield 28, 3) := by decide +kernel
theorem dX7_complete_12 : decode cX7_complete 12 = .ok (.istore_n 2, 1) := by decide +kernel
theorem dX7_complete_13 : decode cX7_complete 13 = .ok (.iload_n 2, 1) := by decide +kernel
theorem dX7_complete_14 : decode cX7_complete 14 = .ok (.bipush 6, 2) := by decide +kernel
theorem dX7_complete_16 : decode cX7_complete 16 = .ok (.if_icmp .ge 24, 3) := by decide +kernel
theorem dX7_complete_19 : decode cX7_complete 19 = .ok (.aload_n 1, 1) := by decide +kernel
theorem dX7_complete_20 : decode cX7_complete 20 = .ok (.getfield 78, 3) := by decide +kernel
theorem dX7_complete_23 : decode cX7_complete 23 = .ok (.iload_n 2, 1) := by decide +kernel
theorem dX7_complete_24 : decode cX7_complete 24 = .ok (.aload_n 0, 1) := by decide +kernel
theorem dX7_complete_25 : decode cX7_complete 25 = .ok (.aload_n 1, 1) := by decide +kernel
theorem dX7_complete_26 : decode cX7_complete 26 = .ok (.getfield 78, 3) := by decide +kernel
theorem dX7_complete_29 : decode cX7_complete 29 = .ok (.iload_n 2, 1) := by decide +kernel
theorem dX7_complete_30 : decode cX7_complete 30 = .ok (.invokevirtual 81, 3) := by decide +kernel
theorem dX7_complete_33 : decode cX7_complete 33 = .ok (.iastore, 1) := by decide +kernel
theorem dX7_complete_34 : decode cX7_complete 34 = .ok (.iinc 2 1, 3) := by decide +kernel
theorem dX7_complete_37 : decode cX7_complete 37 = .ok (.goto (-24), 3) := by decide +kernel
theorem dX7_complete_40 : decode cX7_complete 40 = .ok (.return_, 1) := by decide +kernel
theorem dX7_heckeAt_0 : decode cX7_heckeAt 0 = .ok (.aload_n 0, 1) := by decide +kernel
theorem dX7_heckeAt_1 : decode cX7_heckeAt 1 = .ok (.getfield 20, 3) := by decide +kernel
theorem dX7_heckeAt_4 : decode cX7_heckeAt 4 = .ok (.iconst 4, 1) := by decide +kernel
theorem dX7_heckeAt_5 : decode cX7_heckeAt 5 = .ok (.if_icmp .ge 5, 3) := by decide +kernel
theorem dX7_heckeAt_8 : decode cX7_heckeAt 8 = .ok (.iconst 0, 1) := by decide +kernel
theorem dX7_heckeAt_9 : decode cX7_heckeAt 9 = .ok (.ireturn, 1) := by decide +kernel
theorem dX7_heckeAt_10 : decode cX7_heckeAt 10 = .ok (.iconst 0, 1) := by decide +kernel
theorem dX7_heckeAt_11 : decode cX7_heckeAt 11 = .ok (.istore 4, 2) := by decide +kernel
theorem dX7_heckeAt_13 : decode cX7_heckeAt 13 = .ok (.iconst 1, 1) := by decide +kernel
theorem dX7_heckeAt_14 : decode cX7_heckeAt 14 = .ok (.istore 5, 2) := by decide +kernel
theorem dX7_heckeAt_16 : decode cX7_heckeAt 16 = .ok (.iload 5, 2) := by decide +kernel
theorem dX7_heckeAt_18 : decode cX7_heckeAt 18 = .ok (.iload_n 2, 1) := by decide +kernel
theorem dX7_heckeAt_19 : decode cX7_heckeAt 19 = .ok (.if_icmp .gt 72, 3) := by decide +kernel
theorem dX7_heckeAt_22 : decode cX7_heckeAt 22 = .ok (.iload_n 2, 1) := by decide +kernel
theorem dX7_heckeAt_23 : decode cX7_heckeAt 23 = .ok (.iload 5, 2) := by decide +kernel
theorem dX7_heckeAt_25 : decode cX7_heckeAt 25 = .ok (.irem, 1) := by decide +kernel
theorem dX7_heckeAt_26 : decode cX7_heckeAt 26 = .ok (.ifCond .ne 59, 3) := by decide +kernel
theorem dX7_heckeAt_29 : decode cX7_heckeAt 29 = .ok (.iload_n 3, 1) := by decide +kernel
theorem dX7_heckeAt_30 : decode cX7_heckeAt 30 = .ok (.iload 5, 2) := by decide +kernel
theorem dX7_heckeAt_32 : decode cX7_heckeAt 32 = .ok (.irem, 1) := by decide +kernel
theorem dX7_heckeAt_33 : decode cX7_heckeAt 33 = .ok (.ifCond .ne 52, 3) := by decide +kernel
theorem dX7_heckeAt_36 : decode cX7_heckeAt 36 = .ok (.iload 5, 2) := by decide +kernel
theorem dX7_heckeAt_38 : decode cX7_heckeAt 38 = .ok (.aload_n 0, 1) := by decide +kernel
theorem dX7_heckeAt_39 : decode cX7_heckeAt 39 = .ok (.getfield 20, 3) := by decide +kernel
theorem dX7_heckeAt_42 : decode cX7_heckeAt 42 = .ok (.iconst 1, 1) := by decide +kernel
theorem dX7_heckeAt_43 : decode cX7_heckeAt 43 = .ok (.isub, 1) := by decide +kernel
theorem dX7_heckeAt_44 : decode cX7_heckeAt 44 = .ok (.aload_n 0, 1) := by decide +kernel
theorem dX7_heckeAt_45 : decode cX7_heckeAt 45 = .ok (.getfield 31, 3) := by decide +kernel
theorem dX7_heckeAt_48 : decode cX7_heckeAt 48 = .ok (.invokestatic 57, 3) := by decide +kernel
theorem dX7_heckeAt_51 : decode cX7_heckeAt 51 = .ok (.i2l, 1) := by decide +kernel
theorem dX7_heckeAt_52 : decode cX7_heckeAt 52 = .ok (.lstore 6, 2) := by decide +kernel
theorem dX7_heckeAt_54 : decode cX7_heckeAt 54 = .ok (.iload 4, 2) := by decide +kernel
theorem dX7_heckeAt_56 : decode cX7_heckeAt 56 = .ok (.i2l, 1) := by decide +kernel
theorem dX7_heckeAt_57 : decode cX7_heckeAt 57 = .ok (.lload 6, 2) := by decide +kernel
theorem dX7_heckeAt_59 : decode cX7_heckeAt 59 = .ok (.aload_n 0, 1) := by decide +kernel
theorem dX7_heckeAt_60 : decode cX7_heckeAt 60 = .ok (.aload_n 1, 1) := by decide +kernel
theorem dX7_heckeAt_61 : decode cX7_heckeAt 61 = .ok (.iload_n 3, 1) := by decide +kernel
theorem dX7_heckeAt_62 : decode cX7_heckeAt 62 = .ok (.iload 5, 2) := by decide +kernel
theorem dX7_heckeAt_64 : decode cX7_heckeAt 64 = .ok (.idiv, 1) := by decide +kernel
theorem dX7_heckeAt_65 : decode cX7_heckeAt 65 = .ok (.iload_n 2, 1) := by decide +kernel
theorem dX7_heckeAt_66 : decode cX7_heckeAt 66 = .ok (.iload 5, 2) := by decide +kernel
theorem dX7_heckeAt_68 : decode cX7_heckeAt 68 = .ok (.idiv, 1) := by decide +kernel
theorem dX7_heckeAt_69 : decode cX7_heckeAt 69 = .ok (.imul, 1) := by decide +kernel
theorem dX7_heckeAt_70 : decode cX7_heckeAt 70 = .ok (.invokevirtual 81, 3) := by decide +kernel
theorem dX7_heckeAt_73 : decode cX7_heckeAt 73 = .ok (.i2l, 1) := by decide +kernel
theorem dX7_heckeAt_74 : decode cX7_heckeAt 74 = .ok (.lmul, 1) := by decide +kernel
theorem dX7_heckeAt_75 : decode cX7_heckeAt 75 = .ok (.ladd, 1) := by decide +kernel
theorem dX7_heckeAt_76 : decode cX7_heckeAt 76 = .ok (.aload_n 0, 1) := by decide +kernel
theorem dX7_heckeAt_77 : decode cX7_heckeAt 77 = .ok (.getfield 31, 3) := by decide +kernel
theorem dX7_heckeAt_80 : decode cX7_heckeAt 80 = .ok (.invokestatic 51, 3) := by decide +kernel
theorem dX7_heckeAt_83 : decode cX7_heckeAt 83 = .ok (.istore 4, 2) := by decide +kernel
theorem dX7_heckeAt_85 : decode cX7_heckeAt 85 = .ok (.iinc 5 1, 3) := by decide +kernel
theorem dX7_heckeAt_88 : decode cX7_heckeAt 88 = .ok (.goto (-72), 3) := by decide +kernel
theorem dX7_heckeAt_91 : decode cX7_heckeAt 91 = .ok (.iload 4, 2) := by decide +kernel
theorem dX7_heckeAt_93 : decode cX7_heckeAt 93 = .ok (.ireturn, 1) := by decide +kernel
