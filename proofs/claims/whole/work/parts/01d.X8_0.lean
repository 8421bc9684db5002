theorem dX8_init_0 : decode cX8_init 0 = .ok (.aload_n 0, 1) := by decide +kernel
theorem dX8_init_1 : decode cX8_init 1 = .ok (.invokespecial 3, 3) := by decide +kernel
theorem dX8_init_4 : decode cX8_init 4 = .ok (.aload_n 0, 1) := by decide +kernel
theorem dX8_init_5 : decode cX8_init 5 = .ok (.bipush 31, 2) := by decide +kernel
theorem dX8_init_7 : decode cX8_init 7 = .ok (.anewarray 9, 3) := by decide +kernel
theorem dX8_init_10 : decode cX8_init 10 = .ok (.putfield 11, 3) := by decide +kernel
theorem dX8_init_13 : decode cX8_init 13 = .ok (.iconst 0, 1) := by decide +kernel
theorem dX8_init_14 : decode cX8_init 14 = .ok (.istore_n 1, 1) := by decide +kernel
theorem dX8_init_15 : decode cX8_init 15 = .ok (.iload_n 1, 1) := by decide +kernel
theorem dX8_init_16 : decode cX8_init 16 = .ok (.aload_n 0, 1) := by decide +kernel
theorem dX8_init_17 : decode cX8_init 17 = .ok (.getfield 11, 3) := by decide +kernel
theorem dX8_init_20 : decode cX8_init 20 = .ok (.arraylength, 1) := by decide +kernel
theorem dX8_init_21 : decode cX8_init 21 = .ok (.if_icmp .ge 25, 3) := by decide +kernel
theorem dX8_init_24 : decode cX8_init 24 = .ok (.aload_n 0, 1) := by decide +kernel
theorem dX8_init_25 : decode cX8_init 25 = .ok (.getfield 11, 3) := by decide +kernel
theorem dX8_init_28 : decode cX8_init 28 = .ok (.iload_n 1, 1) := by decide +kernel
theorem dX8_init_29 : decode cX8_init 29 = .ok (.new 9, 3) := by decide +kernel
theorem dX8_init_32 : decode cX8_init 32 = .ok (.dup, 1) := by decide +kernel
theorem dX8_init_33 : decode cX8_init 33 = .ok (.iconst 2, 1) := by decide +kernel
theorem dX8_init_34 : decode cX8_init 34 = .ok (.iload_n 1, 1) := by decide +kernel
theorem dX8_init_35 : decode cX8_init 35 = .ok (.imul, 1) := by decide +kernel
theorem dX8_init_36 : decode cX8_init 36 = .ok (.invokespecial 17, 3) := by decide +kernel
theorem dX8_init_39 : decode cX8_init 39 = .ok (.aastore, 1) := by decide +kernel
theorem dX8_init_40 : decode cX8_init 40 = .ok (.iinc 1 1, 3) := by decide +kernel
theorem dX8_init_43 : decode cX8_init 43 = .ok (.goto (-28), 3) := by decide +kernel
theorem dX8_init_46 : decode cX8_init 46 = .ok (.return_, 1) := by decide +kernel
theorem dX8_ready_0 : decode cX8_ready 0 = .ok (.aload_n 0, 1) := by decide +kernel
theorem dX8_ready_1 : decode cX8_ready 1 = .ok (.getfield 11, 3) := by decide +kernel
theorem dX8_ready_4 : decode cX8_ready 4 = .ok (.iload_n 1, 1) := by decide +kernel
theorem dX8_ready_5 : decode cX8_ready 5 = .ok (.iconst 2, 1) := by decide +kernel
theorem dX8_ready_6 : decode cX8_ready 6 = .ok (.idiv, 1) := by decide +kernel
theorem dX8_ready_7 : decode cX8_ready 7 = .ok (.aaload, 1) := by decide +kernel
theorem dX8_ready_8 : decode cX8_ready 8 = .ok (.astore 4, 2) := by decide +kernel
theorem dX8_ready_10 : decode cX8_ready 10 = .ok (.iload_n 3, 1) := by decide +kernel
theorem dX8_ready_11 : decode cX8_ready 11 = .ok (.bipush 36, 2) := by decide +kernel
theorem dX8_ready_13 : decode cX8_ready 13 = .ok (.if_icmp .gt 8, 3) := by decide +kernel
theorem dX8_ready_16 : decode cX8_ready 16 = .ok (.bipush 36, 2) := by decide +kernel
theorem dX8_ready_18 : decode cX8_ready 18 = .ok (.goto 6, 3) := by decide +kernel
theorem dX8_ready_21 : decode cX8_ready 21 = .ok (.sipush 180, 3) := by decide +kernel
theorem dX8_ready_24 : decode cX8_ready 24 = .ok (.istore 5, 2) := by decide +kernel
theorem dX8_ready_26 : decode cX8_ready 26 = .ok (.aload 4, 2) := by decide +kernel
theorem dX8_ready_28 : decode cX8_ready 28 = .ok (.iload_n 2, 1) := by decide +kernel
theorem dX8_ready_29 : decode cX8_ready 29 = .ok (.iload 5, 2) := by decide +kernel
theorem dX8_ready_31 : decode cX8_ready 31 = .ok (.invokevirtual 20, 3) := by decide +kernel
theorem dX8_ready_34 : decode cX8_ready 34 = .ok (.ifCond .eq 6, 3) := by decide +kernel
theorem dX8_ready_37 : decode cX8_ready 37 = .ok (.aload 4, 2) := by decide +kernel
theorem dX8_ready_39 : decode cX8_ready 39 = .ok (.areturn, 1) := by decide +kernel
theorem dX8_ready_40 : decode cX8_ready 40 = .ok (.iload_n 1, 1) := by decide +kernel
theorem dX8_ready_41 : decode cX8_ready 41 = .ok (.bipush 12, 2) := by decide +kernel
theorem dX8_ready_43 : decode cX8_ready 43 = .ok (.irem, 1) := by decide +kernel
theorem dX8_ready_44 : decode cX8_ready 44 = .ok (.iconst 2, 1) := by decide +kernel
theorem dX8_ready_45 : decode cX8_ready 45 = .ok (.if_icmp .ne 8, 3) := by decide +kernel
theorem dX8_ready_48 : decode cX8_ready 48 = .ok (.bipush 14, 2) := by decide +kernel
theorem dX8_ready_50 : decode cX8_ready 50 = .ok (.goto 7, 3) := by decide +kernel
theorem dX8_ready_53 : decode cX8_ready 53 = .ok (.iload_n 1, 1) := by decide +kernel
theorem dX8_ready_54 : decode cX8_ready 54 = .ok (.bipush 12, 2) := by decide +kernel
theorem dX8_ready_56 : decode cX8_ready 56 = .ok (.irem, 1) := by decide +kernel
theorem dX8_ready_57 : decode cX8_ready 57 = .ok (.istore 6, 2) := by decide +kernel
theorem dX8_ready_59 : decode cX8_ready 59 = .ok (.iload 6, 2) := by decide +kernel
theorem dX8_ready_61 : decode cX8_ready 61 = .ok (.iload_n 1, 1) := by decide +kernel
theorem dX8_ready_62 : decode cX8_ready 62 = .ok (.if_icmp .gt 12, 3) := by decide +kernel
theorem dX8_ready_65 : decode cX8_ready 65 = .ok (.aload_n 0, 1) := by decide +kernel
theorem dX8_ready_66 : decode cX8_ready 66 = .ok (.iload 6, 2) := by decide +kernel
theorem dX8_ready_68 : decode cX8_ready 68 = .ok (.iload_n 2, 1) := by decide +kernel
theorem dX8_ready_69 : decode cX8_ready 69 = .ok (.iload 5, 2) := by decide +kernel
theorem dX8_ready_71 : decode cX8_ready 71 = .ok (.invokevirtual 24, 3) := by decide +kernel
theorem dX8_ready_74 : decode cX8_ready 74 = .ok (.iload 6, 2) := by decide +kernel
theorem dX8_ready_76 : decode cX8_ready 76 = .ok (.iload_n 1, 1) := by decide +kernel
theorem dX8_ready_77 : decode cX8_ready 77 = .ok (.if_icmp .ge 10, 3) := by decide +kernel
theorem dX8_ready_80 : decode cX8_ready 80 = .ok (.aload_n 0, 1) := by decide +kernel
theorem dX8_ready_81 : decode cX8_ready 81 = .ok (.iload_n 2, 1) := by decide +kernel
theorem dX8_ready_82 : decode cX8_ready 82 = .ok (.iload 5, 2) := by decide +kernel
theorem dX8_ready_84 : decode cX8_ready 84 = .ok (.invokevirtual 28, 3) := by decide +kernel
theorem dX8_ready_87 : decode cX8_ready 87 = .ok (.iload 6, 2) := by decide +kernel
theorem dX8_ready_89 : decode cX8_ready 89 = .ok (.bipush 12, 2) := by decide +kernel
theorem dX8_ready_91 : decode cX8_ready 91 = .ok (.iadd, 1) := by decide +kernel
theorem dX8_ready_92 : decode cX8_ready 92 = .ok (.istore 7, 2) := by decide +kernel
theorem dX8_ready_94 : decode cX8_ready 94 = .ok (.iload 7, 2) := by decide +kernel
theorem dX8_ready_96 : decode cX8_ready 96 = .ok (.iload_n 1, 1) := by decide +kernel
theorem dX8_ready_97 : decode cX8_ready 97 = .ok (.if_icmp .gt 60, 3) := by decide +kernel
theorem dX8_ready_100 : decode cX8_ready 100 = .ok (.aload_n 0, 1) := by decide +kernel
theorem dX8_ready_101 : decode cX8_ready 101 = .ok (.getfield 11, 3) := by decide +kernel
theorem dX8_ready_104 : decode cX8_ready 104 = .ok (.iload 7, 2) := by decide +kernel
theorem dX8_ready_106 : decode cX8_ready 106 = .ok (.iconst 2, 1) := by decide +kernel
theorem dX8_ready_107 : decode cX8_ready 107 = .ok (.idiv, 1) := by decide +kernel
theorem dX8_ready_108 : decode cX8_ready 108 = .ok (.aaload, 1) := by decide +kernel
theorem dX8_ready_109 : decode cX8_ready 109 = .ok (.iload_n 2, 1) := by decide +kernel
theorem dX8_ready_110 : decode cX8_ready 110 = .ok (.iload 5, 2) := by decide +kernel
theorem dX8_ready_112 : decode cX8_ready 112 = .ok (.invokevirtual 20, 3) := by decide +kernel
theorem dX8_ready_115 : decode cX8_ready 115 = .ok (.ifCond .ne 36, 3) := by decide +kernel
theorem dX8_ready_118 : decode cX8_ready 118 = .ok (.aload_n 0, 1) := by decide +kernel
theorem dX8_ready_119 : decode cX8_ready 119 = .ok (.getfield 11, 3) := by decide +kernel
theorem dX8_ready_122 : decode cX8_ready 122 = .ok (.iload 7, 2) := by decide +kernel
theorem dX8_ready_124 : decode cX8_ready 124 = .ok (.iconst 2, 1) := by decide +kernel
theorem dX8_ready_125 : decode cX8_ready 125 = .ok (.idiv, 1) := by decide +kernel
theorem dX8_ready_126 : decode cX8_ready 126 = .ok (.aaload, 1) := by decide +kernel
theorem dX8_ready_127 : decode cX8_ready 127 = .ok (.aload_n 0, 1) := by decide +kernel
theorem dX8_ready_128 : decode cX8_ready 128 = .ok (.getfield 11, 3) := by decide +kernel
theorem dX8_ready_131 : decode cX8_ready 131 = .ok (.iload 7, 2) := by decide +kernel
theorem dX8_ready_133 : decode cX8_ready 133 = .ok (.bipush 12, 2) := by decide +kernel
theorem dX8_ready_135 : decode cX8_ready 135 = .ok (.isub, 1) := by decide +kernel
theorem dX8_ready_136 : decode cX8_ready 136 = .ok (.iconst 2, 1) := by decide +kernel
theorem dX8_ready_137 : decode cX8_ready 137 = .ok (.idiv, 1) := by decide +kernel
theorem dX8_ready_138 : decode cX8_ready 138 = .ok (.aaload, 1) := by decide +kernel
theorem dX8_ready_139 : decode cX8_ready 139 = .ok (.aload_n 0, 1) := by decide +kernel
theorem dX8_ready_140 : decode cX8_ready 140 = .ok (.getfield 11, 3) := by decide +kernel
theorem dX8_ready_143 : decode cX8_ready 143 = .ok (.bipush 6, 2) := by decide +kernel
theorem dX8_ready_145 : decode cX8_ready 145 = .ok (.aaload, 1) := by decide +kernel
theorem dX8_ready_146 : decode cX8_ready 146 = .ok (.iload 5, 2) := by decide +kernel
theorem dX8_ready_148 : decode cX8_ready 148 = .ok (.invokevirtual 32, 3) := by decide +kernel
theorem dX8_ready_151 : decode cX8_ready 151 = .ok (.iinc 7 12, 3) := by decide +kernel
theorem dX8_ready_154 : decode cX8_ready 154 = .ok (.goto (-60), 3) := by decide +kernel
theorem dX8_ready_157 : decode cX8_ready 157 = .ok (.aload 4, 2) := by decide +kernel
theorem dX8_ready_159 : decode cX8_ready 159 = .ok (.areturn, 1) := by decide +kernel
theorem dX8_makeAlone_0 : decode cX8_makeAlone 0 = .ok (.aload_n 0, 1) := by decide +kernel
theorem dX8_makeAlone_1 : decode cX8_makeAlone 1 = .ok (.getfield 11, 3) := by decide +kernel
theorem dX8_makeAlone_4 : decode cX8_makeAlone 4 = .ok (.iload_n 1, 1) := by decide +kernel
theorem dX8_makeAlone_5 : decode cX8_makeAlone 5 = .ok (.iconst 2, 1) := by decide +kernel
theorem dX8_makeAlone_6 : decode cX8_makeAlone 6 = .ok (.idiv, 1) := by decide +kernel
theorem dX8_makeAlone_7 : decode cX8_makeAlone 7 = .ok (.aaload, 1) := by decide +kernel
theorem dX8_makeAlone_8 : decode cX8_makeAlone 8 = .ok (.iload_n 2, 1) := by decide +kernel
theorem dX8_makeAlone_9 : decode cX8_makeAlone 9 = .ok (.iload_n 3, 1) := by decide +kernel
theorem dX8_makeAlone_10 : decode cX8_makeAlone 10 = .ok (.invokevirtual 20, 3) := by decide +kernel
theorem dX8_makeAlone_13 : decode cX8_makeAlone 13 = .ok (.ifCond .ne 16, 3) := by decide +kernel
theorem dX8_makeAlone_16 : decode cX8_makeAlone 16 = .ok (.aload_n 0, 1) := by decide +kernel
theorem dX8_makeAlone_17 : decode cX8_makeAlone 17 = .ok (.getfield 11, 3) := by decide +kernel
theorem dX8_makeAlone_20 : decode cX8_makeAlone 20 = .ok (.iload_n 1, 1) := by decide +kernel
theorem dX8_makeAlone_21 : decode cX8_makeAlone 21 = .ok (.iconst 2, 1) := by decide +kernel
theorem dX8_makeAlone_22 : decode cX8_makeAlone 22 = .ok (.idiv, 1) := by decide +kernel
theorem dX8_makeAlone_23 : decode cX8_makeAlone 23 = .ok (.aaload, 1) := by decide +kernel
theorem dX8_makeAlone_24 : decode cX8_makeAlone 24 = .ok (.iload_n 2, 1) := by decide +kernel
theorem dX8_makeAlone_25 : decode cX8_makeAlone 25 = .ok (.iload_n 3, 1) := by decide +kernel
theorem dX8_makeAlone_26 : decode cX8_makeAlone 26 = .ok (.invokevirtual 36, 3) := by decide +kernel
theorem dX8_makeAlone_29 : decode cX8_makeAlone 29 = .ok (.return_, 1) := by decide +kernel
theorem dX8_makeTwelve_0 : decode cX8_makeTwelve 0 = .ok (.aload_n 0, 1) := by decide +kernel
theorem dX8_makeTwelve_1 : decode cX8_makeTwelve 1 = .ok (.getfield 11, 3) := by decide +kernel
theorem dX8_makeTwelve_4 : decode cX8_makeTwelve 4 = .ok (.bipush 6, 2) := by decide +kernel
theorem dX8_makeTwelve_6 : decode cX8_makeTwelve 6 = .ok (.aaload, 1) := by decide +kernel
theorem dX8_makeTwelve_7 : decode cX8_makeTwelve 7 = .ok (.iload_n 1, 1) := by decide +kernel
theorem dX8_makeTwelve_8 : decode cX8_makeTwelve 8 = .ok (.iload_n 2, 1) := by decide +kernel
theorem dX8_makeTwelve_9 : decode cX8_makeTwelve 9 = .ok (.invokevirtual 20, 3) := by decide +kernel
theorem dX8_makeTwelve_12 : decode cX8_makeTwelve 12 = .ok (.ifCond .ne 55, 3) := by decide +kernel
theorem dX8_makeTwelve_15 : decode cX8_makeTwelve 15 = .ok (.aload_n 0, 1) := by decide +kernel
theorem dX8_makeTwelve_16 : decode cX8_makeTwelve 16 = .ok (.iconst 4, 1) := by decide +kernel
theorem dX8_makeTwelve_17 : decode cX8_makeTwelve 17 = .ok (.iload_n 1, 1) := by decide +kernel
theorem dX8_makeTwelve_18 : decode cX8_makeTwelve 18 = .ok (.iload_n 2, 1) := by decide +kernel
theorem dX8_makeTwelve_19 : decode cX8_makeTwelve 19 = .ok (.invokevirtual 24, 3) := by decide +kernel
theorem dX8_makeTwelve_22 : decode cX8_makeTwelve 22 = .ok (.aload_n 0, 1) := by decide +kernel
theorem dX8_makeTwelve_23 : decode cX8_makeTwelve 23 = .ok (.bipush 6, 2) := by decide +kernel
theorem dX8_makeTwelve_25 : decode cX8_makeTwelve 25 = .ok (.iload_n 1, 1) := by decide +kernel
theorem dX8_makeTwelve_26 : decode cX8_makeTwelve 26 = .ok (.iload_n 2, 1) := by decide +kernel
theorem dX8_makeTwelve_27 : decode cX8_makeTwelve 27 = .ok (.invokevirtual 24, 3) := by decide +kernel
theorem dX8_makeTwelve_30 : decode cX8_makeTwelve 30 = .ok (.aload_n 0, 1) := by decide +kernel
theorem dX8_makeTwelve_31 : decode cX8_makeTwelve 31 = .ok (.bipush 8, 2) := by decide +kernel
theorem dX8_makeTwelve_33 : decode cX8_makeTwelve 33 = .ok (.iload_n 1, 1) := by decide +kernel
theorem dX8_makeTwelve_34 : decode cX8_makeTwelve 34 = .ok (.iload_n 2, 1) := by decide +kernel
theorem dX8_makeTwelve_35 : decode cX8_makeTwelve 35 = .ok (.invokevirtual 24, 3) := by decide +kernel
theorem dX8_makeTwelve_38 : decode cX8_makeTwelve 38 = .ok (.aload_n 0, 1) := by decide +kernel
theorem dX8_makeTwelve_39 : decode cX8_makeTwelve 39 = .ok (.getfield 11, 3) := by decide +kernel
theorem dX8_makeTwelve_42 : decode cX8_makeTwelve 42 = .ok (.bipush 6, 2) := by decide +kernel
theorem dX8_makeTwelve_44 : decode cX8_makeTwelve 44 = .ok (.aaload, 1) := by decide +kernel
theorem dX8_makeTwelve_45 : decode cX8_makeTwelve 45 = .ok (.aload_n 0, 1) := by decide +kernel
theorem dX8_makeTwelve_46 : decode cX8_makeTwelve 46 = .ok (.getfield 11, 3) := by decide +kernel
theorem dX8_makeTwelve_49 : decode cX8_makeTwelve 49 = .ok (.iconst 2, 1) := by decide +kernel
theorem dX8_makeTwelve_50 : decode cX8_makeTwelve 50 = .ok (.aaload, 1) := by decide +kernel
theorem dX8_makeTwelve_51 : decode cX8_makeTwelve 51 = .ok (.aload_n 0, 1) := by decide +kernel
theorem dX8_makeTwelve_52 : decode cX8_makeTwelve 52 = .ok (.getfield 11, 3) := by decide +kernel
theorem dX8_makeTwelve_55 : decode cX8_makeTwelve 55 = .ok (.iconst 3, 1) := by decide +kernel
theorem dX8_makeTwelve_56 : decode cX8_makeTwelve 56 = .ok (.aaload, 1) := by decide +kernel
theorem dX8_makeTwelve_57 : decode cX8_makeTwelve 57 = .ok (.aload_n 0, 1) := by decide +kernel
theorem dX8_makeTwelve_58 : decode cX8_makeTwelve 58 = .ok (.getfield 11, 3) := by decide +kernel
theorem dX8_makeTwelve_61 : decode cX8_makeTwelve 61 = .ok (.iconst 4, 1) := by decide +kernel
theorem dX8_makeTwelve_62 : decode cX8_makeTwelve 62 = .ok (.aaload, 1) := by decide +kernel
theorem dX8_makeTwelve_63 : decode cX8_makeTwelve 63 = .ok (.iload_n 2, 1) := by decide +kernel
theorem dX8_makeTwelve_64 : decode cX8_makeTwelve 64 = .ok (.invokevirtual 38, 3) := by decide +kernel
theorem dX8_makeTwelve_67 : decode cX8_makeTwelve 67 = .ok (.return_, 1) := by decide +kernel
