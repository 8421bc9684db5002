theorem dX5_init_0 : decode cX5_init 0 = .ok (.aload_n 0, 1) := by decide +kernel
theorem dX5_init_1 : decode cX5_init 1 = .ok (.invokespecial 3, 3) := by decide +kernel
theorem dX5_init_4 : decode cX5_init 4 = .ok (.aload_n 0, 1) := by decide +kernel
theorem dX5_init_5 : decode cX5_init 5 = .ok (.bipush 6, 2) := by decide +kernel
theorem dX5_init_7 : decode cX5_init 7 = .ok (.newarray .int, 2) := by decide +kernel
theorem dX5_init_9 : decode cX5_init 9 = .ok (.putfield 9, 3) := by decide +kernel
theorem dX5_init_12 : decode cX5_init 12 = .ok (.aload_n 0, 1) := by decide +kernel
theorem dX5_init_13 : decode cX5_init 13 = .ok (.iconst 5, 1) := by decide +kernel
theorem dX5_init_14 : decode cX5_init 14 = .ok (.iconst 5, 1) := by decide +kernel
theorem dX5_init_15 : decode cX5_init 15 = .ok (.multianewarray 15 2, 4) := by decide +kernel
theorem dX5_init_19 : decode cX5_init 19 = .ok (.putfield 17, 3) := by decide +kernel
theorem dX5_init_22 : decode cX5_init 22 = .ok (.aload_n 0, 1) := by decide +kernel
theorem dX5_init_23 : decode cX5_init 23 = .ok (.iconst 5, 1) := by decide +kernel
theorem dX5_init_24 : decode cX5_init 24 = .ok (.iconst 5, 1) := by decide +kernel
theorem dX5_init_25 : decode cX5_init 25 = .ok (.multianewarray 15 2, 4) := by decide +kernel
theorem dX5_init_29 : decode cX5_init 29 = .ok (.putfield 20, 3) := by decide +kernel
theorem dX5_init_32 : decode cX5_init 32 = .ok (.aload_n 0, 1) := by decide +kernel
theorem dX5_init_33 : decode cX5_init 33 = .ok (.iconst 5, 1) := by decide +kernel
theorem dX5_init_34 : decode cX5_init 34 = .ok (.iconst 5, 1) := by decide +kernel
theorem dX5_init_35 : decode cX5_init 35 = .ok (.multianewarray 15 2, 4) := by decide +kernel
theorem dX5_init_39 : decode cX5_init 39 = .ok (.putfield 23, 3) := by decide +kernel
theorem dX5_init_42 : decode cX5_init 42 = .ok (.return_, 1) := by decide +kernel
theorem dX5_load_0 : decode cX5_load 0 = .ok (.aload_n 0, 1) := by decide +kernel
theorem dX5_load_1 : decode cX5_load 1 = .ok (.aload_n 1, 1) := by decide +kernel
theorem dX5_load_2 : decode cX5_load 2 = .ok (.getfield 26, 3) := by decide +kernel
theorem dX5_load_5 : decode cX5_load 5 = .ok (.invokestatic 32, 3) := by decide +kernel
theorem dX5_load_8 : decode cX5_load 8 = .ok (.putfield 36, 3) := by decide +kernel
theorem dX5_load_11 : decode cX5_load 11 = .ok (.aload_n 0, 1) := by decide +kernel
theorem dX5_load_12 : decode cX5_load 12 = .ok (.aload_n 1, 1) := by decide +kernel
theorem dX5_load_13 : decode cX5_load 13 = .ok (.getfield 39, 3) := by decide +kernel
theorem dX5_load_16 : decode cX5_load 16 = .ok (.putfield 42, 3) := by decide +kernel
theorem dX5_load_19 : decode cX5_load 19 = .ok (.iconst 0, 1) := by decide +kernel
theorem dX5_load_20 : decode cX5_load 20 = .ok (.istore_n 3, 1) := by decide +kernel
theorem dX5_load_21 : decode cX5_load 21 = .ok (.iload_n 3, 1) := by decide +kernel
theorem dX5_load_22 : decode cX5_load 22 = .ok (.aload_n 0, 1) := by decide +kernel
theorem dX5_load_23 : decode cX5_load 23 = .ok (.getfield 36, 3) := by decide +kernel
theorem dX5_load_26 : decode cX5_load 26 = .ok (.if_icmp .ge 53, 3) := by decide +kernel
theorem dX5_load_29 : decode cX5_load 29 = .ok (.iconst 0, 1) := by decide +kernel
theorem dX5_load_30 : decode cX5_load 30 = .ok (.istore 4, 2) := by decide +kernel
theorem dX5_load_32 : decode cX5_load 32 = .ok (.iload 4, 2) := by decide +kernel
theorem dX5_load_34 : decode cX5_load 34 = .ok (.aload_n 0, 1) := by decide +kernel
theorem dX5_load_35 : decode cX5_load 35 = .ok (.getfield 36, 3) := by decide +kernel
theorem dX5_load_38 : decode cX5_load 38 = .ok (.if_icmp .ge 35, 3) := by decide +kernel
theorem dX5_load_41 : decode cX5_load 41 = .ok (.aload_n 0, 1) := by decide +kernel
theorem dX5_load_42 : decode cX5_load 42 = .ok (.getfield 17, 3) := by decide +kernel
theorem dX5_load_45 : decode cX5_load 45 = .ok (.iload_n 3, 1) := by decide +kernel
theorem dX5_load_46 : decode cX5_load 46 = .ok (.aaload, 1) := by decide +kernel
theorem dX5_load_47 : decode cX5_load 47 = .ok (.iload 4, 2) := by decide +kernel
theorem dX5_load_49 : decode cX5_load 49 = .ok (.aload_n 1, 1) := by decide +kernel
theorem dX5_load_50 : decode cX5_load 50 = .ok (.aload_n 1, 1) := by decide +kernel
theorem dX5_load_51 : decode cX5_load 51 = .ok (.getfield 43, 3) := by decide +kernel
theorem dX5_load_54 : decode cX5_load 54 = .ok (.iload_n 3, 1) := by decide +kernel
theorem dX5_load_55 : decode cX5_load 55 = .ok (.iconst 1, 1) := by decide +kernel
theorem dX5_load_56 : decode cX5_load 56 = .ok (.iadd, 1) := by decide +kernel
theorem dX5_load_57 : decode cX5_load 57 = .ok (.aaload, 1) := by decide +kernel
theorem dX5_load_58 : decode cX5_load 58 = .ok (.iload_n 2, 1) := by decide +kernel
theorem dX5_load_59 : decode cX5_load 59 = .ok (.iload 4, 2) := by decide +kernel
theorem dX5_load_61 : decode cX5_load 61 = .ok (.iconst 1, 1) := by decide +kernel
theorem dX5_load_62 : decode cX5_load 62 = .ok (.iadd, 1) := by decide +kernel
theorem dX5_load_63 : decode cX5_load 63 = .ok (.invokevirtual 46, 3) := by decide +kernel
theorem dX5_load_66 : decode cX5_load 66 = .ok (.iastore, 1) := by decide +kernel
theorem dX5_load_67 : decode cX5_load 67 = .ok (.iinc 4 1, 3) := by decide +kernel
theorem dX5_load_70 : decode cX5_load 70 = .ok (.goto (-38), 3) := by decide +kernel
theorem dX5_load_73 : decode cX5_load 73 = .ok (.iinc 3 1, 3) := by decide +kernel
theorem dX5_load_76 : decode cX5_load 76 = .ok (.goto (-55), 3) := by decide +kernel
theorem dX5_load_79 : decode cX5_load 79 = .ok (.return_, 1) := by decide +kernel
theorem dX5_findPolynomial_0 : decode cX5_findPolynomial 0 = .ok (.iconst 0, 1) := by decide +kernel
theorem dX5_findPolynomial_1 : decode cX5_findPolynomial 1 = .ok (.istore_n 1, 1) := by decide +kernel
theorem dX5_findPolynomial_2 : decode cX5_findPolynomial 2 = .ok (.iload_n 1, 1) := by decide +kernel
theorem dX5_findPolynomial_3 : decode cX5_findPolynomial 3 = .ok (.aload_n 0, 1) := by decide +kernel
theorem dX5_findPolynomial_4 : decode cX5_findPolynomial 4 = .ok (.getfield 36, 3) := by decide +kernel
theorem dX5_findPolynomial_7 : decode cX5_findPolynomial 7 = .ok (.if_icmp .ge 19, 3) := by decide +kernel
theorem dX5_findPolynomial_10 : decode cX5_findPolynomial 10 = .ok (.aload_n 0, 1) := by decide +kernel
theorem dX5_findPolynomial_11 : decode cX5_findPolynomial 11 = .ok (.getfield 23, 3) := by decide +kernel
theorem dX5_findPolynomial_14 : decode cX5_findPolynomial 14 = .ok (.iload_n 1, 1) := by decide +kernel
theorem dX5_findPolynomial_15 : decode cX5_findPolynomial 15 = .ok (.aaload, 1) := by decide +kernel
theorem dX5_findPolynomial_16 : decode cX5_findPolynomial 16 = .ok (.iconst 0, 1) := by decide +kernel
theorem dX5_findPolynomial_17 : decode cX5_findPolynomial 17 = .ok (.invokestatic 50, 3) := by decide +kernel
theorem dX5_findPolynomial_20 : decode cX5_findPolynomial 20 = .ok (.iinc 1 1, 3) := by decide +kernel
theorem dX5_findPolynomial_23 : decode cX5_findPolynomial 23 = .ok (.goto (-21), 3) := by decide +kernel
theorem dX5_findPolynomial_26 : decode cX5_findPolynomial 26 = .ok (.aload_n 0, 1) := by decide +kernel
theorem dX5_findPolynomial_27 : decode cX5_findPolynomial 27 = .ok (.getfield 9, 3) := by decide +kernel
theorem dX5_findPolynomial_30 : decode cX5_findPolynomial 30 = .ok (.aload_n 0, 1) := by decide +kernel
theorem dX5_findPolynomial_31 : decode cX5_findPolynomial 31 = .ok (.getfield 36, 3) := by decide +kernel
theorem dX5_findPolynomial_34 : decode cX5_findPolynomial 34 = .ok (.iconst 1, 1) := by decide +kernel
theorem dX5_findPolynomial_35 : decode cX5_findPolynomial 35 = .ok (.iastore, 1) := by decide +kernel
theorem dX5_findPolynomial_36 : decode cX5_findPolynomial 36 = .ok (.iconst 1, 1) := by decide +kernel
theorem dX5_findPolynomial_37 : decode cX5_findPolynomial 37 = .ok (.istore_n 1, 1) := by decide +kernel
theorem dX5_findPolynomial_38 : decode cX5_findPolynomial 38 = .ok (.iload_n 1, 1) := by decide +kernel
theorem dX5_findPolynomial_39 : decode cX5_findPolynomial 39 = .ok (.aload_n 0, 1) := by decide +kernel
theorem dX5_findPolynomial_40 : decode cX5_findPolynomial 40 = .ok (.getfield 36, 3) := by decide +kernel
theorem dX5_findPolynomial_43 : decode cX5_findPolynomial 43 = .ok (.if_icmp .gt 92, 3) := by decide +kernel
theorem dX5_findPolynomial_46 : decode cX5_findPolynomial 46 = .ok (.aload_n 0, 1) := by decide +kernel
theorem dX5_findPolynomial_47 : decode cX5_findPolynomial 47 = .ok (.aload_n 0, 1) := by decide +kernel
theorem dX5_findPolynomial_48 : decode cX5_findPolynomial 48 = .ok (.getfield 9, 3) := by decide +kernel
theorem dX5_findPolynomial_51 : decode cX5_findPolynomial 51 = .ok (.aload_n 0, 1) := by decide +kernel
theorem dX5_findPolynomial_52 : decode cX5_findPolynomial 52 = .ok (.getfield 36, 3) := by decide +kernel
theorem dX5_findPolynomial_55 : decode cX5_findPolynomial 55 = .ok (.iload_n 1, 1) := by decide +kernel
theorem dX5_findPolynomial_56 : decode cX5_findPolynomial 56 = .ok (.isub, 1) := by decide +kernel
theorem dX5_findPolynomial_57 : decode cX5_findPolynomial 57 = .ok (.iconst 1, 1) := by decide +kernel
theorem dX5_findPolynomial_58 : decode cX5_findPolynomial 58 = .ok (.iadd, 1) := by decide +kernel
theorem dX5_findPolynomial_59 : decode cX5_findPolynomial 59 = .ok (.iaload, 1) := by decide +kernel
theorem dX5_findPolynomial_60 : decode cX5_findPolynomial 60 = .ok (.invokevirtual 56, 3) := by decide +kernel
theorem dX5_findPolynomial_63 : decode cX5_findPolynomial 63 = .ok (.aload_n 0, 1) := by decide +kernel
theorem dX5_findPolynomial_64 : decode cX5_findPolynomial 64 = .ok (.invokevirtual 60, 3) := by decide +kernel
theorem dX5_findPolynomial_67 : decode cX5_findPolynomial 67 = .ok (.lconst 0, 1) := by decide +kernel
theorem dX5_findPolynomial_68 : decode cX5_findPolynomial 68 = .ok (.lstore_n 2, 1) := by decide +kernel
theorem dX5_findPolynomial_69 : decode cX5_findPolynomial 69 = .ok (.iconst 0, 1) := by decide +kernel
theorem dX5_findPolynomial_70 : decode cX5_findPolynomial 70 = .ok (.istore 4, 2) := by decide +kernel
theorem dX5_findPolynomial_72 : decode cX5_findPolynomial 72 = .ok (.iload 4, 2) := by decide +kernel
theorem dX5_findPolynomial_74 : decode cX5_findPolynomial 74 = .ok (.aload_n 0, 1) := by decide +kernel
theorem dX5_findPolynomial_75 : decode cX5_findPolynomial 75 = .ok (.getfield 36, 3) := by decide +kernel
theorem dX5_findPolynomial_78 : decode cX5_findPolynomial 78 = .ok (.if_icmp .ge 23, 3) := by decide +kernel
theorem dX5_findPolynomial_81 : decode cX5_findPolynomial 81 = .ok (.lload_n 2, 1) := by decide +kernel
theorem dX5_findPolynomial_82 : decode cX5_findPolynomial 82 = .ok (.aload_n 0, 1) := by decide +kernel
theorem dX5_findPolynomial_83 : decode cX5_findPolynomial 83 = .ok (.getfield 23, 3) := by decide +kernel
theorem dX5_findPolynomial_86 : decode cX5_findPolynomial 86 = .ok (.iload 4, 2) := by decide +kernel
theorem dX5_findPolynomial_88 : decode cX5_findPolynomial 88 = .ok (.aaload, 1) := by decide +kernel
theorem dX5_findPolynomial_89 : decode cX5_findPolynomial 89 = .ok (.iload 4, 2) := by decide +kernel
theorem dX5_findPolynomial_91 : decode cX5_findPolynomial 91 = .ok (.iaload, 1) := by decide +kernel
theorem dX5_findPolynomial_92 : decode cX5_findPolynomial 92 = .ok (.i2l, 1) := by decide +kernel
theorem dX5_findPolynomial_93 : decode cX5_findPolynomial 93 = .ok (.ladd, 1) := by decide +kernel
theorem dX5_findPolynomial_94 : decode cX5_findPolynomial 94 = .ok (.lstore_n 2, 1) := by decide +kernel
theorem dX5_findPolynomial_95 : decode cX5_findPolynomial 95 = .ok (.iinc 4 1, 3) := by decide +kernel
theorem dX5_findPolynomial_98 : decode cX5_findPolynomial 98 = .ok (.goto (-26), 3) := by decide +kernel
theorem dX5_findPolynomial_101 : decode cX5_findPolynomial 101 = .ok (.aload_n 0, 1) := by decide +kernel
theorem dX5_findPolynomial_102 : decode cX5_findPolynomial 102 = .ok (.getfield 9, 3) := by decide +kernel
theorem dX5_findPolynomial_105 : decode cX5_findPolynomial 105 = .ok (.aload_n 0, 1) := by decide +kernel
theorem dX5_findPolynomial_106 : decode cX5_findPolynomial 106 = .ok (.getfield 36, 3) := by decide +kernel
theorem dX5_findPolynomial_109 : decode cX5_findPolynomial 109 = .ok (.iload_n 1, 1) := by decide +kernel
theorem dX5_findPolynomial_110 : decode cX5_findPolynomial 110 = .ok (.isub, 1) := by decide +kernel
theorem dX5_findPolynomial_111 : decode cX5_findPolynomial 111 = .ok (.lload_n 2, 1) := by decide +kernel
theorem dX5_findPolynomial_112 : decode cX5_findPolynomial 112 = .ok (.lneg, 1) := by decide +kernel
theorem dX5_findPolynomial_113 : decode cX5_findPolynomial 113 = .ok (.aload_n 0, 1) := by decide +kernel
theorem dX5_findPolynomial_114 : decode cX5_findPolynomial 114 = .ok (.getfield 42, 3) := by decide +kernel
theorem dX5_findPolynomial_117 : decode cX5_findPolynomial 117 = .ok (.invokestatic 63, 3) := by decide +kernel
theorem dX5_findPolynomial_120 : decode cX5_findPolynomial 120 = .ok (.iload_n 1, 1) := by decide +kernel
theorem dX5_findPolynomial_121 : decode cX5_findPolynomial 121 = .ok (.aload_n 0, 1) := by decide +kernel
theorem dX5_findPolynomial_122 : decode cX5_findPolynomial 122 = .ok (.getfield 42, 3) := by decide +kernel
theorem dX5_findPolynomial_125 : decode cX5_findPolynomial 125 = .ok (.invokestatic 69, 3) := by decide +kernel
theorem dX5_findPolynomial_128 : decode cX5_findPolynomial 128 = .ok (.iastore, 1) := by decide +kernel
theorem dX5_findPolynomial_129 : decode cX5_findPolynomial 129 = .ok (.iinc 1 1, 3) := by decide +kernel
theorem dX5_findPolynomial_132 : decode cX5_findPolynomial 132 = .ok (.goto (-94), 3) := by decide +kernel
theorem dX5_findPolynomial_135 : decode cX5_findPolynomial 135 = .ok (.return_, 1) := by decide +kernel
theorem dX5_takeProduct_0 : decode cX5_takeProduct 0 = .ok (.iconst 0, 1) := by decide +kernel
theorem dX5_takeProduct_1 : decode cX5_takeProduct 1 = .ok (.istore_n 2, 1) := by decide +kernel
theorem dX5_takeProduct_2 : decode cX5_takeProduct 2 = .ok (.iload_n 2, 1) := by decide +kernel
theorem dX5_takeProduct_3 : decode cX5_takeProduct 3 = .ok (.aload_n 0, 1) := by decide +kernel
theorem dX5_takeProduct_4 : decode cX5_takeProduct 4 = .ok (.getfield 36, 3) := by decide +kernel
theorem dX5_takeProduct_7 : decode cX5_takeProduct 7 = .ok (.if_icmp .ge 56, 3) := by decide +kernel
theorem dX5_takeProduct_10 : decode cX5_takeProduct 10 = .ok (.aload_n 0, 1) := by decide +kernel
theorem dX5_takeProduct_11 : decode cX5_takeProduct 11 = .ok (.getfield 23, 3) := by decide +kernel
theorem dX5_takeProduct_14 : decode cX5_takeProduct 14 = .ok (.iload_n 2, 1) := by decide +kernel
theorem dX5_takeProduct_15 : decode cX5_takeProduct 15 = .ok (.aaload, 1) := by decide +kernel
theorem dX5_takeProduct_16 : decode cX5_takeProduct 16 = .ok (.iconst 0, 1) := by decide +kernel
theorem dX5_takeProduct_17 : decode cX5_takeProduct 17 = .ok (.aload_n 0, 1) := by decide +kernel
theorem dX5_takeProduct_18 : decode cX5_takeProduct 18 = .ok (.getfield 20, 3) := by decide +kernel
theorem dX5_takeProduct_21 : decode cX5_takeProduct 21 = .ok (.iload_n 2, 1) := by decide +kernel
theorem dX5_takeProduct_22 : decode cX5_takeProduct 22 = .ok (.aaload, 1) := by decide +kernel
theorem dX5_takeProduct_23 : decode cX5_takeProduct 23 = .ok (.iconst 0, 1) := by decide +kernel
theorem dX5_takeProduct_24 : decode cX5_takeProduct 24 = .ok (.aload_n 0, 1) := by decide +kernel
theorem dX5_takeProduct_25 : decode cX5_takeProduct 25 = .ok (.getfield 36, 3) := by decide +kernel
theorem dX5_takeProduct_28 : decode cX5_takeProduct 28 = .ok (.invokestatic 73, 3) := by decide +kernel
theorem dX5_takeProduct_31 : decode cX5_takeProduct 31 = .ok (.aload_n 0, 1) := by decide +kernel
theorem dX5_takeProduct_32 : decode cX5_takeProduct 32 = .ok (.getfield 20, 3) := by decide +kernel
theorem dX5_takeProduct_35 : decode cX5_takeProduct 35 = .ok (.iload_n 2, 1) := by decide +kernel
theorem dX5_takeProduct_36 : decode cX5_takeProduct 36 = .ok (.aaload, 1) := by decide +kernel
theorem dX5_takeProduct_37 : decode cX5_takeProduct 37 = .ok (.iload_n 2, 1) := by decide +kernel
theorem dX5_takeProduct_38 : decode cX5_takeProduct 38 = .ok (.aload_n 0, 1) := by decide +kernel
theorem dX5_takeProduct_39 : decode cX5_takeProduct 39 = .ok (.getfield 20, 3) := by decide +kernel
theorem dX5_takeProduct_42 : decode cX5_takeProduct 42 = .ok (.iload_n 2, 1) := by decide +kernel
theorem dX5_takeProduct_43 : decode cX5_takeProduct 43 = .ok (.aaload, 1) := by decide +kernel
theorem dX5_takeProduct_44 : decode cX5_takeProduct 44 = .ok (.iload_n 2, 1) := by decide +kernel
theorem dX5_takeProduct_45 : decode cX5_takeProduct 45 = .ok (.iaload, 1) := by decide +kernel
theorem dX5_takeProduct_46 : decode cX5_takeProduct 46 = .ok (.iload_n 1, 1) := by decide +kernel
theorem dX5_takeProduct_47 : decode cX5_takeProduct 47 = .ok (.iadd, 1) := by decide +kernel
theorem dX5_takeProduct_48 : decode cX5_takeProduct 48 = .ok (.i2l, 1) := by decide +kernel
theorem dX5_takeProduct_49 : decode cX5_takeProduct 49 = .ok (.aload_n 0, 1) := by decide +kernel
theorem dX5_takeProduct_50 : decode cX5_takeProduct 50 = .ok (.getfield 42, 3) := by decide +kernel
theorem dX5_takeProduct_53 : decode cX5_takeProduct 53 = .ok (.invokestatic 63, 3) := by decide +kernel
theorem dX5_takeProduct_56 : decode cX5_takeProduct 56 = .ok (.iastore, 1) := by decide +kernel
theorem dX5_takeProduct_57 : decode cX5_takeProduct 57 = .ok (.iinc 2 1, 3) := by decide +kernel
theorem dX5_takeProduct_60 : decode cX5_takeProduct 60 = .ok (.goto (-58), 3) := by decide +kernel
theorem dX5_takeProduct_63 : decode cX5_takeProduct 63 = .ok (.return_, 1) := by decide +kernel
theorem dX5_multiplyTableByWork_0 : decode cX5_multiplyTableByWork 0 = .ok (.iconst 0, 1) := by decide +kernel
theorem dX5_multiplyTableByWork_1 : decode cX5_multiplyTableByWork 1 = .ok (.istore_n 1, 1) := by decide +kernel
theorem dX5_multiplyTableByWork_2 : decode cX5_multiplyTableByWork 2 = .ok (.iload_n 1, 1) := by decide +kernel
theorem dX5_multiplyTableByWork_3 : decode cX5_multiplyTableByWork 3 = .ok (.aload_n 0, 1) := by decide +kernel
theorem dX5_multiplyTableByWork_4 : decode cX5_multiplyTableByWork 4 = .ok (.getfield 36, 3) := by decide +kernel
theorem dX5_multiplyTableByWork_7 : decode cX5_multiplyTableByWork 7 = .ok (.if_icmp .ge 85, 3) := by decide +kernel
theorem dX5_multiplyTableByWork_10 : decode cX5_multiplyTableByWork 10 = .ok (.iconst 0, 1) := by decide +kernel
theorem dX5_multiplyTableByWork_11 : decode cX5_multiplyTableByWork 11 = .ok (.istore_n 2, 1) := by decide +kernel
theorem dX5_multiplyTableByWork_12 : decode cX5_multiplyTableByWork 12 = .ok (.iload_n 2, 1) := by decide +kernel
theorem dX5_multiplyTableByWork_13 : decode cX5_multiplyTableByWork 13 = .ok (.aload_n 0, 1) := by decide +kernel
theorem dX5_multiplyTableByWork_14 : decode cX5_multiplyTableByWork 14 = .ok (.getfield 36, 3) := by decide +kernel
theorem dX5_multiplyTableByWork_17 : decode cX5_multiplyTableByWork 17 = .ok (.if_icmp .ge 69, 3) := by decide +kernel
theorem dX5_multiplyTableByWork_20 : decode cX5_multiplyTableByWork 20 = .ok (.lconst 0, 1) := by decide +kernel
theorem dX5_multiplyTableByWork_21 : decode cX5_multiplyTableByWork 21 = .ok (.lstore_n 3, 1) := by decide +kernel
theorem dX5_multiplyTableByWork_22 : decode cX5_multiplyTableByWork 22 = .ok (.iconst 0, 1) := by decide +kernel
theorem dX5_multiplyTableByWork_23 : decode cX5_multiplyTableByWork 23 = .ok (.istore 5, 2) := by decide +kernel
theorem dX5_multiplyTableByWork_25 : decode cX5_multiplyTableByWork 25 = .ok (.iload 5, 2) := by decide +kernel
theorem dX5_multiplyTableByWork_27 : decode cX5_multiplyTableByWork 27 = .ok (.aload_n 0, 1) := by decide +kernel
theorem dX5_multiplyTableByWork_28 : decode cX5_multiplyTableByWork 28 = .ok (.getfield 36, 3) := by decide +kernel
theorem dX5_multiplyTableByWork_31 : decode cX5_multiplyTableByWork 31 = .ok (.if_icmp .ge 33, 3) := by decide +kernel
theorem dX5_multiplyTableByWork_34 : decode cX5_multiplyTableByWork 34 = .ok (.lload_n 3, 1) := by decide +kernel
theorem dX5_multiplyTableByWork_35 : decode cX5_multiplyTableByWork 35 = .ok (.aload_n 0, 1) := by decide +kernel
theorem dX5_multiplyTableByWork_36 : decode cX5_multiplyTableByWork 36 = .ok (.getfield 17, 3) := by decide +kernel
theorem dX5_multiplyTableByWork_39 : decode cX5_multiplyTableByWork 39 = .ok (.iload_n 1, 1) := by decide +kernel
theorem dX5_multiplyTableByWork_40 : decode cX5_multiplyTableByWork 40 = .ok (.aaload, 1) := by decide +kernel
theorem dX5_multiplyTableByWork_41 : decode cX5_multiplyTableByWork 41 = .ok (.iload 5, 2) := by decide +kernel
theorem dX5_multiplyTableByWork_43 : decode cX5_multiplyTableByWork 43 = .ok (.iaload, 1) := by decide +kernel
theorem dX5_multiplyTableByWork_44 : decode cX5_multiplyTableByWork 44 = .ok (.i2l, 1) := by decide +kernel
theorem dX5_multiplyTableByWork_45 : decode cX5_multiplyTableByWork 45 = .ok (.aload_n 0, 1) := by decide +kernel
theorem dX5_multiplyTableByWork_46 : decode cX5_multiplyTableByWork 46 = .ok (.getfield 20, 3) := by decide +kernel
theorem dX5_multiplyTableByWork_49 : decode cX5_multiplyTableByWork 49 = .ok (.iload 5, 2) := by decide +kernel
theorem dX5_multiplyTableByWork_51 : decode cX5_multiplyTableByWork 51 = .ok (.aaload, 1) := by decide +kernel
theorem dX5_multiplyTableByWork_52 : decode cX5_multiplyTableByWork 52 = .ok (.iload_n 2, 1) := by decide +kernel
theorem dX5_multiplyTableByWork_53 : decode cX5_multiplyTableByWork 53 = .ok (.iaload, 1) := by decide +kernel
theorem dX5_multiplyTableByWork_54 : decode cX5_multiplyTableByWork 54 = .ok (.i2l, 1) := by decide +kernel
theorem dX5_multiplyTableByWork_55 : decode cX5_multiplyTableByWork 55 = .ok (.lmul, 1) := by decide +kernel
theorem dX5_multiplyTableByWork_56 : decode cX5_multiplyTableByWork 56 = .ok (.ladd, 1) := by decide +kernel
theorem dX5_multiplyTableByWork_57 : decode cX5_multiplyTableByWork 57 = .ok (.lstore_n 3, 1) := by decide +kernel
theorem dX5_multiplyTableByWork_58 : decode cX5_multiplyTableByWork 58 = .ok (.iinc 5 1, 3) := by decide +kernel
theorem dX5_multiplyTableByWork_61 : decode cX5_multiplyTableByWork 61 = .ok (.goto (-36), 3) := by decide +kernel
theorem dX5_multiplyTableByWork_64 : decode cX5_multiplyTableByWork 64 = .ok (.aload_n 0, 1) := by decide +kernel
theorem dX5_multiplyTableByWork_65 : decode cX5_multiplyTableByWork 65 = .ok (.getfield 23, 3) := by decide +kernel
theorem dX5_multiplyTableByWork_68 : decode cX5_multiplyTableByWork 68 = .ok (.iload_n 1, 1) := by decide +kernel
theorem dX5_multiplyTableByWork_69 : decode cX5_multiplyTableByWork 69 = .ok (.aaload, 1) := by decide +kernel
theorem dX5_multiplyTableByWork_70 : decode cX5_multiplyTableByWork 70 = .ok (.iload_n 2, 1) := by decide +kernel
theorem dX5_multiplyTableByWork_71 : decode cX5_multiplyTableByWork 71 = .ok (.lload_n 3, 1) := by decide +kernel
theorem dX5_multiplyTableByWork_72 : decode cX5_multiplyTableByWork 72 = .ok (.aload_n 0, 1) := by decide +kernel
theorem dX5_multiplyTableByWork_73 : decode cX5_multiplyTableByWork 73 = .ok (.getfield 42, 3) := by decide +kernel
theorem dX5_multiplyTableByWork_76 : decode cX5_multiplyTableByWork 76 = .ok (.invokestatic 63, 3) := by decide +kernel
theorem dX5_multiplyTableByWork_79 : decode cX5_multiplyTableByWork 79 = .ok (.iastore, 1) := by decide +kernel
theorem dX5_multiplyTableByWork_80 : decode cX5_multiplyTableByWork 80 = .ok (.iinc 2 1, 3) := by decide +kernel
theorem dX5_multiplyTableByWork_83 : decode cX5_multiplyTableByWork 83 = .ok (.goto (-71), 3) := by decide +kernel
theorem dX5_multiplyTableByWork_86 : decode cX5_multiplyTableByWork 86 = .ok (.iinc 1 1, 3) := by decide +kernel
theorem dX5_multiplyTableByWork_89 : decode cX5_multiplyTableByWork 89 = .ok (.goto (-87), 3) := by decide +kernel
theorem dX5_multiplyTableByWork_92 : decode cX5_multiplyTableByWork 92 = .ok (.return_, 1) := by decide +kernel
theorem dX5_findRoots_0 : decode cX5_findRoots 0 = .ok (.iconst 0, 1) := by decide +kernel
theorem dX5_findRoots_1 : decode cX5_findRoots 1 = .ok (.istore_n 2, 1) := by decide +kernel
theorem dX5_findRoots_2 : decode cX5_findRoots 2 = .ok (.iconst 0, 1) := by decide +kernel
theorem dX5_findRoots_3 : decode cX5_findRoots 3 = .ok (.istore_n 3, 1) := by decide +kernel
theorem dX5_findRoots_4 : decode cX5_findRoots 4 = .ok (.iload_n 3, 1) := by decide +kernel
theorem dX5_findRoots_5 : decode cX5_findRoots 5 = .ok (.aload_n 0, 1) := by decide +kernel
theorem dX5_findRoots_6 : decode cX5_findRoots 6 = .ok (.getfield 42, 3) := by decide +kernel
theorem dX5_findRoots_9 : decode cX5_findRoots 9 = .ok (.if_icmp .ge 32, 3) := by decide +kernel
theorem dX5_findRoots_12 : decode cX5_findRoots 12 = .ok (.iload_n 2, 1) := by decide +kernel
theorem dX5_findRoots_13 : decode cX5_findRoots 13 = .ok (.aload_n 0, 1) := by decide +kernel
theorem dX5_findRoots_14 : decode cX5_findRoots 14 = .ok (.getfield 36, 3) := by decide +kernel
theorem dX5_findRoots_17 : decode cX5_findRoots 17 = .ok (.if_icmp .ge 24, 3) := by decide +kernel
theorem dX5_findRoots_20 : decode cX5_findRoots 20 = .ok (.aload_n 0, 1) := by decide +kernel
theorem dX5_findRoots_21 : decode cX5_findRoots 21 = .ok (.iload_n 3, 1) := by decide +kernel
theorem dX5_findRoots_22 : decode cX5_findRoots 22 = .ok (.invokevirtual 79, 3) := by decide +kernel
theorem dX5_findRoots_25 : decode cX5_findRoots 25 = .ok (.ifCond .ne 10, 3) := by decide +kernel
theorem dX5_findRoots_28 : decode cX5_findRoots 28 = .ok (.aload_n 1, 1) := by decide +kernel
theorem dX5_findRoots_29 : decode cX5_findRoots 29 = .ok (.iload_n 2, 1) := by decide +kernel
theorem dX5_findRoots_30 : decode cX5_findRoots 30 = .ok (.iload_n 3, 1) := by decide +kernel
theorem dX5_findRoots_31 : decode cX5_findRoots 31 = .ok (.iastore, 1) := by decide +kernel
theorem dX5_findRoots_32 : decode cX5_findRoots 32 = .ok (.iinc 2 1, 3) := by decide +kernel
theorem dX5_findRoots_35 : decode cX5_findRoots 35 = .ok (.iinc 3 1, 3) := by decide +kernel
theorem dX5_findRoots_38 : decode cX5_findRoots 38 = .ok (.goto (-34), 3) := by decide +kernel
theorem dX5_findRoots_41 : decode cX5_findRoots 41 = .ok (.iload_n 2, 1) := by decide +kernel
theorem dX5_findRoots_42 : decode cX5_findRoots 42 = .ok (.ireturn, 1) := by decide +kernel
theorem dX5_polynomialAt_0 : decode cX5_polynomialAt 0 = .ok (.iconst 0, 1) := by decide +kernel
theorem dX5_polynomialAt_1 : decode cX5_polynomialAt 1 = .ok (.istore_n 2, 1) := by decide +kernel
theorem dX5_polynomialAt_2 : decode cX5_polynomialAt 2 = .ok (.aload_n 0, 1) := by decide +kernel
theorem dX5_polynomialAt_3 : decode cX5_polynomialAt 3 = .ok (.getfield 36, 3) := by decide +kernel
theorem dX5_polynomialAt_6 : decode cX5_polynomialAt 6 = .ok (.istore_n 3, 1) := by decide +kernel
theorem dX5_polynomialAt_7 : decode cX5_polynomialAt 7 = .ok (.iload_n 3, 1) := by decide +kernel
theorem dX5_polynomialAt_8 : decode cX5_polynomialAt 8 = .ok (.ifCond .lt 30, 3) := by decide +kernel
theorem dX5_polynomialAt_11 : decode cX5_polynomialAt 11 = .ok (.iload_n 2, 1) := by decide +kernel
theorem dX5_polynomialAt_12 : decode cX5_polynomialAt 12 = .ok (.i2l, 1) := by decide +kernel
theorem dX5_polynomialAt_13 : decode cX5_polynomialAt 13 = .ok (.iload_n 1, 1) := by decide +kernel
theorem dX5_polynomialAt_14 : decode cX5_polynomialAt 14 = .ok (.i2l, 1) := by decide +kernel
theorem dX5_polynomialAt_15 : decode cX5_polynomialAt 15 = .ok (.lmul, 1) := by decide +kernel
theorem dX5_polynomialAt_16 : decode cX5_polynomialAt 16 = .ok (.aload_n 0, 1) := by decide +kernel
theorem dX5_polynomialAt_17 : decode cX5_polynomialAt 17 = .ok (.getfield 9, 3) := by decide +kernel
theorem dX5_polynomialAt_20 : decode cX5_polynomialAt 20 = .ok (.iload_n 3, 1) := by decide +kernel
theorem dX5_polynomialAt_21 : decode cX5_polynomialAt 21 = .ok (.iaload, 1) := by decide +kernel
theorem dX5_polynomialAt_22 : decode cX5_polynomialAt 22 = .ok (.i2l, 1) := by decide +kernel
theorem dX5_polynomialAt_23 : decode cX5_polynomialAt 23 = .ok (.ladd, 1) := by decide +kernel
theorem dX5_polynomialAt_24 : decode cX5_polynomialAt 24 = .ok (.aload_n 0, 1) := by decide +kernel
theorem dX5_polynomialAt_25 : decode cX5_polynomialAt 25 = .ok (.getfield 42, 3) := by decide +kernel
theorem dX5_polynomialAt_28 : decode cX5_polynomialAt 28 = .ok (.invokestatic 63, 3) := by decide +kernel
theorem dX5_polynomialAt_31 : decode cX5_polynomialAt 31 = .ok (.istore_n 2, 1) := by decide +kernel
theorem dX5_polynomialAt_32 : decode cX5_polynomialAt 32 = .ok (.iinc 3 (-1), 3) := by decide +kernel
theorem dX5_polynomialAt_35 : decode cX5_polynomialAt 35 = .ok (.goto (-28), 3) := by decide +kernel
theorem dX5_polynomialAt_38 : decode cX5_polynomialAt 38 = .ok (.iload_n 2, 1) := by decide +kernel
theorem dX5_polynomialAt_39 : decode cX5_polynomialAt 39 = .ok (.ireturn, 1) := by decide +kernel
theorem dX5_findOwn_0 : decode cX5_findOwn 0 = .ok (.aload_n 0, 1) := by decide +kernel
theorem dX5_findOwn_1 : decode cX5_findOwn 1 = .ok (.iload_n 1, 1) := by decide +kernel
theorem dX5_findOwn_2 : decode cX5_findOwn 2 = .ok (.invokevirtual 82, 3) := by decide +kernel
theorem dX5_findOwn_5 : decode cX5_findOwn 5 = .ok (.aload_n 0, 1) := by decide +kernel
theorem dX5_findOwn_6 : decode cX5_findOwn 6 = .ok (.getfield 36, 3) := by decide +kernel
theorem dX5_findOwn_9 : decode cX5_findOwn 9 = .ok (.iconst 1, 1) := by decide +kernel
theorem dX5_findOwn_10 : decode cX5_findOwn 10 = .ok (.isub, 1) := by decide +kernel
theorem dX5_findOwn_11 : decode cX5_findOwn 11 = .ok (.istore_n 3, 1) := by decide +kernel
theorem dX5_findOwn_12 : decode cX5_findOwn 12 = .ok (.iconst 0, 1) := by decide +kernel
theorem dX5_findOwn_13 : decode cX5_findOwn 13 = .ok (.istore 4, 2) := by decide +kernel
theorem dX5_findOwn_15 : decode cX5_findOwn 15 = .ok (.iload 4, 2) := by decide +kernel
theorem dX5_findOwn_17 : decode cX5_findOwn 17 = .ok (.iload_n 3, 1) := by decide +kernel
theorem dX5_findOwn_18 : decode cX5_findOwn 18 = .ok (.if_icmp .ge 26, 3) := by decide +kernel
theorem dX5_findOwn_21 : decode cX5_findOwn 21 = .ok (.aload_n 0, 1) := by decide +kernel
theorem dX5_findOwn_22 : decode cX5_findOwn 22 = .ok (.iload 4, 2) := by decide +kernel
theorem dX5_findOwn_24 : decode cX5_findOwn 24 = .ok (.invokevirtual 85, 3) := by decide +kernel
theorem dX5_findOwn_27 : decode cX5_findOwn 27 = .ok (.ifCond .ne 5, 3) := by decide +kernel
theorem dX5_findOwn_30 : decode cX5_findOwn 30 = .ok (.iconst 0, 1) := by decide +kernel
theorem dX5_findOwn_31 : decode cX5_findOwn 31 = .ok (.ireturn, 1) := by decide +kernel
theorem dX5_findOwn_32 : decode cX5_findOwn 32 = .ok (.aload_n 0, 1) := by decide +kernel
theorem dX5_findOwn_33 : decode cX5_findOwn 33 = .ok (.iload 4, 2) := by decide +kernel
theorem dX5_findOwn_35 : decode cX5_findOwn 35 = .ok (.invokevirtual 89, 3) := by decide +kernel
theorem dX5_findOwn_38 : decode cX5_findOwn 38 = .ok (.iinc 4 1, 3) := by decide +kernel
theorem dX5_findOwn_41 : decode cX5_findOwn 41 = .ok (.goto (-26), 3) := by decide +kernel
theorem dX5_findOwn_44 : decode cX5_findOwn 44 = .ok (.iload_n 3, 1) := by decide +kernel
theorem dX5_findOwn_45 : decode cX5_findOwn 45 = .ok (.ifCond .lt 14, 3) := by decide +kernel
theorem dX5_findOwn_48 : decode cX5_findOwn 48 = .ok (.aload_n 0, 1) := by decide +kernel
theorem dX5_findOwn_49 : decode cX5_findOwn 49 = .ok (.getfield 20, 3) := by decide +kernel
theorem dX5_findOwn_52 : decode cX5_findOwn 52 = .ok (.iload_n 3, 1) := by decide +kernel
theorem dX5_findOwn_53 : decode cX5_findOwn 53 = .ok (.aaload, 1) := by decide +kernel
theorem dX5_findOwn_54 : decode cX5_findOwn 54 = .ok (.iload_n 3, 1) := by decide +kernel
theorem dX5_findOwn_55 : decode cX5_findOwn 55 = .ok (.iaload, 1) := by decide +kernel
theorem dX5_findOwn_56 : decode cX5_findOwn 56 = .ok (.ifCond .eq 5, 3) := by decide +kernel
theorem dX5_findOwn_59 : decode cX5_findOwn 59 = .ok (.iconst 0, 1) := by decide +kernel
theorem dX5_findOwn_60 : decode cX5_findOwn 60 = .ok (.ireturn, 1) := by decide +kernel
theorem dX5_findOwn_61 : decode cX5_findOwn 61 = .ok (.aload_n 2, 1) := by decide +kernel
theorem dX5_findOwn_62 : decode cX5_findOwn 62 = .ok (.iconst 1, 1) := by decide +kernel
theorem dX5_findOwn_63 : decode cX5_findOwn 63 = .ok (.iconst 1, 1) := by decide +kernel
theorem dX5_findOwn_64 : decode cX5_findOwn 64 = .ok (.iastore, 1) := by decide +kernel
theorem dX5_findOwn_65 : decode cX5_findOwn 65 = .ok (.iconst 0, 1) := by decide +kernel
theorem dX5_findOwn_66 : decode cX5_findOwn 66 = .ok (.istore 4, 2) := by decide +kernel
theorem dX5_findOwn_68 : decode cX5_findOwn 68 = .ok (.iload 4, 2) := by decide +kernel
theorem dX5_findOwn_70 : decode cX5_findOwn 70 = .ok (.iload_n 3, 1) := by decide +kernel
theorem dX5_findOwn_71 : decode cX5_findOwn 71 = .ok (.if_icmp .ge 24, 3) := by decide +kernel
theorem dX5_findOwn_74 : decode cX5_findOwn 74 = .ok (.aload_n 2, 1) := by decide +kernel
theorem dX5_findOwn_75 : decode cX5_findOwn 75 = .ok (.iload 4, 2) := by decide +kernel
theorem dX5_findOwn_77 : decode cX5_findOwn 77 = .ok (.iconst 2, 1) := by decide +kernel
theorem dX5_findOwn_78 : decode cX5_findOwn 78 = .ok (.iadd, 1) := by decide +kernel
theorem dX5_findOwn_79 : decode cX5_findOwn 79 = .ok (.aload_n 0, 1) := by decide +kernel
theorem dX5_findOwn_80 : decode cX5_findOwn 80 = .ok (.getfield 20, 3) := by decide +kernel
theorem dX5_findOwn_83 : decode cX5_findOwn 83 = .ok (.iload 4, 2) := by decide +kernel
theorem dX5_findOwn_85 : decode cX5_findOwn 85 = .ok (.aaload, 1) := by decide +kernel
theorem dX5_findOwn_86 : decode cX5_findOwn 86 = .ok (.iload_n 3, 1) := by decide +kernel
theorem dX5_findOwn_87 : decode cX5_findOwn 87 = .ok (.iaload, 1) := by decide +kernel
theorem dX5_findOwn_88 : decode cX5_findOwn 88 = .ok (.iastore, 1) := by decide +kernel
theorem dX5_findOwn_89 : decode cX5_findOwn 89 = .ok (.iinc 4 1, 3) := by decide +kernel
theorem dX5_findOwn_92 : decode cX5_findOwn 92 = .ok (.goto (-24), 3) := by decide +kernel
theorem dX5_findOwn_95 : decode cX5_findOwn 95 = .ok (.iconst 1, 1) := by decide +kernel
theorem dX5_findOwn_96 : decode cX5_findOwn 96 = .ok (.ireturn, 1) := by decide +kernel
theorem dX5_layEquations_0 : decode cX5_layEquations 0 = .ok (.iconst 0, 1) := by decide +kernel
theorem dX5_layEquations_1 : decode cX5_layEquations 1 = .ok (.istore_n 2, 1) := by decide +kernel
theorem dX5_layEquations_2 : decode cX5_layEquations 2 = .ok (.iload_n 2, 1) := by decide +kernel
theorem dX5_layEquations_3 : decode cX5_layEquations 3 = .ok (.aload_n 0, 1) := by decide +kernel
theorem dX5_layEquations_4 : decode cX5_layEquations 4 = .ok (.getfield 36, 3) := by decide +kernel
theorem dX5_layEquations_7 : decode cX5_layEquations 7 = .ok (.if_icmp .ge 101, 3) := by decide +kernel
theorem dX5_layEquations_10 : decode cX5_layEquations 10 = .ok (.iconst 1, 1) := by decide +kernel
theorem dX5_layEquations_11 : decode cX5_layEquations 11 = .ok (.istore_n 3, 1) := by decide +kernel
theorem dX5_layEquations_12 : decode cX5_layEquations 12 = .ok (.iload_n 3, 1) := by decide +kernel
theorem dX5_layEquations_13 : decode cX5_layEquations 13 = .ok (.aload_n 0, 1) := by decide +kernel
theorem dX5_layEquations_14 : decode cX5_layEquations 14 = .ok (.getfield 36, 3) := by decide +kernel
theorem dX5_layEquations_17 : decode cX5_layEquations 17 = .ok (.if_icmp .ge 46, 3) := by decide +kernel
theorem dX5_layEquations_20 : decode cX5_layEquations 20 = .ok (.aload_n 0, 1) := by decide +kernel
theorem dX5_layEquations_21 : decode cX5_layEquations 21 = .ok (.getfield 20, 3) := by decide +kernel
theorem dX5_layEquations_24 : decode cX5_layEquations 24 = .ok (.iload_n 2, 1) := by decide +kernel
theorem dX5_layEquations_25 : decode cX5_layEquations 25 = .ok (.aaload, 1) := by decide +kernel
theorem dX5_layEquations_26 : decode cX5_layEquations 26 = .ok (.iload_n 3, 1) := by decide +kernel
theorem dX5_layEquations_27 : decode cX5_layEquations 27 = .ok (.iconst 1, 1) := by decide +kernel
theorem dX5_layEquations_28 : decode cX5_layEquations 28 = .ok (.isub, 1) := by decide +kernel
theorem dX5_layEquations_29 : decode cX5_layEquations 29 = .ok (.aload_n 0, 1) := by decide +kernel
theorem dX5_layEquations_30 : decode cX5_layEquations 30 = .ok (.getfield 17, 3) := by decide +kernel
theorem dX5_layEquations_33 : decode cX5_layEquations 33 = .ok (.iload_n 3, 1) := by decide +kernel
theorem dX5_layEquations_34 : decode cX5_layEquations 34 = .ok (.aaload, 1) := by decide +kernel
theorem dX5_layEquations_35 : decode cX5_layEquations 35 = .ok (.iload_n 2, 1) := by decide +kernel
theorem dX5_layEquations_36 : decode cX5_layEquations 36 = .ok (.iaload, 1) := by decide +kernel
theorem dX5_layEquations_37 : decode cX5_layEquations 37 = .ok (.iload_n 3, 1) := by decide +kernel
theorem dX5_layEquations_38 : decode cX5_layEquations 38 = .ok (.iload_n 2, 1) := by decide +kernel
theorem dX5_layEquations_39 : decode cX5_layEquations 39 = .ok (.if_icmp .ne 7, 3) := by decide +kernel
theorem dX5_layEquations_42 : decode cX5_layEquations 42 = .ok (.iload_n 1, 1) := by decide +kernel
theorem dX5_layEquations_43 : decode cX5_layEquations 43 = .ok (.goto 4, 3) := by decide +kernel
theorem dX5_layEquations_46 : decode cX5_layEquations 46 = .ok (.iconst 0, 1) := by decide +kernel
theorem dX5_layEquations_47 : decode cX5_layEquations 47 = .ok (.isub, 1) := by decide +kernel
theorem dX5_layEquations_48 : decode cX5_layEquations 48 = .ok (.i2l, 1) := by decide +kernel
theorem dX5_layEquations_49 : decode cX5_layEquations 49 = .ok (.aload_n 0, 1) := by decide +kernel
theorem dX5_layEquations_50 : decode cX5_layEquations 50 = .ok (.getfield 42, 3) := by decide +kernel
theorem dX5_layEquations_53 : decode cX5_layEquations 53 = .ok (.invokestatic 63, 3) := by decide +kernel
theorem dX5_layEquations_56 : decode cX5_layEquations 56 = .ok (.iastore, 1) := by decide +kernel
theorem dX5_layEquations_57 : decode cX5_layEquations 57 = .ok (.iinc 3 1, 3) := by decide +kernel
theorem dX5_layEquations_60 : decode cX5_layEquations 60 = .ok (.goto (-48), 3) := by decide +kernel
theorem dX5_layEquations_63 : decode cX5_layEquations 63 = .ok (.aload_n 0, 1) := by decide +kernel
theorem dX5_layEquations_64 : decode cX5_layEquations 64 = .ok (.getfield 20, 3) := by decide +kernel
theorem dX5_layEquations_67 : decode cX5_layEquations 67 = .ok (.iload_n 2, 1) := by decide +kernel
theorem dX5_layEquations_68 : decode cX5_layEquations 68 = .ok (.aaload, 1) := by decide +kernel
theorem dX5_layEquations_69 : decode cX5_layEquations 69 = .ok (.aload_n 0, 1) := by decide +kernel
theorem dX5_layEquations_70 : decode cX5_layEquations 70 = .ok (.getfield 36, 3) := by decide +kernel
theorem dX5_layEquations_73 : decode cX5_layEquations 73 = .ok (.iconst 1, 1) := by decide +kernel
theorem dX5_layEquations_74 : decode cX5_layEquations 74 = .ok (.isub, 1) := by decide +kernel
theorem dX5_layEquations_75 : decode cX5_layEquations 75 = .ok (.iload_n 2, 1) := by decide +kernel
theorem dX5_layEquations_76 : decode cX5_layEquations 76 = .ok (.ifCond .ne 7, 3) := by decide +kernel
theorem dX5_layEquations_79 : decode cX5_layEquations 79 = .ok (.iload_n 1, 1) := by decide +kernel
theorem dX5_layEquations_80 : decode cX5_layEquations 80 = .ok (.goto 4, 3) := by decide +kernel
theorem dX5_layEquations_83 : decode cX5_layEquations 83 = .ok (.iconst 0, 1) := by decide +kernel
theorem dX5_layEquations_84 : decode cX5_layEquations 84 = .ok (.aload_n 0, 1) := by decide +kernel
theorem dX5_layEquations_85 : decode cX5_layEquations 85 = .ok (.getfield 17, 3) := by decide +kernel
theorem dX5_layEquations_88 : decode cX5_layEquations 88 = .ok (.iconst 0, 1) := by decide +kernel
theorem dX5_layEquations_89 : decode cX5_layEquations 89 = .ok (.aaload, 1) := by decide +kernel
theorem dX5_layEquations_90 : decode cX5_layEquations 90 = .ok (.iload_n 2, 1) := by decide +kernel
theorem dX5_layEquations_91 : decode cX5_layEquations 91 = .ok (.iaload, 1) := by decide +kernel
theorem dX5_layEquations_92 : decode cX5_layEquations 92 = .ok (.isub, 1) := by decide +kernel
theorem dX5_layEquations_93 : decode cX5_layEquations 93 = .ok (.i2l, 1) := by decide +kernel
theorem dX5_layEquations_94 : decode cX5_layEquations 94 = .ok (.aload_n 0, 1) := by decide +kernel
theorem dX5_layEquations_95 : decode cX5_layEquations 95 = .ok (.getfield 42, 3) := by decide +kernel
theorem dX5_layEquations_98 : decode cX5_layEquations 98 = .ok (.invokestatic 63, 3) := by decide +kernel
theorem dX5_layEquations_101 : decode cX5_layEquations 101 = .ok (.iastore, 1) := by decide +kernel
theorem dX5_layEquations_102 : decode cX5_layEquations 102 = .ok (.iinc 2 1, 3) := by decide +kernel
theorem dX5_layEquations_105 : decode cX5_layEquations 105 = .ok (.goto (-103), 3) := by decide +kernel
theorem dX5_layEquations_108 : decode cX5_layEquations 108 = .ok (.return_, 1) := by decide +kernel
theorem dX5_liftPivot_0 : decode cX5_liftPivot 0 = .ok (.iload_n 1, 1) := by decide +kernel
theorem dX5_liftPivot_1 : decode cX5_liftPivot 1 = .ok (.istore_n 2, 1) := by decide +kernel
theorem dX5_liftPivot_2 : decode cX5_liftPivot 2 = .ok (.iload_n 2, 1) := by decide +kernel
theorem dX5_liftPivot_3 : decode cX5_liftPivot 3 = .ok (.aload_n 0, 1) := by decide +kernel
theorem dX5_liftPivot_4 : decode cX5_liftPivot 4 = .ok (.getfield 36, 3) := by decide +kernel
theorem dX5_liftPivot_7 : decode cX5_liftPivot 7 = .ok (.if_icmp .ge 38, 3) := by decide +kernel
theorem dX5_liftPivot_10 : decode cX5_liftPivot 10 = .ok (.aload_n 0, 1) := by decide +kernel
theorem dX5_liftPivot_11 : decode cX5_liftPivot 11 = .ok (.getfield 20, 3) := by decide +kernel
theorem dX5_liftPivot_14 : decode cX5_liftPivot 14 = .ok (.iload_n 2, 1) := by decide +kernel
theorem dX5_liftPivot_15 : decode cX5_liftPivot 15 = .ok (.aaload, 1) := by decide +kernel
theorem dX5_liftPivot_16 : decode cX5_liftPivot 16 = .ok (.iload_n 1, 1) := by decide +kernel
theorem dX5_liftPivot_17 : decode cX5_liftPivot 17 = .ok (.iaload, 1) := by decide +kernel
theorem dX5_liftPivot_18 : decode cX5_liftPivot 18 = .ok (.ifCond .eq 21, 3) := by decide +kernel
theorem dX5_liftPivot_21 : decode cX5_liftPivot 21 = .ok (.aload_n 0, 1) := by decide +kernel
theorem dX5_liftPivot_22 : decode cX5_liftPivot 22 = .ok (.aload_n 0, 1) := by decide +kernel
theorem dX5_liftPivot_23 : decode cX5_liftPivot 23 = .ok (.getfield 20, 3) := by decide +kernel
theorem dX5_liftPivot_26 : decode cX5_liftPivot 26 = .ok (.iload_n 2, 1) := by decide +kernel
theorem dX5_liftPivot_27 : decode cX5_liftPivot 27 = .ok (.aaload, 1) := by decide +kernel
theorem dX5_liftPivot_28 : decode cX5_liftPivot 28 = .ok (.aload_n 0, 1) := by decide +kernel
theorem dX5_liftPivot_29 : decode cX5_liftPivot 29 = .ok (.getfield 20, 3) := by decide +kernel
theorem dX5_liftPivot_32 : decode cX5_liftPivot 32 = .ok (.iload_n 1, 1) := by decide +kernel
theorem dX5_liftPivot_33 : decode cX5_liftPivot 33 = .ok (.aaload, 1) := by decide +kernel
theorem dX5_liftPivot_34 : decode cX5_liftPivot 34 = .ok (.invokevirtual 92, 3) := by decide +kernel
theorem dX5_liftPivot_37 : decode cX5_liftPivot 37 = .ok (.iconst 1, 1) := by decide +kernel
theorem dX5_liftPivot_38 : decode cX5_liftPivot 38 = .ok (.ireturn, 1) := by decide +kernel
theorem dX5_liftPivot_39 : decode cX5_liftPivot 39 = .ok (.iinc 2 1, 3) := by decide +kernel
theorem dX5_liftPivot_42 : decode cX5_liftPivot 42 = .ok (.goto (-40), 3) := by decide +kernel
theorem dX5_liftPivot_45 : decode cX5_liftPivot 45 = .ok (.iconst 0, 1) := by decide +kernel
theorem dX5_liftPivot_46 : decode cX5_liftPivot 46 = .ok (.ireturn, 1) := by decide +kernel
theorem dX5_exchange_0 : decode cX5_exchange 0 = .ok (.iconst 0, 1) := by decide +kernel
theorem dX5_exchange_1 : decode cX5_exchange 1 = .ok (.istore_n 3, 1) := by decide +kernel
theorem dX5_exchange_2 : decode cX5_exchange 2 = .ok (.iload_n 3, 1) := by decide +kernel
theorem dX5_exchange_3 : decode cX5_exchange 3 = .ok (.aload_n 0, 1) := by decide +kernel
theorem dX5_exchange_4 : decode cX5_exchange 4 = .ok (.getfield 36, 3) := by decide +kernel
theorem dX5_exchange_7 : decode cX5_exchange 7 = .ok (.if_icmp .ge 25, 3) := by decide +kernel
theorem dX5_exchange_10 : decode cX5_exchange 10 = .ok (.aload_n 1, 1) := by decide +kernel
theorem dX5_exchange_11 : decode cX5_exchange 11 = .ok (.iload_n 3, 1) := by decide +kernel
theorem dX5_exchange_12 : decode cX5_exchange 12 = .ok (.iaload, 1) := by decide +kernel
theorem dX5_exchange_13 : decode cX5_exchange 13 = .ok (.istore 4, 2) := by decide +kernel
theorem dX5_exchange_15 : decode cX5_exchange 15 = .ok (.aload_n 1, 1) := by decide +kernel
theorem dX5_exchange_16 : decode cX5_exchange 16 = .ok (.iload_n 3, 1) := by decide +kernel
theorem dX5_exchange_17 : decode cX5_exchange 17 = .ok (.aload_n 2, 1) := by decide +kernel
theorem dX5_exchange_18 : decode cX5_exchange 18 = .ok (.iload_n 3, 1) := by decide +kernel
theorem dX5_exchange_19 : decode cX5_exchange 19 = .ok (.iaload, 1) := by decide +kernel
theorem dX5_exchange_20 : decode cX5_exchange 20 = .ok (.iastore, 1) := by decide +kernel
theorem dX5_exchange_21 : decode cX5_exchange 21 = .ok (.aload_n 2, 1) := by decide +kernel
theorem dX5_exchange_22 : decode cX5_exchange 22 = .ok (.iload_n 3, 1) := by decide +kernel
theorem dX5_exchange_23 : decode cX5_exchange 23 = .ok (.iload 4, 2) := by decide +kernel
theorem dX5_exchange_25 : decode cX5_exchange 25 = .ok (.iastore, 1) := by decide +kernel
theorem dX5_exchange_26 : decode cX5_exchange 26 = .ok (.iinc 3 1, 3) := by decide +kernel
theorem dX5_exchange_29 : decode cX5_exchange 29 = .ok (.goto (-27), 3) := by decide +kernel
theorem dX5_exchange_32 : decode cX5_exchange 32 = .ok (.return_, 1) := by decide +kernel
theorem dX5_clearColumn_0 : decode cX5_clearColumn 0 = .ok (.iconst 1, 1) := by decide +kernel
theorem dX5_clearColumn_1 : decode cX5_clearColumn 1 = .ok (.aload_n 0, 1) := by decide +kernel
theorem dX5_clearColumn_2 : decode cX5_clearColumn 2 = .ok (.getfield 20, 3) := by decide +kernel
theorem dX5_clearColumn_5 : decode cX5_clearColumn 5 = .ok (.iload_n 1, 1) := by decide +kernel
theorem dX5_clearColumn_6 : decode cX5_clearColumn 6 = .ok (.aaload, 1) := by decide +kernel
theorem dX5_clearColumn_7 : decode cX5_clearColumn 7 = .ok (.iload_n 1, 1) := by decide +kernel
theorem dX5_clearColumn_8 : decode cX5_clearColumn 8 = .ok (.iaload, 1) := by decide +kernel
theorem dX5_clearColumn_9 : decode cX5_clearColumn 9 = .ok (.aload_n 0, 1) := by decide +kernel
theorem dX5_clearColumn_10 : decode cX5_clearColumn 10 = .ok (.getfield 42, 3) := by decide +kernel
theorem dX5_clearColumn_13 : decode cX5_clearColumn 13 = .ok (.invokestatic 69, 3) := by decide +kernel
theorem dX5_clearColumn_16 : decode cX5_clearColumn 16 = .ok (.istore_n 2, 1) := by decide +kernel
theorem dX5_clearColumn_17 : decode cX5_clearColumn 17 = .ok (.iconst 0, 1) := by decide +kernel
theorem dX5_clearColumn_18 : decode cX5_clearColumn 18 = .ok (.istore_n 3, 1) := by decide +kernel
theorem dX5_clearColumn_19 : decode cX5_clearColumn 19 = .ok (.iload_n 3, 1) := by decide +kernel
theorem dX5_clearColumn_20 : decode cX5_clearColumn 20 = .ok (.aload_n 0, 1) := by decide +kernel
theorem dX5_clearColumn_21 : decode cX5_clearColumn 21 = .ok (.getfield 36, 3) := by decide +kernel
theorem dX5_clearColumn_24 : decode cX5_clearColumn 24 = .ok (.if_icmp .ge 36, 3) := by decide +kernel
theorem dX5_clearColumn_27 : decode cX5_clearColumn 27 = .ok (.aload_n 0, 1) := by decide +kernel
theorem dX5_clearColumn_28 : decode cX5_clearColumn 28 = .ok (.getfield 20, 3) := by decide +kernel
theorem dX5_clearColumn_31 : decode cX5_clearColumn 31 = .ok (.iload_n 1, 1) := by decide +kernel
theorem dX5_clearColumn_32 : decode cX5_clearColumn 32 = .ok (.aaload, 1) := by decide +kernel
theorem dX5_clearColumn_33 : decode cX5_clearColumn 33 = .ok (.iload_n 3, 1) := by decide +kernel
theorem dX5_clearColumn_34 : decode cX5_clearColumn 34 = .ok (.aload_n 0, 1) := by decide +kernel
theorem dX5_clearColumn_35 : decode cX5_clearColumn 35 = .ok (.getfield 20, 3) := by decide +kernel
theorem dX5_clearColumn_38 : decode cX5_clearColumn 38 = .ok (.iload_n 1, 1) := by decide +kernel
theorem dX5_clearColumn_39 : decode cX5_clearColumn 39 = .ok (.aaload, 1) := by decide +kernel
theorem dX5_clearColumn_40 : decode cX5_clearColumn 40 = .ok (.iload_n 3, 1) := by decide +kernel
theorem dX5_clearColumn_41 : decode cX5_clearColumn 41 = .ok (.iaload, 1) := by decide +kernel
theorem dX5_clearColumn_42 : decode cX5_clearColumn 42 = .ok (.i2l, 1) := by decide +kernel
theorem dX5_clearColumn_43 : decode cX5_clearColumn 43 = .ok (.iload_n 2, 1) := by decide +kernel
theorem dX5_clearColumn_44 : decode cX5_clearColumn 44 = .ok (.i2l, 1) := by decide +kernel
theorem dX5_clearColumn_45 : decode cX5_clearColumn 45 = .ok (.lmul, 1) := by decide +kernel
theorem dX5_clearColumn_46 : decode cX5_clearColumn 46 = .ok (.aload_n 0, 1) := by decide +kernel
theorem dX5_clearColumn_47 : decode cX5_clearColumn 47 = .ok (.getfield 42, 3) := by decide +kernel
theorem dX5_clearColumn_50 : decode cX5_clearColumn 50 = .ok (.invokestatic 63, 3) := by decide +kernel
theorem dX5_clearColumn_53 : decode cX5_clearColumn 53 = .ok (.iastore, 1) := by decide +kernel
theorem dX5_clearColumn_54 : decode cX5_clearColumn 54 = .ok (.iinc 3 1, 3) := by decide +kernel
theorem dX5_clearColumn_57 : decode cX5_clearColumn 57 = .ok (.goto (-38), 3) := by decide +kernel
theorem dX5_clearColumn_60 : decode cX5_clearColumn 60 = .ok (.iconst 0, 1) := by decide +kernel
theorem dX5_clearColumn_61 : decode cX5_clearColumn 61 = .ok (.istore_n 3, 1) := by decide +kernel
theorem dX5_clearColumn_62 : decode cX5_clearColumn 62 = .ok (.iload_n 3, 1) := by decide +kernel
theorem dX5_clearColumn_63 : decode cX5_clearColumn 63 = .ok (.aload_n 0, 1) := by decide +kernel
theorem dX5_clearColumn_64 : decode cX5_clearColumn 64 = .ok (.getfield 36, 3) := by decide +kernel
theorem dX5_clearColumn_67 : decode cX5_clearColumn 67 = .ok (.if_icmp .ge 88, 3) := by decide +kernel
theorem dX5_clearColumn_70 : decode cX5_clearColumn 70 = .ok (.aload_n 0, 1) := by decide +kernel
theorem dX5_clearColumn_71 : decode cX5_clearColumn 71 = .ok (.getfield 20, 3) := by decide +kernel
theorem dX5_clearColumn_74 : decode cX5_clearColumn 74 = .ok (.iload_n 3, 1) := by decide +kernel
theorem dX5_clearColumn_75 : decode cX5_clearColumn 75 = .ok (.aaload, 1) := by decide +kernel
theorem dX5_clearColumn_76 : decode cX5_clearColumn 76 = .ok (.iload_n 1, 1) := by decide +kernel
theorem dX5_clearColumn_77 : decode cX5_clearColumn 77 = .ok (.iaload, 1) := by decide +kernel
theorem dX5_clearColumn_78 : decode cX5_clearColumn 78 = .ok (.istore 4, 2) := by decide +kernel
theorem dX5_clearColumn_80 : decode cX5_clearColumn 80 = .ok (.iload_n 3, 1) := by decide +kernel
theorem dX5_clearColumn_81 : decode cX5_clearColumn 81 = .ok (.iload_n 1, 1) := by decide +kernel
theorem dX5_clearColumn_82 : decode cX5_clearColumn 82 = .ok (.if_icmp .eq 67, 3) := by decide +kernel
theorem dX5_clearColumn_85 : decode cX5_clearColumn 85 = .ok (.iload 4, 2) := by decide +kernel
theorem dX5_clearColumn_87 : decode cX5_clearColumn 87 = .ok (.ifCond .eq 62, 3) := by decide +kernel
theorem dX5_clearColumn_90 : decode cX5_clearColumn 90 = .ok (.iconst 0, 1) := by decide +kernel
theorem dX5_clearColumn_91 : decode cX5_clearColumn 91 = .ok (.istore 5, 2) := by decide +kernel
theorem dX5_clearColumn_93 : decode cX5_clearColumn 93 = .ok (.iload 5, 2) := by decide +kernel
theorem dX5_clearColumn_95 : decode cX5_clearColumn 95 = .ok (.aload_n 0, 1) := by decide +kernel
theorem dX5_clearColumn_96 : decode cX5_clearColumn 96 = .ok (.getfield 36, 3) := by decide +kernel
theorem dX5_clearColumn_99 : decode cX5_clearColumn 99 = .ok (.if_icmp .ge 50, 3) := by decide +kernel
theorem dX5_clearColumn_102 : decode cX5_clearColumn 102 = .ok (.aload_n 0, 1) := by decide +kernel
theorem dX5_clearColumn_103 : decode cX5_clearColumn 103 = .ok (.getfield 20, 3) := by decide +kernel
theorem dX5_clearColumn_106 : decode cX5_clearColumn 106 = .ok (.iload_n 3, 1) := by decide +kernel
theorem dX5_clearColumn_107 : decode cX5_clearColumn 107 = .ok (.aaload, 1) := by decide +kernel
theorem dX5_clearColumn_108 : decode cX5_clearColumn 108 = .ok (.iload 5, 2) := by decide +kernel
theorem dX5_clearColumn_110 : decode cX5_clearColumn 110 = .ok (.aload_n 0, 1) := by decide +kernel
theorem dX5_clearColumn_111 : decode cX5_clearColumn 111 = .ok (.getfield 20, 3) := by decide +kernel
theorem dX5_clearColumn_114 : decode cX5_clearColumn 114 = .ok (.iload_n 3, 1) := by decide +kernel
theorem dX5_clearColumn_115 : decode cX5_clearColumn 115 = .ok (.aaload, 1) := by decide +kernel
theorem dX5_clearColumn_116 : decode cX5_clearColumn 116 = .ok (.iload 5, 2) := by decide +kernel
theorem dX5_clearColumn_118 : decode cX5_clearColumn 118 = .ok (.iaload, 1) := by decide +kernel
theorem dX5_clearColumn_119 : decode cX5_clearColumn 119 = .ok (.i2l, 1) := by decide +kernel
theorem dX5_clearColumn_120 : decode cX5_clearColumn 120 = .ok (.iload 4, 2) := by decide +kernel
theorem dX5_clearColumn_122 : decode cX5_clearColumn 122 = .ok (.i2l, 1) := by decide +kernel
theorem dX5_clearColumn_123 : decode cX5_clearColumn 123 = .ok (.aload_n 0, 1) := by decide +kernel
theorem dX5_clearColumn_124 : decode cX5_clearColumn 124 = .ok (.getfield 20, 3) := by decide +kernel
theorem dX5_clearColumn_127 : decode cX5_clearColumn 127 = .ok (.iload_n 1, 1) := by decide +kernel
theorem dX5_clearColumn_128 : decode cX5_clearColumn 128 = .ok (.aaload, 1) := by decide +kernel
theorem dX5_clearColumn_129 : decode cX5_clearColumn 129 = .ok (.iload 5, 2) := by decide +kernel
theorem dX5_clearColumn_131 : decode cX5_clearColumn 131 = .ok (.iaload, 1) := by decide +kernel
theorem dX5_clearColumn_132 : decode cX5_clearColumn 132 = .ok (.i2l, 1) := by decide +kernel
theorem dX5_clearColumn_133 : decode cX5_clearColumn 133 = .ok (.lmul, 1) := by decide +kernel
theorem dX5_clearColumn_134 : decode cX5_clearColumn 134 = .ok (.lsub, 1) := by decide +kernel
theorem dX5_clearColumn_135 : decode cX5_clearColumn 135 = .ok (.aload_n 0, 1) := by decide +kernel
theorem dX5_clearColumn_136 : decode cX5_clearColumn 136 = .ok (.getfield 42, 3) := by decide +kernel
theorem dX5_clearColumn_139 : decode cX5_clearColumn 139 = .ok (.invokestatic 63, 3) := by decide +kernel
theorem dX5_clearColumn_142 : decode cX5_clearColumn 142 = .ok (.iastore, 1) := by decide +kernel
theorem dX5_clearColumn_143 : decode cX5_clearColumn 143 = .ok (.iinc 5 1, 3) := by decide +kernel
theorem dX5_clearColumn_146 : decode cX5_clearColumn 146 = .ok (.goto (-53), 3) := by decide +kernel
theorem dX5_clearColumn_149 : decode cX5_clearColumn 149 = .ok (.iinc 3 1, 3) := by decide +kernel
theorem dX5_clearColumn_152 : decode cX5_clearColumn 152 = .ok (.goto (-90), 3) := by decide +kernel
theorem dX5_clearColumn_155 : decode cX5_clearColumn 155 = .ok (.return_, 1) := by decide +kernel
