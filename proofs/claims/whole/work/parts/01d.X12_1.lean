theorem dX12_power__220 : decode cX12_power_ 220 = .ok (.ireturn, 1) := by decide +kernel
theorem dX12_product_0 : decode cX12_product 0 = .ok (.aload_n 0, 1) := by decide +kernel
theorem dX12_product_1 : decode cX12_product 1 = .ok (.invokevirtual 183, 3) := by decide +kernel
theorem dX12_product_4 : decode cX12_product 4 = .ok (.istore_n 1, 1) := by decide +kernel
theorem dX12_product_5 : decode cX12_product 5 = .ok (.iload_n 1, 1) := by decide +kernel
theorem dX12_product_6 : decode cX12_product 6 = .ok (.ifCond .eq 77, 3) := by decide +kernel
theorem dX12_product_9 : decode cX12_product 9 = .ok (.aload_n 0, 1) := by decide +kernel
theorem dX12_product_10 : decode cX12_product 10 = .ok (.bipush 42, 2) := by decide +kernel
theorem dX12_product_12 : decode cX12_product 12 = .ok (.invokevirtual 115, 3) := by decide +kernel
theorem dX12_product_15 : decode cX12_product 15 = .ok (.ifCond .eq 68, 3) := by decide +kernel
theorem dX12_product_18 : decode cX12_product 18 = .ok (.aload_n 0, 1) := by decide +kernel
theorem dX12_product_19 : decode cX12_product 19 = .ok (.invokevirtual 121, 3) := by decide +kernel
theorem dX12_product_22 : decode cX12_product 22 = .ok (.aload_n 0, 1) := by decide +kernel
theorem dX12_product_23 : decode cX12_product 23 = .ok (.getfield 94, 3) := by decide +kernel
theorem dX12_product_26 : decode cX12_product 26 = .ok (.istore_n 2, 1) := by decide +kernel
theorem dX12_product_27 : decode cX12_product 27 = .ok (.aload_n 0, 1) := by decide +kernel
theorem dX12_product_28 : decode cX12_product 28 = .ok (.invokevirtual 183, 3) := by decide +kernel
theorem dX12_product_31 : decode cX12_product 31 = .ok (.istore_n 1, 1) := by decide +kernel
theorem dX12_product_32 : decode cX12_product 32 = .ok (.iload_n 1, 1) := by decide +kernel
theorem dX12_product_33 : decode cX12_product 33 = .ok (.ifCond .eq 39, 3) := by decide +kernel
theorem dX12_product_36 : decode cX12_product 36 = .ok (.aload_n 0, 1) := by decide +kernel
theorem dX12_product_37 : decode cX12_product 37 = .ok (.getfield 142, 3) := by decide +kernel
theorem dX12_product_40 : decode cX12_product 40 = .ok (.aload_n 0, 1) := by decide +kernel
theorem dX12_product_41 : decode cX12_product 41 = .ok (.getfield 145, 3) := by decide +kernel
theorem dX12_product_44 : decode cX12_product 44 = .ok (.iconst 2, 1) := by decide +kernel
theorem dX12_product_45 : decode cX12_product 45 = .ok (.isub, 1) := by decide +kernel
theorem dX12_product_46 : decode cX12_product 46 = .ok (.iaload, 1) := by decide +kernel
theorem dX12_product_47 : decode cX12_product 47 = .ok (.aload_n 0, 1) := by decide +kernel
theorem dX12_product_48 : decode cX12_product 48 = .ok (.getfield 142, 3) := by decide +kernel
theorem dX12_product_51 : decode cX12_product 51 = .ok (.aload_n 0, 1) := by decide +kernel
theorem dX12_product_52 : decode cX12_product 52 = .ok (.getfield 145, 3) := by decide +kernel
theorem dX12_product_55 : decode cX12_product 55 = .ok (.iconst 1, 1) := by decide +kernel
theorem dX12_product_56 : decode cX12_product 56 = .ok (.isub, 1) := by decide +kernel
theorem dX12_product_57 : decode cX12_product 57 = .ok (.iaload, 1) := by decide +kernel
theorem dX12_product_58 : decode cX12_product 58 = .ok (.iadd, 1) := by decide +kernel
theorem dX12_product_59 : decode cX12_product 59 = .ok (.bipush 60, 2) := by decide +kernel
theorem dX12_product_61 : decode cX12_product 61 = .ok (.if_icmp .le 11, 3) := by decide +kernel
theorem dX12_product_64 : decode cX12_product 64 = .ok (.aload_n 0, 1) := by decide +kernel
theorem dX12_product_65 : decode cX12_product 65 = .ok (.iload_n 2, 1) := by decide +kernel
theorem dX12_product_66 : decode cX12_product 66 = .ok (.bipush 7, 2) := by decide +kernel
theorem dX12_product_68 : decode cX12_product 68 = .ok (.invokevirtual 111, 3) := by decide +kernel
theorem dX12_product_71 : decode cX12_product 71 = .ok (.istore_n 1, 1) := by decide +kernel
theorem dX12_product_72 : decode cX12_product 72 = .ok (.iload_n 1, 1) := by decide +kernel
theorem dX12_product_73 : decode cX12_product 73 = .ok (.ifCond .eq 7, 3) := by decide +kernel
theorem dX12_product_76 : decode cX12_product 76 = .ok (.aload_n 0, 1) := by decide +kernel
theorem dX12_product_77 : decode cX12_product 77 = .ok (.invokevirtual 185, 3) := by decide +kernel
theorem dX12_product_80 : decode cX12_product 80 = .ok (.goto (-75), 3) := by decide +kernel
theorem dX12_product_83 : decode cX12_product 83 = .ok (.iload_n 1, 1) := by decide +kernel
theorem dX12_product_84 : decode cX12_product 84 = .ok (.ireturn, 1) := by decide +kernel
theorem dX12_sum_0 : decode cX12_sum 0 = .ok (.aload_n 0, 1) := by decide +kernel
theorem dX12_sum_1 : decode cX12_sum 1 = .ok (.invokevirtual 188, 3) := by decide +kernel
theorem dX12_sum_4 : decode cX12_sum 4 = .ok (.istore_n 1, 1) := by decide +kernel
theorem dX12_sum_5 : decode cX12_sum 5 = .ok (.iload_n 1, 1) := by decide +kernel
theorem dX12_sum_6 : decode cX12_sum 6 = .ok (.ifCond .eq 183, 3) := by decide +kernel
theorem dX12_sum_9 : decode cX12_sum 9 = .ok (.aload_n 0, 1) := by decide +kernel
theorem dX12_sum_10 : decode cX12_sum 10 = .ok (.bipush 43, 2) := by decide +kernel
theorem dX12_sum_12 : decode cX12_sum 12 = .ok (.invokevirtual 115, 3) := by decide +kernel
theorem dX12_sum_15 : decode cX12_sum 15 = .ok (.ifCond .ne 12, 3) := by decide +kernel
theorem dX12_sum_18 : decode cX12_sum 18 = .ok (.aload_n 0, 1) := by decide +kernel
theorem dX12_sum_19 : decode cX12_sum 19 = .ok (.bipush 45, 2) := by decide +kernel
theorem dX12_sum_21 : decode cX12_sum 21 = .ok (.invokevirtual 115, 3) := by decide +kernel
theorem dX12_sum_24 : decode cX12_sum 24 = .ok (.ifCond .eq 165, 3) := by decide +kernel
theorem dX12_sum_27 : decode cX12_sum 27 = .ok (.aload_n 0, 1) := by decide +kernel
theorem dX12_sum_28 : decode cX12_sum 28 = .ok (.bipush 43, 2) := by decide +kernel
theorem dX12_sum_30 : decode cX12_sum 30 = .ok (.invokevirtual 115, 3) := by decide +kernel
theorem dX12_sum_33 : decode cX12_sum 33 = .ok (.ifCond .eq 7, 3) := by decide +kernel
theorem dX12_sum_36 : decode cX12_sum 36 = .ok (.iconst 1, 1) := by decide +kernel
theorem dX12_sum_37 : decode cX12_sum 37 = .ok (.goto 4, 3) := by decide +kernel
theorem dX12_sum_40 : decode cX12_sum 40 = .ok (.iconst (-1), 1) := by decide +kernel
theorem dX12_sum_41 : decode cX12_sum 41 = .ok (.istore_n 2, 1) := by decide +kernel
theorem dX12_sum_42 : decode cX12_sum 42 = .ok (.aload_n 0, 1) := by decide +kernel
theorem dX12_sum_43 : decode cX12_sum 43 = .ok (.invokevirtual 121, 3) := by decide +kernel
theorem dX12_sum_46 : decode cX12_sum 46 = .ok (.aload_n 0, 1) := by decide +kernel
theorem dX12_sum_47 : decode cX12_sum 47 = .ok (.getfield 94, 3) := by decide +kernel
theorem dX12_sum_50 : decode cX12_sum 50 = .ok (.istore_n 3, 1) := by decide +kernel
theorem dX12_sum_51 : decode cX12_sum 51 = .ok (.aload_n 0, 1) := by decide +kernel
theorem dX12_sum_52 : decode cX12_sum 52 = .ok (.invokevirtual 188, 3) := by decide +kernel
theorem dX12_sum_55 : decode cX12_sum 55 = .ok (.istore_n 1, 1) := by decide +kernel
theorem dX12_sum_56 : decode cX12_sum 56 = .ok (.iload_n 1, 1) := by decide +kernel
theorem dX12_sum_57 : decode cX12_sum 57 = .ok (.ifCond .eq 36, 3) := by decide +kernel
theorem dX12_sum_60 : decode cX12_sum 60 = .ok (.aload_n 0, 1) := by decide +kernel
theorem dX12_sum_61 : decode cX12_sum 61 = .ok (.getfield 142, 3) := by decide +kernel
theorem dX12_sum_64 : decode cX12_sum 64 = .ok (.aload_n 0, 1) := by decide +kernel
theorem dX12_sum_65 : decode cX12_sum 65 = .ok (.getfield 145, 3) := by decide +kernel
theorem dX12_sum_68 : decode cX12_sum 68 = .ok (.iconst 2, 1) := by decide +kernel
theorem dX12_sum_69 : decode cX12_sum 69 = .ok (.isub, 1) := by decide +kernel
theorem dX12_sum_70 : decode cX12_sum 70 = .ok (.iaload, 1) := by decide +kernel
theorem dX12_sum_71 : decode cX12_sum 71 = .ok (.aload_n 0, 1) := by decide +kernel
theorem dX12_sum_72 : decode cX12_sum 72 = .ok (.getfield 142, 3) := by decide +kernel
theorem dX12_sum_75 : decode cX12_sum 75 = .ok (.aload_n 0, 1) := by decide +kernel
theorem dX12_sum_76 : decode cX12_sum 76 = .ok (.getfield 145, 3) := by decide +kernel
theorem dX12_sum_79 : decode cX12_sum 79 = .ok (.iconst 1, 1) := by decide +kernel
theorem dX12_sum_80 : decode cX12_sum 80 = .ok (.isub, 1) := by decide +kernel
theorem dX12_sum_81 : decode cX12_sum 81 = .ok (.iaload, 1) := by decide +kernel
theorem dX12_sum_82 : decode cX12_sum 82 = .ok (.if_icmp .eq 11, 3) := by decide +kernel
theorem dX12_sum_85 : decode cX12_sum 85 = .ok (.aload_n 0, 1) := by decide +kernel
theorem dX12_sum_86 : decode cX12_sum 86 = .ok (.iload_n 3, 1) := by decide +kernel
theorem dX12_sum_87 : decode cX12_sum 87 = .ok (.bipush 6, 2) := by decide +kernel
theorem dX12_sum_89 : decode cX12_sum 89 = .ok (.invokevirtual 111, 3) := by decide +kernel
theorem dX12_sum_92 : decode cX12_sum 92 = .ok (.istore_n 1, 1) := by decide +kernel
theorem dX12_sum_93 : decode cX12_sum 93 = .ok (.iload_n 1, 1) := by decide +kernel
theorem dX12_sum_94 : decode cX12_sum 94 = .ok (.ifCond .eq 92, 3) := by decide +kernel
theorem dX12_sum_97 : decode cX12_sum 97 = .ok (.iconst 0, 1) := by decide +kernel
theorem dX12_sum_98 : decode cX12_sum 98 = .ok (.istore 4, 2) := by decide +kernel
theorem dX12_sum_100 : decode cX12_sum 100 = .ok (.iload 4, 2) := by decide +kernel
theorem dX12_sum_102 : decode cX12_sum 102 = .ok (.sipush 181, 3) := by decide +kernel
theorem dX12_sum_105 : decode cX12_sum 105 = .ok (.if_icmp .ge 71, 3) := by decide +kernel
theorem dX12_sum_108 : decode cX12_sum 108 = .ok (.aload_n 0, 1) := by decide +kernel
theorem dX12_sum_109 : decode cX12_sum 109 = .ok (.getfield 148, 3) := by decide +kernel
theorem dX12_sum_112 : decode cX12_sum 112 = .ok (.sipush 181, 3) := by decide +kernel
theorem dX12_sum_115 : decode cX12_sum 115 = .ok (.aload_n 0, 1) := by decide +kernel
theorem dX12_sum_116 : decode cX12_sum 116 = .ok (.getfield 145, 3) := by decide +kernel
theorem dX12_sum_119 : decode cX12_sum 119 = .ok (.iconst 2, 1) := by decide +kernel
theorem dX12_sum_120 : decode cX12_sum 120 = .ok (.isub, 1) := by decide +kernel
theorem dX12_sum_121 : decode cX12_sum 121 = .ok (.imul, 1) := by decide +kernel
theorem dX12_sum_122 : decode cX12_sum 122 = .ok (.iload 4, 2) := by decide +kernel
theorem dX12_sum_124 : decode cX12_sum 124 = .ok (.iadd, 1) := by decide +kernel
theorem dX12_sum_125 : decode cX12_sum 125 = .ok (.aload_n 0, 1) := by decide +kernel
theorem dX12_sum_126 : decode cX12_sum 126 = .ok (.aload_n 0, 1) := by decide +kernel
theorem dX12_sum_127 : decode cX12_sum 127 = .ok (.getfield 148, 3) := by decide +kernel
theorem dX12_sum_130 : decode cX12_sum 130 = .ok (.sipush 181, 3) := by decide +kernel
theorem dX12_sum_133 : decode cX12_sum 133 = .ok (.aload_n 0, 1) := by decide +kernel
theorem dX12_sum_134 : decode cX12_sum 134 = .ok (.getfield 145, 3) := by decide +kernel
theorem dX12_sum_137 : decode cX12_sum 137 = .ok (.iconst 2, 1) := by decide +kernel
theorem dX12_sum_138 : decode cX12_sum 138 = .ok (.isub, 1) := by decide +kernel
theorem dX12_sum_139 : decode cX12_sum 139 = .ok (.imul, 1) := by decide +kernel
theorem dX12_sum_140 : decode cX12_sum 140 = .ok (.iload 4, 2) := by decide +kernel
theorem dX12_sum_142 : decode cX12_sum 142 = .ok (.iadd, 1) := by decide +kernel
theorem dX12_sum_143 : decode cX12_sum 143 = .ok (.iaload, 1) := by decide +kernel
theorem dX12_sum_144 : decode cX12_sum 144 = .ok (.iload_n 2, 1) := by decide +kernel
theorem dX12_sum_145 : decode cX12_sum 145 = .ok (.aload_n 0, 1) := by decide +kernel
theorem dX12_sum_146 : decode cX12_sum 146 = .ok (.getfield 148, 3) := by decide +kernel
theorem dX12_sum_149 : decode cX12_sum 149 = .ok (.sipush 181, 3) := by decide +kernel
theorem dX12_sum_152 : decode cX12_sum 152 = .ok (.aload_n 0, 1) := by decide +kernel
theorem dX12_sum_153 : decode cX12_sum 153 = .ok (.getfield 145, 3) := by decide +kernel
theorem dX12_sum_156 : decode cX12_sum 156 = .ok (.iconst 1, 1) := by decide +kernel
theorem dX12_sum_157 : decode cX12_sum 157 = .ok (.isub, 1) := by decide +kernel
theorem dX12_sum_158 : decode cX12_sum 158 = .ok (.imul, 1) := by decide +kernel
theorem dX12_sum_159 : decode cX12_sum 159 = .ok (.iload 4, 2) := by decide +kernel
theorem dX12_sum_161 : decode cX12_sum 161 = .ok (.iadd, 1) := by decide +kernel
theorem dX12_sum_162 : decode cX12_sum 162 = .ok (.iaload, 1) := by decide +kernel
theorem dX12_sum_163 : decode cX12_sum 163 = .ok (.imul, 1) := by decide +kernel
theorem dX12_sum_164 : decode cX12_sum 164 = .ok (.iadd, 1) := by decide +kernel
theorem dX12_sum_165 : decode cX12_sum 165 = .ok (.i2l, 1) := by decide +kernel
theorem dX12_sum_166 : decode cX12_sum 166 = .ok (.invokevirtual 10, 3) := by decide +kernel
theorem dX12_sum_169 : decode cX12_sum 169 = .ok (.iastore, 1) := by decide +kernel
theorem dX12_sum_170 : decode cX12_sum 170 = .ok (.iinc 4 1, 3) := by decide +kernel
theorem dX12_sum_173 : decode cX12_sum 173 = .ok (.goto (-73), 3) := by decide +kernel
theorem dX12_sum_176 : decode cX12_sum 176 = .ok (.aload_n 0, 1) := by decide +kernel
theorem dX12_sum_177 : decode cX12_sum 177 = .ok (.dup, 1) := by decide +kernel
theorem dX12_sum_178 : decode cX12_sum 178 = .ok (.getfield 145, 3) := by decide +kernel
theorem dX12_sum_181 : decode cX12_sum 181 = .ok (.iconst 1, 1) := by decide +kernel
theorem dX12_sum_182 : decode cX12_sum 182 = .ok (.isub, 1) := by decide +kernel
theorem dX12_sum_183 : decode cX12_sum 183 = .ok (.putfield 145, 3) := by decide +kernel
theorem dX12_sum_186 : decode cX12_sum 186 = .ok (.goto (-181), 3) := by decide +kernel
theorem dX12_sum_189 : decode cX12_sum 189 = .ok (.iload_n 1, 1) := by decide +kernel
theorem dX12_sum_190 : decode cX12_sum 190 = .ok (.ireturn, 1) := by decide +kernel
theorem dX12_letLine_0 : decode cX12_letLine 0 = .ok (.aload_n 0, 1) := by decide +kernel
theorem dX12_letLine_1 : decode cX12_letLine 1 = .ok (.bipush 108, 2) := by decide +kernel
theorem dX12_letLine_3 : decode cX12_letLine 3 = .ok (.bipush 101, 2) := by decide +kernel
theorem dX12_letLine_5 : decode cX12_letLine 5 = .ok (.bipush 116, 2) := by decide +kernel
theorem dX12_letLine_7 : decode cX12_letLine 7 = .ok (.iconst 0, 1) := by decide +kernel
theorem dX12_letLine_8 : decode cX12_letLine 8 = .ok (.iconst 0, 1) := by decide +kernel
theorem dX12_letLine_9 : decode cX12_letLine 9 = .ok (.invokevirtual 125, 3) := by decide +kernel
theorem dX12_letLine_12 : decode cX12_letLine 12 = .ok (.ifCond .ne 9, 3) := by decide +kernel
theorem dX12_letLine_15 : decode cX12_letLine 15 = .ok (.aload_n 0, 1) := by decide +kernel
theorem dX12_letLine_16 : decode cX12_letLine 16 = .ok (.iconst 1, 1) := by decide +kernel
theorem dX12_letLine_17 : decode cX12_letLine 17 = .ok (.invokevirtual 118, 3) := by decide +kernel
theorem dX12_letLine_20 : decode cX12_letLine 20 = .ok (.ireturn, 1) := by decide +kernel
theorem dX12_letLine_21 : decode cX12_letLine 21 = .ok (.aload_n 0, 1) := by decide +kernel
theorem dX12_letLine_22 : decode cX12_letLine 22 = .ok (.getfield 129, 3) := by decide +kernel
theorem dX12_letLine_25 : decode cX12_letLine 25 = .ok (.bipush 6, 2) := by decide +kernel
theorem dX12_letLine_27 : decode cX12_letLine 27 = .ok (.if_icmp .ne 9, 3) := by decide +kernel
theorem dX12_letLine_30 : decode cX12_letLine 30 = .ok (.aload_n 0, 1) := by decide +kernel
theorem dX12_letLine_31 : decode cX12_letLine 31 = .ok (.iconst 5, 1) := by decide +kernel
theorem dX12_letLine_32 : decode cX12_letLine 32 = .ok (.invokevirtual 118, 3) := by decide +kernel
theorem dX12_letLine_35 : decode cX12_letLine 35 = .ok (.ireturn, 1) := by decide +kernel
theorem dX12_letLine_36 : decode cX12_letLine 36 = .ok (.aload_n 0, 1) := by decide +kernel
theorem dX12_letLine_37 : decode cX12_letLine 37 = .ok (.invokevirtual 121, 3) := by decide +kernel
theorem dX12_letLine_40 : decode cX12_letLine 40 = .ok (.aload_n 0, 1) := by decide +kernel
theorem dX12_letLine_41 : decode cX12_letLine 41 = .ok (.invokevirtual 167, 3) := by decide +kernel
theorem dX12_letLine_44 : decode cX12_letLine 44 = .ok (.ifCond .ne 9, 3) := by decide +kernel
theorem dX12_letLine_47 : decode cX12_letLine 47 = .ok (.aload_n 0, 1) := by decide +kernel
theorem dX12_letLine_48 : decode cX12_letLine 48 = .ok (.iconst 1, 1) := by decide +kernel
theorem dX12_letLine_49 : decode cX12_letLine 49 = .ok (.invokevirtual 118, 3) := by decide +kernel
theorem dX12_letLine_52 : decode cX12_letLine 52 = .ok (.ireturn, 1) := by decide +kernel
theorem dX12_letLine_53 : decode cX12_letLine 53 = .ok (.aload_n 0, 1) := by decide +kernel
theorem dX12_letLine_54 : decode cX12_letLine 54 = .ok (.invokevirtual 170, 3) := by decide +kernel
theorem dX12_letLine_57 : decode cX12_letLine 57 = .ok (.iconst (-1), 1) := by decide +kernel
theorem dX12_letLine_58 : decode cX12_letLine 58 = .ok (.if_icmp .eq 9, 3) := by decide +kernel
theorem dX12_letLine_61 : decode cX12_letLine 61 = .ok (.aload_n 0, 1) := by decide +kernel
theorem dX12_letLine_62 : decode cX12_letLine 62 = .ok (.iconst 2, 1) := by decide +kernel
theorem dX12_letLine_63 : decode cX12_letLine 63 = .ok (.invokevirtual 118, 3) := by decide +kernel
theorem dX12_letLine_66 : decode cX12_letLine 66 = .ok (.ireturn, 1) := by decide +kernel
theorem dX12_letLine_67 : decode cX12_letLine 67 = .ok (.aload_n 0, 1) := by decide +kernel
theorem dX12_letLine_68 : decode cX12_letLine 68 = .ok (.getfield 132, 3) := by decide +kernel
theorem dX12_letLine_71 : decode cX12_letLine 71 = .ok (.aload_n 0, 1) := by decide +kernel
theorem dX12_letLine_72 : decode cX12_letLine 72 = .ok (.getfield 129, 3) := by decide +kernel
theorem dX12_letLine_75 : decode cX12_letLine 75 = .ok (.aload_n 0, 1) := by decide +kernel
theorem dX12_letLine_76 : decode cX12_letLine 76 = .ok (.getfield 88, 3) := by decide +kernel
theorem dX12_letLine_79 : decode cX12_letLine 79 = .ok (.aload_n 0, 1) := by decide +kernel
theorem dX12_letLine_80 : decode cX12_letLine 80 = .ok (.getfield 94, 3) := by decide +kernel
theorem dX12_letLine_83 : decode cX12_letLine 83 = .ok (.isub, 1) := by decide +kernel
theorem dX12_letLine_84 : decode cX12_letLine 84 = .ok (.iastore, 1) := by decide +kernel
theorem dX12_letLine_85 : decode cX12_letLine 85 = .ok (.iconst 0, 1) := by decide +kernel
theorem dX12_letLine_86 : decode cX12_letLine 86 = .ok (.istore_n 1, 1) := by decide +kernel
theorem dX12_letLine_87 : decode cX12_letLine 87 = .ok (.iload_n 1, 1) := by decide +kernel
theorem dX12_letLine_88 : decode cX12_letLine 88 = .ok (.aload_n 0, 1) := by decide +kernel
theorem dX12_letLine_89 : decode cX12_letLine 89 = .ok (.getfield 132, 3) := by decide +kernel
theorem dX12_letLine_92 : decode cX12_letLine 92 = .ok (.aload_n 0, 1) := by decide +kernel
theorem dX12_letLine_93 : decode cX12_letLine 93 = .ok (.getfield 129, 3) := by decide +kernel
theorem dX12_letLine_96 : decode cX12_letLine 96 = .ok (.iaload, 1) := by decide +kernel
theorem dX12_letLine_97 : decode cX12_letLine 97 = .ok (.if_icmp .ge 33, 3) := by decide +kernel
theorem dX12_letLine_100 : decode cX12_letLine 100 = .ok (.aload_n 0, 1) := by decide +kernel
theorem dX12_letLine_101 : decode cX12_letLine 101 = .ok (.getfield 135, 3) := by decide +kernel
theorem dX12_letLine_104 : decode cX12_letLine 104 = .ok (.bipush 6, 2) := by decide +kernel
theorem dX12_letLine_106 : decode cX12_letLine 106 = .ok (.aload_n 0, 1) := by decide +kernel
theorem dX12_letLine_107 : decode cX12_letLine 107 = .ok (.getfield 129, 3) := by decide +kernel
theorem dX12_letLine_110 : decode cX12_letLine 110 = .ok (.imul, 1) := by decide +kernel
theorem dX12_letLine_111 : decode cX12_letLine 111 = .ok (.iload_n 1, 1) := by decide +kernel
theorem dX12_letLine_112 : decode cX12_letLine 112 = .ok (.iadd, 1) := by decide +kernel
theorem dX12_letLine_113 : decode cX12_letLine 113 = .ok (.aload_n 0, 1) := by decide +kernel
theorem dX12_letLine_114 : decode cX12_letLine 114 = .ok (.aload_n 0, 1) := by decide +kernel
theorem dX12_letLine_115 : decode cX12_letLine 115 = .ok (.getfield 94, 3) := by decide +kernel
theorem dX12_letLine_118 : decode cX12_letLine 118 = .ok (.iload_n 1, 1) := by decide +kernel
theorem dX12_letLine_119 : decode cX12_letLine 119 = .ok (.iadd, 1) := by decide +kernel
theorem dX12_letLine_120 : decode cX12_letLine 120 = .ok (.invokevirtual 91, 3) := by decide +kernel
theorem dX12_letLine_123 : decode cX12_letLine 123 = .ok (.iastore, 1) := by decide +kernel
theorem dX12_letLine_124 : decode cX12_letLine 124 = .ok (.iinc 1 1, 3) := by decide +kernel
theorem dX12_letLine_127 : decode cX12_letLine 127 = .ok (.goto (-40), 3) := by decide +kernel
theorem dX12_letLine_130 : decode cX12_letLine 130 = .ok (.aload_n 0, 1) := by decide +kernel
theorem dX12_letLine_131 : decode cX12_letLine 131 = .ok (.invokevirtual 121, 3) := by decide +kernel
theorem dX12_letLine_134 : decode cX12_letLine 134 = .ok (.aload_n 0, 1) := by decide +kernel
theorem dX12_letLine_135 : decode cX12_letLine 135 = .ok (.bipush 98, 2) := by decide +kernel
theorem dX12_letLine_137 : decode cX12_letLine 137 = .ok (.bipush 101, 2) := by decide +kernel
theorem dX12_letLine_139 : decode cX12_letLine 139 = .ok (.iconst 0, 1) := by decide +kernel
theorem dX12_letLine_140 : decode cX12_letLine 140 = .ok (.iconst 0, 1) := by decide +kernel
theorem dX12_letLine_141 : decode cX12_letLine 141 = .ok (.iconst 0, 1) := by decide +kernel
theorem dX12_letLine_142 : decode cX12_letLine 142 = .ok (.invokevirtual 125, 3) := by decide +kernel
theorem dX12_letLine_145 : decode cX12_letLine 145 = .ok (.ifCond .ne 9, 3) := by decide +kernel
theorem dX12_letLine_148 : decode cX12_letLine 148 = .ok (.aload_n 0, 1) := by decide +kernel
theorem dX12_letLine_149 : decode cX12_letLine 149 = .ok (.iconst 1, 1) := by decide +kernel
theorem dX12_letLine_150 : decode cX12_letLine 150 = .ok (.invokevirtual 118, 3) := by decide +kernel
theorem dX12_letLine_153 : decode cX12_letLine 153 = .ok (.ireturn, 1) := by decide +kernel
theorem dX12_letLine_154 : decode cX12_letLine 154 = .ok (.aload_n 0, 1) := by decide +kernel
theorem dX12_letLine_155 : decode cX12_letLine 155 = .ok (.invokevirtual 121, 3) := by decide +kernel
theorem dX12_letLine_158 : decode cX12_letLine 158 = .ok (.aload_n 0, 1) := by decide +kernel
theorem dX12_letLine_159 : decode cX12_letLine 159 = .ok (.iconst 0, 1) := by decide +kernel
theorem dX12_letLine_160 : decode cX12_letLine 160 = .ok (.putfield 145, 3) := by decide +kernel
theorem dX12_letLine_163 : decode cX12_letLine 163 = .ok (.aload_n 0, 1) := by decide +kernel
theorem dX12_letLine_164 : decode cX12_letLine 164 = .ok (.invokevirtual 161, 3) := by decide +kernel
theorem dX12_letLine_167 : decode cX12_letLine 167 = .ok (.ifCond .ne 5, 3) := by decide +kernel
theorem dX12_letLine_170 : decode cX12_letLine 170 = .ok (.iconst 0, 1) := by decide +kernel
theorem dX12_letLine_171 : decode cX12_letLine 171 = .ok (.ireturn, 1) := by decide +kernel
theorem dX12_letLine_172 : decode cX12_letLine 172 = .ok (.aload_n 0, 1) := by decide +kernel
theorem dX12_letLine_173 : decode cX12_letLine 173 = .ok (.getfield 174, 3) := by decide +kernel
theorem dX12_letLine_176 : decode cX12_letLine 176 = .ok (.aload_n 0, 1) := by decide +kernel
theorem dX12_letLine_177 : decode cX12_letLine 177 = .ok (.getfield 129, 3) := by decide +kernel
theorem dX12_letLine_180 : decode cX12_letLine 180 = .ok (.aload_n 0, 1) := by decide +kernel
theorem dX12_letLine_181 : decode cX12_letLine 181 = .ok (.getfield 142, 3) := by decide +kernel
theorem dX12_letLine_184 : decode cX12_letLine 184 = .ok (.iconst 0, 1) := by decide +kernel
theorem dX12_letLine_185 : decode cX12_letLine 185 = .ok (.iaload, 1) := by decide +kernel
theorem dX12_letLine_186 : decode cX12_letLine 186 = .ok (.iastore, 1) := by decide +kernel
theorem dX12_letLine_187 : decode cX12_letLine 187 = .ok (.aload_n 0, 1) := by decide +kernel
theorem dX12_letLine_188 : decode cX12_letLine 188 = .ok (.getfield 148, 3) := by decide +kernel
theorem dX12_letLine_191 : decode cX12_letLine 191 = .ok (.iconst 0, 1) := by decide +kernel
theorem dX12_letLine_192 : decode cX12_letLine 192 = .ok (.aload_n 0, 1) := by decide +kernel
theorem dX12_letLine_193 : decode cX12_letLine 193 = .ok (.getfield 177, 3) := by decide +kernel
theorem dX12_letLine_196 : decode cX12_letLine 196 = .ok (.sipush 181, 3) := by decide +kernel
theorem dX12_letLine_199 : decode cX12_letLine 199 = .ok (.aload_n 0, 1) := by decide +kernel
theorem dX12_letLine_200 : decode cX12_letLine 200 = .ok (.getfield 129, 3) := by decide +kernel
theorem dX12_letLine_203 : decode cX12_letLine 203 = .ok (.imul, 1) := by decide +kernel
theorem dX12_letLine_204 : decode cX12_letLine 204 = .ok (.invokestatic 58, 3) := by decide +kernel
theorem dX12_letLine_207 : decode cX12_letLine 207 = .ok (.aload_n 0, 1) := by decide +kernel
theorem dX12_letLine_208 : decode cX12_letLine 208 = .ok (.dup, 1) := by decide +kernel
theorem dX12_letLine_209 : decode cX12_letLine 209 = .ok (.getfield 129, 3) := by decide +kernel
theorem dX12_letLine_212 : decode cX12_letLine 212 = .ok (.iconst 1, 1) := by decide +kernel
theorem dX12_letLine_213 : decode cX12_letLine 213 = .ok (.iadd, 1) := by decide +kernel
theorem dX12_letLine_214 : decode cX12_letLine 214 = .ok (.putfield 129, 3) := by decide +kernel
theorem dX12_letLine_217 : decode cX12_letLine 217 = .ok (.aload_n 0, 1) := by decide +kernel
theorem dX12_letLine_218 : decode cX12_letLine 218 = .ok (.bipush 59, 2) := by decide +kernel
theorem dX12_letLine_220 : decode cX12_letLine 220 = .ok (.invokevirtual 164, 3) := by decide +kernel
theorem dX12_letLine_223 : decode cX12_letLine 223 = .ok (.ireturn, 1) := by decide +kernel
theorem dX12_primeLine_0 : decode cX12_primeLine 0 = .ok (.aload_n 0, 1) := by decide +kernel
theorem dX12_primeLine_1 : decode cX12_primeLine 1 = .ok (.invokevirtual 121, 3) := by decide +kernel
theorem dX12_primeLine_4 : decode cX12_primeLine 4 = .ok (.aload_n 0, 1) := by decide +kernel
theorem dX12_primeLine_5 : decode cX12_primeLine 5 = .ok (.getfield 97, 3) := by decide +kernel
theorem dX12_primeLine_8 : decode cX12_primeLine 8 = .ok (.iconst 2, 1) := by decide +kernel
theorem dX12_primeLine_9 : decode cX12_primeLine 9 = .ok (.if_icmp .eq 9, 3) := by decide +kernel
theorem dX12_primeLine_12 : decode cX12_primeLine 12 = .ok (.aload_n 0, 1) := by decide +kernel
theorem dX12_primeLine_13 : decode cX12_primeLine 13 = .ok (.iconst 1, 1) := by decide +kernel
theorem dX12_primeLine_14 : decode cX12_primeLine 14 = .ok (.invokevirtual 118, 3) := by decide +kernel
theorem dX12_primeLine_17 : decode cX12_primeLine 17 = .ok (.ireturn, 1) := by decide +kernel
theorem dX12_primeLine_18 : decode cX12_primeLine 18 = .ok (.aload_n 0, 1) := by decide +kernel
theorem dX12_primeLine_19 : decode cX12_primeLine 19 = .ok (.getfield 100, 3) := by decide +kernel
theorem dX12_primeLine_22 : decode cX12_primeLine 22 = .ok (.bipush 101, 2) := by decide +kernel
theorem dX12_primeLine_24 : decode cX12_primeLine 24 = .ok (.sipush 9973, 3) := by decide +kernel
theorem dX12_primeLine_27 : decode cX12_primeLine 27 = .ok (.invokestatic 45, 3) := by decide +kernel
theorem dX12_primeLine_30 : decode cX12_primeLine 30 = .ok (.ifCond .eq 13, 3) := by decide +kernel
theorem dX12_primeLine_33 : decode cX12_primeLine 33 = .ok (.aload_n 0, 1) := by decide +kernel
theorem dX12_primeLine_34 : decode cX12_primeLine 34 = .ok (.getfield 100, 3) := by decide +kernel
theorem dX12_primeLine_37 : decode cX12_primeLine 37 = .ok (.invokestatic 191, 3) := by decide +kernel
theorem dX12_primeLine_40 : decode cX12_primeLine 40 = .ok (.ifCond .ne 9, 3) := by decide +kernel
theorem dX12_primeLine_43 : decode cX12_primeLine 43 = .ok (.aload_n 0, 1) := by decide +kernel
theorem dX12_primeLine_44 : decode cX12_primeLine 44 = .ok (.iconst 4, 1) := by decide +kernel
theorem dX12_primeLine_45 : decode cX12_primeLine 45 = .ok (.invokevirtual 118, 3) := by decide +kernel
theorem dX12_primeLine_48 : decode cX12_primeLine 48 = .ok (.ireturn, 1) := by decide +kernel
theorem dX12_primeLine_49 : decode cX12_primeLine 49 = .ok (.aload_n 0, 1) := by decide +kernel
theorem dX12_primeLine_50 : decode cX12_primeLine 50 = .ok (.aload_n 0, 1) := by decide +kernel
theorem dX12_primeLine_51 : decode cX12_primeLine 51 = .ok (.getfield 100, 3) := by decide +kernel
theorem dX12_primeLine_54 : decode cX12_primeLine 54 = .ok (.putfield 7, 3) := by decide +kernel
theorem dX12_primeLine_57 : decode cX12_primeLine 57 = .ok (.aload_n 0, 1) := by decide +kernel
theorem dX12_primeLine_58 : decode cX12_primeLine 58 = .ok (.invokevirtual 194, 3) := by decide +kernel
theorem dX12_primeLine_61 : decode cX12_primeLine 61 = .ok (.aload_n 0, 1) := by decide +kernel
theorem dX12_primeLine_62 : decode cX12_primeLine 62 = .ok (.invokevirtual 121, 3) := by decide +kernel
theorem dX12_primeLine_65 : decode cX12_primeLine 65 = .ok (.aload_n 0, 1) := by decide +kernel
theorem dX12_primeLine_66 : decode cX12_primeLine 66 = .ok (.bipush 59, 2) := by decide +kernel
theorem dX12_primeLine_68 : decode cX12_primeLine 68 = .ok (.invokevirtual 164, 3) := by decide +kernel
theorem dX12_primeLine_71 : decode cX12_primeLine 71 = .ok (.ireturn, 1) := by decide +kernel
theorem dX12_book_0 : decode cX12_book 0 = .ok (.aload_n 0, 1) := by decide +kernel
theorem dX12_book_1 : decode cX12_book 1 = .ok (.iconst 0, 1) := by decide +kernel
theorem dX12_book_2 : decode cX12_book 2 = .ok (.putfield 1, 3) := by decide +kernel
theorem dX12_book_5 : decode cX12_book 5 = .ok (.iload_n 1, 1) := by decide +kernel
theorem dX12_book_6 : decode cX12_book 6 = .ok (.iconst 0, 1) := by decide +kernel
theorem dX12_book_7 : decode cX12_book 7 = .ok (.aload_n 0, 1) := by decide +kernel
theorem dX12_book_8 : decode cX12_book 8 = .ok (.getfield 75, 3) := by decide +kernel
theorem dX12_book_11 : decode cX12_book 11 = .ok (.invokestatic 45, 3) := by decide +kernel
theorem dX12_book_14 : decode cX12_book 14 = .ok (.ifCond .ne 5, 3) := by decide +kernel
theorem dX12_book_17 : decode cX12_book 17 = .ok (.iconst (-1), 1) := by decide +kernel
theorem dX12_book_18 : decode cX12_book 18 = .ok (.ireturn, 1) := by decide +kernel
theorem dX12_book_19 : decode cX12_book 19 = .ok (.aload_n 0, 1) := by decide +kernel
theorem dX12_book_20 : decode cX12_book 20 = .ok (.iload_n 1, 1) := by decide +kernel
theorem dX12_book_21 : decode cX12_book 21 = .ok (.putfield 85, 3) := by decide +kernel
theorem dX12_book_24 : decode cX12_book 24 = .ok (.aload_n 0, 1) := by decide +kernel
theorem dX12_book_25 : decode cX12_book 25 = .ok (.iconst 0, 1) := by decide +kernel
theorem dX12_book_26 : decode cX12_book 26 = .ok (.putfield 75, 3) := by decide +kernel
theorem dX12_book_29 : decode cX12_book 29 = .ok (.aload_n 0, 1) := by decide +kernel
theorem dX12_book_30 : decode cX12_book 30 = .ok (.iconst 0, 1) := by decide +kernel
theorem dX12_book_31 : decode cX12_book 31 = .ok (.putfield 88, 3) := by decide +kernel
theorem dX12_book_34 : decode cX12_book 34 = .ok (.aload_n 0, 1) := by decide +kernel
theorem dX12_book_35 : decode cX12_book 35 = .ok (.iconst 0, 1) := by decide +kernel
theorem dX12_book_36 : decode cX12_book 36 = .ok (.putfield 108, 3) := by decide +kernel
theorem dX12_book_39 : decode cX12_book 39 = .ok (.aload_n 0, 1) := by decide +kernel
theorem dX12_book_40 : decode cX12_book 40 = .ok (.iconst 0, 1) := by decide +kernel
theorem dX12_book_41 : decode cX12_book 41 = .ok (.putfield 129, 3) := by decide +kernel
theorem dX12_book_44 : decode cX12_book 44 = .ok (.aload_n 0, 1) := by decide +kernel
theorem dX12_book_45 : decode cX12_book 45 = .ok (.iconst 0, 1) := by decide +kernel
theorem dX12_book_46 : decode cX12_book 46 = .ok (.putfield 158, 3) := by decide +kernel
theorem dX12_book_49 : decode cX12_book 49 = .ok (.aload_n 0, 1) := by decide +kernel
theorem dX12_book_50 : decode cX12_book 50 = .ok (.getfield 7, 3) := by decide +kernel
theorem dX12_book_53 : decode cX12_book 53 = .ok (.istore_n 2, 1) := by decide +kernel
theorem dX12_book_54 : decode cX12_book 54 = .ok (.aload_n 0, 1) := by decide +kernel
theorem dX12_book_55 : decode cX12_book 55 = .ok (.sipush 1009, 3) := by decide +kernel
theorem dX12_book_58 : decode cX12_book 58 = .ok (.putfield 7, 3) := by decide +kernel
theorem dX12_book_61 : decode cX12_book 61 = .ok (.aload_n 0, 1) := by decide +kernel
theorem dX12_book_62 : decode cX12_book 62 = .ok (.invokevirtual 194, 3) := by decide +kernel
theorem dX12_book_65 : decode cX12_book 65 = .ok (.aload_n 0, 1) := by decide +kernel
theorem dX12_book_66 : decode cX12_book 66 = .ok (.invokevirtual 121, 3) := by decide +kernel
theorem dX12_book_69 : decode cX12_book 69 = .ok (.aload_n 0, 1) := by decide +kernel
theorem dX12_book_70 : decode cX12_book 70 = .ok (.bipush 112, 2) := by decide +kernel
theorem dX12_book_72 : decode cX12_book 72 = .ok (.bipush 114, 2) := by decide +kernel
theorem dX12_book_74 : decode cX12_book 74 = .ok (.bipush 105, 2) := by decide +kernel
theorem dX12_book_76 : decode cX12_book 76 = .ok (.bipush 109, 2) := by decide +kernel
theorem dX12_book_78 : decode cX12_book 78 = .ok (.bipush 101, 2) := by decide +kernel
theorem dX12_book_80 : decode cX12_book 80 = .ok (.invokevirtual 125, 3) := by decide +kernel
theorem dX12_book_83 : decode cX12_book 83 = .ok (.ifCond .eq 10, 3) := by decide +kernel
theorem dX12_book_86 : decode cX12_book 86 = .ok (.aload_n 0, 1) := by decide +kernel
theorem dX12_book_87 : decode cX12_book 87 = .ok (.invokevirtual 197, 3) := by decide +kernel
theorem dX12_book_90 : decode cX12_book 90 = .ok (.ifCond .eq 7, 3) := by decide +kernel
theorem dX12_book_93 : decode cX12_book 93 = .ok (.iconst 1, 1) := by decide +kernel
theorem dX12_book_94 : decode cX12_book 94 = .ok (.goto 4, 3) := by decide +kernel
theorem dX12_book_97 : decode cX12_book 97 = .ok (.iconst 0, 1) := by decide +kernel
theorem dX12_book_98 : decode cX12_book 98 = .ok (.istore_n 3, 1) := by decide +kernel
theorem dX12_book_99 : decode cX12_book 99 = .ok (.iload_n 3, 1) := by decide +kernel
theorem dX12_book_100 : decode cX12_book 100 = .ok (.ifCond .eq 18, 3) := by decide +kernel
theorem dX12_book_103 : decode cX12_book 103 = .ok (.aload_n 0, 1) := by decide +kernel
theorem dX12_book_104 : decode cX12_book 104 = .ok (.getfield 97, 3) := by decide +kernel
theorem dX12_book_107 : decode cX12_book 107 = .ok (.ifCond .eq 11, 3) := by decide +kernel
theorem dX12_book_110 : decode cX12_book 110 = .ok (.aload_n 0, 1) := by decide +kernel
theorem dX12_book_111 : decode cX12_book 111 = .ok (.invokevirtual 200, 3) := by decide +kernel
theorem dX12_book_114 : decode cX12_book 114 = .ok (.istore_n 3, 1) := by decide +kernel
theorem dX12_book_115 : decode cX12_book 115 = .ok (.goto (-16), 3) := by decide +kernel
theorem dX12_book_118 : decode cX12_book 118 = .ok (.iload_n 3, 1) := by decide +kernel
theorem dX12_book_119 : decode cX12_book 119 = .ok (.ifCond .ne 20, 3) := by decide +kernel
theorem dX12_book_122 : decode cX12_book 122 = .ok (.aload_n 0, 1) := by decide +kernel
theorem dX12_book_123 : decode cX12_book 123 = .ok (.iload_n 2, 1) := by decide +kernel
theorem dX12_book_124 : decode cX12_book 124 = .ok (.putfield 7, 3) := by decide +kernel
theorem dX12_book_127 : decode cX12_book 127 = .ok (.aload_n 0, 1) := by decide +kernel
theorem dX12_book_128 : decode cX12_book 128 = .ok (.invokevirtual 194, 3) := by decide +kernel
theorem dX12_book_131 : decode cX12_book 131 = .ok (.bipush (-2), 2) := by decide +kernel
theorem dX12_book_133 : decode cX12_book 133 = .ok (.aload_n 0, 1) := by decide +kernel
theorem dX12_book_134 : decode cX12_book 134 = .ok (.getfield 108, 3) := by decide +kernel
theorem dX12_book_137 : decode cX12_book 137 = .ok (.isub, 1) := by decide +kernel
theorem dX12_book_138 : decode cX12_book 138 = .ok (.ireturn, 1) := by decide +kernel
theorem dX12_book_139 : decode cX12_book 139 = .ok (.aload_n 0, 1) := by decide +kernel
theorem dX12_book_140 : decode cX12_book 140 = .ok (.invokevirtual 203, 3) := by decide +kernel
theorem dX12_book_143 : decode cX12_book 143 = .ok (.aload_n 0, 1) := by decide +kernel
theorem dX12_book_144 : decode cX12_book 144 = .ok (.getfield 206, 3) := by decide +kernel
theorem dX12_book_147 : decode cX12_book 147 = .ok (.ireturn, 1) := by decide +kernel
theorem dX12_takes_0 : decode cX12_takes 0 = .ok (.aload_n 0, 1) := by decide +kernel
theorem dX12_takes_1 : decode cX12_takes 1 = .ok (.iconst (-1), 1) := by decide +kernel
theorem dX12_takes_2 : decode cX12_takes 2 = .ok (.putfield 49, 3) := by decide +kernel
theorem dX12_takes_5 : decode cX12_takes 5 = .ok (.aload_n 0, 1) := by decide +kernel
theorem dX12_takes_6 : decode cX12_takes 6 = .ok (.aload_n 0, 1) := by decide +kernel
theorem dX12_takes_7 : decode cX12_takes 7 = .ok (.getfield 129, 3) := by decide +kernel
theorem dX12_takes_10 : decode cX12_takes 10 = .ok (.putfield 206, 3) := by decide +kernel
theorem dX12_takes_13 : decode cX12_takes 13 = .ok (.iconst 0, 1) := by decide +kernel
theorem dX12_takes_14 : decode cX12_takes 14 = .ok (.istore_n 1, 1) := by decide +kernel
theorem dX12_takes_15 : decode cX12_takes 15 = .ok (.iload_n 1, 1) := by decide +kernel
theorem dX12_takes_16 : decode cX12_takes 16 = .ok (.bipush 6, 2) := by decide +kernel
theorem dX12_takes_18 : decode cX12_takes 18 = .ok (.if_icmp .ge 21, 3) := by decide +kernel
theorem dX12_takes_21 : decode cX12_takes 21 = .ok (.aload_n 0, 1) := by decide +kernel
theorem dX12_takes_22 : decode cX12_takes 22 = .ok (.getfield 209, 3) := by decide +kernel
theorem dX12_takes_25 : decode cX12_takes 25 = .ok (.iload_n 1, 1) := by decide +kernel
theorem dX12_takes_26 : decode cX12_takes 26 = .ok (.aload_n 0, 1) := by decide +kernel
theorem dX12_takes_27 : decode cX12_takes 27 = .ok (.getfield 174, 3) := by decide +kernel
theorem dX12_takes_30 : decode cX12_takes 30 = .ok (.iload_n 1, 1) := by decide +kernel
theorem dX12_takes_31 : decode cX12_takes 31 = .ok (.iaload, 1) := by decide +kernel
theorem dX12_takes_32 : decode cX12_takes 32 = .ok (.iastore, 1) := by decide +kernel
theorem dX12_takes_33 : decode cX12_takes 33 = .ok (.iinc 1 1, 3) := by decide +kernel
theorem dX12_takes_36 : decode cX12_takes 36 = .ok (.goto (-21), 3) := by decide +kernel
theorem dX12_takes_39 : decode cX12_takes 39 = .ok (.iconst 0, 1) := by decide +kernel
theorem dX12_takes_40 : decode cX12_takes 40 = .ok (.istore_n 1, 1) := by decide +kernel
theorem dX12_takes_41 : decode cX12_takes 41 = .ok (.iload_n 1, 1) := by decide +kernel
theorem dX12_takes_42 : decode cX12_takes 42 = .ok (.sipush 1086, 3) := by decide +kernel
theorem dX12_takes_45 : decode cX12_takes 45 = .ok (.if_icmp .ge 21, 3) := by decide +kernel
theorem dX12_takes_48 : decode cX12_takes 48 = .ok (.aload_n 0, 1) := by decide +kernel
theorem dX12_takes_49 : decode cX12_takes 49 = .ok (.getfield 212, 3) := by decide +kernel
theorem dX12_takes_52 : decode cX12_takes 52 = .ok (.iload_n 1, 1) := by decide +kernel
theorem dX12_takes_53 : decode cX12_takes 53 = .ok (.aload_n 0, 1) := by decide +kernel
theorem dX12_takes_54 : decode cX12_takes 54 = .ok (.getfield 177, 3) := by decide +kernel
theorem dX12_takes_57 : decode cX12_takes 57 = .ok (.iload_n 1, 1) := by decide +kernel
theorem dX12_takes_58 : decode cX12_takes 58 = .ok (.iaload, 1) := by decide +kernel
theorem dX12_takes_59 : decode cX12_takes 59 = .ok (.iastore, 1) := by decide +kernel
theorem dX12_takes_60 : decode cX12_takes 60 = .ok (.iinc 1 1, 3) := by decide +kernel
theorem dX12_takes_63 : decode cX12_takes 63 = .ok (.goto (-22), 3) := by decide +kernel
theorem dX12_takes_66 : decode cX12_takes 66 = .ok (.iconst 0, 1) := by decide +kernel
theorem dX12_takes_67 : decode cX12_takes 67 = .ok (.istore_n 1, 1) := by decide +kernel
theorem dX12_takes_68 : decode cX12_takes 68 = .ok (.iload_n 1, 1) := by decide +kernel
theorem dX12_takes_69 : decode cX12_takes 69 = .ok (.iconst 4, 1) := by decide +kernel
theorem dX12_takes_70 : decode cX12_takes 70 = .ok (.if_icmp .ge 52, 3) := by decide +kernel
theorem dX12_takes_73 : decode cX12_takes 73 = .ok (.aload_n 0, 1) := by decide +kernel
theorem dX12_takes_74 : decode cX12_takes 74 = .ok (.getfield 215, 3) := by decide +kernel
theorem dX12_takes_77 : decode cX12_takes 77 = .ok (.iload_n 1, 1) := by decide +kernel
theorem dX12_takes_78 : decode cX12_takes 78 = .ok (.iconst 0, 1) := by decide +kernel
theorem dX12_takes_79 : decode cX12_takes 79 = .ok (.iastore, 1) := by decide +kernel
theorem dX12_takes_80 : decode cX12_takes 80 = .ok (.iconst 0, 1) := by decide +kernel
theorem dX12_takes_81 : decode cX12_takes 81 = .ok (.istore_n 2, 1) := by decide +kernel
theorem dX12_takes_82 : decode cX12_takes 82 = .ok (.iload_n 2, 1) := by decide +kernel
theorem dX12_takes_83 : decode cX12_takes 83 = .ok (.sipush 181, 3) := by decide +kernel
theorem dX12_takes_86 : decode cX12_takes 86 = .ok (.if_icmp .ge 30, 3) := by decide +kernel
theorem dX12_takes_89 : decode cX12_takes 89 = .ok (.aload_n 0, 1) := by decide +kernel
theorem dX12_takes_90 : decode cX12_takes 90 = .ok (.getfield 218, 3) := by decide +kernel
theorem dX12_takes_93 : decode cX12_takes 93 = .ok (.sipush 181, 3) := by decide +kernel
theorem dX12_takes_96 : decode cX12_takes 96 = .ok (.iload_n 1, 1) := by decide +kernel
theorem dX12_takes_97 : decode cX12_takes 97 = .ok (.imul, 1) := by decide +kernel
theorem dX12_takes_98 : decode cX12_takes 98 = .ok (.iload_n 2, 1) := by decide +kernel
theorem dX12_takes_99 : decode cX12_takes 99 = .ok (.iadd, 1) := by decide +kernel
theorem dX12_takes_100 : decode cX12_takes 100 = .ok (.iload_n 2, 1) := by decide +kernel
theorem dX12_takes_101 : decode cX12_takes 101 = .ok (.ifCond .ne 7, 3) := by decide +kernel
theorem dX12_takes_104 : decode cX12_takes 104 = .ok (.iconst 1, 1) := by decide +kernel
theorem dX12_takes_105 : decode cX12_takes 105 = .ok (.goto 4, 3) := by decide +kernel
theorem dX12_takes_108 : decode cX12_takes 108 = .ok (.iconst 0, 1) := by decide +kernel
theorem dX12_takes_109 : decode cX12_takes 109 = .ok (.iastore, 1) := by decide +kernel
theorem dX12_takes_110 : decode cX12_takes 110 = .ok (.iinc 2 1, 3) := by decide +kernel
theorem dX12_takes_113 : decode cX12_takes 113 = .ok (.goto (-31), 3) := by decide +kernel
theorem dX12_takes_116 : decode cX12_takes 116 = .ok (.iinc 1 1, 3) := by decide +kernel
theorem dX12_takes_119 : decode cX12_takes 119 = .ok (.goto (-51), 3) := by decide +kernel
theorem dX12_takes_122 : decode cX12_takes 122 = .ok (.iconst 0, 1) := by decide +kernel
theorem dX12_takes_123 : decode cX12_takes 123 = .ok (.istore_n 1, 1) := by decide +kernel
theorem dX12_takes_124 : decode cX12_takes 124 = .ok (.iload_n 1, 1) := by decide +kernel
theorem dX12_takes_125 : decode cX12_takes 125 = .ok (.bipush 8, 2) := by decide +kernel
theorem dX12_takes_127 : decode cX12_takes 127 = .ok (.if_icmp .ge 16, 3) := by decide +kernel
theorem dX12_takes_130 : decode cX12_takes 130 = .ok (.aload_n 0, 1) := by decide +kernel
theorem dX12_takes_131 : decode cX12_takes 131 = .ok (.getfield 221, 3) := by decide +kernel
theorem dX12_takes_134 : decode cX12_takes 134 = .ok (.iload_n 1, 1) := by decide +kernel
theorem dX12_takes_135 : decode cX12_takes 135 = .ok (.iconst 0, 1) := by decide +kernel
theorem dX12_takes_136 : decode cX12_takes 136 = .ok (.bastore, 1) := by decide +kernel
theorem dX12_takes_137 : decode cX12_takes 137 = .ok (.iinc 1 1, 3) := by decide +kernel
theorem dX12_takes_140 : decode cX12_takes 140 = .ok (.goto (-16), 3) := by decide +kernel
theorem dX12_takes_143 : decode cX12_takes 143 = .ok (.iconst 0, 1) := by decide +kernel
theorem dX12_takes_144 : decode cX12_takes 144 = .ok (.istore_n 1, 1) := by decide +kernel
theorem dX12_takes_145 : decode cX12_takes 145 = .ok (.iload_n 1, 1) := by decide +kernel
theorem dX12_takes_146 : decode cX12_takes 146 = .ok (.iconst 2, 1) := by decide +kernel
theorem dX12_takes_147 : decode cX12_takes 147 = .ok (.if_icmp .ge 16, 3) := by decide +kernel
theorem dX12_takes_150 : decode cX12_takes 150 = .ok (.aload_n 0, 1) := by decide +kernel
theorem dX12_takes_151 : decode cX12_takes 151 = .ok (.getfield 225, 3) := by decide +kernel
theorem dX12_takes_154 : decode cX12_takes 154 = .ok (.iload_n 1, 1) := by decide +kernel
theorem dX12_takes_155 : decode cX12_takes 155 = .ok (.iconst 0, 1) := by decide +kernel
theorem dX12_takes_156 : decode cX12_takes 156 = .ok (.bastore, 1) := by decide +kernel
theorem dX12_takes_157 : decode cX12_takes 157 = .ok (.iinc 1 1, 3) := by decide +kernel
theorem dX12_takes_160 : decode cX12_takes 160 = .ok (.goto (-15), 3) := by decide +kernel
theorem dX12_takes_163 : decode cX12_takes 163 = .ok (.return_, 1) := by decide +kernel
theorem dX12_init_0 : decode cX12_init 0 = .ok (.aload_n 0, 1) := by decide +kernel
theorem dX12_init_1 : decode cX12_init 1 = .ok (.invokespecial 228, 3) := by decide +kernel
theorem dX12_init_4 : decode cX12_init 4 = .ok (.aload_n 0, 1) := by decide +kernel
theorem dX12_init_5 : decode cX12_init 5 = .ok (.sipush 1009, 3) := by decide +kernel
theorem dX12_init_8 : decode cX12_init 8 = .ok (.putfield 7, 3) := by decide +kernel
theorem dX12_init_11 : decode cX12_init 11 = .ok (.aload_n 0, 1) := by decide +kernel
theorem dX12_init_12 : decode cX12_init 12 = .ok (.sipush 181, 3) := by decide +kernel
theorem dX12_init_15 : decode cX12_init 15 = .ok (.newarray .int, 2) := by decide +kernel
theorem dX12_init_17 : decode cX12_init 17 = .ok (.putfield 18, 3) := by decide +kernel
theorem dX12_init_20 : decode cX12_init 20 = .ok (.aload_n 0, 1) := by decide +kernel
theorem dX12_init_21 : decode cX12_init 21 = .ok (.sipush 181, 3) := by decide +kernel
theorem dX12_init_24 : decode cX12_init 24 = .ok (.newarray .int, 2) := by decide +kernel
theorem dX12_init_26 : decode cX12_init 26 = .ok (.putfield 24, 3) := by decide +kernel
theorem dX12_init_29 : decode cX12_init 29 = .ok (.aload_n 0, 1) := by decide +kernel
theorem dX12_init_30 : decode cX12_init 30 = .ok (.sipush 181, 3) := by decide +kernel
theorem dX12_init_33 : decode cX12_init 33 = .ok (.newarray .int, 2) := by decide +kernel
theorem dX12_init_35 : decode cX12_init 35 = .ok (.putfield 36, 3) := by decide +kernel
theorem dX12_init_38 : decode cX12_init 38 = .ok (.aload_n 0, 1) := by decide +kernel
theorem dX12_init_39 : decode cX12_init 39 = .ok (.sipush 181, 3) := by decide +kernel
theorem dX12_init_42 : decode cX12_init 42 = .ok (.newarray .int, 2) := by decide +kernel
theorem dX12_init_44 : decode cX12_init 44 = .ok (.putfield 29, 3) := by decide +kernel
theorem dX12_init_47 : decode cX12_init 47 = .ok (.aload_n 0, 1) := by decide +kernel
theorem dX12_init_48 : decode cX12_init 48 = .ok (.sipush 181, 3) := by decide +kernel
theorem dX12_init_51 : decode cX12_init 51 = .ok (.newarray .int, 2) := by decide +kernel
theorem dX12_init_53 : decode cX12_init 53 = .ok (.putfield 55, 3) := by decide +kernel
theorem dX12_init_56 : decode cX12_init 56 = .ok (.aload_n 0, 1) := by decide +kernel
theorem dX12_init_57 : decode cX12_init 57 = .ok (.iconst (-1), 1) := by decide +kernel
theorem dX12_init_58 : decode cX12_init 58 = .ok (.putfield 49, 3) := by decide +kernel
theorem dX12_init_61 : decode cX12_init 61 = .ok (.aload_n 0, 1) := by decide +kernel
theorem dX12_init_62 : decode cX12_init 62 = .ok (.sipush 1086, 3) := by decide +kernel
theorem dX12_init_65 : decode cX12_init 65 = .ok (.newarray .int, 2) := by decide +kernel
theorem dX12_init_67 : decode cX12_init 67 = .ok (.putfield 62, 3) := by decide +kernel
theorem dX12_init_70 : decode cX12_init 70 = .ok (.aload_n 0, 1) := by decide +kernel
theorem dX12_init_71 : decode cX12_init 71 = .ok (.bipush 6, 2) := by decide +kernel
theorem dX12_init_73 : decode cX12_init 73 = .ok (.newarray .int, 2) := by decide +kernel
theorem dX12_init_75 : decode cX12_init 75 = .ok (.putfield 72, 3) := by decide +kernel
theorem dX12_init_78 : decode cX12_init 78 = .ok (.aload_n 0, 1) := by decide +kernel
theorem dX12_init_79 : decode cX12_init 79 = .ok (.sipush 181, 3) := by decide +kernel
theorem dX12_init_82 : decode cX12_init 82 = .ok (.newarray .int, 2) := by decide +kernel
theorem dX12_init_84 : decode cX12_init 84 = .ok (.putfield 69, 3) := by decide +kernel
theorem dX12_init_87 : decode cX12_init 87 = .ok (.aload_n 0, 1) := by decide +kernel
theorem dX12_init_88 : decode cX12_init 88 = .ok (.sipush 600, 3) := by decide +kernel
theorem dX12_init_91 : decode cX12_init 91 = .ok (.newarray .byte, 2) := by decide +kernel
theorem dX12_init_93 : decode cX12_init 93 = .ok (.putfield 81, 3) := by decide +kernel
theorem dX12_init_96 : decode cX12_init 96 = .ok (.aload_n 0, 1) := by decide +kernel
theorem dX12_init_97 : decode cX12_init 97 = .ok (.bipush 6, 2) := by decide +kernel
theorem dX12_init_99 : decode cX12_init 99 = .ok (.newarray .int, 2) := by decide +kernel
theorem dX12_init_101 : decode cX12_init 101 = .ok (.putfield 209, 3) := by decide +kernel
theorem dX12_init_104 : decode cX12_init 104 = .ok (.aload_n 0, 1) := by decide +kernel
theorem dX12_init_105 : decode cX12_init 105 = .ok (.sipush 1086, 3) := by decide +kernel
theorem dX12_init_108 : decode cX12_init 108 = .ok (.newarray .int, 2) := by decide +kernel
theorem dX12_init_110 : decode cX12_init 110 = .ok (.putfield 212, 3) := by decide +kernel
theorem dX12_init_113 : decode cX12_init 113 = .ok (.aload_n 0, 1) := by decide +kernel
theorem dX12_init_114 : decode cX12_init 114 = .ok (.bipush 6, 2) := by decide +kernel
theorem dX12_init_116 : decode cX12_init 116 = .ok (.newarray .int, 2) := by decide +kernel
theorem dX12_init_118 : decode cX12_init 118 = .ok (.putfield 132, 3) := by decide +kernel
theorem dX12_init_121 : decode cX12_init 121 = .ok (.aload_n 0, 1) := by decide +kernel
theorem dX12_init_122 : decode cX12_init 122 = .ok (.bipush 36, 2) := by decide +kernel
theorem dX12_init_124 : decode cX12_init 124 = .ok (.newarray .int, 2) := by decide +kernel
theorem dX12_init_126 : decode cX12_init 126 = .ok (.putfield 135, 3) := by decide +kernel
theorem dX12_init_129 : decode cX12_init 129 = .ok (.aload_n 0, 1) := by decide +kernel
theorem dX12_init_130 : decode cX12_init 130 = .ok (.bipush 6, 2) := by decide +kernel
theorem dX12_init_132 : decode cX12_init 132 = .ok (.newarray .int, 2) := by decide +kernel
theorem dX12_init_134 : decode cX12_init 134 = .ok (.putfield 174, 3) := by decide +kernel
theorem dX12_init_137 : decode cX12_init 137 = .ok (.aload_n 0, 1) := by decide +kernel
theorem dX12_init_138 : decode cX12_init 138 = .ok (.sipush 1086, 3) := by decide +kernel
theorem dX12_init_141 : decode cX12_init 141 = .ok (.newarray .int, 2) := by decide +kernel
theorem dX12_init_143 : decode cX12_init 143 = .ok (.putfield 177, 3) := by decide +kernel
theorem dX12_init_146 : decode cX12_init 146 = .ok (.aload_n 0, 1) := by decide +kernel
theorem dX12_init_147 : decode cX12_init 147 = .ok (.bipush 30, 2) := by decide +kernel
theorem dX12_init_149 : decode cX12_init 149 = .ok (.newarray .int, 2) := by decide +kernel
theorem dX12_init_151 : decode cX12_init 151 = .ok (.putfield 142, 3) := by decide +kernel
theorem dX12_init_154 : decode cX12_init 154 = .ok (.aload_n 0, 1) := by decide +kernel
theorem dX12_init_155 : decode cX12_init 155 = .ok (.sipush 5430, 3) := by decide +kernel
theorem dX12_init_158 : decode cX12_init 158 = .ok (.newarray .int, 2) := by decide +kernel
theorem dX12_init_160 : decode cX12_init 160 = .ok (.putfield 148, 3) := by decide +kernel
theorem dX12_init_163 : decode cX12_init 163 = .ok (.aload_n 0, 1) := by decide +kernel
theorem dX12_init_164 : decode cX12_init 164 = .ok (.iconst 4, 1) := by decide +kernel
theorem dX12_init_165 : decode cX12_init 165 = .ok (.newarray .int, 2) := by decide +kernel
theorem dX12_init_167 : decode cX12_init 167 = .ok (.putfield 215, 3) := by decide +kernel
theorem dX12_init_170 : decode cX12_init 170 = .ok (.aload_n 0, 1) := by decide +kernel
theorem dX12_init_171 : decode cX12_init 171 = .ok (.sipush 724, 3) := by decide +kernel
theorem dX12_init_174 : decode cX12_init 174 = .ok (.newarray .int, 2) := by decide +kernel
theorem dX12_init_176 : decode cX12_init 176 = .ok (.putfield 218, 3) := by decide +kernel
theorem dX12_init_179 : decode cX12_init 179 = .ok (.aload_n 0, 1) := by decide +kernel
theorem dX12_init_180 : decode cX12_init 180 = .ok (.bipush 36, 2) := by decide +kernel
theorem dX12_init_182 : decode cX12_init 182 = .ok (.newarray .int, 2) := by decide +kernel
theorem dX12_init_184 : decode cX12_init 184 = .ok (.putfield 233, 3) := by decide +kernel
theorem dX12_init_187 : decode cX12_init 187 = .ok (.aload_n 0, 1) := by decide +kernel
theorem dX12_init_188 : decode cX12_init 188 = .ok (.bipush 7, 2) := by decide +kernel
theorem dX12_init_190 : decode cX12_init 190 = .ok (.newarray .int, 2) := by decide +kernel
theorem dX12_init_192 : decode cX12_init 192 = .ok (.putfield 236, 3) := by decide +kernel
theorem dX12_init_195 : decode cX12_init 195 = .ok (.aload_n 0, 1) := by decide +kernel
theorem dX12_init_196 : decode cX12_init 196 = .ok (.bipush 36, 2) := by decide +kernel
theorem dX12_init_198 : decode cX12_init 198 = .ok (.newarray .int, 2) := by decide +kernel
theorem dX12_init_200 : decode cX12_init 200 = .ok (.putfield 239, 3) := by decide +kernel
theorem dX12_init_203 : decode cX12_init 203 = .ok (.aload_n 0, 1) := by decide +kernel
theorem dX12_init_204 : decode cX12_init 204 = .ok (.bipush 36, 2) := by decide +kernel
theorem dX12_init_206 : decode cX12_init 206 = .ok (.newarray .int, 2) := by decide +kernel
theorem dX12_init_208 : decode cX12_init 208 = .ok (.putfield 241, 3) := by decide +kernel
theorem dX12_init_211 : decode cX12_init 211 = .ok (.aload_n 0, 1) := by decide +kernel
theorem dX12_init_212 : decode cX12_init 212 = .ok (.bipush 6, 2) := by decide +kernel
theorem dX12_init_214 : decode cX12_init 214 = .ok (.newarray .int, 2) := by decide +kernel
theorem dX12_init_216 : decode cX12_init 216 = .ok (.putfield 244, 3) := by decide +kernel
theorem dX12_init_219 : decode cX12_init 219 = .ok (.aload_n 0, 1) := by decide +kernel
theorem dX12_init_220 : decode cX12_init 220 = .ok (.bipush 36, 2) := by decide +kernel
theorem dX12_init_222 : decode cX12_init 222 = .ok (.newarray .int, 2) := by decide +kernel
theorem dX12_init_224 : decode cX12_init 224 = .ok (.putfield 247, 3) := by decide +kernel
theorem dX12_init_227 : decode cX12_init 227 = .ok (.aload_n 0, 1) := by decide +kernel
theorem dX12_init_228 : decode cX12_init 228 = .ok (.bipush 8, 2) := by decide +kernel
theorem dX12_init_230 : decode cX12_init 230 = .ok (.newarray .boolean, 2) := by decide +kernel
theorem dX12_init_232 : decode cX12_init 232 = .ok (.putfield 221, 3) := by decide +kernel
theorem dX12_init_235 : decode cX12_init 235 = .ok (.aload_n 0, 1) := by decide +kernel
theorem dX12_init_236 : decode cX12_init 236 = .ok (.bipush 104, 2) := by decide +kernel
theorem dX12_init_238 : decode cX12_init 238 = .ok (.newarray .long, 2) := by decide +kernel
theorem dX12_init_240 : decode cX12_init 240 = .ok (.putfield 250, 3) := by decide +kernel
theorem dX12_init_243 : decode cX12_init 243 = .ok (.aload_n 0, 1) := by decide +kernel
theorem dX12_init_244 : decode cX12_init 244 = .ok (.iconst 2, 1) := by decide +kernel
theorem dX12_init_245 : decode cX12_init 245 = .ok (.newarray .boolean, 2) := by decide +kernel
theorem dX12_init_247 : decode cX12_init 247 = .ok (.putfield 225, 3) := by decide +kernel
theorem dX12_init_250 : decode cX12_init 250 = .ok (.aload_n 0, 1) := by decide +kernel
theorem dX12_init_251 : decode cX12_init 251 = .ok (.iconst 2, 1) := by decide +kernel
theorem dX12_init_252 : decode cX12_init 252 = .ok (.newarray .int, 2) := by decide +kernel
theorem dX12_init_254 : decode cX12_init 254 = .ok (.putfield 254, 3) := by decide +kernel
theorem dX12_init_257 : decode cX12_init 257 = .ok (.aload_n 0, 1) := by decide +kernel
theorem dX12_init_258 : decode cX12_init 258 = .ok (.bipush 8, 2) := by decide +kernel
theorem dX12_init_260 : decode cX12_init 260 = .ok (.newarray .int, 2) := by decide +kernel
theorem dX12_init_262 : decode cX12_init 262 = .ok (.putfield 257, 3) := by decide +kernel
theorem dX12_init_265 : decode cX12_init 265 = .ok (.aload_n 0, 1) := by decide +kernel
theorem dX12_init_266 : decode cX12_init 266 = .ok (.sipush 1448, 3) := by decide +kernel
theorem dX12_init_269 : decode cX12_init 269 = .ok (.newarray .int, 2) := by decide +kernel
theorem dX12_init_271 : decode cX12_init 271 = .ok (.putfield 260, 3) := by decide +kernel
theorem dX12_init_274 : decode cX12_init 274 = .ok (.aload_n 0, 1) := by decide +kernel
theorem dX12_init_275 : decode cX12_init 275 = .ok (.bipush 16, 2) := by decide +kernel
theorem dX12_init_277 : decode cX12_init 277 = .ok (.newarray .boolean, 2) := by decide +kernel
theorem dX12_init_279 : decode cX12_init 279 = .ok (.putfield 263, 3) := by decide +kernel
theorem dX12_init_282 : decode cX12_init 282 = .ok (.aload_n 0, 1) := by decide +kernel
theorem dX12_init_283 : decode cX12_init 283 = .ok (.sipush 208, 3) := by decide +kernel
theorem dX12_init_286 : decode cX12_init 286 = .ok (.newarray .long, 2) := by decide +kernel
theorem dX12_init_288 : decode cX12_init 288 = .ok (.putfield 266, 3) := by decide +kernel
theorem dX12_init_291 : decode cX12_init 291 = .ok (.aload_n 0, 1) := by decide +kernel
theorem dX12_init_292 : decode cX12_init 292 = .ok (.invokevirtual 194, 3) := by decide +kernel
theorem dX12_init_295 : decode cX12_init 295 = .ok (.aload_n 0, 1) := by decide +kernel
theorem dX12_init_296 : decode cX12_init 296 = .ok (.invokevirtual 203, 3) := by decide +kernel
theorem dX12_init_299 : decode cX12_init 299 = .ok (.return_, 1) := by decide +kernel
theorem dX12_count_0 : decode cX12_count 0 = .ok (.aload_n 0, 1) := by decide +kernel
theorem dX12_count_1 : decode cX12_count 1 = .ok (.iconst 0, 1) := by decide +kernel
theorem dX12_count_2 : decode cX12_count 2 = .ok (.putfield 1, 3) := by decide +kernel
theorem dX12_count_5 : decode cX12_count 5 = .ok (.iload_n 1, 1) := by decide +kernel
theorem dX12_count_6 : decode cX12_count 6 = .ok (.tableswitch 75 0 3 #[30, 35, 40, 45], 30) := by decide +kernel
theorem dX12_count_36 : decode cX12_count 36 = .ok (.aload_n 0, 1) := by decide +kernel
theorem dX12_count_37 : decode cX12_count 37 = .ok (.getfield 7, 3) := by decide +kernel
theorem dX12_count_40 : decode cX12_count 40 = .ok (.ireturn, 1) := by decide +kernel
theorem dX12_count_41 : decode cX12_count 41 = .ok (.aload_n 0, 1) := by decide +kernel
theorem dX12_count_42 : decode cX12_count 42 = .ok (.getfield 206, 3) := by decide +kernel
theorem dX12_count_45 : decode cX12_count 45 = .ok (.ireturn, 1) := by decide +kernel
theorem dX12_count_46 : decode cX12_count 46 = .ok (.aload_n 0, 1) := by decide +kernel
theorem dX12_count_47 : decode cX12_count 47 = .ok (.getfield 75, 3) := by decide +kernel
theorem dX12_count_50 : decode cX12_count 50 = .ok (.ireturn, 1) := by decide +kernel
theorem dX12_count_51 : decode cX12_count 51 = .ok (.aload_n 0, 1) := by decide +kernel
theorem dX12_count_52 : decode cX12_count 52 = .ok (.getfield 225, 3) := by decide +kernel
theorem dX12_count_55 : decode cX12_count 55 = .ok (.iconst 0, 1) := by decide +kernel
theorem dX12_count_56 : decode cX12_count 56 = .ok (.baload, 1) := by decide +kernel
theorem dX12_count_57 : decode cX12_count 57 = .ok (.ifCond .eq 7, 3) := by decide +kernel
theorem dX12_count_60 : decode cX12_count 60 = .ok (.iconst 1, 1) := by decide +kernel
theorem dX12_count_61 : decode cX12_count 61 = .ok (.goto 4, 3) := by decide +kernel
theorem dX12_count_64 : decode cX12_count 64 = .ok (.iconst 0, 1) := by decide +kernel
theorem dX12_count_65 : decode cX12_count 65 = .ok (.aload_n 0, 1) := by decide +kernel
theorem dX12_count_66 : decode cX12_count 66 = .ok (.getfield 225, 3) := by decide +kernel
theorem dX12_count_69 : decode cX12_count 69 = .ok (.iconst 1, 1) := by decide +kernel
theorem dX12_count_70 : decode cX12_count 70 = .ok (.baload, 1) := by decide +kernel
theorem dX12_count_71 : decode cX12_count 71 = .ok (.ifCond .eq 7, 3) := by decide +kernel
theorem dX12_count_74 : decode cX12_count 74 = .ok (.iconst 1, 1) := by decide +kernel
theorem dX12_count_75 : decode cX12_count 75 = .ok (.goto 4, 3) := by decide +kernel
theorem dX12_count_78 : decode cX12_count 78 = .ok (.iconst 0, 1) := by decide +kernel
theorem dX12_count_79 : decode cX12_count 79 = .ok (.iadd, 1) := by decide +kernel
theorem dX12_count_80 : decode cX12_count 80 = .ok (.ireturn, 1) := by decide +kernel
theorem dX12_count_81 : decode cX12_count 81 = .ok (.iconst (-1), 1) := by decide +kernel
theorem dX12_count_82 : decode cX12_count 82 = .ok (.ireturn, 1) := by decide +kernel
theorem dX12_let_0 : decode cX12_let 0 = .ok (.aload_n 0, 1) := by decide +kernel
theorem dX12_let_1 : decode cX12_let 1 = .ok (.iconst 0, 1) := by decide +kernel
theorem dX12_let_2 : decode cX12_let 2 = .ok (.putfield 1, 3) := by decide +kernel
theorem dX12_let_5 : decode cX12_let 5 = .ok (.iload_n 1, 1) := by decide +kernel
theorem dX12_let_6 : decode cX12_let 6 = .ok (.iconst 0, 1) := by decide +kernel
theorem dX12_let_7 : decode cX12_let 7 = .ok (.aload_n 0, 1) := by decide +kernel
theorem dX12_let_8 : decode cX12_let 8 = .ok (.getfield 206, 3) := by decide +kernel
theorem dX12_let_11 : decode cX12_let 11 = .ok (.iconst 1, 1) := by decide +kernel
theorem dX12_let_12 : decode cX12_let 12 = .ok (.isub, 1) := by decide +kernel
theorem dX12_let_13 : decode cX12_let 13 = .ok (.invokestatic 45, 3) := by decide +kernel
theorem dX12_let_16 : decode cX12_let 16 = .ok (.ifCond .ne 5, 3) := by decide +kernel
theorem dX12_let_19 : decode cX12_let 19 = .ok (.iconst (-1), 1) := by decide +kernel
theorem dX12_let_20 : decode cX12_let 20 = .ok (.ireturn, 1) := by decide +kernel
theorem dX12_let_21 : decode cX12_let 21 = .ok (.iload_n 2, 1) := by decide +kernel
theorem dX12_let_22 : decode cX12_let 22 = .ok (.tableswitch 62 0 2 #[26, 33, 43], 26) := by decide +kernel
theorem dX12_let_48 : decode cX12_let 48 = .ok (.aload_n 0, 1) := by decide +kernel
theorem dX12_let_49 : decode cX12_let 49 = .ok (.getfield 209, 3) := by decide +kernel
theorem dX12_let_52 : decode cX12_let 52 = .ok (.iload_n 1, 1) := by decide +kernel
theorem dX12_let_53 : decode cX12_let 53 = .ok (.iaload, 1) := by decide +kernel
theorem dX12_let_54 : decode cX12_let 54 = .ok (.ireturn, 1) := by decide +kernel
theorem dX12_let_55 : decode cX12_let 55 = .ok (.aload_n 0, 1) := by decide +kernel
theorem dX12_let_56 : decode cX12_let 56 = .ok (.getfield 209, 3) := by decide +kernel
theorem dX12_let_59 : decode cX12_let 59 = .ok (.iload_n 1, 1) := by decide +kernel
theorem dX12_let_60 : decode cX12_let 60 = .ok (.iaload, 1) := by decide +kernel
theorem dX12_let_61 : decode cX12_let 61 = .ok (.invokestatic 52, 3) := by decide +kernel
theorem dX12_let_64 : decode cX12_let 64 = .ok (.ireturn, 1) := by decide +kernel
theorem dX12_let_65 : decode cX12_let 65 = .ok (.aload_n 0, 1) := by decide +kernel
theorem dX12_let_66 : decode cX12_let 66 = .ok (.getfield 212, 3) := by decide +kernel
theorem dX12_let_69 : decode cX12_let 69 = .ok (.sipush 181, 3) := by decide +kernel
theorem dX12_let_72 : decode cX12_let 72 = .ok (.iload_n 1, 1) := by decide +kernel
theorem dX12_let_73 : decode cX12_let 73 = .ok (.imul, 1) := by decide +kernel
theorem dX12_let_74 : decode cX12_let 74 = .ok (.iaload, 1) := by decide +kernel
theorem dX12_let_75 : decode cX12_let 75 = .ok (.ifCond .ne 7, 3) := by decide +kernel
theorem dX12_let_78 : decode cX12_let 78 = .ok (.iconst 1, 1) := by decide +kernel
theorem dX12_let_79 : decode cX12_let 79 = .ok (.goto 4, 3) := by decide +kernel
theorem dX12_let_82 : decode cX12_let 82 = .ok (.iconst 0, 1) := by decide +kernel
theorem dX12_let_83 : decode cX12_let 83 = .ok (.ireturn, 1) := by decide +kernel
theorem dX12_let_84 : decode cX12_let 84 = .ok (.iconst (-1), 1) := by decide +kernel
theorem dX12_let_85 : decode cX12_let 85 = .ok (.ireturn, 1) := by decide +kernel
theorem dX12_isRegister_0 : decode cX12_isRegister 0 = .ok (.iload_n 1, 1) := by decide +kernel
theorem dX12_isRegister_1 : decode cX12_isRegister 1 = .ok (.iconst 0, 1) := by decide +kernel
theorem dX12_isRegister_2 : decode cX12_isRegister 2 = .ok (.iconst 3, 1) := by decide +kernel
theorem dX12_isRegister_3 : decode cX12_isRegister 3 = .ok (.invokestatic 45, 3) := by decide +kernel
theorem dX12_isRegister_6 : decode cX12_isRegister 6 = .ok (.ireturn, 1) := by decide +kernel
theorem dX12_coefficient_0 : decode cX12_coefficient 0 = .ok (.aload_n 0, 1) := by decide +kernel
theorem dX12_coefficient_1 : decode cX12_coefficient 1 = .ok (.iconst 0, 1) := by decide +kernel
theorem dX12_coefficient_2 : decode cX12_coefficient 2 = .ok (.putfield 1, 3) := by decide +kernel
theorem dX12_coefficient_5 : decode cX12_coefficient 5 = .ok (.aload_n 0, 1) := by decide +kernel
theorem dX12_coefficient_6 : decode cX12_coefficient 6 = .ok (.iload_n 1, 1) := by decide +kernel
theorem dX12_coefficient_7 : decode cX12_coefficient 7 = .ok (.invokevirtual 269, 3) := by decide +kernel
theorem dX12_coefficient_10 : decode cX12_coefficient 10 = .ok (.ifCond .eq 29, 3) := by decide +kernel
theorem dX12_coefficient_13 : decode cX12_coefficient 13 = .ok (.iload_n 2, 1) := by decide +kernel
theorem dX12_coefficient_14 : decode cX12_coefficient 14 = .ok (.iconst 0, 1) := by decide +kernel
theorem dX12_coefficient_15 : decode cX12_coefficient 15 = .ok (.sipush 180, 3) := by decide +kernel
theorem dX12_coefficient_18 : decode cX12_coefficient 18 = .ok (.invokestatic 45, 3) := by decide +kernel
theorem dX12_coefficient_21 : decode cX12_coefficient 21 = .ok (.ifCond .eq 18, 3) := by decide +kernel
theorem dX12_coefficient_24 : decode cX12_coefficient 24 = .ok (.aload_n 0, 1) := by decide +kernel
theorem dX12_coefficient_25 : decode cX12_coefficient 25 = .ok (.getfield 218, 3) := by decide +kernel
theorem dX12_coefficient_28 : decode cX12_coefficient 28 = .ok (.sipush 181, 3) := by decide +kernel
theorem dX12_coefficient_31 : decode cX12_coefficient 31 = .ok (.iload_n 1, 1) := by decide +kernel
theorem dX12_coefficient_32 : decode cX12_coefficient 32 = .ok (.imul, 1) := by decide +kernel
theorem dX12_coefficient_33 : decode cX12_coefficient 33 = .ok (.iload_n 2, 1) := by decide +kernel
theorem dX12_coefficient_34 : decode cX12_coefficient 34 = .ok (.iadd, 1) := by decide +kernel
theorem dX12_coefficient_35 : decode cX12_coefficient 35 = .ok (.iaload, 1) := by decide +kernel
theorem dX12_coefficient_36 : decode cX12_coefficient 36 = .ok (.goto 4, 3) := by decide +kernel
theorem dX12_coefficient_39 : decode cX12_coefficient 39 = .ok (.iconst (-1), 1) := by decide +kernel
theorem dX12_coefficient_40 : decode cX12_coefficient 40 = .ok (.ireturn, 1) := by decide +kernel
theorem dX12_weight_0 : decode cX12_weight 0 = .ok (.aload_n 0, 1) := by decide +kernel
theorem dX12_weight_1 : decode cX12_weight 1 = .ok (.iconst 0, 1) := by decide +kernel
theorem dX12_weight_2 : decode cX12_weight 2 = .ok (.putfield 1, 3) := by decide +kernel
theorem dX12_weight_5 : decode cX12_weight 5 = .ok (.aload_n 0, 1) := by decide +kernel
theorem dX12_weight_6 : decode cX12_weight 6 = .ok (.iload_n 1, 1) := by decide +kernel
theorem dX12_weight_7 : decode cX12_weight 7 = .ok (.invokevirtual 269, 3) := by decide +kernel
theorem dX12_weight_10 : decode cX12_weight 10 = .ok (.ifCond .eq 12, 3) := by decide +kernel
theorem dX12_weight_13 : decode cX12_weight 13 = .ok (.aload_n 0, 1) := by decide +kernel
theorem dX12_weight_14 : decode cX12_weight 14 = .ok (.getfield 215, 3) := by decide +kernel
theorem dX12_weight_17 : decode cX12_weight 17 = .ok (.iload_n 1, 1) := by decide +kernel
theorem dX12_weight_18 : decode cX12_weight 18 = .ok (.iaload, 1) := by decide +kernel
theorem dX12_weight_19 : decode cX12_weight 19 = .ok (.goto 4, 3) := by decide +kernel
theorem dX12_weight_22 : decode cX12_weight 22 = .ok (.iconst (-1), 1) := by decide +kernel
theorem dX12_weight_23 : decode cX12_weight 23 = .ok (.ireturn, 1) := by decide +kernel
theorem dX12_makes_0 : decode cX12_makes 0 = .ok (.aload_n 0, 1) := by decide +kernel
theorem dX12_makes_1 : decode cX12_makes 1 = .ok (.iconst 0, 1) := by decide +kernel
theorem dX12_makes_2 : decode cX12_makes 2 = .ok (.putfield 1, 3) := by decide +kernel
theorem dX12_makes_5 : decode cX12_makes 5 = .ok (.iload_n 1, 1) := by decide +kernel
theorem dX12_makes_6 : decode cX12_makes 6 = .ok (.invokestatic 272, 3) := by decide +kernel
theorem dX12_makes_9 : decode cX12_makes 9 = .ok (.ifCond .eq 21, 3) := by decide +kernel
theorem dX12_makes_12 : decode cX12_makes 12 = .ok (.iload_n 2, 1) := by decide +kernel
theorem dX12_makes_13 : decode cX12_makes 13 = .ok (.ifCond .eq 10, 3) := by decide +kernel
theorem dX12_makes_16 : decode cX12_makes 16 = .ok (.iload_n 1, 1) := by decide +kernel
theorem dX12_makes_17 : decode cX12_makes 17 = .ok (.invokestatic 275, 3) := by decide +kernel
theorem dX12_makes_20 : decode cX12_makes 20 = .ok (.goto 11, 3) := by decide +kernel
theorem dX12_makes_23 : decode cX12_makes 23 = .ok (.iload_n 1, 1) := by decide +kernel
theorem dX12_makes_24 : decode cX12_makes 24 = .ok (.invokestatic 52, 3) := by decide +kernel
theorem dX12_makes_27 : decode cX12_makes 27 = .ok (.goto 4, 3) := by decide +kernel
theorem dX12_makes_30 : decode cX12_makes 30 = .ok (.iconst (-1), 1) := by decide +kernel
theorem dX12_makes_31 : decode cX12_makes 31 = .ok (.ireturn, 1) := by decide +kernel
theorem dX12_cuspsOf_0 : decode cX12_cuspsOf 0 = .ok (.iload_n 0, 1) := by decide +kernel
theorem dX12_cuspsOf_1 : decode cX12_cuspsOf 1 = .ok (.invokestatic 52, 3) := by decide +kernel
theorem dX12_cuspsOf_4 : decode cX12_cuspsOf 4 = .ok (.ifCond .ne 7, 3) := by decide +kernel
theorem dX12_cuspsOf_7 : decode cX12_cuspsOf 7 = .ok (.iconst 0, 1) := by decide +kernel
theorem dX12_cuspsOf_8 : decode cX12_cuspsOf 8 = .ok (.goto 9, 3) := by decide +kernel
theorem dX12_cuspsOf_11 : decode cX12_cuspsOf 11 = .ok (.iload_n 0, 1) := by decide +kernel
theorem dX12_cuspsOf_12 : decode cX12_cuspsOf 12 = .ok (.invokestatic 52, 3) := by decide +kernel
theorem dX12_cuspsOf_15 : decode cX12_cuspsOf 15 = .ok (.iconst 1, 1) := by decide +kernel
theorem dX12_cuspsOf_16 : decode cX12_cuspsOf 16 = .ok (.isub, 1) := by decide +kernel
theorem dX12_cuspsOf_17 : decode cX12_cuspsOf 17 = .ok (.ireturn, 1) := by decide +kernel
theorem dX12_divisor_0 : decode cX12_divisor 0 = .ok (.iload_n 0, 1) := by decide +kernel
theorem dX12_divisor_1 : decode cX12_divisor 1 = .ok (.ifCond .ge 8, 3) := by decide +kernel
theorem dX12_divisor_4 : decode cX12_divisor 4 = .ok (.iload_n 0, 1) := by decide +kernel
theorem dX12_divisor_5 : decode cX12_divisor 5 = .ok (.ineg, 1) := by decide +kernel
theorem dX12_divisor_6 : decode cX12_divisor 6 = .ok (.goto 4, 3) := by decide +kernel
theorem dX12_divisor_9 : decode cX12_divisor 9 = .ok (.iload_n 0, 1) := by decide +kernel
theorem dX12_divisor_10 : decode cX12_divisor 10 = .ok (.istore_n 2, 1) := by decide +kernel
theorem dX12_divisor_11 : decode cX12_divisor 11 = .ok (.iload_n 1, 1) := by decide +kernel
theorem dX12_divisor_12 : decode cX12_divisor 12 = .ok (.ifCond .ge 8, 3) := by decide +kernel
theorem dX12_divisor_15 : decode cX12_divisor 15 = .ok (.iload_n 1, 1) := by decide +kernel
theorem dX12_divisor_16 : decode cX12_divisor 16 = .ok (.ineg, 1) := by decide +kernel
theorem dX12_divisor_17 : decode cX12_divisor 17 = .ok (.goto 4, 3) := by decide +kernel
theorem dX12_divisor_20 : decode cX12_divisor 20 = .ok (.iload_n 1, 1) := by decide +kernel
theorem dX12_divisor_21 : decode cX12_divisor 21 = .ok (.istore_n 3, 1) := by decide +kernel
theorem dX12_divisor_22 : decode cX12_divisor 22 = .ok (.iload_n 3, 1) := by decide +kernel
theorem dX12_divisor_23 : decode cX12_divisor 23 = .ok (.ifCond .eq 16, 3) := by decide +kernel
theorem dX12_divisor_26 : decode cX12_divisor 26 = .ok (.iload_n 2, 1) := by decide +kernel
theorem dX12_divisor_27 : decode cX12_divisor 27 = .ok (.iload_n 3, 1) := by decide +kernel
theorem dX12_divisor_28 : decode cX12_divisor 28 = .ok (.irem, 1) := by decide +kernel
theorem dX12_divisor_29 : decode cX12_divisor 29 = .ok (.istore 4, 2) := by decide +kernel
theorem dX12_divisor_31 : decode cX12_divisor 31 = .ok (.iload_n 3, 1) := by decide +kernel
theorem dX12_divisor_32 : decode cX12_divisor 32 = .ok (.istore_n 2, 1) := by decide +kernel
theorem dX12_divisor_33 : decode cX12_divisor 33 = .ok (.iload 4, 2) := by decide +kernel
theorem dX12_divisor_35 : decode cX12_divisor 35 = .ok (.istore_n 3, 1) := by decide +kernel
theorem dX12_divisor_36 : decode cX12_divisor 36 = .ok (.goto (-14), 3) := by decide +kernel
theorem dX12_divisor_39 : decode cX12_divisor 39 = .ok (.iload_n 2, 1) := by decide +kernel
theorem dX12_divisor_40 : decode cX12_divisor 40 = .ok (.ireturn, 1) := by decide +kernel
theorem dX12_isDisc_0 : decode cX12_isDisc 0 = .ok (.iload_n 0, 1) := by decide +kernel
theorem dX12_isDisc_1 : decode cX12_isDisc 1 = .ok (.iconst 1, 1) := by decide +kernel
theorem dX12_isDisc_2 : decode cX12_isDisc 2 = .ok (.sipush 2000, 3) := by decide +kernel
theorem dX12_isDisc_5 : decode cX12_isDisc 5 = .ok (.invokestatic 45, 3) := by decide +kernel
theorem dX12_isDisc_8 : decode cX12_isDisc 8 = .ok (.ifCond .eq 20, 3) := by decide +kernel
theorem dX12_isDisc_11 : decode cX12_isDisc 11 = .ok (.iload_n 0, 1) := by decide +kernel
theorem dX12_isDisc_12 : decode cX12_isDisc 12 = .ok (.iconst 4, 1) := by decide +kernel
theorem dX12_isDisc_13 : decode cX12_isDisc 13 = .ok (.irem, 1) := by decide +kernel
theorem dX12_isDisc_14 : decode cX12_isDisc 14 = .ok (.ifCond .eq 10, 3) := by decide +kernel
theorem dX12_isDisc_17 : decode cX12_isDisc 17 = .ok (.iload_n 0, 1) := by decide +kernel
theorem dX12_isDisc_18 : decode cX12_isDisc 18 = .ok (.iconst 4, 1) := by decide +kernel
theorem dX12_isDisc_19 : decode cX12_isDisc 19 = .ok (.irem, 1) := by decide +kernel
theorem dX12_isDisc_20 : decode cX12_isDisc 20 = .ok (.iconst 3, 1) := by decide +kernel
theorem dX12_isDisc_21 : decode cX12_isDisc 21 = .ok (.if_icmp .ne 7, 3) := by decide +kernel
theorem dX12_isDisc_24 : decode cX12_isDisc 24 = .ok (.iconst 1, 1) := by decide +kernel
theorem dX12_isDisc_25 : decode cX12_isDisc 25 = .ok (.goto 4, 3) := by decide +kernel
theorem dX12_isDisc_28 : decode cX12_isDisc 28 = .ok (.iconst 0, 1) := by decide +kernel
theorem dX12_isDisc_29 : decode cX12_isDisc 29 = .ok (.ireturn, 1) := by decide +kernel
theorem dX12_counts_0 : decode cX12_counts 0 = .ok (.iconst 0, 1) := by decide +kernel
theorem dX12_counts_1 : decode cX12_counts 1 = .ok (.istore_n 2, 1) := by decide +kernel
theorem dX12_counts_2 : decode cX12_counts 2 = .ok (.iconst 1, 1) := by decide +kernel
theorem dX12_counts_3 : decode cX12_counts 3 = .ok (.istore_n 3, 1) := by decide +kernel
theorem dX12_counts_4 : decode cX12_counts 4 = .ok (.iconst 3, 1) := by decide +kernel
theorem dX12_counts_5 : decode cX12_counts 5 = .ok (.iload_n 3, 1) := by decide +kernel
theorem dX12_counts_6 : decode cX12_counts 6 = .ok (.imul, 1) := by decide +kernel
theorem dX12_counts_7 : decode cX12_counts 7 = .ok (.iload_n 3, 1) := by decide +kernel
theorem dX12_counts_8 : decode cX12_counts 8 = .ok (.imul, 1) := by decide +kernel
theorem dX12_counts_9 : decode cX12_counts 9 = .ok (.iload_n 0, 1) := by decide +kernel
theorem dX12_counts_10 : decode cX12_counts 10 = .ok (.if_icmp .gt 149, 3) := by decide +kernel
theorem dX12_counts_13 : decode cX12_counts 13 = .ok (.iconst 1, 1) := by decide +kernel
theorem dX12_counts_14 : decode cX12_counts 14 = .ok (.iload_n 3, 1) := by decide +kernel
theorem dX12_counts_15 : decode cX12_counts 15 = .ok (.isub, 1) := by decide +kernel
theorem dX12_counts_16 : decode cX12_counts 16 = .ok (.istore 4, 2) := by decide +kernel
theorem dX12_counts_18 : decode cX12_counts 18 = .ok (.iload 4, 2) := by decide +kernel
theorem dX12_counts_20 : decode cX12_counts 20 = .ok (.iload_n 3, 1) := by decide +kernel
theorem dX12_counts_21 : decode cX12_counts 21 = .ok (.if_icmp .gt 132, 3) := by decide +kernel
theorem dX12_counts_24 : decode cX12_counts 24 = .ok (.iload_n 0, 1) := by decide +kernel
theorem dX12_counts_25 : decode cX12_counts 25 = .ok (.iload 4, 2) := by decide +kernel
theorem dX12_counts_27 : decode cX12_counts 27 = .ok (.iload 4, 2) := by decide +kernel
theorem dX12_counts_29 : decode cX12_counts 29 = .ok (.imul, 1) := by decide +kernel
theorem dX12_counts_30 : decode cX12_counts 30 = .ok (.iadd, 1) := by decide +kernel
theorem dX12_counts_31 : decode cX12_counts 31 = .ok (.iconst 4, 1) := by decide +kernel
theorem dX12_counts_32 : decode cX12_counts 32 = .ok (.iload_n 3, 1) := by decide +kernel
theorem dX12_counts_33 : decode cX12_counts 33 = .ok (.imul, 1) := by decide +kernel
theorem dX12_counts_34 : decode cX12_counts 34 = .ok (.idiv, 1) := by decide +kernel
theorem dX12_counts_35 : decode cX12_counts 35 = .ok (.istore 5, 2) := by decide +kernel
theorem dX12_counts_37 : decode cX12_counts 37 = .ok (.iload_n 0, 1) := by decide +kernel
theorem dX12_counts_38 : decode cX12_counts 38 = .ok (.iload 4, 2) := by decide +kernel
theorem dX12_counts_40 : decode cX12_counts 40 = .ok (.iload 4, 2) := by decide +kernel
theorem dX12_counts_42 : decode cX12_counts 42 = .ok (.imul, 1) := by decide +kernel
theorem dX12_counts_43 : decode cX12_counts 43 = .ok (.iadd, 1) := by decide +kernel
theorem dX12_counts_44 : decode cX12_counts 44 = .ok (.iconst 4, 1) := by decide +kernel
theorem dX12_counts_45 : decode cX12_counts 45 = .ok (.iload_n 3, 1) := by decide +kernel
theorem dX12_counts_46 : decode cX12_counts 46 = .ok (.imul, 1) := by decide +kernel
theorem dX12_counts_47 : decode cX12_counts 47 = .ok (.irem, 1) := by decide +kernel
theorem dX12_counts_48 : decode cX12_counts 48 = .ok (.ifCond .ne 24, 3) := by decide +kernel
theorem dX12_counts_51 : decode cX12_counts 51 = .ok (.iload 5, 2) := by decide +kernel
theorem dX12_counts_53 : decode cX12_counts 53 = .ok (.iload_n 3, 1) := by decide +kernel
theorem dX12_counts_54 : decode cX12_counts 54 = .ok (.if_icmp .lt 18, 3) := by decide +kernel
theorem dX12_counts_57 : decode cX12_counts 57 = .ok (.iload 5, 2) := by decide +kernel
theorem dX12_counts_59 : decode cX12_counts 59 = .ok (.iload_n 3, 1) := by decide +kernel
theorem dX12_counts_60 : decode cX12_counts 60 = .ok (.if_icmp .gt 8, 3) := by decide +kernel
theorem dX12_counts_63 : decode cX12_counts 63 = .ok (.iload 4, 2) := by decide +kernel
theorem dX12_counts_65 : decode cX12_counts 65 = .ok (.ifCond .lt 7, 3) := by decide +kernel
theorem dX12_counts_68 : decode cX12_counts 68 = .ok (.iconst 1, 1) := by decide +kernel
theorem dX12_counts_69 : decode cX12_counts 69 = .ok (.goto 4, 3) := by decide +kernel
theorem dX12_counts_72 : decode cX12_counts 72 = .ok (.iconst 0, 1) := by decide +kernel
theorem dX12_counts_73 : decode cX12_counts 73 = .ok (.istore 6, 2) := by decide +kernel
theorem dX12_counts_75 : decode cX12_counts 75 = .ok (.iload 6, 2) := by decide +kernel
theorem dX12_counts_77 : decode cX12_counts 77 = .ok (.ifCond .eq 47, 3) := by decide +kernel
theorem dX12_counts_80 : decode cX12_counts 80 = .ok (.iload_n 1, 1) := by decide +kernel
theorem dX12_counts_81 : decode cX12_counts 81 = .ok (.ifCond .eq 43, 3) := by decide +kernel
theorem dX12_counts_84 : decode cX12_counts 84 = .ok (.iload_n 2, 1) := by decide +kernel
theorem dX12_counts_85 : decode cX12_counts 85 = .ok (.iload_n 3, 1) := by decide +kernel
theorem dX12_counts_86 : decode cX12_counts 86 = .ok (.iload 5, 2) := by decide +kernel
theorem dX12_counts_88 : decode cX12_counts 88 = .ok (.if_icmp .ne 13, 3) := by decide +kernel
theorem dX12_counts_91 : decode cX12_counts 91 = .ok (.iload 4, 2) := by decide +kernel
theorem dX12_counts_93 : decode cX12_counts 93 = .ok (.ifCond .ne 8, 3) := by decide +kernel
theorem dX12_counts_96 : decode cX12_counts 96 = .ok (.bipush 6, 2) := by decide +kernel
theorem dX12_counts_98 : decode cX12_counts 98 = .ok (.goto 21, 3) := by decide +kernel
theorem dX12_counts_101 : decode cX12_counts 101 = .ok (.iload_n 3, 1) := by decide +kernel
theorem dX12_counts_102 : decode cX12_counts 102 = .ok (.iload 4, 2) := by decide +kernel
theorem dX12_counts_104 : decode cX12_counts 104 = .ok (.if_icmp .ne 13, 3) := by decide +kernel
theorem dX12_counts_107 : decode cX12_counts 107 = .ok (.iload_n 3, 1) := by decide +kernel
theorem dX12_counts_108 : decode cX12_counts 108 = .ok (.iload 5, 2) := by decide +kernel
theorem dX12_counts_110 : decode cX12_counts 110 = .ok (.if_icmp .ne 7, 3) := by decide +kernel
theorem dX12_counts_113 : decode cX12_counts 113 = .ok (.iconst 4, 1) := by decide +kernel
theorem dX12_counts_114 : decode cX12_counts 114 = .ok (.goto 5, 3) := by decide +kernel
theorem dX12_counts_117 : decode cX12_counts 117 = .ok (.bipush 12, 2) := by decide +kernel
theorem dX12_counts_119 : decode cX12_counts 119 = .ok (.iadd, 1) := by decide +kernel
theorem dX12_counts_120 : decode cX12_counts 120 = .ok (.istore_n 2, 1) := by decide +kernel
theorem dX12_counts_121 : decode cX12_counts 121 = .ok (.goto 26, 3) := by decide +kernel
theorem dX12_counts_124 : decode cX12_counts 124 = .ok (.iload 6, 2) := by decide +kernel
theorem dX12_counts_126 : decode cX12_counts 126 = .ok (.ifCond .eq 21, 3) := by decide +kernel
theorem dX12_counts_129 : decode cX12_counts 129 = .ok (.iload_n 3, 1) := by decide +kernel
theorem dX12_counts_130 : decode cX12_counts 130 = .ok (.iload 4, 2) := by decide +kernel
theorem dX12_counts_132 : decode cX12_counts 132 = .ok (.invokestatic 278, 3) := by decide +kernel
theorem dX12_counts_135 : decode cX12_counts 135 = .ok (.iload 5, 2) := by decide +kernel
theorem dX12_counts_137 : decode cX12_counts 137 = .ok (.invokestatic 278, 3) := by decide +kernel
theorem dX12_counts_140 : decode cX12_counts 140 = .ok (.iconst 1, 1) := by decide +kernel
theorem dX12_counts_141 : decode cX12_counts 141 = .ok (.if_icmp .ne 6, 3) := by decide +kernel
theorem dX12_counts_144 : decode cX12_counts 144 = .ok (.iinc 2 1, 3) := by decide +kernel
theorem dX12_counts_147 : decode cX12_counts 147 = .ok (.iinc 4 1, 3) := by decide +kernel
theorem dX12_counts_150 : decode cX12_counts 150 = .ok (.goto (-132), 3) := by decide +kernel
theorem dX12_counts_153 : decode cX12_counts 153 = .ok (.iinc 3 1, 3) := by decide +kernel
theorem dX12_counts_156 : decode cX12_counts 156 = .ok (.goto (-152), 3) := by decide +kernel
theorem dX12_counts_159 : decode cX12_counts 159 = .ok (.iload_n 2, 1) := by decide +kernel
theorem dX12_counts_160 : decode cX12_counts 160 = .ok (.ireturn, 1) := by decide +kernel
theorem dX12_wholeOf_0 : decode cX12_wholeOf 0 = .ok (.iload_n 0, 1) := by decide +kernel
theorem dX12_wholeOf_1 : decode cX12_wholeOf 1 = .ok (.ifCond .ne 7, 3) := by decide +kernel
theorem dX12_wholeOf_4 : decode cX12_wholeOf 4 = .ok (.iconst (-1), 1) := by decide +kernel
theorem dX12_wholeOf_5 : decode cX12_wholeOf 5 = .ok (.goto 19, 3) := by decide +kernel
theorem dX12_wholeOf_8 : decode cX12_wholeOf 8 = .ok (.iload_n 0, 1) := by decide +kernel
theorem dX12_wholeOf_9 : decode cX12_wholeOf 9 = .ok (.invokestatic 281, 3) := by decide +kernel
theorem dX12_wholeOf_12 : decode cX12_wholeOf 12 = .ok (.ifCond .eq 11, 3) := by decide +kernel
theorem dX12_wholeOf_15 : decode cX12_wholeOf 15 = .ok (.iload_n 0, 1) := by decide +kernel
theorem dX12_wholeOf_16 : decode cX12_wholeOf 16 = .ok (.iconst 1, 1) := by decide +kernel
theorem dX12_wholeOf_17 : decode cX12_wholeOf 17 = .ok (.invokestatic 284, 3) := by decide +kernel
theorem dX12_wholeOf_20 : decode cX12_wholeOf 20 = .ok (.goto 4, 3) := by decide +kernel
theorem dX12_wholeOf_23 : decode cX12_wholeOf 23 = .ok (.iconst 0, 1) := by decide +kernel
theorem dX12_wholeOf_24 : decode cX12_wholeOf 24 = .ok (.ireturn, 1) := by decide +kernel
theorem dX12_whole_0 : decode cX12_whole 0 = .ok (.aload_n 0, 1) := by decide +kernel
theorem dX12_whole_1 : decode cX12_whole 1 = .ok (.iload_n 1, 1) := by decide +kernel
theorem dX12_whole_2 : decode cX12_whole 2 = .ok (.sipush 2000, 3) := by decide +kernel
theorem dX12_whole_5 : decode cX12_whole 5 = .ok (.if_icmp .le 7, 3) := by decide +kernel
theorem dX12_whole_8 : decode cX12_whole 8 = .ok (.iconst 1, 1) := by decide +kernel
theorem dX12_whole_9 : decode cX12_whole 9 = .ok (.goto 4, 3) := by decide +kernel
theorem dX12_whole_12 : decode cX12_whole 12 = .ok (.iconst 0, 1) := by decide +kernel
theorem dX12_whole_13 : decode cX12_whole 13 = .ok (.putfield 1, 3) := by decide +kernel
theorem dX12_whole_16 : decode cX12_whole 16 = .ok (.aload_n 0, 1) := by decide +kernel
theorem dX12_whole_17 : decode cX12_whole 17 = .ok (.getfield 1, 3) := by decide +kernel
theorem dX12_whole_20 : decode cX12_whole 20 = .ok (.ifCond .le 7, 3) := by decide +kernel
theorem dX12_whole_23 : decode cX12_whole 23 = .ok (.iconst 0, 1) := by decide +kernel
theorem dX12_whole_24 : decode cX12_whole 24 = .ok (.goto 7, 3) := by decide +kernel
theorem dX12_whole_27 : decode cX12_whole 27 = .ok (.iload_n 1, 1) := by decide +kernel
theorem dX12_whole_28 : decode cX12_whole 28 = .ok (.invokestatic 288, 3) := by decide +kernel
theorem dX12_whole_31 : decode cX12_whole 31 = .ok (.ireturn, 1) := by decide +kernel
theorem dX12_small_0 : decode cX12_small 0 = .ok (.aload_n 0, 1) := by decide +kernel
theorem dX12_small_1 : decode cX12_small 1 = .ok (.iconst 0, 1) := by decide +kernel
theorem dX12_small_2 : decode cX12_small 2 = .ok (.putfield 1, 3) := by decide +kernel
theorem dX12_small_5 : decode cX12_small 5 = .ok (.iload_n 1, 1) := by decide +kernel
theorem dX12_small_6 : decode cX12_small 6 = .ok (.invokestatic 281, 3) := by decide +kernel
theorem dX12_small_9 : decode cX12_small 9 = .ok (.ifCond .eq 11, 3) := by decide +kernel
theorem dX12_small_12 : decode cX12_small 12 = .ok (.iload_n 1, 1) := by decide +kernel
theorem dX12_small_13 : decode cX12_small 13 = .ok (.iconst 0, 1) := by decide +kernel
theorem dX12_small_14 : decode cX12_small 14 = .ok (.invokestatic 284, 3) := by decide +kernel
theorem dX12_small_17 : decode cX12_small 17 = .ok (.goto 4, 3) := by decide +kernel
theorem dX12_small_20 : decode cX12_small 20 = .ok (.iconst 0, 1) := by decide +kernel
theorem dX12_small_21 : decode cX12_small 21 = .ok (.ireturn, 1) := by decide +kernel
theorem dX12_times_0 : decode cX12_times 0 = .ok (.lload_n 1, 1) := by decide +kernel
theorem dX12_times_1 : decode cX12_times 1 = .ok (.lload_n 3, 1) := by decide +kernel
theorem dX12_times_2 : decode cX12_times 2 = .ok (.lmul, 1) := by decide +kernel
theorem dX12_times_3 : decode cX12_times 3 = .ok (.lstore 5, 2) := by decide +kernel
theorem dX12_times_5 : decode cX12_times 5 = .ok (.lload_n 1, 1) := by decide +kernel
theorem dX12_times_6 : decode cX12_times 6 = .ok (.lconst 0, 1) := by decide +kernel
theorem dX12_times_7 : decode cX12_times 7 = .ok (.lcmp, 1) := by decide +kernel
theorem dX12_times_8 : decode cX12_times 8 = .ok (.ifCond .ne 7, 3) := by decide +kernel
theorem dX12_times_11 : decode cX12_times 11 = .ok (.lconst 0, 1) := by decide +kernel
theorem dX12_times_12 : decode cX12_times 12 = .ok (.goto 19, 3) := by decide +kernel
theorem dX12_times_15 : decode cX12_times 15 = .ok (.ldc2_w 291, 3) := by decide +kernel
theorem dX12_times_18 : decode cX12_times 18 = .ok (.lload_n 1, 1) := by decide +kernel
theorem dX12_times_19 : decode cX12_times 19 = .ok (.lconst 0, 1) := by decide +kernel
theorem dX12_times_20 : decode cX12_times 20 = .ok (.lcmp, 1) := by decide +kernel
theorem dX12_times_21 : decode cX12_times 21 = .ok (.ifCond .ge 8, 3) := by decide +kernel
theorem dX12_times_24 : decode cX12_times 24 = .ok (.lload_n 1, 1) := by decide +kernel
theorem dX12_times_25 : decode cX12_times 25 = .ok (.lneg, 1) := by decide +kernel
theorem dX12_times_26 : decode cX12_times 26 = .ok (.goto 4, 3) := by decide +kernel
theorem dX12_times_29 : decode cX12_times 29 = .ok (.lload_n 1, 1) := by decide +kernel
theorem dX12_times_30 : decode cX12_times 30 = .ok (.ldiv, 1) := by decide +kernel
theorem dX12_times_31 : decode cX12_times 31 = .ok (.lstore 7, 2) := by decide +kernel
theorem dX12_times_33 : decode cX12_times 33 = .ok (.aload_n 0, 1) := by decide +kernel
theorem dX12_times_34 : decode cX12_times 34 = .ok (.aload_n 0, 1) := by decide +kernel
theorem dX12_times_35 : decode cX12_times 35 = .ok (.getfield 293, 3) := by decide +kernel
theorem dX12_times_38 : decode cX12_times 38 = .ok (.ifCond .ne 24, 3) := by decide +kernel
theorem dX12_times_41 : decode cX12_times 41 = .ok (.lload_n 1, 1) := by decide +kernel
theorem dX12_times_42 : decode cX12_times 42 = .ok (.lconst 0, 1) := by decide +kernel
theorem dX12_times_43 : decode cX12_times 43 = .ok (.lcmp, 1) := by decide +kernel
theorem dX12_times_44 : decode cX12_times 44 = .ok (.ifCond .eq 22, 3) := by decide +kernel
theorem dX12_times_47 : decode cX12_times 47 = .ok (.lload_n 3, 1) := by decide +kernel
theorem dX12_times_48 : decode cX12_times 48 = .ok (.lload 7, 2) := by decide +kernel
theorem dX12_times_50 : decode cX12_times 50 = .ok (.lcmp, 1) := by decide +kernel
theorem dX12_times_51 : decode cX12_times 51 = .ok (.ifCond .gt 11, 3) := by decide +kernel
theorem dX12_times_54 : decode cX12_times 54 = .ok (.lload_n 3, 1) := by decide +kernel
theorem dX12_times_55 : decode cX12_times 55 = .ok (.lload 7, 2) := by decide +kernel
theorem dX12_times_57 : decode cX12_times 57 = .ok (.lneg, 1) := by decide +kernel
theorem dX12_times_58 : decode cX12_times 58 = .ok (.lcmp, 1) := by decide +kernel
theorem dX12_times_59 : decode cX12_times 59 = .ok (.ifCond .ge 7, 3) := by decide +kernel
theorem dX12_times_62 : decode cX12_times 62 = .ok (.iconst 1, 1) := by decide +kernel
theorem dX12_times_63 : decode cX12_times 63 = .ok (.goto 4, 3) := by decide +kernel
theorem dX12_times_66 : decode cX12_times 66 = .ok (.iconst 0, 1) := by decide +kernel
theorem dX12_times_67 : decode cX12_times 67 = .ok (.putfield 293, 3) := by decide +kernel
theorem dX12_times_70 : decode cX12_times 70 = .ok (.lload 5, 2) := by decide +kernel
theorem dX12_times_72 : decode cX12_times 72 = .ok (.lreturn, 1) := by decide +kernel
theorem dX12_plus_0 : decode cX12_plus 0 = .ok (.lload_n 1, 1) := by decide +kernel
theorem dX12_plus_1 : decode cX12_plus 1 = .ok (.lload_n 3, 1) := by decide +kernel
theorem dX12_plus_2 : decode cX12_plus 2 = .ok (.ladd, 1) := by decide +kernel
theorem dX12_plus_3 : decode cX12_plus 3 = .ok (.lstore 5, 2) := by decide +kernel
theorem dX12_plus_5 : decode cX12_plus 5 = .ok (.aload_n 0, 1) := by decide +kernel
theorem dX12_plus_6 : decode cX12_plus 6 = .ok (.aload_n 0, 1) := by decide +kernel
theorem dX12_plus_7 : decode cX12_plus 7 = .ok (.getfield 293, 3) := by decide +kernel
theorem dX12_plus_10 : decode cX12_plus 10 = .ok (.ifCond .ne 21, 3) := by decide +kernel
theorem dX12_plus_13 : decode cX12_plus 13 = .ok (.lload 5, 2) := by decide +kernel
theorem dX12_plus_15 : decode cX12_plus 15 = .ok (.ldc2_w 291, 3) := by decide +kernel
theorem dX12_plus_18 : decode cX12_plus 18 = .ok (.lcmp, 1) := by decide +kernel
theorem dX12_plus_19 : decode cX12_plus 19 = .ok (.ifCond .gt 12, 3) := by decide +kernel
theorem dX12_plus_22 : decode cX12_plus 22 = .ok (.lload 5, 2) := by decide +kernel
theorem dX12_plus_24 : decode cX12_plus 24 = .ok (.ldc2_w 297, 3) := by decide +kernel
theorem dX12_plus_27 : decode cX12_plus 27 = .ok (.lcmp, 1) := by decide +kernel
theorem dX12_plus_28 : decode cX12_plus 28 = .ok (.ifCond .ge 7, 3) := by decide +kernel
theorem dX12_plus_31 : decode cX12_plus 31 = .ok (.iconst 1, 1) := by decide +kernel
theorem dX12_plus_32 : decode cX12_plus 32 = .ok (.goto 4, 3) := by decide +kernel
theorem dX12_plus_35 : decode cX12_plus 35 = .ok (.iconst 0, 1) := by decide +kernel
theorem dX12_plus_36 : decode cX12_plus 36 = .ok (.putfield 293, 3) := by decide +kernel
theorem dX12_plus_39 : decode cX12_plus 39 = .ok (.lload 5, 2) := by decide +kernel
theorem dX12_plus_41 : decode cX12_plus 41 = .ok (.lreturn, 1) := by decide +kernel
theorem dX12_traceOf_0 : decode cX12_traceOf 0 = .ok (.aload_n 0, 1) := by decide +kernel
theorem dX12_traceOf_1 : decode cX12_traceOf 1 = .ok (.iconst 0, 1) := by decide +kernel
theorem dX12_traceOf_2 : decode cX12_traceOf 2 = .ok (.putfield 293, 3) := by decide +kernel
theorem dX12_traceOf_5 : decode cX12_traceOf 5 = .ok (.lconst 0, 1) := by decide +kernel
theorem dX12_traceOf_6 : decode cX12_traceOf 6 = .ok (.lstore_n 3, 1) := by decide +kernel
theorem dX12_traceOf_7 : decode cX12_traceOf 7 = .ok (.iconst 0, 1) := by decide +kernel
theorem dX12_traceOf_8 : decode cX12_traceOf 8 = .ok (.istore 5, 2) := by decide +kernel
theorem dX12_traceOf_10 : decode cX12_traceOf 10 = .ok (.iload 5, 2) := by decide +kernel
theorem dX12_traceOf_12 : decode cX12_traceOf 12 = .ok (.iconst 1, 1) := by decide +kernel
theorem dX12_traceOf_13 : decode cX12_traceOf 13 = .ok (.iadd, 1) := by decide +kernel
theorem dX12_traceOf_14 : decode cX12_traceOf 14 = .ok (.iload 5, 2) := by decide +kernel
theorem dX12_traceOf_16 : decode cX12_traceOf 16 = .ok (.iconst 1, 1) := by decide +kernel
theorem dX12_traceOf_17 : decode cX12_traceOf 17 = .ok (.iadd, 1) := by decide +kernel
theorem dX12_traceOf_18 : decode cX12_traceOf 18 = .ok (.imul, 1) := by decide +kernel
theorem dX12_traceOf_19 : decode cX12_traceOf 19 = .ok (.iconst 4, 1) := by decide +kernel
theorem dX12_traceOf_20 : decode cX12_traceOf 20 = .ok (.iload_n 2, 1) := by decide +kernel
theorem dX12_traceOf_21 : decode cX12_traceOf 21 = .ok (.imul, 1) := by decide +kernel
theorem dX12_traceOf_22 : decode cX12_traceOf 22 = .ok (.if_icmp .gt 9, 3) := by decide +kernel
theorem dX12_traceOf_25 : decode cX12_traceOf 25 = .ok (.iinc 5 1, 3) := by decide +kernel
theorem dX12_traceOf_28 : decode cX12_traceOf 28 = .ok (.goto (-18), 3) := by decide +kernel
theorem dX12_traceOf_31 : decode cX12_traceOf 31 = .ok (.iload 5, 2) := by decide +kernel
theorem dX12_traceOf_33 : decode cX12_traceOf 33 = .ok (.ineg, 1) := by decide +kernel
theorem dX12_traceOf_34 : decode cX12_traceOf 34 = .ok (.istore 6, 2) := by decide +kernel
theorem dX12_traceOf_36 : decode cX12_traceOf 36 = .ok (.iload 6, 2) := by decide +kernel
theorem dX12_traceOf_38 : decode cX12_traceOf 38 = .ok (.iload 5, 2) := by decide +kernel
theorem dX12_traceOf_40 : decode cX12_traceOf 40 = .ok (.if_icmp .gt 114, 3) := by decide +kernel
theorem dX12_traceOf_43 : decode cX12_traceOf 43 = .ok (.aload_n 0, 1) := by decide +kernel
theorem dX12_traceOf_44 : decode cX12_traceOf 44 = .ok (.getfield 293, 3) := by decide +kernel
theorem dX12_traceOf_47 : decode cX12_traceOf 47 = .ok (.ifCond .ne 107, 3) := by decide +kernel
theorem dX12_traceOf_50 : decode cX12_traceOf 50 = .ok (.lconst 1, 1) := by decide +kernel
theorem dX12_traceOf_51 : decode cX12_traceOf 51 = .ok (.lstore 7, 2) := by decide +kernel
theorem dX12_traceOf_53 : decode cX12_traceOf 53 = .ok (.iload 6, 2) := by decide +kernel
theorem dX12_traceOf_55 : decode cX12_traceOf 55 = .ok (.i2l, 1) := by decide +kernel
theorem dX12_traceOf_56 : decode cX12_traceOf 56 = .ok (.lstore 9, 2) := by decide +kernel
theorem dX12_traceOf_58 : decode cX12_traceOf 58 = .ok (.iconst 4, 1) := by decide +kernel
theorem dX12_traceOf_59 : decode cX12_traceOf 59 = .ok (.istore 11, 2) := by decide +kernel
theorem dX12_traceOf_61 : decode cX12_traceOf 61 = .ok (.iload 11, 2) := by decide +kernel
theorem dX12_traceOf_63 : decode cX12_traceOf 63 = .ok (.iload_n 1, 1) := by decide +kernel
theorem dX12_traceOf_64 : decode cX12_traceOf 64 = .ok (.if_icmp .gt 48, 3) := by decide +kernel
theorem dX12_traceOf_67 : decode cX12_traceOf 67 = .ok (.aload_n 0, 1) := by decide +kernel
theorem dX12_traceOf_68 : decode cX12_traceOf 68 = .ok (.getfield 293, 3) := by decide +kernel
theorem dX12_traceOf_71 : decode cX12_traceOf 71 = .ok (.ifCond .ne 41, 3) := by decide +kernel
theorem dX12_traceOf_74 : decode cX12_traceOf 74 = .ok (.aload_n 0, 1) := by decide +kernel
theorem dX12_traceOf_75 : decode cX12_traceOf 75 = .ok (.aload_n 0, 1) := by decide +kernel
theorem dX12_traceOf_76 : decode cX12_traceOf 76 = .ok (.iload 6, 2) := by decide +kernel
theorem dX12_traceOf_78 : decode cX12_traceOf 78 = .ok (.i2l, 1) := by decide +kernel
theorem dX12_traceOf_79 : decode cX12_traceOf 79 = .ok (.lload 9, 2) := by decide +kernel
theorem dX12_traceOf_81 : decode cX12_traceOf 81 = .ok (.invokevirtual 299, 3) := by decide +kernel
theorem dX12_traceOf_84 : decode cX12_traceOf 84 = .ok (.aload_n 0, 1) := by decide +kernel
theorem dX12_traceOf_85 : decode cX12_traceOf 85 = .ok (.iload_n 2, 1) := by decide +kernel
theorem dX12_traceOf_86 : decode cX12_traceOf 86 = .ok (.i2l, 1) := by decide +kernel
theorem dX12_traceOf_87 : decode cX12_traceOf 87 = .ok (.lload 7, 2) := by decide +kernel
theorem dX12_traceOf_89 : decode cX12_traceOf 89 = .ok (.invokevirtual 299, 3) := by decide +kernel
theorem dX12_traceOf_92 : decode cX12_traceOf 92 = .ok (.lneg, 1) := by decide +kernel
theorem dX12_traceOf_93 : decode cX12_traceOf 93 = .ok (.invokevirtual 303, 3) := by decide +kernel
theorem dX12_traceOf_96 : decode cX12_traceOf 96 = .ok (.lstore 12, 2) := by decide +kernel
theorem dX12_traceOf_98 : decode cX12_traceOf 98 = .ok (.lload 9, 2) := by decide +kernel
theorem dX12_traceOf_100 : decode cX12_traceOf 100 = .ok (.lstore 7, 2) := by decide +kernel
theorem dX12_traceOf_102 : decode cX12_traceOf 102 = .ok (.lload 12, 2) := by decide +kernel
theorem dX12_traceOf_104 : decode cX12_traceOf 104 = .ok (.lstore 9, 2) := by decide +kernel
theorem dX12_traceOf_106 : decode cX12_traceOf 106 = .ok (.iinc 11 1, 3) := by decide +kernel
theorem dX12_traceOf_109 : decode cX12_traceOf 109 = .ok (.goto (-48), 3) := by decide +kernel
theorem dX12_traceOf_112 : decode cX12_traceOf 112 = .ok (.aload_n 0, 1) := by decide +kernel
theorem dX12_traceOf_113 : decode cX12_traceOf 113 = .ok (.getfield 293, 3) := by decide +kernel
theorem dX12_traceOf_116 : decode cX12_traceOf 116 = .ok (.ifCond .eq 7, 3) := by decide +kernel
theorem dX12_traceOf_119 : decode cX12_traceOf 119 = .ok (.lload_n 3, 1) := by decide +kernel
theorem dX12_traceOf_120 : decode cX12_traceOf 120 = .ok (.goto 27, 3) := by decide +kernel
theorem dX12_traceOf_123 : decode cX12_traceOf 123 = .ok (.aload_n 0, 1) := by decide +kernel
theorem dX12_traceOf_124 : decode cX12_traceOf 124 = .ok (.lload_n 3, 1) := by decide +kernel
theorem dX12_traceOf_125 : decode cX12_traceOf 125 = .ok (.aload_n 0, 1) := by decide +kernel
theorem dX12_traceOf_126 : decode cX12_traceOf 126 = .ok (.lload 9, 2) := by decide +kernel
theorem dX12_traceOf_128 : decode cX12_traceOf 128 = .ok (.iconst 4, 1) := by decide +kernel
theorem dX12_traceOf_129 : decode cX12_traceOf 129 = .ok (.iload_n 2, 1) := by decide +kernel
theorem dX12_traceOf_130 : decode cX12_traceOf 130 = .ok (.imul, 1) := by decide +kernel
theorem dX12_traceOf_131 : decode cX12_traceOf 131 = .ok (.iload 6, 2) := by decide +kernel
theorem dX12_traceOf_133 : decode cX12_traceOf 133 = .ok (.iload 6, 2) := by decide +kernel
theorem dX12_traceOf_135 : decode cX12_traceOf 135 = .ok (.imul, 1) := by decide +kernel
theorem dX12_traceOf_136 : decode cX12_traceOf 136 = .ok (.isub, 1) := by decide +kernel
theorem dX12_traceOf_137 : decode cX12_traceOf 137 = .ok (.invokestatic 288, 3) := by decide +kernel
theorem dX12_traceOf_140 : decode cX12_traceOf 140 = .ok (.i2l, 1) := by decide +kernel
theorem dX12_traceOf_141 : decode cX12_traceOf 141 = .ok (.invokevirtual 299, 3) := by decide +kernel
theorem dX12_traceOf_144 : decode cX12_traceOf 144 = .ok (.invokevirtual 303, 3) := by decide +kernel
theorem dX12_traceOf_147 : decode cX12_traceOf 147 = .ok (.lstore_n 3, 1) := by decide +kernel
theorem dX12_traceOf_148 : decode cX12_traceOf 148 = .ok (.iinc 6 1, 3) := by decide +kernel
theorem dX12_traceOf_151 : decode cX12_traceOf 151 = .ok (.goto (-115), 3) := by decide +kernel
theorem dX12_traceOf_154 : decode cX12_traceOf 154 = .ok (.iconst 1, 1) := by decide +kernel
theorem dX12_traceOf_155 : decode cX12_traceOf 155 = .ok (.istore 6, 2) := by decide +kernel
theorem dX12_traceOf_157 : decode cX12_traceOf 157 = .ok (.iload 6, 2) := by decide +kernel
theorem dX12_traceOf_159 : decode cX12_traceOf 159 = .ok (.iload_n 2, 1) := by decide +kernel
theorem dX12_traceOf_160 : decode cX12_traceOf 160 = .ok (.if_icmp .gt 121, 3) := by decide +kernel
theorem dX12_traceOf_163 : decode cX12_traceOf 163 = .ok (.aload_n 0, 1) := by decide +kernel
theorem dX12_traceOf_164 : decode cX12_traceOf 164 = .ok (.getfield 293, 3) := by decide +kernel
theorem dX12_traceOf_167 : decode cX12_traceOf 167 = .ok (.ifCond .ne 114, 3) := by decide +kernel
theorem dX12_traceOf_170 : decode cX12_traceOf 170 = .ok (.iload_n 2, 1) := by decide +kernel
theorem dX12_traceOf_171 : decode cX12_traceOf 171 = .ok (.iload 6, 2) := by decide +kernel
theorem dX12_traceOf_173 : decode cX12_traceOf 173 = .ok (.irem, 1) := by decide +kernel
theorem dX12_traceOf_174 : decode cX12_traceOf 174 = .ok (.ifCond .ne 101, 3) := by decide +kernel
theorem dX12_traceOf_177 : decode cX12_traceOf 177 = .ok (.iload 6, 2) := by decide +kernel
theorem dX12_traceOf_179 : decode cX12_traceOf 179 = .ok (.iload_n 2, 1) := by decide +kernel
theorem dX12_traceOf_180 : decode cX12_traceOf 180 = .ok (.iload 6, 2) := by decide +kernel
theorem dX12_traceOf_182 : decode cX12_traceOf 182 = .ok (.idiv, 1) := by decide +kernel
theorem dX12_traceOf_183 : decode cX12_traceOf 183 = .ok (.if_icmp .ge 8, 3) := by decide +kernel
theorem dX12_traceOf_186 : decode cX12_traceOf 186 = .ok (.iload 6, 2) := by decide +kernel
theorem dX12_traceOf_188 : decode cX12_traceOf 188 = .ok (.goto 7, 3) := by decide +kernel
theorem dX12_traceOf_191 : decode cX12_traceOf 191 = .ok (.iload_n 2, 1) := by decide +kernel
theorem dX12_traceOf_192 : decode cX12_traceOf 192 = .ok (.iload 6, 2) := by decide +kernel
theorem dX12_traceOf_194 : decode cX12_traceOf 194 = .ok (.idiv, 1) := by decide +kernel
theorem dX12_traceOf_195 : decode cX12_traceOf 195 = .ok (.istore 7, 2) := by decide +kernel
theorem dX12_traceOf_197 : decode cX12_traceOf 197 = .ok (.lconst 1, 1) := by decide +kernel
theorem dX12_traceOf_198 : decode cX12_traceOf 198 = .ok (.lstore 8, 2) := by decide +kernel
theorem dX12_traceOf_200 : decode cX12_traceOf 200 = .ok (.iconst 1, 1) := by decide +kernel
theorem dX12_traceOf_201 : decode cX12_traceOf 201 = .ok (.istore 10, 2) := by decide +kernel
theorem dX12_traceOf_203 : decode cX12_traceOf 203 = .ok (.iload 10, 2) := by decide +kernel
theorem dX12_traceOf_205 : decode cX12_traceOf 205 = .ok (.iload_n 1, 1) := by decide +kernel
theorem dX12_traceOf_206 : decode cX12_traceOf 206 = .ok (.if_icmp .ge 27, 3) := by decide +kernel
theorem dX12_traceOf_209 : decode cX12_traceOf 209 = .ok (.aload_n 0, 1) := by decide +kernel
theorem dX12_traceOf_210 : decode cX12_traceOf 210 = .ok (.getfield 293, 3) := by decide +kernel
theorem dX12_traceOf_213 : decode cX12_traceOf 213 = .ok (.ifCond .ne 20, 3) := by decide +kernel
theorem dX12_traceOf_216 : decode cX12_traceOf 216 = .ok (.aload_n 0, 1) := by decide +kernel
theorem dX12_traceOf_217 : decode cX12_traceOf 217 = .ok (.lload 8, 2) := by decide +kernel
theorem dX12_traceOf_219 : decode cX12_traceOf 219 = .ok (.iload 7, 2) := by decide +kernel
theorem dX12_traceOf_221 : decode cX12_traceOf 221 = .ok (.i2l, 1) := by decide +kernel
theorem dX12_traceOf_222 : decode cX12_traceOf 222 = .ok (.invokevirtual 299, 3) := by decide +kernel
theorem dX12_traceOf_225 : decode cX12_traceOf 225 = .ok (.lstore 8, 2) := by decide +kernel
theorem dX12_traceOf_227 : decode cX12_traceOf 227 = .ok (.iinc 10 1, 3) := by decide +kernel
theorem dX12_traceOf_230 : decode cX12_traceOf 230 = .ok (.goto (-27), 3) := by decide +kernel
theorem dX12_traceOf_233 : decode cX12_traceOf 233 = .ok (.aload_n 0, 1) := by decide +kernel
theorem dX12_traceOf_234 : decode cX12_traceOf 234 = .ok (.getfield 293, 3) := by decide +kernel
theorem dX12_traceOf_237 : decode cX12_traceOf 237 = .ok (.ifCond .eq 8, 3) := by decide +kernel
theorem dX12_traceOf_240 : decode cX12_traceOf 240 = .ok (.lload 8, 2) := by decide +kernel
theorem dX12_traceOf_242 : decode cX12_traceOf 242 = .ok (.goto 12, 3) := by decide +kernel
theorem dX12_traceOf_245 : decode cX12_traceOf 245 = .ok (.aload_n 0, 1) := by decide +kernel
theorem dX12_traceOf_246 : decode cX12_traceOf 246 = .ok (.lload 8, 2) := by decide +kernel
theorem dX12_traceOf_248 : decode cX12_traceOf 248 = .ok (.ldc2_w 306, 3) := by decide +kernel
theorem dX12_traceOf_251 : decode cX12_traceOf 251 = .ok (.invokevirtual 299, 3) := by decide +kernel
theorem dX12_traceOf_254 : decode cX12_traceOf 254 = .ok (.lstore 8, 2) := by decide +kernel
theorem dX12_traceOf_256 : decode cX12_traceOf 256 = .ok (.aload_n 0, 1) := by decide +kernel
theorem dX12_traceOf_257 : decode cX12_traceOf 257 = .ok (.getfield 293, 3) := by decide +kernel
theorem dX12_traceOf_260 : decode cX12_traceOf 260 = .ok (.ifCond .eq 7, 3) := by decide +kernel
theorem dX12_traceOf_263 : decode cX12_traceOf 263 = .ok (.lload_n 3, 1) := by decide +kernel
theorem dX12_traceOf_264 : decode cX12_traceOf 264 = .ok (.goto 10, 3) := by decide +kernel
theorem dX12_traceOf_267 : decode cX12_traceOf 267 = .ok (.aload_n 0, 1) := by decide +kernel
theorem dX12_traceOf_268 : decode cX12_traceOf 268 = .ok (.lload_n 3, 1) := by decide +kernel
theorem dX12_traceOf_269 : decode cX12_traceOf 269 = .ok (.lload 8, 2) := by decide +kernel
theorem dX12_traceOf_271 : decode cX12_traceOf 271 = .ok (.invokevirtual 303, 3) := by decide +kernel
theorem dX12_traceOf_274 : decode cX12_traceOf 274 = .ok (.lstore_n 3, 1) := by decide +kernel
theorem dX12_traceOf_275 : decode cX12_traceOf 275 = .ok (.iinc 6 1, 3) := by decide +kernel
theorem dX12_traceOf_278 : decode cX12_traceOf 278 = .ok (.goto (-121), 3) := by decide +kernel
theorem dX12_traceOf_281 : decode cX12_traceOf 281 = .ok (.lload_n 3, 1) := by decide +kernel
theorem dX12_traceOf_282 : decode cX12_traceOf 282 = .ok (.lneg, 1) := by decide +kernel
theorem dX12_traceOf_283 : decode cX12_traceOf 283 = .ok (.ldc2_w 308, 3) := by decide +kernel
theorem dX12_traceOf_286 : decode cX12_traceOf 286 = .ok (.ldiv, 1) := by decide +kernel
theorem dX12_traceOf_287 : decode cX12_traceOf 287 = .ok (.lreturn, 1) := by decide +kernel
theorem dX12_isTraced_0 : decode cX12_isTraced 0 = .ok (.iload_n 0, 1) := by decide +kernel
theorem dX12_isTraced_1 : decode cX12_isTraced 1 = .ok (.iconst 4, 1) := by decide +kernel
theorem dX12_isTraced_2 : decode cX12_isTraced 2 = .ok (.bipush 60, 2) := by decide +kernel
theorem dX12_isTraced_4 : decode cX12_isTraced 4 = .ok (.invokestatic 45, 3) := by decide +kernel
theorem dX12_isTraced_7 : decode cX12_isTraced 7 = .ok (.ifCond .eq 23, 3) := by decide +kernel
theorem dX12_isTraced_10 : decode cX12_isTraced 10 = .ok (.iload_n 0, 1) := by decide +kernel
theorem dX12_isTraced_11 : decode cX12_isTraced 11 = .ok (.iconst 2, 1) := by decide +kernel
theorem dX12_isTraced_12 : decode cX12_isTraced 12 = .ok (.irem, 1) := by decide +kernel
theorem dX12_isTraced_13 : decode cX12_isTraced 13 = .ok (.ifCond .ne 17, 3) := by decide +kernel
theorem dX12_isTraced_16 : decode cX12_isTraced 16 = .ok (.iload_n 1, 1) := by decide +kernel
theorem dX12_isTraced_17 : decode cX12_isTraced 17 = .ok (.iconst 1, 1) := by decide +kernel
theorem dX12_isTraced_18 : decode cX12_isTraced 18 = .ok (.bipush 60, 2) := by decide +kernel
theorem dX12_isTraced_20 : decode cX12_isTraced 20 = .ok (.invokestatic 45, 3) := by decide +kernel
theorem dX12_isTraced_23 : decode cX12_isTraced 23 = .ok (.ifCond .eq 7, 3) := by decide +kernel
theorem dX12_isTraced_26 : decode cX12_isTraced 26 = .ok (.iconst 1, 1) := by decide +kernel
theorem dX12_isTraced_27 : decode cX12_isTraced 27 = .ok (.goto 4, 3) := by decide +kernel
theorem dX12_isTraced_30 : decode cX12_isTraced 30 = .ok (.iconst 0, 1) := by decide +kernel
theorem dX12_isTraced_31 : decode cX12_isTraced 31 = .ok (.ireturn, 1) := by decide +kernel
theorem dX12_trace_0 : decode cX12_trace 0 = .ok (.aload_n 0, 1) := by decide +kernel
theorem dX12_trace_1 : decode cX12_trace 1 = .ok (.iconst 0, 1) := by decide +kernel
theorem dX12_trace_2 : decode cX12_trace 2 = .ok (.putfield 1, 3) := by decide +kernel
theorem dX12_trace_5 : decode cX12_trace 5 = .ok (.iload_n 1, 1) := by decide +kernel
theorem dX12_trace_6 : decode cX12_trace 6 = .ok (.iload_n 2, 1) := by decide +kernel
theorem dX12_trace_7 : decode cX12_trace 7 = .ok (.invokestatic 310, 3) := by decide +kernel
theorem dX12_trace_10 : decode cX12_trace 10 = .ok (.ifCond .ne 7, 3) := by decide +kernel
theorem dX12_trace_13 : decode cX12_trace 13 = .ok (.ldc2_w 315, 3) := by decide +kernel
theorem dX12_trace_16 : decode cX12_trace 16 = .ok (.lreturn, 1) := by decide +kernel
theorem dX12_trace_17 : decode cX12_trace 17 = .ok (.aload_n 0, 1) := by decide +kernel
theorem dX12_trace_18 : decode cX12_trace 18 = .ok (.iload_n 1, 1) := by decide +kernel
theorem dX12_trace_19 : decode cX12_trace 19 = .ok (.iload_n 2, 1) := by decide +kernel
theorem dX12_trace_20 : decode cX12_trace 20 = .ok (.invokevirtual 317, 3) := by decide +kernel
theorem dX12_trace_23 : decode cX12_trace 23 = .ok (.lstore_n 3, 1) := by decide +kernel
theorem dX12_trace_24 : decode cX12_trace 24 = .ok (.aload_n 0, 1) := by decide +kernel
theorem dX12_trace_25 : decode cX12_trace 25 = .ok (.getfield 293, 3) := by decide +kernel
theorem dX12_trace_28 : decode cX12_trace 28 = .ok (.ifCond .eq 9, 3) := by decide +kernel
theorem dX12_trace_31 : decode cX12_trace 31 = .ok (.ldc2_w 321, 3) := by decide +kernel
theorem dX12_trace_34 : decode cX12_trace 34 = .ok (.goto 4, 3) := by decide +kernel
theorem dX12_trace_37 : decode cX12_trace 37 = .ok (.lload_n 3, 1) := by decide +kernel
theorem dX12_trace_38 : decode cX12_trace 38 = .ok (.lreturn, 1) := by decide +kernel
theorem dX12_traceLeft_0 : decode cX12_traceLeft 0 = .ok (.aload_n 0, 1) := by decide +kernel
theorem dX12_traceLeft_1 : decode cX12_traceLeft 1 = .ok (.iconst 0, 1) := by decide +kernel
theorem dX12_traceLeft_2 : decode cX12_traceLeft 2 = .ok (.putfield 1, 3) := by decide +kernel
theorem dX12_traceLeft_5 : decode cX12_traceLeft 5 = .ok (.iload_n 1, 1) := by decide +kernel
theorem dX12_traceLeft_6 : decode cX12_traceLeft 6 = .ok (.iload_n 2, 1) := by decide +kernel
theorem dX12_traceLeft_7 : decode cX12_traceLeft 7 = .ok (.invokestatic 310, 3) := by decide +kernel
theorem dX12_traceLeft_10 : decode cX12_traceLeft 10 = .ok (.ifCond .ne 5, 3) := by decide +kernel
theorem dX12_traceLeft_13 : decode cX12_traceLeft 13 = .ok (.iconst (-1), 1) := by decide +kernel
theorem dX12_traceLeft_14 : decode cX12_traceLeft 14 = .ok (.ireturn, 1) := by decide +kernel
theorem dX12_traceLeft_15 : decode cX12_traceLeft 15 = .ok (.lconst 0, 1) := by decide +kernel
theorem dX12_traceLeft_16 : decode cX12_traceLeft 16 = .ok (.lstore_n 3, 1) := by decide +kernel
theorem dX12_traceLeft_17 : decode cX12_traceLeft 17 = .ok (.bipush (-2), 2) := by decide +kernel
theorem dX12_traceLeft_19 : decode cX12_traceLeft 19 = .ok (.iload_n 2, 1) := by decide +kernel
theorem dX12_traceLeft_20 : decode cX12_traceLeft 20 = .ok (.imul, 1) := by decide +kernel
theorem dX12_traceLeft_21 : decode cX12_traceLeft 21 = .ok (.istore 5, 2) := by decide +kernel
theorem dX12_traceLeft_23 : decode cX12_traceLeft 23 = .ok (.iload 5, 2) := by decide +kernel
theorem dX12_traceLeft_25 : decode cX12_traceLeft 25 = .ok (.iconst 2, 1) := by decide +kernel
theorem dX12_traceLeft_26 : decode cX12_traceLeft 26 = .ok (.iload_n 2, 1) := by decide +kernel
theorem dX12_traceLeft_27 : decode cX12_traceLeft 27 = .ok (.imul, 1) := by decide +kernel
theorem dX12_traceLeft_28 : decode cX12_traceLeft 28 = .ok (.if_icmp .gt 104, 3) := by decide +kernel
theorem dX12_traceLeft_31 : decode cX12_traceLeft 31 = .ok (.iload 5, 2) := by decide +kernel
theorem dX12_traceLeft_33 : decode cX12_traceLeft 33 = .ok (.iload 5, 2) := by decide +kernel
theorem dX12_traceLeft_35 : decode cX12_traceLeft 35 = .ok (.imul, 1) := by decide +kernel
theorem dX12_traceLeft_36 : decode cX12_traceLeft 36 = .ok (.iconst 4, 1) := by decide +kernel
theorem dX12_traceLeft_37 : decode cX12_traceLeft 37 = .ok (.iload_n 2, 1) := by decide +kernel
theorem dX12_traceLeft_38 : decode cX12_traceLeft 38 = .ok (.imul, 1) := by decide +kernel
theorem dX12_traceLeft_39 : decode cX12_traceLeft 39 = .ok (.if_icmp .gt 87, 3) := by decide +kernel
theorem dX12_traceLeft_42 : decode cX12_traceLeft 42 = .ok (.lconst 1, 1) := by decide +kernel
theorem dX12_traceLeft_43 : decode cX12_traceLeft 43 = .ok (.lstore 6, 2) := by decide +kernel
theorem dX12_traceLeft_45 : decode cX12_traceLeft 45 = .ok (.aload_n 0, 1) := by decide +kernel
theorem dX12_traceLeft_46 : decode cX12_traceLeft 46 = .ok (.iload 5, 2) := by decide +kernel
theorem dX12_traceLeft_48 : decode cX12_traceLeft 48 = .ok (.i2l, 1) := by decide +kernel
theorem dX12_traceLeft_49 : decode cX12_traceLeft 49 = .ok (.invokevirtual 10, 3) := by decide +kernel
theorem dX12_traceLeft_52 : decode cX12_traceLeft 52 = .ok (.i2l, 1) := by decide +kernel
theorem dX12_traceLeft_53 : decode cX12_traceLeft 53 = .ok (.lstore 8, 2) := by decide +kernel
theorem dX12_traceLeft_55 : decode cX12_traceLeft 55 = .ok (.iconst 4, 1) := by decide +kernel
theorem dX12_traceLeft_56 : decode cX12_traceLeft 56 = .ok (.istore 10, 2) := by decide +kernel
theorem dX12_traceLeft_58 : decode cX12_traceLeft 58 = .ok (.iload 10, 2) := by decide +kernel
theorem dX12_traceLeft_60 : decode cX12_traceLeft 60 = .ok (.iload_n 1, 1) := by decide +kernel
theorem dX12_traceLeft_61 : decode cX12_traceLeft 61 = .ok (.if_icmp .gt 41, 3) := by decide +kernel
theorem dX12_traceLeft_64 : decode cX12_traceLeft 64 = .ok (.aload_n 0, 1) := by decide +kernel
theorem dX12_traceLeft_65 : decode cX12_traceLeft 65 = .ok (.aload_n 0, 1) := by decide +kernel
theorem dX12_traceLeft_66 : decode cX12_traceLeft 66 = .ok (.iload 5, 2) := by decide +kernel
theorem dX12_traceLeft_68 : decode cX12_traceLeft 68 = .ok (.i2l, 1) := by decide +kernel
theorem dX12_traceLeft_69 : decode cX12_traceLeft 69 = .ok (.invokevirtual 10, 3) := by decide +kernel
theorem dX12_traceLeft_72 : decode cX12_traceLeft 72 = .ok (.i2l, 1) := by decide +kernel
theorem dX12_traceLeft_73 : decode cX12_traceLeft 73 = .ok (.lload 8, 2) := by decide +kernel
theorem dX12_traceLeft_75 : decode cX12_traceLeft 75 = .ok (.lmul, 1) := by decide +kernel
theorem dX12_traceLeft_76 : decode cX12_traceLeft 76 = .ok (.iload_n 2, 1) := by decide +kernel
theorem dX12_traceLeft_77 : decode cX12_traceLeft 77 = .ok (.i2l, 1) := by decide +kernel
theorem dX12_traceLeft_78 : decode cX12_traceLeft 78 = .ok (.lload 6, 2) := by decide +kernel
theorem dX12_traceLeft_80 : decode cX12_traceLeft 80 = .ok (.lmul, 1) := by decide +kernel
theorem dX12_traceLeft_81 : decode cX12_traceLeft 81 = .ok (.lsub, 1) := by decide +kernel
theorem dX12_traceLeft_82 : decode cX12_traceLeft 82 = .ok (.invokevirtual 10, 3) := by decide +kernel
theorem dX12_traceLeft_85 : decode cX12_traceLeft 85 = .ok (.i2l, 1) := by decide +kernel
theorem dX12_traceLeft_86 : decode cX12_traceLeft 86 = .ok (.lstore 11, 2) := by decide +kernel
theorem dX12_traceLeft_88 : decode cX12_traceLeft 88 = .ok (.lload 8, 2) := by decide +kernel
theorem dX12_traceLeft_90 : decode cX12_traceLeft 90 = .ok (.lstore 6, 2) := by decide +kernel
theorem dX12_traceLeft_92 : decode cX12_traceLeft 92 = .ok (.lload 11, 2) := by decide +kernel
theorem dX12_traceLeft_94 : decode cX12_traceLeft 94 = .ok (.lstore 8, 2) := by decide +kernel
theorem dX12_traceLeft_96 : decode cX12_traceLeft 96 = .ok (.iinc 10 1, 3) := by decide +kernel
theorem dX12_traceLeft_99 : decode cX12_traceLeft 99 = .ok (.goto (-41), 3) := by decide +kernel
theorem dX12_traceLeft_102 : decode cX12_traceLeft 102 = .ok (.aload_n 0, 1) := by decide +kernel
theorem dX12_traceLeft_103 : decode cX12_traceLeft 103 = .ok (.lload_n 3, 1) := by decide +kernel
theorem dX12_traceLeft_104 : decode cX12_traceLeft 104 = .ok (.lload 8, 2) := by decide +kernel
theorem dX12_traceLeft_106 : decode cX12_traceLeft 106 = .ok (.iconst 4, 1) := by decide +kernel
theorem dX12_traceLeft_107 : decode cX12_traceLeft 107 = .ok (.iload_n 2, 1) := by decide +kernel
theorem dX12_traceLeft_108 : decode cX12_traceLeft 108 = .ok (.imul, 1) := by decide +kernel
theorem dX12_traceLeft_109 : decode cX12_traceLeft 109 = .ok (.iload 5, 2) := by decide +kernel
theorem dX12_traceLeft_111 : decode cX12_traceLeft 111 = .ok (.iload 5, 2) := by decide +kernel
theorem dX12_traceLeft_113 : decode cX12_traceLeft 113 = .ok (.imul, 1) := by decide +kernel
theorem dX12_traceLeft_114 : decode cX12_traceLeft 114 = .ok (.isub, 1) := by decide +kernel
theorem dX12_traceLeft_115 : decode cX12_traceLeft 115 = .ok (.invokestatic 288, 3) := by decide +kernel
theorem dX12_traceLeft_118 : decode cX12_traceLeft 118 = .ok (.i2l, 1) := by decide +kernel
theorem dX12_traceLeft_119 : decode cX12_traceLeft 119 = .ok (.lmul, 1) := by decide +kernel
theorem dX12_traceLeft_120 : decode cX12_traceLeft 120 = .ok (.ladd, 1) := by decide +kernel
theorem dX12_traceLeft_121 : decode cX12_traceLeft 121 = .ok (.invokevirtual 10, 3) := by decide +kernel
theorem dX12_traceLeft_124 : decode cX12_traceLeft 124 = .ok (.i2l, 1) := by decide +kernel
theorem dX12_traceLeft_125 : decode cX12_traceLeft 125 = .ok (.lstore_n 3, 1) := by decide +kernel
theorem dX12_traceLeft_126 : decode cX12_traceLeft 126 = .ok (.iinc 5 1, 3) := by decide +kernel
theorem dX12_traceLeft_129 : decode cX12_traceLeft 129 = .ok (.goto (-106), 3) := by decide +kernel
theorem dX12_traceLeft_132 : decode cX12_traceLeft 132 = .ok (.iconst 1, 1) := by decide +kernel
theorem dX12_traceLeft_133 : decode cX12_traceLeft 133 = .ok (.istore 5, 2) := by decide +kernel
theorem dX12_traceLeft_135 : decode cX12_traceLeft 135 = .ok (.iload 5, 2) := by decide +kernel
theorem dX12_traceLeft_137 : decode cX12_traceLeft 137 = .ok (.iload_n 2, 1) := by decide +kernel
theorem dX12_traceLeft_138 : decode cX12_traceLeft 138 = .ok (.if_icmp .gt 54, 3) := by decide +kernel
theorem dX12_traceLeft_141 : decode cX12_traceLeft 141 = .ok (.iload_n 2, 1) := by decide +kernel
theorem dX12_traceLeft_142 : decode cX12_traceLeft 142 = .ok (.iload 5, 2) := by decide +kernel
theorem dX12_traceLeft_144 : decode cX12_traceLeft 144 = .ok (.irem, 1) := by decide +kernel
theorem dX12_traceLeft_145 : decode cX12_traceLeft 145 = .ok (.ifCond .ne 41, 3) := by decide +kernel
theorem dX12_traceLeft_148 : decode cX12_traceLeft 148 = .ok (.aload_n 0, 1) := by decide +kernel
theorem dX12_traceLeft_149 : decode cX12_traceLeft 149 = .ok (.lload_n 3, 1) := by decide +kernel
theorem dX12_traceLeft_150 : decode cX12_traceLeft 150 = .ok (.ldc2_w 306, 3) := by decide +kernel
theorem dX12_traceLeft_153 : decode cX12_traceLeft 153 = .ok (.aload_n 0, 1) := by decide +kernel
theorem dX12_traceLeft_154 : decode cX12_traceLeft 154 = .ok (.iload 5, 2) := by decide +kernel
theorem dX12_traceLeft_156 : decode cX12_traceLeft 156 = .ok (.iload_n 2, 1) := by decide +kernel
theorem dX12_traceLeft_157 : decode cX12_traceLeft 157 = .ok (.iload 5, 2) := by decide +kernel
theorem dX12_traceLeft_159 : decode cX12_traceLeft 159 = .ok (.idiv, 1) := by decide +kernel
theorem dX12_traceLeft_160 : decode cX12_traceLeft 160 = .ok (.if_icmp .ge 8, 3) := by decide +kernel
theorem dX12_traceLeft_163 : decode cX12_traceLeft 163 = .ok (.iload 5, 2) := by decide +kernel
theorem dX12_traceLeft_165 : decode cX12_traceLeft 165 = .ok (.goto 7, 3) := by decide +kernel
theorem dX12_traceLeft_168 : decode cX12_traceLeft 168 = .ok (.iload_n 2, 1) := by decide +kernel
theorem dX12_traceLeft_169 : decode cX12_traceLeft 169 = .ok (.iload 5, 2) := by decide +kernel
theorem dX12_traceLeft_171 : decode cX12_traceLeft 171 = .ok (.idiv, 1) := by decide +kernel
theorem dX12_traceLeft_172 : decode cX12_traceLeft 172 = .ok (.iload_n 1, 1) := by decide +kernel
theorem dX12_traceLeft_173 : decode cX12_traceLeft 173 = .ok (.iconst 1, 1) := by decide +kernel
theorem dX12_traceLeft_174 : decode cX12_traceLeft 174 = .ok (.isub, 1) := by decide +kernel
theorem dX12_traceLeft_175 : decode cX12_traceLeft 175 = .ok (.invokevirtual 14, 3) := by decide +kernel
theorem dX12_traceLeft_178 : decode cX12_traceLeft 178 = .ok (.i2l, 1) := by decide +kernel
theorem dX12_traceLeft_179 : decode cX12_traceLeft 179 = .ok (.lmul, 1) := by decide +kernel
theorem dX12_traceLeft_180 : decode cX12_traceLeft 180 = .ok (.ladd, 1) := by decide +kernel
theorem dX12_traceLeft_181 : decode cX12_traceLeft 181 = .ok (.invokevirtual 10, 3) := by decide +kernel
theorem dX12_traceLeft_184 : decode cX12_traceLeft 184 = .ok (.i2l, 1) := by decide +kernel
theorem dX12_traceLeft_185 : decode cX12_traceLeft 185 = .ok (.lstore_n 3, 1) := by decide +kernel
theorem dX12_traceLeft_186 : decode cX12_traceLeft 186 = .ok (.iinc 5 1, 3) := by decide +kernel
theorem dX12_traceLeft_189 : decode cX12_traceLeft 189 = .ok (.goto (-54), 3) := by decide +kernel
theorem dX12_traceLeft_192 : decode cX12_traceLeft 192 = .ok (.aload_n 0, 1) := by decide +kernel
theorem dX12_traceLeft_193 : decode cX12_traceLeft 193 = .ok (.lload_n 3, 1) := by decide +kernel
theorem dX12_traceLeft_194 : decode cX12_traceLeft 194 = .ok (.lneg, 1) := by decide +kernel
theorem dX12_traceLeft_195 : decode cX12_traceLeft 195 = .ok (.aload_n 0, 1) := by decide +kernel
theorem dX12_traceLeft_196 : decode cX12_traceLeft 196 = .ok (.bipush 24, 2) := by decide +kernel
theorem dX12_traceLeft_198 : decode cX12_traceLeft 198 = .ok (.invokevirtual 41, 3) := by decide +kernel
theorem dX12_traceLeft_201 : decode cX12_traceLeft 201 = .ok (.i2l, 1) := by decide +kernel
theorem dX12_traceLeft_202 : decode cX12_traceLeft 202 = .ok (.lmul, 1) := by decide +kernel
theorem dX12_traceLeft_203 : decode cX12_traceLeft 203 = .ok (.invokevirtual 10, 3) := by decide +kernel
theorem dX12_traceLeft_206 : decode cX12_traceLeft 206 = .ok (.ireturn, 1) := by decide +kernel
theorem dX12_share_0 : decode cX12_share 0 = .ok (.aload_n 0, 1) := by decide +kernel
theorem dX12_share_1 : decode cX12_share 1 = .ok (.iconst 0, 1) := by decide +kernel
theorem dX12_share_2 : decode cX12_share 2 = .ok (.putfield 1, 3) := by decide +kernel
theorem dX12_share_5 : decode cX12_share 5 = .ok (.iload_n 1, 1) := by decide +kernel
theorem dX12_share_6 : decode cX12_share 6 = .ok (.iload_n 2, 1) := by decide +kernel
theorem dX12_share_7 : decode cX12_share 7 = .ok (.invokestatic 310, 3) := by decide +kernel
theorem dX12_share_10 : decode cX12_share 10 = .ok (.ifCond .ne 7, 3) := by decide +kernel
theorem dX12_share_13 : decode cX12_share 13 = .ok (.ldc_w 325, 3) := by decide +kernel
theorem dX12_share_16 : decode cX12_share 16 = .ok (.ireturn, 1) := by decide +kernel
theorem dX12_share_17 : decode cX12_share 17 = .ok (.aload_n 0, 1) := by decide +kernel
theorem dX12_share_18 : decode cX12_share 18 = .ok (.iload_n 1, 1) := by decide +kernel
theorem dX12_share_19 : decode cX12_share 19 = .ok (.iload_n 2, 1) := by decide +kernel
theorem dX12_share_20 : decode cX12_share 20 = .ok (.invokevirtual 317, 3) := by decide +kernel
theorem dX12_share_23 : decode cX12_share 23 = .ok (.lstore_n 3, 1) := by decide +kernel
theorem dX12_share_24 : decode cX12_share 24 = .ok (.aload_n 0, 1) := by decide +kernel
theorem dX12_share_25 : decode cX12_share 25 = .ok (.getfield 293, 3) := by decide +kernel
theorem dX12_share_28 : decode cX12_share 28 = .ok (.ifCond .eq 7, 3) := by decide +kernel
theorem dX12_share_31 : decode cX12_share 31 = .ok (.ldc_w 325, 3) := by decide +kernel
theorem dX12_share_34 : decode cX12_share 34 = .ok (.ireturn, 1) := by decide +kernel
theorem dX12_share_35 : decode cX12_share 35 = .ok (.iload_n 1, 1) := by decide +kernel
theorem dX12_share_36 : decode cX12_share 36 = .ok (.invokestatic 275, 3) := by decide +kernel
theorem dX12_share_39 : decode cX12_share 39 = .ok (.ifCond .ne 5, 3) := by decide +kernel
theorem dX12_share_42 : decode cX12_share 42 = .ok (.iconst 0, 1) := by decide +kernel
theorem dX12_share_43 : decode cX12_share 43 = .ok (.ireturn, 1) := by decide +kernel
theorem dX12_share_44 : decode cX12_share 44 = .ok (.iload_n 2, 1) := by decide +kernel
theorem dX12_share_45 : decode cX12_share 45 = .ok (.i2f, 1) := by decide +kernel
theorem dX12_share_46 : decode cX12_share 46 = .ok (.fstore 5, 2) := by decide +kernel
theorem dX12_share_48 : decode cX12_share 48 = .ok (.iconst 0, 1) := by decide +kernel
theorem dX12_share_49 : decode cX12_share 49 = .ok (.istore 6, 2) := by decide +kernel
theorem dX12_share_51 : decode cX12_share 51 = .ok (.iload 6, 2) := by decide +kernel
theorem dX12_share_53 : decode cX12_share 53 = .ok (.bipush 20, 2) := by decide +kernel
theorem dX12_share_55 : decode cX12_share 55 = .ok (.if_icmp .ge 21, 3) := by decide +kernel
theorem dX12_share_58 : decode cX12_share 58 = .ok (.fload 5, 2) := by decide +kernel
theorem dX12_share_60 : decode cX12_share 60 = .ok (.iload_n 2, 1) := by decide +kernel
theorem dX12_share_61 : decode cX12_share 61 = .ok (.i2f, 1) := by decide +kernel
theorem dX12_share_62 : decode cX12_share 62 = .ok (.fload 5, 2) := by decide +kernel
theorem dX12_share_64 : decode cX12_share 64 = .ok (.fdiv, 1) := by decide +kernel
theorem dX12_share_65 : decode cX12_share 65 = .ok (.fadd, 1) := by decide +kernel
theorem dX12_share_66 : decode cX12_share 66 = .ok (.fconst 2, 1) := by decide +kernel
theorem dX12_share_67 : decode cX12_share 67 = .ok (.fdiv, 1) := by decide +kernel
theorem dX12_share_68 : decode cX12_share 68 = .ok (.fstore 5, 2) := by decide +kernel
theorem dX12_share_70 : decode cX12_share 70 = .ok (.iinc 6 1, 3) := by decide +kernel
theorem dX12_share_73 : decode cX12_share 73 = .ok (.goto (-22), 3) := by decide +kernel
theorem dX12_share_76 : decode cX12_share 76 = .ok (.fconst 1, 1) := by decide +kernel
theorem dX12_share_77 : decode cX12_share 77 = .ok (.fstore 6, 2) := by decide +kernel
theorem dX12_share_79 : decode cX12_share 79 = .ok (.iconst 0, 1) := by decide +kernel
theorem dX12_share_80 : decode cX12_share 80 = .ok (.istore 7, 2) := by decide +kernel
theorem dX12_share_82 : decode cX12_share 82 = .ok (.iload 7, 2) := by decide +kernel
theorem dX12_share_84 : decode cX12_share 84 = .ok (.iload_n 1, 1) := by decide +kernel
theorem dX12_share_85 : decode cX12_share 85 = .ok (.iconst 2, 1) := by decide +kernel
theorem dX12_share_86 : decode cX12_share 86 = .ok (.isub, 1) := by decide +kernel
theorem dX12_share_87 : decode cX12_share 87 = .ok (.iconst 2, 1) := by decide +kernel
theorem dX12_share_88 : decode cX12_share 88 = .ok (.idiv, 1) := by decide +kernel
theorem dX12_share_89 : decode cX12_share 89 = .ok (.if_icmp .ge 16, 3) := by decide +kernel
theorem dX12_share_92 : decode cX12_share 92 = .ok (.fload 6, 2) := by decide +kernel
theorem dX12_share_94 : decode cX12_share 94 = .ok (.iload_n 2, 1) := by decide +kernel
theorem dX12_share_95 : decode cX12_share 95 = .ok (.i2f, 1) := by decide +kernel
theorem dX12_share_96 : decode cX12_share 96 = .ok (.fmul, 1) := by decide +kernel
theorem dX12_share_97 : decode cX12_share 97 = .ok (.fstore 6, 2) := by decide +kernel
theorem dX12_share_99 : decode cX12_share 99 = .ok (.iinc 7 1, 3) := by decide +kernel
theorem dX12_share_102 : decode cX12_share 102 = .ok (.goto (-20), 3) := by decide +kernel
