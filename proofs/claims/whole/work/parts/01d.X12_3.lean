theorem dX12_image_6 : decode cX12_image 6 = .ok (.iconst 0, 1) := by decide +kernel
theorem dX12_image_7 : decode cX12_image 7 = .ok (.iconst 1, 1) := by decide +kernel
theorem dX12_image_8 : decode cX12_image 8 = .ok (.invokestatic 45, 3) := by decide +kernel
theorem dX12_image_11 : decode cX12_image 11 = .ok (.ifCond .eq 29, 3) := by decide +kernel
theorem dX12_image_14 : decode cX12_image 14 = .ok (.iload_n 2, 1) := by decide +kernel
theorem dX12_image_15 : decode cX12_image 15 = .ok (.ifCond .eq 27, 3) := by decide +kernel
theorem dX12_image_18 : decode cX12_image 18 = .ok (.aload_n 0, 1) := by decide +kernel
theorem dX12_image_19 : decode cX12_image 19 = .ok (.getfield 225, 3) := by decide +kernel
theorem dX12_image_22 : decode cX12_image 22 = .ok (.iload_n 1, 1) := by decide +kernel
theorem dX12_image_23 : decode cX12_image 23 = .ok (.baload, 1) := by decide +kernel
theorem dX12_image_24 : decode cX12_image 24 = .ok (.ifCond .eq 16, 3) := by decide +kernel
theorem dX12_image_27 : decode cX12_image 27 = .ok (.aload_n 0, 1) := by decide +kernel
theorem dX12_image_28 : decode cX12_image 28 = .ok (.getfield 254, 3) := by decide +kernel
theorem dX12_image_31 : decode cX12_image 31 = .ok (.iload_n 1, 1) := by decide +kernel
theorem dX12_image_32 : decode cX12_image 32 = .ok (.iaload, 1) := by decide +kernel
theorem dX12_image_33 : decode cX12_image 33 = .ok (.aload_n 0, 1) := by decide +kernel
theorem dX12_image_34 : decode cX12_image 34 = .ok (.getfield 365, 3) := by decide +kernel
theorem dX12_image_37 : decode cX12_image 37 = .ok (.if_icmp .eq 5, 3) := by decide +kernel
theorem dX12_image_40 : decode cX12_image 40 = .ok (.iconst 0, 1) := by decide +kernel
theorem dX12_image_41 : decode cX12_image 41 = .ok (.ireturn, 1) := by decide +kernel
theorem dX12_image_42 : decode cX12_image 42 = .ok (.iconst 0, 1) := by decide +kernel
theorem dX12_image_43 : decode cX12_image 43 = .ok (.istore_n 3, 1) := by decide +kernel
theorem dX12_image_44 : decode cX12_image 44 = .ok (.iload_n 3, 1) := by decide +kernel
theorem dX12_image_45 : decode cX12_image 45 = .ok (.iconst 4, 1) := by decide +kernel
theorem dX12_image_46 : decode cX12_image 46 = .ok (.if_icmp .ge 48, 3) := by decide +kernel
theorem dX12_image_49 : decode cX12_image 49 = .ok (.iload_n 2, 1) := by decide +kernel
theorem dX12_image_50 : decode cX12_image 50 = .ok (.ifCond .eq 22, 3) := by decide +kernel
theorem dX12_image_53 : decode cX12_image 53 = .ok (.aload_n 0, 1) := by decide +kernel
theorem dX12_image_54 : decode cX12_image 54 = .ok (.getfield 215, 3) := by decide +kernel
theorem dX12_image_57 : decode cX12_image 57 = .ok (.iload_n 3, 1) := by decide +kernel
theorem dX12_image_58 : decode cX12_image 58 = .ok (.aload_n 0, 1) := by decide +kernel
theorem dX12_image_59 : decode cX12_image 59 = .ok (.getfield 257, 3) := by decide +kernel
theorem dX12_image_62 : decode cX12_image 62 = .ok (.iconst 4, 1) := by decide +kernel
theorem dX12_image_63 : decode cX12_image 63 = .ok (.iload_n 1, 1) := by decide +kernel
theorem dX12_image_64 : decode cX12_image 64 = .ok (.imul, 1) := by decide +kernel
theorem dX12_image_65 : decode cX12_image 65 = .ok (.iload_n 3, 1) := by decide +kernel
theorem dX12_image_66 : decode cX12_image 66 = .ok (.iadd, 1) := by decide +kernel
theorem dX12_image_67 : decode cX12_image 67 = .ok (.iaload, 1) := by decide +kernel
theorem dX12_image_68 : decode cX12_image 68 = .ok (.iastore, 1) := by decide +kernel
theorem dX12_image_69 : decode cX12_image 69 = .ok (.goto 19, 3) := by decide +kernel
theorem dX12_image_72 : decode cX12_image 72 = .ok (.aload_n 0, 1) := by decide +kernel
theorem dX12_image_73 : decode cX12_image 73 = .ok (.getfield 257, 3) := by decide +kernel
theorem dX12_image_76 : decode cX12_image 76 = .ok (.iconst 4, 1) := by decide +kernel
theorem dX12_image_77 : decode cX12_image 77 = .ok (.iload_n 1, 1) := by decide +kernel
theorem dX12_image_78 : decode cX12_image 78 = .ok (.imul, 1) := by decide +kernel
theorem dX12_image_79 : decode cX12_image 79 = .ok (.iload_n 3, 1) := by decide +kernel
theorem dX12_image_80 : decode cX12_image 80 = .ok (.iadd, 1) := by decide +kernel
theorem dX12_image_81 : decode cX12_image 81 = .ok (.aload_n 0, 1) := by decide +kernel
theorem dX12_image_82 : decode cX12_image 82 = .ok (.getfield 215, 3) := by decide +kernel
theorem dX12_image_85 : decode cX12_image 85 = .ok (.iload_n 3, 1) := by decide +kernel
theorem dX12_image_86 : decode cX12_image 86 = .ok (.iaload, 1) := by decide +kernel
theorem dX12_image_87 : decode cX12_image 87 = .ok (.iastore, 1) := by decide +kernel
theorem dX12_image_88 : decode cX12_image 88 = .ok (.iinc 3 1, 3) := by decide +kernel
theorem dX12_image_91 : decode cX12_image 91 = .ok (.goto (-47), 3) := by decide +kernel
theorem dX12_image_94 : decode cX12_image 94 = .ok (.iconst 0, 1) := by decide +kernel
theorem dX12_image_95 : decode cX12_image 95 = .ok (.istore_n 3, 1) := by decide +kernel
theorem dX12_image_96 : decode cX12_image 96 = .ok (.iload_n 3, 1) := by decide +kernel
theorem dX12_image_97 : decode cX12_image 97 = .ok (.sipush 724, 3) := by decide +kernel
theorem dX12_image_100 : decode cX12_image 100 = .ok (.if_icmp .ge 52, 3) := by decide +kernel
theorem dX12_image_103 : decode cX12_image 103 = .ok (.iload_n 2, 1) := by decide +kernel
theorem dX12_image_104 : decode cX12_image 104 = .ok (.ifCond .eq 24, 3) := by decide +kernel
theorem dX12_image_107 : decode cX12_image 107 = .ok (.aload_n 0, 1) := by decide +kernel
theorem dX12_image_108 : decode cX12_image 108 = .ok (.getfield 218, 3) := by decide +kernel
theorem dX12_image_111 : decode cX12_image 111 = .ok (.iload_n 3, 1) := by decide +kernel
theorem dX12_image_112 : decode cX12_image 112 = .ok (.aload_n 0, 1) := by decide +kernel
theorem dX12_image_113 : decode cX12_image 113 = .ok (.getfield 260, 3) := by decide +kernel
theorem dX12_image_116 : decode cX12_image 116 = .ok (.sipush 724, 3) := by decide +kernel
theorem dX12_image_119 : decode cX12_image 119 = .ok (.iload_n 1, 1) := by decide +kernel
theorem dX12_image_120 : decode cX12_image 120 = .ok (.imul, 1) := by decide +kernel
theorem dX12_image_121 : decode cX12_image 121 = .ok (.iload_n 3, 1) := by decide +kernel
theorem dX12_image_122 : decode cX12_image 122 = .ok (.iadd, 1) := by decide +kernel
theorem dX12_image_123 : decode cX12_image 123 = .ok (.iaload, 1) := by decide +kernel
theorem dX12_image_124 : decode cX12_image 124 = .ok (.iastore, 1) := by decide +kernel
theorem dX12_image_125 : decode cX12_image 125 = .ok (.goto 21, 3) := by decide +kernel
theorem dX12_image_128 : decode cX12_image 128 = .ok (.aload_n 0, 1) := by decide +kernel
theorem dX12_image_129 : decode cX12_image 129 = .ok (.getfield 260, 3) := by decide +kernel
theorem dX12_image_132 : decode cX12_image 132 = .ok (.sipush 724, 3) := by decide +kernel
theorem dX12_image_135 : decode cX12_image 135 = .ok (.iload_n 1, 1) := by decide +kernel
theorem dX12_image_136 : decode cX12_image 136 = .ok (.imul, 1) := by decide +kernel
theorem dX12_image_137 : decode cX12_image 137 = .ok (.iload_n 3, 1) := by decide +kernel
theorem dX12_image_138 : decode cX12_image 138 = .ok (.iadd, 1) := by decide +kernel
theorem dX12_image_139 : decode cX12_image 139 = .ok (.aload_n 0, 1) := by decide +kernel
theorem dX12_image_140 : decode cX12_image 140 = .ok (.getfield 218, 3) := by decide +kernel
theorem dX12_image_143 : decode cX12_image 143 = .ok (.iload_n 3, 1) := by decide +kernel
theorem dX12_image_144 : decode cX12_image 144 = .ok (.iaload, 1) := by decide +kernel
theorem dX12_image_145 : decode cX12_image 145 = .ok (.iastore, 1) := by decide +kernel
theorem dX12_image_146 : decode cX12_image 146 = .ok (.iinc 3 1, 3) := by decide +kernel
theorem dX12_image_149 : decode cX12_image 149 = .ok (.goto (-53), 3) := by decide +kernel
theorem dX12_image_152 : decode cX12_image 152 = .ok (.iconst 0, 1) := by decide +kernel
theorem dX12_image_153 : decode cX12_image 153 = .ok (.istore_n 3, 1) := by decide +kernel
theorem dX12_image_154 : decode cX12_image 154 = .ok (.iload_n 3, 1) := by decide +kernel
theorem dX12_image_155 : decode cX12_image 155 = .ok (.bipush 8, 2) := by decide +kernel
theorem dX12_image_157 : decode cX12_image 157 = .ok (.if_icmp .ge 50, 3) := by decide +kernel
theorem dX12_image_160 : decode cX12_image 160 = .ok (.iload_n 2, 1) := by decide +kernel
theorem dX12_image_161 : decode cX12_image 161 = .ok (.ifCond .eq 23, 3) := by decide +kernel
theorem dX12_image_164 : decode cX12_image 164 = .ok (.aload_n 0, 1) := by decide +kernel
theorem dX12_image_165 : decode cX12_image 165 = .ok (.getfield 221, 3) := by decide +kernel
theorem dX12_image_168 : decode cX12_image 168 = .ok (.iload_n 3, 1) := by decide +kernel
theorem dX12_image_169 : decode cX12_image 169 = .ok (.aload_n 0, 1) := by decide +kernel
theorem dX12_image_170 : decode cX12_image 170 = .ok (.getfield 263, 3) := by decide +kernel
theorem dX12_image_173 : decode cX12_image 173 = .ok (.bipush 8, 2) := by decide +kernel
theorem dX12_image_175 : decode cX12_image 175 = .ok (.iload_n 1, 1) := by decide +kernel
theorem dX12_image_176 : decode cX12_image 176 = .ok (.imul, 1) := by decide +kernel
theorem dX12_image_177 : decode cX12_image 177 = .ok (.iload_n 3, 1) := by decide +kernel
theorem dX12_image_178 : decode cX12_image 178 = .ok (.iadd, 1) := by decide +kernel
theorem dX12_image_179 : decode cX12_image 179 = .ok (.baload, 1) := by decide +kernel
theorem dX12_image_180 : decode cX12_image 180 = .ok (.bastore, 1) := by decide +kernel
theorem dX12_image_181 : decode cX12_image 181 = .ok (.goto 20, 3) := by decide +kernel
theorem dX12_image_184 : decode cX12_image 184 = .ok (.aload_n 0, 1) := by decide +kernel
theorem dX12_image_185 : decode cX12_image 185 = .ok (.getfield 263, 3) := by decide +kernel
theorem dX12_image_188 : decode cX12_image 188 = .ok (.bipush 8, 2) := by decide +kernel
theorem dX12_image_190 : decode cX12_image 190 = .ok (.iload_n 1, 1) := by decide +kernel
theorem dX12_image_191 : decode cX12_image 191 = .ok (.imul, 1) := by decide +kernel
theorem dX12_image_192 : decode cX12_image 192 = .ok (.iload_n 3, 1) := by decide +kernel
theorem dX12_image_193 : decode cX12_image 193 = .ok (.iadd, 1) := by decide +kernel
theorem dX12_image_194 : decode cX12_image 194 = .ok (.aload_n 0, 1) := by decide +kernel
theorem dX12_image_195 : decode cX12_image 195 = .ok (.getfield 221, 3) := by decide +kernel
theorem dX12_image_198 : decode cX12_image 198 = .ok (.iload_n 3, 1) := by decide +kernel
theorem dX12_image_199 : decode cX12_image 199 = .ok (.baload, 1) := by decide +kernel
theorem dX12_image_200 : decode cX12_image 200 = .ok (.bastore, 1) := by decide +kernel
theorem dX12_image_201 : decode cX12_image 201 = .ok (.iinc 3 1, 3) := by decide +kernel
theorem dX12_image_204 : decode cX12_image 204 = .ok (.goto (-50), 3) := by decide +kernel
theorem dX12_image_207 : decode cX12_image 207 = .ok (.iconst 0, 1) := by decide +kernel
theorem dX12_image_208 : decode cX12_image 208 = .ok (.istore_n 3, 1) := by decide +kernel
theorem dX12_image_209 : decode cX12_image 209 = .ok (.iload_n 3, 1) := by decide +kernel
theorem dX12_image_210 : decode cX12_image 210 = .ok (.bipush 104, 2) := by decide +kernel
theorem dX12_image_212 : decode cX12_image 212 = .ok (.if_icmp .ge 50, 3) := by decide +kernel
theorem dX12_image_215 : decode cX12_image 215 = .ok (.iload_n 2, 1) := by decide +kernel
theorem dX12_image_216 : decode cX12_image 216 = .ok (.ifCond .eq 23, 3) := by decide +kernel
theorem dX12_image_219 : decode cX12_image 219 = .ok (.aload_n 0, 1) := by decide +kernel
theorem dX12_image_220 : decode cX12_image 220 = .ok (.getfield 250, 3) := by decide +kernel
theorem dX12_image_223 : decode cX12_image 223 = .ok (.iload_n 3, 1) := by decide +kernel
theorem dX12_image_224 : decode cX12_image 224 = .ok (.aload_n 0, 1) := by decide +kernel
theorem dX12_image_225 : decode cX12_image 225 = .ok (.getfield 266, 3) := by decide +kernel
theorem dX12_image_228 : decode cX12_image 228 = .ok (.bipush 104, 2) := by decide +kernel
theorem dX12_image_230 : decode cX12_image 230 = .ok (.iload_n 1, 1) := by decide +kernel
theorem dX12_image_231 : decode cX12_image 231 = .ok (.imul, 1) := by decide +kernel
theorem dX12_image_232 : decode cX12_image 232 = .ok (.iload_n 3, 1) := by decide +kernel
theorem dX12_image_233 : decode cX12_image 233 = .ok (.iadd, 1) := by decide +kernel
theorem dX12_image_234 : decode cX12_image 234 = .ok (.laload, 1) := by decide +kernel
theorem dX12_image_235 : decode cX12_image 235 = .ok (.lastore, 1) := by decide +kernel
theorem dX12_image_236 : decode cX12_image 236 = .ok (.goto 20, 3) := by decide +kernel
theorem dX12_image_239 : decode cX12_image 239 = .ok (.aload_n 0, 1) := by decide +kernel
theorem dX12_image_240 : decode cX12_image 240 = .ok (.getfield 266, 3) := by decide +kernel
theorem dX12_image_243 : decode cX12_image 243 = .ok (.bipush 104, 2) := by decide +kernel
theorem dX12_image_245 : decode cX12_image 245 = .ok (.iload_n 1, 1) := by decide +kernel
theorem dX12_image_246 : decode cX12_image 246 = .ok (.imul, 1) := by decide +kernel
theorem dX12_image_247 : decode cX12_image 247 = .ok (.iload_n 3, 1) := by decide +kernel
theorem dX12_image_248 : decode cX12_image 248 = .ok (.iadd, 1) := by decide +kernel
theorem dX12_image_249 : decode cX12_image 249 = .ok (.aload_n 0, 1) := by decide +kernel
theorem dX12_image_250 : decode cX12_image 250 = .ok (.getfield 250, 3) := by decide +kernel
theorem dX12_image_253 : decode cX12_image 253 = .ok (.iload_n 3, 1) := by decide +kernel
theorem dX12_image_254 : decode cX12_image 254 = .ok (.laload, 1) := by decide +kernel
theorem dX12_image_255 : decode cX12_image 255 = .ok (.lastore, 1) := by decide +kernel
theorem dX12_image_256 : decode cX12_image 256 = .ok (.iinc 3 1, 3) := by decide +kernel
theorem dX12_image_259 : decode cX12_image 259 = .ok (.goto (-50), 3) := by decide +kernel
theorem dX12_image_262 : decode cX12_image 262 = .ok (.iload_n 2, 1) := by decide +kernel
theorem dX12_image_263 : decode cX12_image 263 = .ok (.ifCond .ne 20, 3) := by decide +kernel
theorem dX12_image_266 : decode cX12_image 266 = .ok (.aload_n 0, 1) := by decide +kernel
theorem dX12_image_267 : decode cX12_image 267 = .ok (.getfield 225, 3) := by decide +kernel
theorem dX12_image_270 : decode cX12_image 270 = .ok (.iload_n 1, 1) := by decide +kernel
theorem dX12_image_271 : decode cX12_image 271 = .ok (.iconst 1, 1) := by decide +kernel
theorem dX12_image_272 : decode cX12_image 272 = .ok (.bastore, 1) := by decide +kernel
theorem dX12_image_273 : decode cX12_image 273 = .ok (.aload_n 0, 1) := by decide +kernel
theorem dX12_image_274 : decode cX12_image 274 = .ok (.getfield 254, 3) := by decide +kernel
theorem dX12_image_277 : decode cX12_image 277 = .ok (.iload_n 1, 1) := by decide +kernel
theorem dX12_image_278 : decode cX12_image 278 = .ok (.aload_n 0, 1) := by decide +kernel
theorem dX12_image_279 : decode cX12_image 279 = .ok (.getfield 365, 3) := by decide +kernel
theorem dX12_image_282 : decode cX12_image 282 = .ok (.iastore, 1) := by decide +kernel
theorem dX12_image_283 : decode cX12_image 283 = .ok (.iconst 1, 1) := by decide +kernel
theorem dX12_image_284 : decode cX12_image 284 = .ok (.ireturn, 1) := by decide +kernel
