theorem in_X0 : ∀ w ∈ wsX00, w ∈ j_tbl := j_pl [217, 219, 221, 223, 225, 227, 229, 231, 233, 235, 237] (by decide +kernel) (by decide +kernel)
theorem in_X11 : ∀ w ∈ wsX110, w ∈ j_tbl := j_pl [286, 288, 290, 292, 294, 296, 298, 300, 302, 304, 306, 308, 310] (by decide +kernel) (by decide +kernel)
theorem in_X12 : ∀ w ∈ wsX120, w ∈ j_tbl := j_pl [1133, 1135, 1137, 1139, 1141, 1143, 1145, 1147, 1149, 1151, 1153, 1155, 1157, 1159, 1161, 1163, 1165, 1167, 1169, 1171, 1173, 1175, 1177, 1179, 1181, 1183, 1185, 1187, 1189, 1191, 1193, 1195, 1197, 1199, 1201, 1203, 1205, 1207, 1209, 1211, 1213, 1215, 1217, 1219, 1221, 1223, 1225, 1227, 1229, 1231, 1233] (by decide +kernel) (by decide +kernel)
theorem in_X2 : ∀ w ∈ wsX20, w ∈ j_tbl := j_pl [53, 55] (by decide +kernel) (by decide +kernel)
theorem in_X3 : ∀ w ∈ wsX30, w ∈ j_tbl := j_pl [251, 253, 255] (by decide +kernel) (by decide +kernel)
theorem in_X5 : ∀ w ∈ wsX50, w ∈ j_tbl := j_pl [157, 159, 161, 163, 165, 167] (by decide +kernel) (by decide +kernel)
theorem in_X6 : ∀ w ∈ wsX60, w ∈ j_tbl := j_pl [79, 81, 83] (by decide +kernel) (by decide +kernel)
theorem in_X7 : ∀ w ∈ wsX70, w ∈ j_tbl := j_pl [122, 124, 126, 128, 130, 132, 134, 136] (by decide +kernel) (by decide +kernel)
theorem in_X8 : ∀ w ∈ wsX80, w ∈ j_tbl := j_pl [140] (by decide +kernel) (by decide +kernel)
theorem in_X9 : ∀ w ∈ wsX90, w ∈ j_tbl := j_pl [191, 193, 195, 197] (by decide +kernel) (by decide +kernel)
theorem cn_Jxf58ca_77 : Cond.constant RJxf58ca 77 (2143289344) ∈ j_tbl := (j_at 1332 (by decide +kernel) rfl)
theorem cn_X10_47 : Cond.constantLong RX10 47 (12) ∈ j_tbl := (j_at 670 (by decide +kernel) rfl)
theorem cn_X10_49 : Cond.constantLong RX10 49 (-9223372036854775808) ∈ j_tbl := (j_at 655 (by decide +kernel) rfl)
theorem cn_X10_51 : Cond.constantLong RX10 51 (24) ∈ j_tbl := (j_at 671 (by decide +kernel) rfl)
theorem cn_X10_53 : Cond.constantLong RX10 53 (4611686018427387904) ∈ j_tbl := (j_at 659 (by decide +kernel) rfl)
theorem cn_X10_55 : Cond.constantLong RX10 55 (-4611686018427387904) ∈ j_tbl := (j_at 663 (by decide +kernel) rfl)
theorem cn_X10_81 : Cond.constantFloat RX10 81 (1258291200) ∈ j_tbl := (j_at 698 (by decide +kernel) rfl)
theorem cn_X10_84 : Cond.constant RX10 84 (-2147483648) ∈ j_tbl := (j_at 699 (by decide +kernel) rfl)
theorem cn_X10_85 : Cond.constant RX10 85 (8388608) ∈ j_tbl := (j_at 700 (by decide +kernel) rfl)
theorem cn_X11_183 : Cond.constantLong RX11 183 (-9223372036854775807) ∈ j_tbl := (j_at 639 (by decide +kernel) rfl)
theorem cn_X11_195 : Cond.constant RX11 195 (-2147483648) ∈ j_tbl := (j_at 689 (by decide +kernel) rfl)
theorem cn_X11_196 : Cond.constantLong RX11 196 (-9223372036854775808) ∈ j_tbl := (j_at 690 (by decide +kernel) rfl)
theorem cn_X12_103 : Cond.constant RX12 103 (99999) ∈ j_tbl := (j_at 995 (by decide +kernel) rfl)
theorem cn_X12_22 : Cond.constantLong RX12 22 (240) ∈ j_tbl := (j_at 972 (by decide +kernel) rfl)
theorem cn_X12_27 : Cond.constantLong RX12 27 (-504) ∈ j_tbl := (j_at 977 (by decide +kernel) rfl)
theorem cn_X12_291 : Cond.constantLong RX12 291 (4611686018427387904) ∈ j_tbl := (j_at 1305 (by decide +kernel) rfl)
theorem cn_X12_297 : Cond.constantLong RX12 297 (-4611686018427387904) ∈ j_tbl := (j_at 1310 (by decide +kernel) rfl)
theorem cn_X12_306 : Cond.constantLong RX12 306 (12) ∈ j_tbl := (j_at 1311 (by decide +kernel) rfl)
theorem cn_X12_308 : Cond.constantLong RX12 308 (24) ∈ j_tbl := (j_at 1312 (by decide +kernel) rfl)
theorem cn_X12_315 : Cond.constantLong RX12 315 (-9223372036854775807) ∈ j_tbl := (j_at 1296 (by decide +kernel) rfl)
theorem cn_X12_321 : Cond.constantLong RX12 321 (-9223372036854775808) ∈ j_tbl := (j_at 1313 (by decide +kernel) rfl)
theorem cn_X12_325 : Cond.constant RX12 325 (-2147483648) ∈ j_tbl := (j_at 1322 (by decide +kernel) rfl)
theorem cn_X12_39 : Cond.constantLong RX12 39 (1728) ∈ j_tbl := (j_at 982 (by decide +kernel) rfl)
theorem fg_X0_110 : j_f RX0 110 1 0 := ⟨RX2, TX2, 2, rfl, by decide, in_X2, (j_at 48 (by decide +kernel) rfl)⟩
theorem fg_X0_13 : j_f RX0 13 0 3 := ⟨RX0, TX0, 11, rfl, by decide, in_X0, (j_at 208 (by decide +kernel) rfl)⟩
theorem fg_X0_153 : j_f RX0 153 1 1 := ⟨RX2, TX2, 2, rfl, by decide, in_X2, (j_at 52 (by decide +kernel) rfl)⟩
theorem fg_X0_19 : j_f RX0 19 0 4 := ⟨RX0, TX0, 11, rfl, by decide, in_X0, (j_at 210 (by decide +kernel) rfl)⟩
theorem fg_X0_26 : j_f RX0 26 0 5 := ⟨RX0, TX0, 11, rfl, by decide, in_X0, (j_at 211 (by decide +kernel) rfl)⟩
theorem fg_X0_30 : j_f RX0 30 0 7 := ⟨RX0, TX0, 11, rfl, by decide, in_X0, (j_at 213 (by decide +kernel) rfl)⟩
theorem fg_X0_33 : j_f RX0 33 0 8 := ⟨RX0, TX0, 11, rfl, by decide, in_X0, (j_at 214 (by decide +kernel) rfl)⟩
theorem fg_X0_36 : j_f RX0 36 0 9 := ⟨RX0, TX0, 11, rfl, by decide, in_X0, (j_at 215 (by decide +kernel) rfl)⟩
theorem fg_X0_42 : j_f RX0 42 0 10 := ⟨RX0, TX0, 11, rfl, by decide, in_X0, (j_at 216 (by decide +kernel) rfl)⟩
theorem fg_X0_50 : j_f RX0 50 0 6 := ⟨RX0, TX0, 11, rfl, by decide, in_X0, (j_at 212 (by decide +kernel) rfl)⟩
theorem fg_X0_54 : j_f RX0 54 0 1 := ⟨RX0, TX0, 11, rfl, by decide, in_X0, (j_at 204 (by decide +kernel) rfl)⟩
theorem fg_X0_57 : j_f RX0 57 0 2 := ⟨RX0, TX0, 11, rfl, by decide, in_X0, (j_at 206 (by decide +kernel) rfl)⟩
theorem fg_X0_60 : j_f RX0 60 7 0 := ⟨RX9, TX9, 4, rfl, by decide, in_X9, (j_at 184 (by decide +kernel) rfl)⟩
theorem fg_X0_63 : j_f RX0 63 7 2 := ⟨RX9, TX9, 4, rfl, by decide, in_X9, (j_at 188 (by decide +kernel) rfl)⟩
theorem fg_X0_66 : j_f RX0 66 7 3 := ⟨RX9, TX9, 4, rfl, by decide, in_X9, (j_at 190 (by decide +kernel) rfl)⟩
theorem fg_X0_69 : j_f RX0 69 7 1 := ⟨RX9, TX9, 4, rfl, by decide, in_X9, (j_at 186 (by decide +kernel) rfl)⟩
theorem fg_X11_102 : j_f RX11 102 0 0 := ⟨RX0, TX0, 11, rfl, by decide, in_X0, (j_at 202 (by decide +kernel) rfl)⟩
theorem fg_X11_105 : j_f RX11 105 0 1 := ⟨RX0, TX0, 11, rfl, by decide, in_X0, (j_at 205 (by decide +kernel) rfl)⟩
theorem fg_X11_106 : j_f RX11 106 0 2 := ⟨RX0, TX0, 11, rfl, by decide, in_X0, (j_at 207 (by decide +kernel) rfl)⟩
theorem fg_X11_109 : j_f RX11 109 8 3 := ⟨RX11, TX11, 13, rfl, by decide, in_X11, (j_at 276 (by decide +kernel) rfl)⟩
theorem fg_X11_110 : j_f RX11 110 0 3 := ⟨RX0, TX0, 11, rfl, by decide, in_X0, (j_at 209 (by decide +kernel) rfl)⟩
theorem fg_X11_121 : j_f RX11 121 2 0 := ⟨RX3, TX3, 3, rfl, by decide, in_X3, (j_at 248 (by decide +kernel) rfl)⟩
theorem fg_X11_13 : j_f RX11 13 8 2 := ⟨RX11, TX11, 13, rfl, by decide, in_X11, (j_at 275 (by decide +kernel) rfl)⟩
theorem fg_X11_132 : j_f RX11 132 1 0 := ⟨RX2, TX2, 2, rfl, by decide, in_X2, (j_at 46 (by decide +kernel) rfl)⟩
theorem fg_X11_139 : j_f RX11 139 1 1 := ⟨RX2, TX2, 2, rfl, by decide, in_X2, (j_at 50 (by decide +kernel) rfl)⟩
theorem fg_X11_21 : j_f RX11 21 8 4 := ⟨RX11, TX11, 13, rfl, by decide, in_X11, (j_at 277 (by decide +kernel) rfl)⟩
theorem fg_X11_227 : j_f RX11 227 5 1 := ⟨RX7, TX7, 8, rfl, by decide, in_X7, (j_at 111 (by decide +kernel) rfl)⟩
theorem fg_X11_247 : j_f RX11 247 5 2 := ⟨RX7, TX7, 8, rfl, by decide, in_X7, (j_at 114 (by decide +kernel) rfl)⟩
theorem fg_X11_25 : j_f RX11 25 8 5 := ⟨RX11, TX11, 13, rfl, by decide, in_X11, (j_at 278 (by decide +kernel) rfl)⟩
theorem fg_X11_258 : j_f RX11 258 3 0 := ⟨RX5, TX5, 6, rfl, by decide, in_X5, (j_at 151 (by decide +kernel) rfl)⟩
theorem fg_X11_265 : j_f RX11 265 5 6 := ⟨RX7, TX7, 8, rfl, by decide, in_X7, (j_at 120 (by decide +kernel) rfl)⟩
theorem fg_X11_268 : j_f RX11 268 5 5 := ⟨RX7, TX7, 8, rfl, by decide, in_X7, (j_at 119 (by decide +kernel) rfl)⟩
theorem fg_X11_271 : j_f RX11 271 5 7 := ⟨RX7, TX7, 8, rfl, by decide, in_X7, (j_at 121 (by decide +kernel) rfl)⟩
theorem fg_X11_285 : j_f RX11 285 4 2 := ⟨RX6, TX6, 3, rfl, by decide, in_X6, (j_at 78 (by decide +kernel) rfl)⟩
theorem fg_X11_298 : j_f RX11 298 4 1 := ⟨RX6, TX6, 3, rfl, by decide, in_X6, (j_at 76 (by decide +kernel) rfl)⟩
theorem fg_X11_32 : j_f RX11 32 8 6 := ⟨RX11, TX11, 13, rfl, by decide, in_X11, (j_at 279 (by decide +kernel) rfl)⟩
theorem fg_X11_38 : j_f RX11 38 8 7 := ⟨RX11, TX11, 13, rfl, by decide, in_X11, (j_at 280 (by decide +kernel) rfl)⟩
theorem fg_X11_45 : j_f RX11 45 8 8 := ⟨RX11, TX11, 13, rfl, by decide, in_X11, (j_at 281 (by decide +kernel) rfl)⟩
theorem fg_X11_52 : j_f RX11 52 8 9 := ⟨RX11, TX11, 13, rfl, by decide, in_X11, (j_at 282 (by decide +kernel) rfl)⟩
theorem fg_X11_59 : j_f RX11 59 8 10 := ⟨RX11, TX11, 13, rfl, by decide, in_X11, (j_at 283 (by decide +kernel) rfl)⟩
theorem fg_X11_66 : j_f RX11 66 8 11 := ⟨RX11, TX11, 13, rfl, by decide, in_X11, (j_at 284 (by decide +kernel) rfl)⟩
theorem fg_X11_70 : j_f RX11 70 8 12 := ⟨RX11, TX11, 13, rfl, by decide, in_X11, (j_at 285 (by decide +kernel) rfl)⟩
theorem fg_X11_75 : j_f RX11 75 4 0 := ⟨RX6, TX6, 3, rfl, by decide, in_X6, (j_at 72 (by decide +kernel) rfl)⟩
theorem fg_X11_84 : j_f RX11 84 8 1 := ⟨RX11, TX11, 13, rfl, by decide, in_X11, (j_at 274 (by decide +kernel) rfl)⟩
theorem fg_X11_9 : j_f RX11 9 8 0 := ⟨RX11, TX11, 13, rfl, by decide, in_X11, (j_at 273 (by decide +kernel) rfl)⟩
theorem fg_X12_1 : j_f RX12 1 9 0 := ⟨RX12, TX12, 51, rfl, by decide, in_X12, (j_at 1082 (by decide +kernel) rfl)⟩
theorem fg_X12_100 : j_f RX12 100 9 17 := ⟨RX12, TX12, 51, rfl, by decide, in_X12, (j_at 1099 (by decide +kernel) rfl)⟩
theorem fg_X12_108 : j_f RX12 108 9 18 := ⟨RX12, TX12, 51, rfl, by decide, in_X12, (j_at 1100 (by decide +kernel) rfl)⟩
theorem fg_X12_129 : j_f RX12 129 9 22 := ⟨RX12, TX12, 51, rfl, by decide, in_X12, (j_at 1104 (by decide +kernel) rfl)⟩
theorem fg_X12_132 : j_f RX12 132 9 23 := ⟨RX12, TX12, 51, rfl, by decide, in_X12, (j_at 1105 (by decide +kernel) rfl)⟩
theorem fg_X12_135 : j_f RX12 135 9 24 := ⟨RX12, TX12, 51, rfl, by decide, in_X12, (j_at 1106 (by decide +kernel) rfl)⟩
theorem fg_X12_142 : j_f RX12 142 9 28 := ⟨RX12, TX12, 51, rfl, by decide, in_X12, (j_at 1110 (by decide +kernel) rfl)⟩
theorem fg_X12_145 : j_f RX12 145 9 27 := ⟨RX12, TX12, 51, rfl, by decide, in_X12, (j_at 1109 (by decide +kernel) rfl)⟩
theorem fg_X12_148 : j_f RX12 148 9 29 := ⟨RX12, TX12, 51, rfl, by decide, in_X12, (j_at 1111 (by decide +kernel) rfl)⟩
theorem fg_X12_158 : j_f RX12 158 9 30 := ⟨RX12, TX12, 51, rfl, by decide, in_X12, (j_at 1112 (by decide +kernel) rfl)⟩
theorem fg_X12_174 : j_f RX12 174 9 25 := ⟨RX12, TX12, 51, rfl, by decide, in_X12, (j_at 1107 (by decide +kernel) rfl)⟩
theorem fg_X12_177 : j_f RX12 177 9 26 := ⟨RX12, TX12, 51, rfl, by decide, in_X12, (j_at 1108 (by decide +kernel) rfl)⟩
theorem fg_X12_18 : j_f RX12 18 9 2 := ⟨RX12, TX12, 51, rfl, by decide, in_X12, (j_at 1084 (by decide +kernel) rfl)⟩
theorem fg_X12_206 : j_f RX12 206 9 19 := ⟨RX12, TX12, 51, rfl, by decide, in_X12, (j_at 1101 (by decide +kernel) rfl)⟩
theorem fg_X12_209 : j_f RX12 209 9 20 := ⟨RX12, TX12, 51, rfl, by decide, in_X12, (j_at 1102 (by decide +kernel) rfl)⟩
theorem fg_X12_212 : j_f RX12 212 9 21 := ⟨RX12, TX12, 51, rfl, by decide, in_X12, (j_at 1103 (by decide +kernel) rfl)⟩
theorem fg_X12_215 : j_f RX12 215 9 31 := ⟨RX12, TX12, 51, rfl, by decide, in_X12, (j_at 1113 (by decide +kernel) rfl)⟩
theorem fg_X12_218 : j_f RX12 218 9 32 := ⟨RX12, TX12, 51, rfl, by decide, in_X12, (j_at 1114 (by decide +kernel) rfl)⟩
theorem fg_X12_221 : j_f RX12 221 9 43 := ⟨RX12, TX12, 51, rfl, by decide, in_X12, (j_at 1125 (by decide +kernel) rfl)⟩
theorem fg_X12_225 : j_f RX12 225 9 45 := ⟨RX12, TX12, 51, rfl, by decide, in_X12, (j_at 1127 (by decide +kernel) rfl)⟩
theorem fg_X12_233 : j_f RX12 233 9 34 := ⟨RX12, TX12, 51, rfl, by decide, in_X12, (j_at 1116 (by decide +kernel) rfl)⟩
theorem fg_X12_236 : j_f RX12 236 9 36 := ⟨RX12, TX12, 51, rfl, by decide, in_X12, (j_at 1118 (by decide +kernel) rfl)⟩
theorem fg_X12_239 : j_f RX12 239 9 37 := ⟨RX12, TX12, 51, rfl, by decide, in_X12, (j_at 1119 (by decide +kernel) rfl)⟩
theorem fg_X12_24 : j_f RX12 24 9 3 := ⟨RX12, TX12, 51, rfl, by decide, in_X12, (j_at 1085 (by decide +kernel) rfl)⟩
theorem fg_X12_241 : j_f RX12 241 9 38 := ⟨RX12, TX12, 51, rfl, by decide, in_X12, (j_at 1120 (by decide +kernel) rfl)⟩
theorem fg_X12_244 : j_f RX12 244 9 40 := ⟨RX12, TX12, 51, rfl, by decide, in_X12, (j_at 1122 (by decide +kernel) rfl)⟩
theorem fg_X12_247 : j_f RX12 247 9 41 := ⟨RX12, TX12, 51, rfl, by decide, in_X12, (j_at 1123 (by decide +kernel) rfl)⟩
theorem fg_X12_250 : j_f RX12 250 9 44 := ⟨RX12, TX12, 51, rfl, by decide, in_X12, (j_at 1126 (by decide +kernel) rfl)⟩
theorem fg_X12_254 : j_f RX12 254 9 46 := ⟨RX12, TX12, 51, rfl, by decide, in_X12, (j_at 1128 (by decide +kernel) rfl)⟩
theorem fg_X12_257 : j_f RX12 257 9 47 := ⟨RX12, TX12, 51, rfl, by decide, in_X12, (j_at 1129 (by decide +kernel) rfl)⟩
theorem fg_X12_260 : j_f RX12 260 9 48 := ⟨RX12, TX12, 51, rfl, by decide, in_X12, (j_at 1130 (by decide +kernel) rfl)⟩
theorem fg_X12_263 : j_f RX12 263 9 49 := ⟨RX12, TX12, 51, rfl, by decide, in_X12, (j_at 1131 (by decide +kernel) rfl)⟩
theorem fg_X12_266 : j_f RX12 266 9 50 := ⟨RX12, TX12, 51, rfl, by decide, in_X12, (j_at 1132 (by decide +kernel) rfl)⟩
theorem fg_X12_29 : j_f RX12 29 9 5 := ⟨RX12, TX12, 51, rfl, by decide, in_X12, (j_at 1087 (by decide +kernel) rfl)⟩
theorem fg_X12_293 : j_f RX12 293 9 33 := ⟨RX12, TX12, 51, rfl, by decide, in_X12, (j_at 1115 (by decide +kernel) rfl)⟩
theorem fg_X12_342 : j_f RX12 342 9 35 := ⟨RX12, TX12, 51, rfl, by decide, in_X12, (j_at 1117 (by decide +kernel) rfl)⟩
theorem fg_X12_352 : j_f RX12 352 9 39 := ⟨RX12, TX12, 51, rfl, by decide, in_X12, (j_at 1121 (by decide +kernel) rfl)⟩
theorem fg_X12_36 : j_f RX12 36 9 4 := ⟨RX12, TX12, 51, rfl, by decide, in_X12, (j_at 1086 (by decide +kernel) rfl)⟩
theorem fg_X12_365 : j_f RX12 365 9 42 := ⟨RX12, TX12, 51, rfl, by decide, in_X12, (j_at 1124 (by decide +kernel) rfl)⟩
theorem fg_X12_49 : j_f RX12 49 9 7 := ⟨RX12, TX12, 51, rfl, by decide, in_X12, (j_at 1089 (by decide +kernel) rfl)⟩
theorem fg_X12_55 : j_f RX12 55 9 6 := ⟨RX12, TX12, 51, rfl, by decide, in_X12, (j_at 1088 (by decide +kernel) rfl)⟩
theorem fg_X12_62 : j_f RX12 62 9 8 := ⟨RX12, TX12, 51, rfl, by decide, in_X12, (j_at 1090 (by decide +kernel) rfl)⟩
theorem fg_X12_69 : j_f RX12 69 9 10 := ⟨RX12, TX12, 51, rfl, by decide, in_X12, (j_at 1092 (by decide +kernel) rfl)⟩
theorem fg_X12_7 : j_f RX12 7 9 1 := ⟨RX12, TX12, 51, rfl, by decide, in_X12, (j_at 1083 (by decide +kernel) rfl)⟩
theorem fg_X12_72 : j_f RX12 72 9 9 := ⟨RX12, TX12, 51, rfl, by decide, in_X12, (j_at 1091 (by decide +kernel) rfl)⟩
theorem fg_X12_75 : j_f RX12 75 9 12 := ⟨RX12, TX12, 51, rfl, by decide, in_X12, (j_at 1094 (by decide +kernel) rfl)⟩
theorem fg_X12_81 : j_f RX12 81 9 11 := ⟨RX12, TX12, 51, rfl, by decide, in_X12, (j_at 1093 (by decide +kernel) rfl)⟩
theorem fg_X12_85 : j_f RX12 85 9 13 := ⟨RX12, TX12, 51, rfl, by decide, in_X12, (j_at 1095 (by decide +kernel) rfl)⟩
theorem fg_X12_88 : j_f RX12 88 9 15 := ⟨RX12, TX12, 51, rfl, by decide, in_X12, (j_at 1097 (by decide +kernel) rfl)⟩
theorem fg_X12_94 : j_f RX12 94 9 14 := ⟨RX12, TX12, 51, rfl, by decide, in_X12, (j_at 1096 (by decide +kernel) rfl)⟩
theorem fg_X12_97 : j_f RX12 97 9 16 := ⟨RX12, TX12, 51, rfl, by decide, in_X12, (j_at 1098 (by decide +kernel) rfl)⟩
theorem fg_X2_15 : j_f RX2 15 1 0 := ⟨RX2, TX2, 2, rfl, by decide, in_X2, (j_at 45 (by decide +kernel) rfl)⟩
theorem fg_X2_9 : j_f RX2 9 1 1 := ⟨RX2, TX2, 2, rfl, by decide, in_X2, (j_at 49 (by decide +kernel) rfl)⟩
theorem fg_X3_13 : j_f RX3 13 2 1 := ⟨RX3, TX3, 3, rfl, by decide, in_X3, (j_at 249 (by decide +kernel) rfl)⟩
theorem fg_X3_23 : j_f RX3 23 2 2 := ⟨RX3, TX3, 3, rfl, by decide, in_X3, (j_at 250 (by decide +kernel) rfl)⟩
theorem fg_X3_31 : j_f RX3 31 2 0 := ⟨RX3, TX3, 3, rfl, by decide, in_X3, (j_at 247 (by decide +kernel) rfl)⟩
theorem fg_X3_35 : j_f RX3 35 4 0 := ⟨RX6, TX6, 3, rfl, by decide, in_X6, (j_at 74 (by decide +kernel) rfl)⟩
theorem fg_X5_17 : j_f RX5 17 3 1 := ⟨RX5, TX5, 6, rfl, by decide, in_X5, (j_at 152 (by decide +kernel) rfl)⟩
theorem fg_X5_20 : j_f RX5 20 3 2 := ⟨RX5, TX5, 6, rfl, by decide, in_X5, (j_at 153 (by decide +kernel) rfl)⟩
theorem fg_X5_23 : j_f RX5 23 3 3 := ⟨RX5, TX5, 6, rfl, by decide, in_X5, (j_at 154 (by decide +kernel) rfl)⟩
theorem fg_X5_26 : j_f RX5 26 5 0 := ⟨RX7, TX7, 8, rfl, by decide, in_X7, (j_at 109 (by decide +kernel) rfl)⟩
theorem fg_X5_36 : j_f RX5 36 3 4 := ⟨RX5, TX5, 6, rfl, by decide, in_X5, (j_at 155 (by decide +kernel) rfl)⟩
theorem fg_X5_39 : j_f RX5 39 5 3 := ⟨RX7, TX7, 8, rfl, by decide, in_X7, (j_at 116 (by decide +kernel) rfl)⟩
theorem fg_X5_42 : j_f RX5 42 3 5 := ⟨RX5, TX5, 6, rfl, by decide, in_X5, (j_at 156 (by decide +kernel) rfl)⟩
theorem fg_X5_43 : j_f RX5 43 5 2 := ⟨RX7, TX7, 8, rfl, by decide, in_X7, (j_at 113 (by decide +kernel) rfl)⟩
theorem fg_X5_9 : j_f RX5 9 3 0 := ⟨RX5, TX5, 6, rfl, by decide, in_X5, (j_at 150 (by decide +kernel) rfl)⟩
theorem fg_X6_17 : j_f RX6 17 4 2 := ⟨RX6, TX6, 3, rfl, by decide, in_X6, (j_at 77 (by decide +kernel) rfl)⟩
theorem fg_X6_20 : j_f RX6 20 4 0 := ⟨RX6, TX6, 3, rfl, by decide, in_X6, (j_at 73 (by decide +kernel) rfl)⟩
theorem fg_X6_9 : j_f RX6 9 4 1 := ⟨RX6, TX6, 3, rfl, by decide, in_X6, (j_at 75 (by decide +kernel) rfl)⟩
theorem fg_X7_11 : j_f RX7 11 5 2 := ⟨RX7, TX7, 8, rfl, by decide, in_X7, (j_at 112 (by decide +kernel) rfl)⟩
theorem fg_X7_20 : j_f RX7 20 5 0 := ⟨RX7, TX7, 8, rfl, by decide, in_X7, (j_at 108 (by decide +kernel) rfl)⟩
theorem fg_X7_28 : j_f RX7 28 5 1 := ⟨RX7, TX7, 8, rfl, by decide, in_X7, (j_at 110 (by decide +kernel) rfl)⟩
theorem fg_X7_31 : j_f RX7 31 5 3 := ⟨RX7, TX7, 8, rfl, by decide, in_X7, (j_at 115 (by decide +kernel) rfl)⟩
theorem fg_X7_34 : j_f RX7 34 5 4 := ⟨RX7, TX7, 8, rfl, by decide, in_X7, (j_at 117 (by decide +kernel) rfl)⟩
theorem fg_X7_78 : j_f RX7 78 1 1 := ⟨RX2, TX2, 2, rfl, by decide, in_X2, (j_at 51 (by decide +kernel) rfl)⟩
theorem fg_X8_11 : j_f RX8 11 6 0 := ⟨RX8, TX8, 1, rfl, by decide, in_X8, (j_at 139 (by decide +kernel) rfl)⟩
theorem fg_X9_15 : j_f RX9 15 7 1 := ⟨RX9, TX9, 4, rfl, by decide, in_X9, (j_at 185 (by decide +kernel) rfl)⟩
theorem fg_X9_18 : j_f RX9 18 7 2 := ⟨RX9, TX9, 4, rfl, by decide, in_X9, (j_at 187 (by decide +kernel) rfl)⟩
theorem fg_X9_21 : j_f RX9 21 7 3 := ⟨RX9, TX9, 4, rfl, by decide, in_X9, (j_at 189 (by decide +kernel) rfl)⟩
theorem fg_X9_9 : j_f RX9 9 7 0 := ⟨RX9, TX9, 4, rfl, by decide, in_X9, (j_at 183 (by decide +kernel) rfl)⟩
theorem fp_X0_110 : j_fp RX0 110 1 0 .int false := ⟨RX2, TX2, 2, tyX2, rfl, by decide, in_X2, (j_at 48 (by decide +kernel) rfl), tyX2_ok, nmX2, rfl, rfl, fun q => by cases q⟩
theorem fp_X0_13 : j_fp RX0 13 0 3 (.array (.object "HeckeSeries$Form")) true := ⟨RX0, TX0, 11, tyX0, rfl, by decide, in_X0, (j_at 208 (by decide +kernel) rfl), tyX0_ok, nmX0, rfl, rfl, fun _ => rfl⟩
theorem fp_X0_19 : j_fp RX0 19 0 4 (.array .int) true := ⟨RX0, TX0, 11, tyX0, rfl, by decide, in_X0, (j_at 210 (by decide +kernel) rfl), tyX0_ok, nmX0, rfl, rfl, fun _ => rfl⟩
theorem fp_X0_26 : j_fp RX0 26 0 5 (.object "HeckeSeries$Tokens") true := ⟨RX0, TX0, 11, tyX0, rfl, by decide, in_X0, (j_at 211 (by decide +kernel) rfl), tyX0_ok, nmX0, rfl, rfl, fun _ => rfl⟩
theorem fp_X0_30 : j_fp RX0 30 0 7 (.array (.object "HeckeSeries$Form")) true := ⟨RX0, TX0, 11, tyX0, rfl, by decide, in_X0, (j_at 213 (by decide +kernel) rfl), tyX0_ok, nmX0, rfl, rfl, fun _ => rfl⟩
theorem fp_X0_33 : j_fp RX0 33 0 8 (.array (.object "HeckeSeries$Form")) true := ⟨RX0, TX0, 11, tyX0, rfl, by decide, in_X0, (j_at 214 (by decide +kernel) rfl), tyX0_ok, nmX0, rfl, rfl, fun _ => rfl⟩
theorem fp_X0_36 : j_fp RX0 36 0 9 (.array (.object "HeckeSeries$Form")) true := ⟨RX0, TX0, 11, tyX0, rfl, by decide, in_X0, (j_at 215 (by decide +kernel) rfl), tyX0_ok, nmX0, rfl, rfl, fun _ => rfl⟩
theorem fp_X0_42 : j_fp RX0 42 0 10 (.object "HeckeSeries$Form") true := ⟨RX0, TX0, 11, tyX0, rfl, by decide, in_X0, (j_at 216 (by decide +kernel) rfl), tyX0_ok, nmX0, rfl, rfl, fun _ => rfl⟩
theorem fp_X0_50 : j_fp RX0 50 0 6 .int false := ⟨RX0, TX0, 11, tyX0, rfl, by decide, in_X0, (j_at 212 (by decide +kernel) rfl), tyX0_ok, nmX0, rfl, rfl, fun q => by cases q⟩
theorem fp_X0_54 : j_fp RX0 54 0 1 .int false := ⟨RX0, TX0, 11, tyX0, rfl, by decide, in_X0, (j_at 204 (by decide +kernel) rfl), tyX0_ok, nmX0, rfl, rfl, fun q => by cases q⟩
theorem fp_X0_57 : j_fp RX0 57 0 2 .int false := ⟨RX0, TX0, 11, tyX0, rfl, by decide, in_X0, (j_at 206 (by decide +kernel) rfl), tyX0_ok, nmX0, rfl, rfl, fun q => by cases q⟩
theorem fp_X0_72 : j_fp RX0 72 0 0 .int false := ⟨RX0, TX0, 11, tyX0, rfl, by decide, in_X0, (j_at 203 (by decide +kernel) rfl), tyX0_ok, nmX0, rfl, rfl, fun q => by cases q⟩
theorem fp_X11_109 : j_fp RX11 109 8 3 .int false := ⟨RX11, TX11, 13, tyX11, rfl, by decide, in_X11, (j_at 276 (by decide +kernel) rfl), tyX11_ok, nmX11, rfl, rfl, fun q => by cases q⟩
theorem fp_X11_121 : j_fp RX11 121 2 0 .boolean false := ⟨RX3, TX3, 3, tyX3, rfl, by decide, in_X3, (j_at 248 (by decide +kernel) rfl), tyX3_ok, nmX3, rfl, rfl, fun q => by cases q⟩
theorem fp_X11_13 : j_fp RX11 13 8 2 .int false := ⟨RX11, TX11, 13, tyX11, rfl, by decide, in_X11, (j_at 275 (by decide +kernel) rfl), tyX11_ok, nmX11, rfl, rfl, fun q => by cases q⟩
theorem fp_X11_21 : j_fp RX11 21 8 4 (.array (.object "HeckeSeries$Form")) true := ⟨RX11, TX11, 13, tyX11, rfl, by decide, in_X11, (j_at 277 (by decide +kernel) rfl), tyX11_ok, nmX11, rfl, rfl, fun _ => rfl⟩
theorem fp_X11_25 : j_fp RX11 25 8 5 (.array (.object "HeckeSeries$Form")) true := ⟨RX11, TX11, 13, tyX11, rfl, by decide, in_X11, (j_at 278 (by decide +kernel) rfl), tyX11_ok, nmX11, rfl, rfl, fun _ => rfl⟩
theorem fp_X11_265 : j_fp RX11 265 5 6 .int false := ⟨RX7, TX7, 8, tyX7, rfl, by decide, in_X7, (j_at 120 (by decide +kernel) rfl), tyX7_ok, nmX7, rfl, rfl, fun q => by cases q⟩
theorem fp_X11_271 : j_fp RX11 271 5 7 .int false := ⟨RX7, TX7, 8, tyX7, rfl, by decide, in_X7, (j_at 121 (by decide +kernel) rfl), tyX7_ok, nmX7, rfl, rfl, fun q => by cases q⟩
theorem fp_X11_32 : j_fp RX11 32 8 6 (.array (.object "HeckeSeries$Shelf")) true := ⟨RX11, TX11, 13, tyX11, rfl, by decide, in_X11, (j_at 279 (by decide +kernel) rfl), tyX11_ok, nmX11, rfl, rfl, fun _ => rfl⟩
theorem fp_X11_38 : j_fp RX11 38 8 7 (.array (.object "HeckeSeries$Image")) true := ⟨RX11, TX11, 13, tyX11, rfl, by decide, in_X11, (j_at 280 (by decide +kernel) rfl), tyX11_ok, nmX11, rfl, rfl, fun _ => rfl⟩
theorem fp_X11_45 : j_fp RX11 45 8 8 (.object "HeckeSeries$Spaces") true := ⟨RX11, TX11, 13, tyX11, rfl, by decide, in_X11, (j_at 281 (by decide +kernel) rfl), tyX11_ok, nmX11, rfl, rfl, fun _ => rfl⟩
theorem fp_X11_52 : j_fp RX11 52 8 9 (.object "HeckeSeries$Operator") true := ⟨RX11, TX11, 13, tyX11, rfl, by decide, in_X11, (j_at 282 (by decide +kernel) rfl), tyX11_ok, nmX11, rfl, rfl, fun _ => rfl⟩
theorem fp_X11_59 : j_fp RX11 59 8 10 (.object "HeckeSeries$BookReader") true := ⟨RX11, TX11, 13, tyX11, rfl, by decide, in_X11, (j_at 283 (by decide +kernel) rfl), tyX11_ok, nmX11, rfl, rfl, fun _ => rfl⟩
theorem fp_X11_66 : j_fp RX11 66 8 11 (.object "HeckeSeries$Form") true := ⟨RX11, TX11, 13, tyX11, rfl, by decide, in_X11, (j_at 284 (by decide +kernel) rfl), tyX11_ok, nmX11, rfl, rfl, fun _ => rfl⟩
theorem fp_X11_70 : j_fp RX11 70 8 12 (.array .long) true := ⟨RX11, TX11, 13, tyX11, rfl, by decide, in_X11, (j_at 285 (by decide +kernel) rfl), tyX11_ok, nmX11, rfl, rfl, fun _ => rfl⟩
theorem fp_X11_75 : j_fp RX11 75 4 0 .boolean false := ⟨RX6, TX6, 3, tyX6, rfl, by decide, in_X6, (j_at 72 (by decide +kernel) rfl), tyX6_ok, nmX6, rfl, rfl, fun q => by cases q⟩
theorem fp_X11_84 : j_fp RX11 84 8 1 .int false := ⟨RX11, TX11, 13, tyX11, rfl, by decide, in_X11, (j_at 274 (by decide +kernel) rfl), tyX11_ok, nmX11, rfl, rfl, fun q => by cases q⟩
theorem fp_X11_9 : j_fp RX11 9 8 0 (.array .byte) true := ⟨RX11, TX11, 13, tyX11, rfl, by decide, in_X11, (j_at 273 (by decide +kernel) rfl), tyX11_ok, nmX11, rfl, rfl, fun _ => rfl⟩
theorem fp_X12_1 : j_fp RX12 1 9 0 .int false := ⟨RX12, TX12, 51, tyX12, rfl, by decide, in_X12, (j_at 1082 (by decide +kernel) rfl), tyX12_ok, nmX12, rfl, rfl, fun q => by cases q⟩
theorem fp_X12_100 : j_fp RX12 100 9 17 .int false := ⟨RX12, TX12, 51, tyX12, rfl, by decide, in_X12, (j_at 1099 (by decide +kernel) rfl), tyX12_ok, nmX12, rfl, rfl, fun q => by cases q⟩
theorem fp_X12_108 : j_fp RX12 108 9 18 .int false := ⟨RX12, TX12, 51, tyX12, rfl, by decide, in_X12, (j_at 1100 (by decide +kernel) rfl), tyX12_ok, nmX12, rfl, rfl, fun q => by cases q⟩
theorem fp_X12_129 : j_fp RX12 129 9 22 .int false := ⟨RX12, TX12, 51, tyX12, rfl, by decide, in_X12, (j_at 1104 (by decide +kernel) rfl), tyX12_ok, nmX12, rfl, rfl, fun q => by cases q⟩
theorem fp_X12_132 : j_fp RX12 132 9 23 (.array .int) true := ⟨RX12, TX12, 51, tyX12, rfl, by decide, in_X12, (j_at 1105 (by decide +kernel) rfl), tyX12_ok, nmX12, rfl, rfl, fun _ => rfl⟩
theorem fp_X12_135 : j_fp RX12 135 9 24 (.array .int) true := ⟨RX12, TX12, 51, tyX12, rfl, by decide, in_X12, (j_at 1106 (by decide +kernel) rfl), tyX12_ok, nmX12, rfl, rfl, fun _ => rfl⟩
theorem fp_X12_142 : j_fp RX12 142 9 28 (.array .int) true := ⟨RX12, TX12, 51, tyX12, rfl, by decide, in_X12, (j_at 1110 (by decide +kernel) rfl), tyX12_ok, nmX12, rfl, rfl, fun _ => rfl⟩
theorem fp_X12_145 : j_fp RX12 145 9 27 .int false := ⟨RX12, TX12, 51, tyX12, rfl, by decide, in_X12, (j_at 1109 (by decide +kernel) rfl), tyX12_ok, nmX12, rfl, rfl, fun q => by cases q⟩
theorem fp_X12_148 : j_fp RX12 148 9 29 (.array .int) true := ⟨RX12, TX12, 51, tyX12, rfl, by decide, in_X12, (j_at 1111 (by decide +kernel) rfl), tyX12_ok, nmX12, rfl, rfl, fun _ => rfl⟩
theorem fp_X12_158 : j_fp RX12 158 9 30 .int false := ⟨RX12, TX12, 51, tyX12, rfl, by decide, in_X12, (j_at 1112 (by decide +kernel) rfl), tyX12_ok, nmX12, rfl, rfl, fun q => by cases q⟩
theorem fp_X12_174 : j_fp RX12 174 9 25 (.array .int) true := ⟨RX12, TX12, 51, tyX12, rfl, by decide, in_X12, (j_at 1107 (by decide +kernel) rfl), tyX12_ok, nmX12, rfl, rfl, fun _ => rfl⟩
theorem fp_X12_177 : j_fp RX12 177 9 26 (.array .int) true := ⟨RX12, TX12, 51, tyX12, rfl, by decide, in_X12, (j_at 1108 (by decide +kernel) rfl), tyX12_ok, nmX12, rfl, rfl, fun _ => rfl⟩
theorem fp_X12_18 : j_fp RX12 18 9 2 (.array .int) true := ⟨RX12, TX12, 51, tyX12, rfl, by decide, in_X12, (j_at 1084 (by decide +kernel) rfl), tyX12_ok, nmX12, rfl, rfl, fun _ => rfl⟩
theorem fp_X12_206 : j_fp RX12 206 9 19 .int false := ⟨RX12, TX12, 51, tyX12, rfl, by decide, in_X12, (j_at 1101 (by decide +kernel) rfl), tyX12_ok, nmX12, rfl, rfl, fun q => by cases q⟩
theorem fp_X12_209 : j_fp RX12 209 9 20 (.array .int) true := ⟨RX12, TX12, 51, tyX12, rfl, by decide, in_X12, (j_at 1102 (by decide +kernel) rfl), tyX12_ok, nmX12, rfl, rfl, fun _ => rfl⟩
theorem fp_X12_212 : j_fp RX12 212 9 21 (.array .int) true := ⟨RX12, TX12, 51, tyX12, rfl, by decide, in_X12, (j_at 1103 (by decide +kernel) rfl), tyX12_ok, nmX12, rfl, rfl, fun _ => rfl⟩
theorem fp_X12_215 : j_fp RX12 215 9 31 (.array .int) true := ⟨RX12, TX12, 51, tyX12, rfl, by decide, in_X12, (j_at 1113 (by decide +kernel) rfl), tyX12_ok, nmX12, rfl, rfl, fun _ => rfl⟩
theorem fp_X12_218 : j_fp RX12 218 9 32 (.array .int) true := ⟨RX12, TX12, 51, tyX12, rfl, by decide, in_X12, (j_at 1114 (by decide +kernel) rfl), tyX12_ok, nmX12, rfl, rfl, fun _ => rfl⟩
theorem fp_X12_221 : j_fp RX12 221 9 43 (.array .boolean) true := ⟨RX12, TX12, 51, tyX12, rfl, by decide, in_X12, (j_at 1125 (by decide +kernel) rfl), tyX12_ok, nmX12, rfl, rfl, fun _ => rfl⟩
theorem fp_X12_225 : j_fp RX12 225 9 45 (.array .boolean) true := ⟨RX12, TX12, 51, tyX12, rfl, by decide, in_X12, (j_at 1127 (by decide +kernel) rfl), tyX12_ok, nmX12, rfl, rfl, fun _ => rfl⟩
theorem fp_X12_233 : j_fp RX12 233 9 34 (.array .int) true := ⟨RX12, TX12, 51, tyX12, rfl, by decide, in_X12, (j_at 1116 (by decide +kernel) rfl), tyX12_ok, nmX12, rfl, rfl, fun _ => rfl⟩
theorem fp_X12_236 : j_fp RX12 236 9 36 (.array .int) true := ⟨RX12, TX12, 51, tyX12, rfl, by decide, in_X12, (j_at 1118 (by decide +kernel) rfl), tyX12_ok, nmX12, rfl, rfl, fun _ => rfl⟩
theorem fp_X12_239 : j_fp RX12 239 9 37 (.array .int) true := ⟨RX12, TX12, 51, tyX12, rfl, by decide, in_X12, (j_at 1119 (by decide +kernel) rfl), tyX12_ok, nmX12, rfl, rfl, fun _ => rfl⟩
theorem fp_X12_24 : j_fp RX12 24 9 3 (.array .int) true := ⟨RX12, TX12, 51, tyX12, rfl, by decide, in_X12, (j_at 1085 (by decide +kernel) rfl), tyX12_ok, nmX12, rfl, rfl, fun _ => rfl⟩
theorem fp_X12_241 : j_fp RX12 241 9 38 (.array .int) true := ⟨RX12, TX12, 51, tyX12, rfl, by decide, in_X12, (j_at 1120 (by decide +kernel) rfl), tyX12_ok, nmX12, rfl, rfl, fun _ => rfl⟩
theorem fp_X12_244 : j_fp RX12 244 9 40 (.array .int) true := ⟨RX12, TX12, 51, tyX12, rfl, by decide, in_X12, (j_at 1122 (by decide +kernel) rfl), tyX12_ok, nmX12, rfl, rfl, fun _ => rfl⟩
theorem fp_X12_247 : j_fp RX12 247 9 41 (.array .int) true := ⟨RX12, TX12, 51, tyX12, rfl, by decide, in_X12, (j_at 1123 (by decide +kernel) rfl), tyX12_ok, nmX12, rfl, rfl, fun _ => rfl⟩
theorem fp_X12_250 : j_fp RX12 250 9 44 (.array .long) true := ⟨RX12, TX12, 51, tyX12, rfl, by decide, in_X12, (j_at 1126 (by decide +kernel) rfl), tyX12_ok, nmX12, rfl, rfl, fun _ => rfl⟩
theorem fp_X12_254 : j_fp RX12 254 9 46 (.array .int) true := ⟨RX12, TX12, 51, tyX12, rfl, by decide, in_X12, (j_at 1128 (by decide +kernel) rfl), tyX12_ok, nmX12, rfl, rfl, fun _ => rfl⟩
theorem fp_X12_257 : j_fp RX12 257 9 47 (.array .int) true := ⟨RX12, TX12, 51, tyX12, rfl, by decide, in_X12, (j_at 1129 (by decide +kernel) rfl), tyX12_ok, nmX12, rfl, rfl, fun _ => rfl⟩
theorem fp_X12_260 : j_fp RX12 260 9 48 (.array .int) true := ⟨RX12, TX12, 51, tyX12, rfl, by decide, in_X12, (j_at 1130 (by decide +kernel) rfl), tyX12_ok, nmX12, rfl, rfl, fun _ => rfl⟩
theorem fp_X12_263 : j_fp RX12 263 9 49 (.array .boolean) true := ⟨RX12, TX12, 51, tyX12, rfl, by decide, in_X12, (j_at 1131 (by decide +kernel) rfl), tyX12_ok, nmX12, rfl, rfl, fun _ => rfl⟩
theorem fp_X12_266 : j_fp RX12 266 9 50 (.array .long) true := ⟨RX12, TX12, 51, tyX12, rfl, by decide, in_X12, (j_at 1132 (by decide +kernel) rfl), tyX12_ok, nmX12, rfl, rfl, fun _ => rfl⟩
theorem fp_X12_29 : j_fp RX12 29 9 5 (.array .int) true := ⟨RX12, TX12, 51, tyX12, rfl, by decide, in_X12, (j_at 1087 (by decide +kernel) rfl), tyX12_ok, nmX12, rfl, rfl, fun _ => rfl⟩
theorem fp_X12_293 : j_fp RX12 293 9 33 .boolean false := ⟨RX12, TX12, 51, tyX12, rfl, by decide, in_X12, (j_at 1115 (by decide +kernel) rfl), tyX12_ok, nmX12, rfl, rfl, fun q => by cases q⟩
theorem fp_X12_342 : j_fp RX12 342 9 35 .int false := ⟨RX12, TX12, 51, tyX12, rfl, by decide, in_X12, (j_at 1117 (by decide +kernel) rfl), tyX12_ok, nmX12, rfl, rfl, fun q => by cases q⟩
theorem fp_X12_352 : j_fp RX12 352 9 39 .int false := ⟨RX12, TX12, 51, tyX12, rfl, by decide, in_X12, (j_at 1121 (by decide +kernel) rfl), tyX12_ok, nmX12, rfl, rfl, fun q => by cases q⟩
theorem fp_X12_36 : j_fp RX12 36 9 4 (.array .int) true := ⟨RX12, TX12, 51, tyX12, rfl, by decide, in_X12, (j_at 1086 (by decide +kernel) rfl), tyX12_ok, nmX12, rfl, rfl, fun _ => rfl⟩
theorem fp_X12_365 : j_fp RX12 365 9 42 .int false := ⟨RX12, TX12, 51, tyX12, rfl, by decide, in_X12, (j_at 1124 (by decide +kernel) rfl), tyX12_ok, nmX12, rfl, rfl, fun q => by cases q⟩
theorem fp_X12_49 : j_fp RX12 49 9 7 .int false := ⟨RX12, TX12, 51, tyX12, rfl, by decide, in_X12, (j_at 1089 (by decide +kernel) rfl), tyX12_ok, nmX12, rfl, rfl, fun q => by cases q⟩
theorem fp_X12_55 : j_fp RX12 55 9 6 (.array .int) true := ⟨RX12, TX12, 51, tyX12, rfl, by decide, in_X12, (j_at 1088 (by decide +kernel) rfl), tyX12_ok, nmX12, rfl, rfl, fun _ => rfl⟩
theorem fp_X12_62 : j_fp RX12 62 9 8 (.array .int) true := ⟨RX12, TX12, 51, tyX12, rfl, by decide, in_X12, (j_at 1090 (by decide +kernel) rfl), tyX12_ok, nmX12, rfl, rfl, fun _ => rfl⟩
theorem fp_X12_69 : j_fp RX12 69 9 10 (.array .int) true := ⟨RX12, TX12, 51, tyX12, rfl, by decide, in_X12, (j_at 1092 (by decide +kernel) rfl), tyX12_ok, nmX12, rfl, rfl, fun _ => rfl⟩
theorem fp_X12_7 : j_fp RX12 7 9 1 .int false := ⟨RX12, TX12, 51, tyX12, rfl, by decide, in_X12, (j_at 1083 (by decide +kernel) rfl), tyX12_ok, nmX12, rfl, rfl, fun q => by cases q⟩
theorem fp_X12_72 : j_fp RX12 72 9 9 (.array .int) true := ⟨RX12, TX12, 51, tyX12, rfl, by decide, in_X12, (j_at 1091 (by decide +kernel) rfl), tyX12_ok, nmX12, rfl, rfl, fun _ => rfl⟩
theorem fp_X12_75 : j_fp RX12 75 9 12 .int false := ⟨RX12, TX12, 51, tyX12, rfl, by decide, in_X12, (j_at 1094 (by decide +kernel) rfl), tyX12_ok, nmX12, rfl, rfl, fun q => by cases q⟩
theorem fp_X12_81 : j_fp RX12 81 9 11 (.array .byte) true := ⟨RX12, TX12, 51, tyX12, rfl, by decide, in_X12, (j_at 1093 (by decide +kernel) rfl), tyX12_ok, nmX12, rfl, rfl, fun _ => rfl⟩
theorem fp_X12_85 : j_fp RX12 85 9 13 .int false := ⟨RX12, TX12, 51, tyX12, rfl, by decide, in_X12, (j_at 1095 (by decide +kernel) rfl), tyX12_ok, nmX12, rfl, rfl, fun q => by cases q⟩
theorem fp_X12_88 : j_fp RX12 88 9 15 .int false := ⟨RX12, TX12, 51, tyX12, rfl, by decide, in_X12, (j_at 1097 (by decide +kernel) rfl), tyX12_ok, nmX12, rfl, rfl, fun q => by cases q⟩
theorem fp_X12_94 : j_fp RX12 94 9 14 .int false := ⟨RX12, TX12, 51, tyX12, rfl, by decide, in_X12, (j_at 1096 (by decide +kernel) rfl), tyX12_ok, nmX12, rfl, rfl, fun q => by cases q⟩
theorem fp_X12_97 : j_fp RX12 97 9 16 .int false := ⟨RX12, TX12, 51, tyX12, rfl, by decide, in_X12, (j_at 1098 (by decide +kernel) rfl), tyX12_ok, nmX12, rfl, rfl, fun q => by cases q⟩
theorem fp_X2_15 : j_fp RX2 15 1 0 .int false := ⟨RX2, TX2, 2, tyX2, rfl, by decide, in_X2, (j_at 45 (by decide +kernel) rfl), tyX2_ok, nmX2, rfl, rfl, fun q => by cases q⟩
theorem fp_X2_9 : j_fp RX2 9 1 1 (.array .int) true := ⟨RX2, TX2, 2, tyX2, rfl, by decide, in_X2, (j_at 49 (by decide +kernel) rfl), tyX2_ok, nmX2, rfl, rfl, fun _ => rfl⟩
theorem fp_X3_13 : j_fp RX3 13 2 1 (.array (.object "HeckeSeries$Form")) true := ⟨RX3, TX3, 3, tyX3, rfl, by decide, in_X3, (j_at 249 (by decide +kernel) rfl), tyX3_ok, nmX3, rfl, rfl, fun _ => rfl⟩
theorem fp_X3_23 : j_fp RX3 23 2 2 (.array (.object "HeckeSeries$Shelf")) true := ⟨RX3, TX3, 3, tyX3, rfl, by decide, in_X3, (j_at 250 (by decide +kernel) rfl), tyX3_ok, nmX3, rfl, rfl, fun _ => rfl⟩
theorem fp_X3_31 : j_fp RX3 31 2 0 .boolean false := ⟨RX3, TX3, 3, tyX3, rfl, by decide, in_X3, (j_at 247 (by decide +kernel) rfl), tyX3_ok, nmX3, rfl, rfl, fun q => by cases q⟩
theorem fp_X5_17 : j_fp RX5 17 3 1 (.array (.array .int)) true := ⟨RX5, TX5, 6, tyX5, rfl, by decide, in_X5, (j_at 152 (by decide +kernel) rfl), tyX5_ok, nmX5, rfl, rfl, fun _ => rfl⟩
theorem fp_X5_20 : j_fp RX5 20 3 2 (.array (.array .int)) true := ⟨RX5, TX5, 6, tyX5, rfl, by decide, in_X5, (j_at 153 (by decide +kernel) rfl), tyX5_ok, nmX5, rfl, rfl, fun _ => rfl⟩
theorem fp_X5_23 : j_fp RX5 23 3 3 (.array (.array .int)) true := ⟨RX5, TX5, 6, tyX5, rfl, by decide, in_X5, (j_at 154 (by decide +kernel) rfl), tyX5_ok, nmX5, rfl, rfl, fun _ => rfl⟩
theorem fp_X5_36 : j_fp RX5 36 3 4 .int false := ⟨RX5, TX5, 6, tyX5, rfl, by decide, in_X5, (j_at 155 (by decide +kernel) rfl), tyX5_ok, nmX5, rfl, rfl, fun q => by cases q⟩
theorem fp_X5_42 : j_fp RX5 42 3 5 .int false := ⟨RX5, TX5, 6, tyX5, rfl, by decide, in_X5, (j_at 156 (by decide +kernel) rfl), tyX5_ok, nmX5, rfl, rfl, fun q => by cases q⟩
theorem fp_X5_9 : j_fp RX5 9 3 0 (.array .int) true := ⟨RX5, TX5, 6, tyX5, rfl, by decide, in_X5, (j_at 150 (by decide +kernel) rfl), tyX5_ok, nmX5, rfl, rfl, fun _ => rfl⟩
theorem fp_X6_17 : j_fp RX6 17 4 2 (.array (.array .long)) true := ⟨RX6, TX6, 3, tyX6, rfl, by decide, in_X6, (j_at 77 (by decide +kernel) rfl), tyX6_ok, nmX6, rfl, rfl, fun _ => rfl⟩
theorem fp_X6_20 : j_fp RX6 20 4 0 .boolean false := ⟨RX6, TX6, 3, tyX6, rfl, by decide, in_X6, (j_at 73 (by decide +kernel) rfl), tyX6_ok, nmX6, rfl, rfl, fun q => by cases q⟩
theorem fp_X6_9 : j_fp RX6 9 4 1 (.array .boolean) true := ⟨RX6, TX6, 3, tyX6, rfl, by decide, in_X6, (j_at 75 (by decide +kernel) rfl), tyX6_ok, nmX6, rfl, rfl, fun _ => rfl⟩
theorem fp_X7_11 : j_fp RX7 11 5 2 (.array (.array .int)) false := ⟨RX7, TX7, 8, tyX7, rfl, by decide, in_X7, (j_at 112 (by decide +kernel) rfl), tyX7_ok, nmX7, rfl, rfl, fun q => by cases q⟩
theorem fp_X7_16 : j_fp RX7 16 5 5 (.array .int) true := ⟨RX7, TX7, 8, tyX7, rfl, by decide, in_X7, (j_at 118 (by decide +kernel) rfl), tyX7_ok, nmX7, rfl, rfl, fun _ => rfl⟩
theorem fp_X7_20 : j_fp RX7 20 5 0 .int true := ⟨RX7, TX7, 8, tyX7, rfl, by decide, in_X7, (j_at 108 (by decide +kernel) rfl), tyX7_ok, nmX7, rfl, rfl, fun _ => rfl⟩
theorem fp_X7_28 : j_fp RX7 28 5 1 .int true := ⟨RX7, TX7, 8, tyX7, rfl, by decide, in_X7, (j_at 110 (by decide +kernel) rfl), tyX7_ok, nmX7, rfl, rfl, fun _ => rfl⟩
theorem fp_X7_31 : j_fp RX7 31 5 3 .int false := ⟨RX7, TX7, 8, tyX7, rfl, by decide, in_X7, (j_at 115 (by decide +kernel) rfl), tyX7_ok, nmX7, rfl, rfl, fun q => by cases q⟩
theorem fp_X7_34 : j_fp RX7 34 5 4 .int false := ⟨RX7, TX7, 8, tyX7, rfl, by decide, in_X7, (j_at 117 (by decide +kernel) rfl), tyX7_ok, nmX7, rfl, rfl, fun q => by cases q⟩
theorem fp_X7_75 : j_fp RX7 75 1 0 .int false := ⟨RX2, TX2, 2, tyX2, rfl, by decide, in_X2, (j_at 47 (by decide +kernel) rfl), tyX2_ok, nmX2, rfl, rfl, fun q => by cases q⟩
theorem fp_X8_11 : j_fp RX8 11 6 0 (.array (.object "HeckeSeries$Space")) true := ⟨RX8, TX8, 1, tyX8, rfl, by decide, in_X8, (j_at 139 (by decide +kernel) rfl), tyX8_ok, nmX8, rfl, rfl, fun _ => rfl⟩
theorem fp_X9_15 : j_fp RX9 15 7 1 (.array .int) true := ⟨RX9, TX9, 4, tyX9, rfl, by decide, in_X9, (j_at 185 (by decide +kernel) rfl), tyX9_ok, nmX9, rfl, rfl, fun _ => rfl⟩
theorem fp_X9_18 : j_fp RX9 18 7 2 (.array .int) true := ⟨RX9, TX9, 4, tyX9, rfl, by decide, in_X9, (j_at 187 (by decide +kernel) rfl), tyX9_ok, nmX9, rfl, rfl, fun _ => rfl⟩
theorem fp_X9_21 : j_fp RX9 21 7 3 .int false := ⟨RX9, TX9, 4, tyX9, rfl, by decide, in_X9, (j_at 189 (by decide +kernel) rfl), tyX9_ok, nmX9, rfl, rfl, fun q => by cases q⟩
theorem fp_X9_9 : j_fp RX9 9 7 0 (.array .int) true := ⟨RX9, TX9, 4, tyX9, rfl, by decide, in_X9, (j_at 183 (by decide +kernel) rfl), tyX9_ok, nmX9, rfl, rfl, fun _ => rfl⟩
theorem kb_10 : (Int8.ofInt (10)).toInt32 = 10 := by decide
theorem kb_100 : (Int8.ofInt (100)).toInt32 = 100 := by decide
theorem kb_101 : (Int8.ofInt (101)).toInt32 = 101 := by decide
theorem kb_102 : (Int8.ofInt (102)).toInt32 = 102 := by decide
theorem kb_104 : (Int8.ofInt (104)).toInt32 = 104 := by decide
theorem kb_105 : (Int8.ofInt (105)).toInt32 = 105 := by decide
theorem kb_108 : (Int8.ofInt (108)).toInt32 = 108 := by decide
theorem kb_109 : (Int8.ofInt (109)).toInt32 = 109 := by decide
theorem kb_11 : (Int8.ofInt (11)).toInt32 = 11 := by decide
theorem kb_111 : (Int8.ofInt (111)).toInt32 = 111 := by decide
theorem kb_112 : (Int8.ofInt (112)).toInt32 = 112 := by decide
theorem kb_114 : (Int8.ofInt (114)).toInt32 = 114 := by decide
theorem kb_115 : (Int8.ofInt (115)).toInt32 = 115 := by decide
theorem kb_116 : (Int8.ofInt (116)).toInt32 = 116 := by decide
theorem kb_117 : (Int8.ofInt (117)).toInt32 = 117 := by decide
theorem kb_12 : (Int8.ofInt (12)).toInt32 = 12 := by decide
theorem kb_120 : (Int8.ofInt (120)).toInt32 = 120 := by decide
theorem kb_122 : (Int8.ofInt (122)).toInt32 = 122 := by decide
theorem kb_13 : (Int8.ofInt (13)).toInt32 = 13 := by decide
theorem kb_14 : (Int8.ofInt (14)).toInt32 = 14 := by decide
theorem kb_15 : (Int8.ofInt (15)).toInt32 = 15 := by decide
theorem kb_16 : (Int8.ofInt (16)).toInt32 = 16 := by decide
theorem kb_20 : (Int8.ofInt (20)).toInt32 = 20 := by decide
theorem kb_23 : (Int8.ofInt (23)).toInt32 = 23 := by decide
theorem kb_24 : (Int8.ofInt (24)).toInt32 = 24 := by decide
theorem kb_30 : (Int8.ofInt (30)).toInt32 = 30 := by decide
theorem kb_31 : (Int8.ofInt (31)).toInt32 = 31 := by decide
theorem kb_32 : (Int8.ofInt (32)).toInt32 = 32 := by decide
theorem kb_36 : (Int8.ofInt (36)).toInt32 = 36 := by decide
theorem kb_40 : (Int8.ofInt (40)).toInt32 = 40 := by decide
theorem kb_41 : (Int8.ofInt (41)).toInt32 = 41 := by decide
theorem kb_42 : (Int8.ofInt (42)).toInt32 = 42 := by decide
theorem kb_43 : (Int8.ofInt (43)).toInt32 = 43 := by decide
theorem kb_45 : (Int8.ofInt (45)).toInt32 = 45 := by decide
theorem kb_48 : (Int8.ofInt (48)).toInt32 = 48 := by decide
theorem kb_57 : (Int8.ofInt (57)).toInt32 = 57 := by decide
theorem kb_59 : (Int8.ofInt (59)).toInt32 = 59 := by decide
theorem kb_6 : (Int8.ofInt (6)).toInt32 = 6 := by decide
theorem kb_60 : (Int8.ofInt (60)).toInt32 = 60 := by decide
theorem kb_7 : (Int8.ofInt (7)).toInt32 = 7 := by decide
theorem kb_8 : (Int8.ofInt (8)).toInt32 = 8 := by decide
theorem kb_9 : (Int8.ofInt (9)).toInt32 = 9 := by decide
theorem kb_94 : (Int8.ofInt (94)).toInt32 = 94 := by decide
theorem kb_97 : (Int8.ofInt (97)).toInt32 = 97 := by decide
theorem kb_98 : (Int8.ofInt (98)).toInt32 = 98 := by decide
theorem kb_m2 : (Int8.ofInt (-2)).toInt32 = -2 := by decide
theorem kb_m24 : (Int8.ofInt (-24)).toInt32 = -24 := by decide
theorem ki_0 : Int32.ofInt (0) = 0 := by decide
theorem ki_1 : Int32.ofInt (1) = 1 := by decide
theorem ki_12 : Int32.ofInt (12) = 12 := by decide
theorem ki_2 : Int32.ofInt (2) = 2 := by decide
theorem ki_3 : Int32.ofInt (3) = 3 := by decide
theorem ki_4 : Int32.ofInt (4) = 4 := by decide
theorem ki_5 : Int32.ofInt (5) = 5 := by decide
theorem ki_6 : Int32.ofInt (6) = 6 := by decide
theorem ki_X0_init : Cond.instanceMethod yX0_init ∈ j_tbl ∧ yX0_init.name = "<init>" := ⟨(j_at 173 (by decide +kernel) rfl), rfl⟩
theorem ki_X11_init : Cond.instanceMethod yX11_init ∈ j_tbl ∧ yX11_init.name = "<init>" := ⟨(j_at 30 (by decide +kernel) rfl), rfl⟩
theorem ki_X12_init : Cond.instanceMethod yX12_init ∈ j_tbl ∧ yX12_init.name = "<init>" := ⟨(j_at 1079 (by decide +kernel) rfl), rfl⟩
theorem ki_X2_init : Cond.instanceMethod yX2_init ∈ j_tbl ∧ yX2_init.name = "<init>" := ⟨(j_at 42 (by decide +kernel) rfl), rfl⟩
theorem ki_X3_init : Cond.instanceMethod yX3_init ∈ j_tbl ∧ yX3_init.name = "<init>" := ⟨(j_at 242 (by decide +kernel) rfl), rfl⟩
theorem ki_X5_init : Cond.instanceMethod yX5_init ∈ j_tbl ∧ yX5_init.name = "<init>" := ⟨(j_at 146 (by decide +kernel) rfl), rfl⟩
theorem ki_X6_init : Cond.instanceMethod yX6_init ∈ j_tbl ∧ yX6_init.name = "<init>" := ⟨(j_at 67 (by decide +kernel) rfl), rfl⟩
theorem ki_X7_init : Cond.instanceMethod yX7_init ∈ j_tbl ∧ yX7_init.name = "<init>" := ⟨(j_at 100 (by decide +kernel) rfl), rfl⟩
theorem ki_X8_init : Cond.instanceMethod yX8_init ∈ j_tbl ∧ yX8_init.name = "<init>" := ⟨(j_at 93 (by decide +kernel) rfl), rfl⟩
theorem ki_X9_init : Cond.instanceMethod yX9_init ∈ j_tbl ∧ yX9_init.name = "<init>" := ⟨(j_at 180 (by decide +kernel) rfl), rfl⟩
theorem ki_m1 : Int32.ofInt (-1) = -1 := by decide
theorem ki_m8 : Int32.ofInt (-8) = -8 := by decide
theorem kl_0 : Int64.ofNat ((0 : Fin 2) : Nat) = 0 := by decide
theorem kl_1 : Int64.ofNat ((1 : Fin 2) : Nat) = 1 := by decide
theorem km_J7_fill_53178 : j_m yJ7_fill_53178 cJ7_fill_53178 4 none 2 := ⟨(j_at 268 (by decide +kernel) rfl), (j_at 10 (by decide +kernel) rfl), by decide, by decide +kernel, by decide +kernel, by decide +kernel⟩
theorem km_Jxf58ca_floatToIntBits_5c35a : j_m yJxf58ca_floatToIntBits_5c35a cJxf58ca_floatToIntBits_5c35a 1 (some .int) 1 := ⟨(j_at 1325 (by decide +kernel) rfl), (j_at 26 (by decide +kernel) rfl), by decide, by decide +kernel, by decide +kernel, by decide +kernel⟩
theorem km_Jxf58ca_isNaN_12338 : j_m yJxf58ca_isNaN_12338 cJxf58ca_isNaN_12338 1 (some .boolean) 1 := ⟨(j_at 1328 (by decide +kernel) rfl), (j_at 26 (by decide +kernel) rfl), by decide, by decide +kernel, by decide +kernel, by decide +kernel⟩
theorem km_X0_expect : j_m yX0_expect cX0_expect 2 (some .boolean) 1 := ⟨(j_at 445 (by decide +kernel) rfl), (j_at 7 (by decide +kernel) rfl), by decide, by decide +kernel, by decide +kernel, by decide +kernel⟩
theorem km_X0_fail : j_m yX0_fail cX0_fail 3 (some .boolean) 2 := ⟨(j_at 434 (by decide +kernel) rfl), (j_at 7 (by decide +kernel) rfl), by decide, by decide +kernel, by decide +kernel, by decide +kernel⟩
theorem km_X0_findLet : j_m yX0_findLet cX0_findLet 3 (some .int) 1 := ⟨(j_at 453 (by decide +kernel) rfl), (j_at 7 (by decide +kernel) rfl), by decide, by decide +kernel, by decide +kernel, by decide +kernel⟩
theorem km_X0_goOn : j_m yX0_goOn cX0_goOn 1 none 0 := ⟨(j_at 430 (by decide +kernel) rfl), (j_at 7 (by decide +kernel) rfl), by decide, by decide +kernel, by decide +kernel, by decide +kernel⟩
theorem km_X0_init : j_m yX0_init cX0_init 1 none 0 := ⟨(j_at 174 (by decide +kernel) rfl), (j_at 7 (by decide +kernel) rfl), by decide, by decide +kernel, by decide +kernel, by decide +kernel⟩
theorem km_X0_isPrime : j_m yX0_isPrime cX0_isPrime 2 (some .boolean) 1 := ⟨(j_at 441 (by decide +kernel) rfl), (j_at 7 (by decide +kernel) rfl), by decide, by decide +kernel, by decide +kernel, by decide +kernel⟩
theorem km_X0_kind : j_m yX0_kind cX0_kind 1 (some .int) 0 := ⟨(j_at 426 (by decide +kernel) rfl), (j_at 7 (by decide +kernel) rfl), by decide, by decide +kernel, by decide +kernel, by decide +kernel⟩
theorem km_X0_open : j_m yX0_open cX0_open 3 none 2 := ⟨(j_at 328 (by decide +kernel) rfl), (j_at 7 (by decide +kernel) rfl), by decide, by decide +kernel, by decide +kernel, by decide +kernel⟩
theorem km_X0_raise : j_m yX0_raise cX0_raise 4 none 2 := ⟨(j_at 494 (by decide +kernel) rfl), (j_at 7 (by decide +kernel) rfl), by decide, by decide +kernel, by decide +kernel, by decide +kernel⟩
theorem km_X0_readAtom : j_m yX0_readAtom cX0_readAtom 3 (some .boolean) 1 := ⟨(j_at 469 (by decide +kernel) rfl), (j_at 7 (by decide +kernel) rfl), by decide, by decide +kernel, by decide +kernel, by decide +kernel⟩
theorem km_X0_readLets : j_m yX0_readLets cX0_readLets 3 (some .boolean) 0 := ⟨(j_at 449 (by decide +kernel) rfl), (j_at 7 (by decide +kernel) rfl), by decide, by decide +kernel, by decide +kernel, by decide +kernel⟩
theorem km_X0_readPower : j_m yX0_readPower cX0_readPower 4 (some .boolean) 1 := ⟨(j_at 465 (by decide +kernel) rfl), (j_at 7 (by decide +kernel) rfl), by decide, by decide +kernel, by decide +kernel, by decide +kernel⟩
theorem km_X0_readPrime : j_m yX0_readPrime cX0_readPrime 1 (some .boolean) 0 := ⟨(j_at 422 (by decide +kernel) rfl), (j_at 7 (by decide +kernel) rfl), by decide, by decide +kernel, by decide +kernel, by decide +kernel⟩
theorem km_X0_readProduct : j_m yX0_readProduct cX0_readProduct 6 (some .boolean) 1 := ⟨(j_at 461 (by decide +kernel) rfl), (j_at 7 (by decide +kernel) rfl), by decide, by decide +kernel, by decide +kernel, by decide +kernel⟩
theorem km_X0_readSum : j_m yX0_readSum cX0_readSum 7 (some .boolean) 1 := ⟨(j_at 457 (by decide +kernel) rfl), (j_at 7 (by decide +kernel) rfl), by decide, by decide +kernel, by decide +kernel, by decide +kernel⟩
theorem km_X0_setKnown : j_m yX0_setKnown cX0_setKnown 5 none 3 := ⟨(j_at 479 (by decide +kernel) rfl), (j_at 7 (by decide +kernel) rfl), by decide, by decide +kernel, by decide +kernel, by decide +kernel⟩
theorem km_X0_value : j_m yX0_value cX0_value 1 (some .int) 0 := ⟨(j_at 438 (by decide +kernel) rfl), (j_at 7 (by decide +kernel) rfl), by decide, by decide +kernel, by decide +kernel, by decide +kernel⟩
theorem km_X10_add : j_m yX10_add cX10_add 4 (some .long) 2 := ⟨(j_at 662 (by decide +kernel) rfl), (j_at 24 (by decide +kernel) rfl), by decide, by decide +kernel, by decide +kernel, by decide +kernel⟩
theorem km_X10_bitsOf : j_m yX10_bitsOf cX10_bitsOf 4 (some .int) 1 := ⟨(j_at 697 (by decide +kernel) rfl), (j_at 24 (by decide +kernel) rfl), by decide, by decide +kernel, by decide +kernel, by decide +kernel⟩
theorem km_X10_exact : j_m yX10_exact cX10_exact 8 (some .long) 2 := ⟨(j_at 642 (by decide +kernel) rfl), (j_at 24 (by decide +kernel) rfl), by decide, by decide +kernel, by decide +kernel, by decide +kernel⟩
theorem km_X10_exactPower : j_m yX10_exactPower cX10_exactPower 5 (some .long) 2 := ⟨(j_at 669 (by decide +kernel) rfl), (j_at 24 (by decide +kernel) rfl), by decide, by decide +kernel, by decide +kernel, by decide +kernel⟩
theorem km_X10_exactQ : j_m yX10_exactQ cX10_exactQ 10 (some .long) 3 := ⟨(j_at 651 (by decide +kernel) rfl), (j_at 24 (by decide +kernel) rfl), by decide, by decide +kernel, by decide +kernel, by decide +kernel⟩
theorem km_X10_isAsked : j_m yX10_isAsked cX10_isAsked 2 (some .boolean) 2 := ⟨(j_at 637 (by decide +kernel) rfl), (j_at 24 (by decide +kernel) rfl), by decide, by decide +kernel, by decide +kernel, by decide +kernel⟩
theorem km_X10_left : j_m yX10_left cX10_left 7 (some .int) 3 := ⟨(j_at 678 (by decide +kernel) rfl), (j_at 24 (by decide +kernel) rfl), by decide, by decide +kernel, by decide +kernel, by decide +kernel⟩
theorem km_X10_leftQ : j_m yX10_leftQ cX10_leftQ 8 (some .int) 4 := ⟨(j_at 681 (by decide +kernel) rfl), (j_at 24 (by decide +kernel) rfl), by decide, by decide +kernel, by decide +kernel, by decide +kernel⟩
theorem km_X10_multiply : j_m yX10_multiply cX10_multiply 4 (some .long) 2 := ⟨(j_at 654 (by decide +kernel) rfl), (j_at 24 (by decide +kernel) rfl), by decide, by decide +kernel, by decide +kernel, by decide +kernel⟩
theorem km_X10_reachOf : j_m yX10_reachOf cX10_reachOf 3 (some .int) 1 := ⟨(j_at 645 (by decide +kernel) rfl), (j_at 24 (by decide +kernel) rfl), by decide, by decide +kernel, by decide +kernel, by decide +kernel⟩
theorem km_X10_shareOf : j_m yX10_shareOf cX10_shareOf 8 (some .float) 3 := ⟨(j_at 693 (by decide +kernel) rfl), (j_at 24 (by decide +kernel) rfl), by decide, by decide +kernel, by decide +kernel, by decide +kernel⟩
theorem km_X11_alike : j_m yX11_alike cX11_alike 5 (some .int) 3 := ⟨(j_at 748 (by decide +kernel) rfl), (j_at 1 (by decide +kernel) rfl), by decide, by decide +kernel, by decide +kernel, by decide +kernel⟩
theorem km_X11_book : j_m yX11_book cX11_book 3 (some .int) 1 := ⟨(j_at 324 (by decide +kernel) rfl), (j_at 1 (by decide +kernel) rfl), by decide, by decide +kernel, by decide +kernel, by decide +kernel⟩
theorem km_X11_coefficient : j_m yX11_coefficient cX11_coefficient 3 (some .int) 2 := ⟨(j_at 525 (by decide +kernel) rfl), (j_at 1 (by decide +kernel) rfl), by decide, by decide +kernel, by decide +kernel, by decide +kernel⟩
theorem km_X11_coefficientOf : j_m yX11_coefficientOf cX11_coefficientOf 3 (some .int) 2 := ⟨(j_at 532 (by decide +kernel) rfl), (j_at 1 (by decide +kernel) rfl), by decide, by decide +kernel, by decide +kernel, by decide +kernel⟩
theorem km_X11_count : j_m yX11_count cX11_count 2 (some .int) 1 := ⟨(j_at 508 (by decide +kernel) rfl), (j_at 1 (by decide +kernel) rfl), by decide, by decide +kernel, by decide +kernel, by decide +kernel⟩
theorem km_X11_cuspsOf : j_m yX11_cuspsOf cX11_cuspsOf 1 (some .int) 1 := ⟨(j_at 608 (by decide +kernel) rfl), (j_at 1 (by decide +kernel) rfl), by decide, by decide +kernel, by decide +kernel, by decide +kernel⟩
theorem km_X11_feed : j_m yX11_feed cX11_feed 6 (some .int) 5 := ⟨(j_at 316 (by decide +kernel) rfl), (j_at 1 (by decide +kernel) rfl), by decide, by decide +kernel, by decide +kernel, by decide +kernel⟩
theorem km_X11_feedFour : j_m yX11_feedFour cX11_feedFour 3 none 1 := ⟨(j_at 320 (by decide +kernel) rfl), (j_at 1 (by decide +kernel) rfl), by decide, by decide +kernel, by decide +kernel, by decide +kernel⟩
theorem km_X11_findFreshTraces : j_m yX11_findFreshTraces cX11_findFreshTraces 3 (some .boolean) 1 := ⟨(j_at 836 (by decide +kernel) rfl), (j_at 1 (by decide +kernel) rfl), by decide, by decide +kernel, by decide +kernel, by decide +kernel⟩
theorem km_X11_forget : j_m yX11_forget cX11_forget 2 none 0 := ⟨(j_at 261 (by decide +kernel) rfl), (j_at 1 (by decide +kernel) rfl), by decide, by decide +kernel, by decide +kernel, by decide +kernel⟩
theorem km_X11_hecke : j_m yX11_hecke cX11_hecke 6 (some .boolean) 2 := ⟨(j_at 719 (by decide +kernel) rfl), (j_at 1 (by decide +kernel) rfl), by decide, by decide +kernel, by decide +kernel, by decide +kernel⟩
theorem km_X11_image : j_m yX11_image cX11_image 3 (some .boolean) 2 := ⟨(j_at 845 (by decide +kernel) rfl), (j_at 1 (by decide +kernel) rfl), by decide, by decide +kernel, by decide +kernel, by decide +kernel⟩
theorem km_X11_init : j_m yX11_init cX11_init 2 none 0 := ⟨(j_at 31 (by decide +kernel) rfl), (j_at 1 (by decide +kernel) rfl), by decide, by decide +kernel, by decide +kernel, by decide +kernel⟩
theorem km_X11_isHecke : j_m yX11_isHecke cX11_isHecke 1 (some .boolean) 1 := ⟨(j_at 722 (by decide +kernel) rfl), (j_at 1 (by decide +kernel) rfl), by decide, by decide +kernel, by decide +kernel, by decide +kernel⟩
theorem km_X11_isLet : j_m yX11_isLet cX11_isLet 2 (some .boolean) 1 := ⟨(j_at 520 (by decide +kernel) rfl), (j_at 1 (by decide +kernel) rfl), by decide, by decide +kernel, by decide +kernel, by decide +kernel⟩
theorem km_X11_isRegister : j_m yX11_isRegister cX11_isRegister 1 (some .boolean) 1 := ⟨(j_at 528 (by decide +kernel) rfl), (j_at 1 (by decide +kernel) rfl), by decide, by decide +kernel, by decide +kernel, by decide +kernel⟩
theorem km_X11_isRow : j_m yX11_isRow cX11_isRow 2 (some .boolean) 2 := ⟨(j_at 832 (by decide +kernel) rfl), (j_at 1 (by decide +kernel) rfl), by decide, by decide +kernel, by decide +kernel, by decide +kernel⟩
theorem km_X11_isWeight : j_m yX11_isWeight cX11_isWeight 1 (some .boolean) 1 := ⟨(j_at 605 (by decide +kernel) rfl), (j_at 1 (by decide +kernel) rfl), by decide, by decide +kernel, by decide +kernel, by decide +kernel⟩
theorem km_X11_laidImages : j_m yX11_laidImages cX11_laidImages 3 (some .int) 0 := ⟨(j_at 512 (by decide +kernel) rfl), (j_at 1 (by decide +kernel) rfl), by decide, by decide +kernel, by decide +kernel, by decide +kernel⟩
theorem km_X11_lengthOf : j_m yX11_lengthOf cX11_lengthOf 1 (some .int) 1 := ⟨(j_at 107 (by decide +kernel) rfl), (j_at 1 (by decide +kernel) rfl), by decide, by decide +kernel, by decide +kernel, by decide +kernel⟩
theorem km_X11_let : j_m yX11_let cX11_let 4 (some .int) 2 := ⟨(j_at 516 (by decide +kernel) rfl), (j_at 1 (by decide +kernel) rfl), by decide, by decide +kernel, by decide +kernel, by decide +kernel⟩
theorem km_X11_makes : j_m yX11_makes cX11_makes 3 (some .int) 2 := ⟨(j_at 602 (by decide +kernel) rfl), (j_at 1 (by decide +kernel) rfl), by decide, by decide +kernel, by decide +kernel, by decide +kernel⟩
theorem km_X11_multiplies : j_m yX11_multiplies cX11_multiplies 8 (some .int) 2 := ⟨(j_at 739 (by decide +kernel) rfl), (j_at 1 (by decide +kernel) rfl), by decide, by decide +kernel, by decide +kernel, by decide +kernel⟩
theorem km_X11_newForms : j_m yX11_newForms cX11_newForms 3 (some (.array (.object "HeckeSeries$Form"))) 1 := ⟨(j_at 37 (by decide +kernel) rfl), (j_at 1 (by decide +kernel) rfl), by decide, by decide +kernel, by decide +kernel, by decide +kernel⟩
theorem km_X11_newShelves : j_m yX11_newShelves cX11_newShelves 2 (some (.array (.object "HeckeSeries$Shelf"))) 0 := ⟨(j_at 62 (by decide +kernel) rfl), (j_at 1 (by decide +kernel) rfl), by decide, by decide +kernel, by decide +kernel, by decide +kernel⟩
theorem km_X11_own : j_m yX11_own cX11_own 5 (some .int) 3 := ⟨(j_at 805 (by decide +kernel) rfl), (j_at 1 (by decide +kernel) rfl), by decide, by decide +kernel, by decide +kernel, by decide +kernel⟩
theorem km_X11_partingPlace : j_m yX11_partingPlace cX11_partingPlace 3 (some .int) 2 := ⟨(j_at 751 (by decide +kernel) rfl), (j_at 1 (by decide +kernel) rfl), by decide, by decide +kernel, by decide +kernel, by decide +kernel⟩
theorem km_X11_parts : j_m yX11_parts cX11_parts 3 (some .int) 2 := ⟨(j_at 755 (by decide +kernel) rfl), (j_at 1 (by decide +kernel) rfl), by decide, by decide +kernel, by decide +kernel, by decide +kernel⟩
theorem km_X11_plus : j_m yX11_plus cX11_plus 4 (some .boolean) 3 := ⟨(j_at 708 (by decide +kernel) rfl), (j_at 1 (by decide +kernel) rfl), by decide, by decide +kernel, by decide +kernel, by decide +kernel⟩
theorem km_X11_polynomial : j_m yX11_polynomial cX11_polynomial 4 (some .int) 3 := ⟨(j_at 763 (by decide +kernel) rfl), (j_at 1 (by decide +kernel) rfl), by decide, by decide +kernel, by decide +kernel, by decide +kernel⟩
theorem km_X11_put : j_m yX11_put cX11_put 7 (some .boolean) 4 := ⟨(j_at 829 (by decide +kernel) rfl), (j_at 1 (by decide +kernel) rfl), by decide, by decide +kernel, by decide +kernel, by decide +kernel⟩
theorem km_X11_readyForHecke : j_m yX11_readyForHecke cX11_readyForHecke 3 (some (.object "HeckeSeries$Space")) 2 := ⟨(j_at 726 (by decide +kernel) rfl), (j_at 1 (by decide +kernel) rfl), by decide, by decide +kernel, by decide +kernel, by decide +kernel⟩
theorem km_X11_root : j_m yX11_root cX11_root 4 (some .int) 2 := ⟨(j_at 789 (by decide +kernel) rfl), (j_at 1 (by decide +kernel) rfl), by decide, by decide +kernel, by decide +kernel, by decide +kernel⟩
theorem km_X11_share : j_m yX11_share cX11_share 5 (some .int) 2 := ⟨(j_at 688 (by decide +kernel) rfl), (j_at 1 (by decide +kernel) rfl), by decide, by decide +kernel, by decide +kernel, by decide +kernel⟩
theorem km_X11_small : j_m yX11_small cX11_small 2 (some .int) 1 := ⟨(j_at 615 (by decide +kernel) rfl), (j_at 1 (by decide +kernel) rfl), by decide, by decide +kernel, by decide +kernel, by decide +kernel⟩
theorem km_X11_spaceWithRoots : j_m yX11_spaceWithRoots cX11_spaceWithRoots 3 (some (.object "HeckeSeries$Space")) 1 := ⟨(j_at 793 (by decide +kernel) rfl), (j_at 1 (by decide +kernel) rfl), by decide, by decide +kernel, by decide +kernel, by decide +kernel⟩
theorem km_X11_swap : j_m yX11_swap cX11_swap 2 (some .int) 0 := ⟨(j_at 841 (by decide +kernel) rfl), (j_at 1 (by decide +kernel) rfl), by decide, by decide +kernel, by decide +kernel, by decide +kernel⟩
theorem km_X11_table : j_m yX11_table cX11_table 7 (some .int) 4 := ⟨(j_at 759 (by decide +kernel) rfl), (j_at 1 (by decide +kernel) rfl), by decide, by decide +kernel, by decide +kernel, by decide +kernel⟩
theorem km_X11_take : j_m yX11_take cX11_take 3 (some .int) 2 := ⟨(j_at 704 (by decide +kernel) rfl), (j_at 1 (by decide +kernel) rfl), by decide, by decide +kernel, by decide +kernel, by decide +kernel⟩
theorem km_X11_times : j_m yX11_times cX11_times 3 (some .int) 2 := ⟨(j_at 714 (by decide +kernel) rfl), (j_at 1 (by decide +kernel) rfl), by decide, by decide +kernel, by decide +kernel, by decide +kernel⟩
theorem km_X11_trace : j_m yX11_trace cX11_trace 3 (some .long) 2 := ⟨(j_at 634 (by decide +kernel) rfl), (j_at 1 (by decide +kernel) rfl), by decide, by decide +kernel, by decide +kernel, by decide +kernel⟩
theorem km_X11_traceLeft : j_m yX11_traceLeft cX11_traceLeft 3 (some .int) 2 := ⟨(j_at 675 (by decide +kernel) rfl), (j_at 1 (by decide +kernel) rfl), by decide, by decide +kernel, by decide +kernel, by decide +kernel⟩
theorem km_X11_weight : j_m yX11_weight cX11_weight 2 (some .int) 1 := ⟨(j_at 598 (by decide +kernel) rfl), (j_at 1 (by decide +kernel) rfl), by decide, by decide +kernel, by decide +kernel, by decide +kernel⟩
theorem km_X12_alike : j_m yX12_alike cX12_alike 6 (some .int) 3 := ⟨(j_at 1371 (by decide +kernel) rfl), (j_at 11 (by decide +kernel) rfl), by decide, by decide +kernel, by decide +kernel, by decide +kernel⟩
theorem km_X12_atom : j_m yX12_atom cX12_atom 2 (some .boolean) 0 := ⟨(j_at 1057 (by decide +kernel) rfl), (j_at 11 (by decide +kernel) rfl), by decide, by decide +kernel, by decide +kernel, by decide +kernel⟩
theorem km_X12_bad : j_m yX12_bad cX12_bad 2 (some .boolean) 1 := ⟨(j_at 1010 (by decide +kernel) rfl), (j_at 11 (by decide +kernel) rfl), by decide, by decide +kernel, by decide +kernel, by decide +kernel⟩
theorem km_X12_badAt : j_m yX12_badAt cX12_badAt 3 (some .boolean) 2 := ⟨(j_at 1014 (by decide +kernel) rfl), (j_at 11 (by decide +kernel) rfl), by decide, by decide +kernel, by decide +kernel, by decide +kernel⟩
theorem km_X12_book : j_m yX12_book cX12_book 4 (some .int) 1 := ⟨(j_at 960 (by decide +kernel) rfl), (j_at 11 (by decide +kernel) rfl), by decide, by decide +kernel, by decide +kernel, by decide +kernel⟩
theorem km_X12_builds : j_m yX12_builds cX12_builds 5 none 1 := ⟨(j_at 1359 (by decide +kernel) rfl), (j_at 11 (by decide +kernel) rfl), by decide, by decide +kernel, by decide +kernel, by decide +kernel⟩
theorem km_X12_byteAt : j_m yX12_byteAt cX12_byteAt 2 (some .int) 1 := ⟨(j_at 994 (by decide +kernel) rfl), (j_at 11 (by decide +kernel) rfl), by decide, by decide +kernel, by decide +kernel, by decide +kernel⟩
theorem km_X12_coefficient : j_m yX12_coefficient cX12_coefficient 3 (some .int) 2 := ⟨(j_at 1250 (by decide +kernel) rfl), (j_at 11 (by decide +kernel) rfl), by decide, by decide +kernel, by decide +kernel, by decide +kernel⟩
theorem km_X12_copies : j_m yX12_copies cX12_copies 5 none 4 := ⟨(j_at 1068 (by decide +kernel) rfl), (j_at 11 (by decide +kernel) rfl), by decide, by decide +kernel, by decide +kernel, by decide +kernel⟩
theorem km_X12_count : j_m yX12_count cX12_count 2 (some .int) 1 := ⟨(j_at 1239 (by decide +kernel) rfl), (j_at 11 (by decide +kernel) rfl), by decide, by decide +kernel, by decide +kernel, by decide +kernel⟩
theorem km_X12_counts : j_m yX12_counts cX12_counts 7 (some .int) 2 := ⟨(j_at 1281 (by decide +kernel) rfl), (j_at 11 (by decide +kernel) rfl), by decide, by decide +kernel, by decide +kernel, by decide +kernel⟩
theorem km_X12_cuspsOf : j_m yX12_cuspsOf cX12_cuspsOf 1 (some .int) 1 := ⟨(j_at 1268 (by decide +kernel) rfl), (j_at 11 (by decide +kernel) rfl), by decide, by decide +kernel, by decide +kernel, by decide +kernel⟩
theorem km_X12_divisor : j_m yX12_divisor cX12_divisor 5 (some .int) 2 := ⟨(j_at 1284 (by decide +kernel) rfl), (j_at 11 (by decide +kernel) rfl), by decide, by decide +kernel, by decide +kernel, by decide +kernel⟩
theorem km_X12_feed : j_m yX12_feed cX12_feed 6 (some .int) 5 := ⟨(j_at 951 (by decide +kernel) rfl), (j_at 11 (by decide +kernel) rfl), by decide, by decide +kernel, by decide +kernel, by decide +kernel⟩
theorem km_X12_go : j_m yX12_go cX12_go 2 none 0 := ⟨(j_at 990 (by decide +kernel) rfl), (j_at 11 (by decide +kernel) rfl), by decide, by decide +kernel, by decide +kernel, by decide +kernel⟩
theorem km_X12_hecke : j_m yX12_hecke cX12_hecke 5 (some .boolean) 2 := ⟨(j_at 1348 (by decide +kernel) rfl), (j_at 11 (by decide +kernel) rfl), by decide, by decide +kernel, by decide +kernel, by decide +kernel⟩
theorem km_X12_heckeAt : j_m yX12_heckeAt cX12_heckeAt 9 (some .int) 5 := ⟨(j_at 1355 (by decide +kernel) rfl), (j_at 11 (by decide +kernel) rfl), by decide, by decide +kernel, by decide +kernel, by decide +kernel⟩
theorem km_X12_image : j_m yX12_image cX12_image 4 (some .boolean) 2 := ⟨(j_at 1431 (by decide +kernel) rfl), (j_at 11 (by decide +kernel) rfl), by decide, by decide +kernel, by decide +kernel, by decide +kernel⟩
theorem km_X12_init : j_m yX12_init cX12_init 1 none 0 := ⟨(j_at 1080 (by decide +kernel) rfl), (j_at 11 (by decide +kernel) rfl), by decide, by decide +kernel, by decide +kernel, by decide +kernel⟩
theorem km_X12_inverse : j_m yX12_inverse cX12_inverse 7 (some .int) 1 := ⟨(j_at 986 (by decide +kernel) rfl), (j_at 11 (by decide +kernel) rfl), by decide, by decide +kernel, by decide +kernel, by decide +kernel⟩
theorem km_X12_is : j_m yX12_is cX12_is 2 (some .boolean) 1 := ⟨(j_at 1025 (by decide +kernel) rfl), (j_at 11 (by decide +kernel) rfl), by decide, by decide +kernel, by decide +kernel, by decide +kernel⟩
theorem km_X12_isDisc : j_m yX12_isDisc cX12_isDisc 1 (some .boolean) 1 := ⟨(j_at 1278 (by decide +kernel) rfl), (j_at 11 (by decide +kernel) rfl), by decide, by decide +kernel, by decide +kernel, by decide +kernel⟩
theorem km_X12_isName : j_m yX12_isName cX12_isName 1 (some .boolean) 0 := ⟨(j_at 1033 (by decide +kernel) rfl), (j_at 11 (by decide +kernel) rfl), by decide, by decide +kernel, by decide +kernel, by decide +kernel⟩
theorem km_X12_isOperator : j_m yX12_isOperator cX12_isOperator 1 (some .boolean) 1 := ⟨(j_at 1351 (by decide +kernel) rfl), (j_at 11 (by decide +kernel) rfl), by decide, by decide +kernel, by decide +kernel, by decide +kernel⟩
theorem km_X12_isOwn : j_m yX12_isOwn cX12_isOwn 1 (some .boolean) 0 := ⟨(j_at 1037 (by decide +kernel) rfl), (j_at 11 (by decide +kernel) rfl), by decide, by decide +kernel, by decide +kernel, by decide +kernel⟩
theorem km_X12_isPrime : j_m yX12_isPrime cX12_isPrime 3 (some .boolean) 1 := ⟨(j_at 1017 (by decide +kernel) rfl), (j_at 11 (by decide +kernel) rfl), by decide, by decide +kernel, by decide +kernel, by decide +kernel⟩
theorem km_X12_isRegister : j_m yX12_isRegister cX12_isRegister 2 (some .boolean) 1 := ⟨(j_at 1254 (by decide +kernel) rfl), (j_at 11 (by decide +kernel) rfl), by decide, by decide +kernel, by decide +kernel, by decide +kernel⟩
theorem km_X12_isSign : j_m yX12_isSign cX12_isSign 1 (some .boolean) 1 := ⟨(j_at 998 (by decide +kernel) rfl), (j_at 11 (by decide +kernel) rfl), by decide, by decide +kernel, by decide +kernel, by decide +kernel⟩
theorem km_X12_isTraced : j_m yX12_isTraced cX12_isTraced 2 (some .boolean) 2 := ⟨(j_at 1295 (by decide +kernel) rfl), (j_at 11 (by decide +kernel) rfl), by decide, by decide +kernel, by decide +kernel, by decide +kernel⟩
theorem km_X12_isWeight : j_m yX12_isWeight cX12_isWeight 1 (some .boolean) 1 := ⟨(j_at 1265 (by decide +kernel) rfl), (j_at 11 (by decide +kernel) rfl), by decide, by decide +kernel, by decide +kernel, by decide +kernel⟩
theorem km_X12_isWord : j_m yX12_isWord cX12_isWord 8 (some .boolean) 5 := ⟨(j_at 1002 (by decide +kernel) rfl), (j_at 11 (by decide +kernel) rfl), by decide, by decide +kernel, by decide +kernel, by decide +kernel⟩
theorem km_X12_joins : j_m yX12_joins cX12_joins 1 none 0 := ⟨(j_at 1072 (by decide +kernel) rfl), (j_at 11 (by decide +kernel) rfl), by decide, by decide +kernel, by decide +kernel, by decide +kernel⟩
theorem km_X12_laysBasic : j_m yX12_laysBasic cX12_laysBasic 7 none 0 := ⟨(j_at 967 (by decide +kernel) rfl), (j_at 11 (by decide +kernel) rfl), by decide, by decide +kernel, by decide +kernel, by decide +kernel⟩
theorem km_X12_laysPolynomial : j_m yX12_laysPolynomial cX12_laysPolynomial 7 none 0 := ⟨(j_at 1391 (by decide +kernel) rfl), (j_at 11 (by decide +kernel) rfl), by decide, by decide +kernel, by decide +kernel, by decide +kernel⟩
theorem km_X12_laysRoots : j_m yX12_laysRoots cX12_laysRoots 6 none 1 := ⟨(j_at 1399 (by decide +kernel) rfl), (j_at 11 (by decide +kernel) rfl), by decide, by decide +kernel, by decide +kernel, by decide +kernel⟩
theorem km_X12_laysRows : j_m yX12_laysRows cX12_laysRows 7 none 1 := ⟨(j_at 1363 (by decide +kernel) rfl), (j_at 11 (by decide +kernel) rfl), by decide, by decide +kernel, by decide +kernel, by decide +kernel⟩
theorem km_X12_laysTable : j_m yX12_laysTable cX12_laysTable 5 none 2 := ⟨(j_at 1383 (by decide +kernel) rfl), (j_at 11 (by decide +kernel) rfl), by decide, by decide +kernel, by decide +kernel, by decide +kernel⟩
theorem km_X12_left : j_m yX12_left cX12_left 5 (some .int) 1 := ⟨(j_at 976 (by decide +kernel) rfl), (j_at 11 (by decide +kernel) rfl), by decide, by decide +kernel, by decide +kernel, by decide +kernel⟩
theorem km_X12_let : j_m yX12_let cX12_let 3 (some .int) 2 := ⟨(j_at 1243 (by decide +kernel) rfl), (j_at 11 (by decide +kernel) rfl), by decide, by decide +kernel, by decide +kernel, by decide +kernel⟩
theorem km_X12_letLine : j_m yX12_letLine cX12_letLine 2 (some .boolean) 0 := ⟨(j_at 1029 (by decide +kernel) rfl), (j_at 11 (by decide +kernel) rfl), by decide, by decide +kernel, by decide +kernel, by decide +kernel⟩
theorem km_X12_longOf : j_m yX12_longOf cX12_longOf 1 (some .int) 1 := ⟨(j_at 1246 (by decide +kernel) rfl), (j_at 11 (by decide +kernel) rfl), by decide, by decide +kernel, by decide +kernel, by decide +kernel⟩
theorem km_X12_makes : j_m yX12_makes cX12_makes 3 (some .int) 2 := ⟨(j_at 1262 (by decide +kernel) rfl), (j_at 11 (by decide +kernel) rfl), by decide, by decide +kernel, by decide +kernel, by decide +kernel⟩
theorem km_X12_multiplies : j_m yX12_multiplies cX12_multiplies 10 none 5 := ⟨(j_at 981 (by decide +kernel) rfl), (j_at 11 (by decide +kernel) rfl), by decide, by decide +kernel, by decide +kernel, by decide +kernel⟩
theorem km_X12_multiplies_ : j_m yX12_multiplies_ cX12_multiplies_ 8 (some .int) 2 := ⟨(j_at 1367 (by decide +kernel) rfl), (j_at 11 (by decide +kernel) rfl), by decide, by decide +kernel, by decide +kernel, by decide +kernel⟩
theorem km_X12_named : j_m yX12_named cX12_named 4 (some .int) 0 := ⟨(j_at 1041 (by decide +kernel) rfl), (j_at 11 (by decide +kernel) rfl), by decide, by decide +kernel, by decide +kernel, by decide +kernel⟩
theorem km_X12_own : j_m yX12_own cX12_own 4 (some .int) 3 := ⟨(j_at 1403 (by decide +kernel) rfl), (j_at 11 (by decide +kernel) rfl), by decide, by decide +kernel, by decide +kernel, by decide +kernel⟩
theorem km_X12_parts : j_m yX12_parts cX12_parts 4 (some .int) 2 := ⟨(j_at 1375 (by decide +kernel) rfl), (j_at 11 (by decide +kernel) rfl), by decide, by decide +kernel, by decide +kernel, by decide +kernel⟩
theorem km_X12_plus : j_m yX12_plus cX12_plus 7 (some .long) 2 := ⟨(j_at 1309 (by decide +kernel) rfl), (j_at 11 (by decide +kernel) rfl), by decide, by decide +kernel, by decide +kernel, by decide +kernel⟩
theorem km_X12_plus_ : j_m yX12_plus_ cX12_plus_ 7 (some .boolean) 3 := ⟨(j_at 1340 (by decide +kernel) rfl), (j_at 11 (by decide +kernel) rfl), by decide, by decide +kernel, by decide +kernel, by decide +kernel⟩
theorem km_X12_polynomial : j_m yX12_polynomial cX12_polynomial 4 (some .int) 3 := ⟨(j_at 1387 (by decide +kernel) rfl), (j_at 11 (by decide +kernel) rfl), by decide, by decide +kernel, by decide +kernel, by decide +kernel⟩
theorem km_X12_power : j_m yX12_power cX12_power 6 (some .int) 2 := ⟨(j_at 971 (by decide +kernel) rfl), (j_at 11 (by decide +kernel) rfl), by decide, by decide +kernel, by decide +kernel, by decide +kernel⟩
theorem km_X12_power_ : j_m yX12_power_ cX12_power_ 5 (some .boolean) 0 := ⟨(j_at 1053 (by decide +kernel) rfl), (j_at 11 (by decide +kernel) rfl), by decide, by decide +kernel, by decide +kernel, by decide +kernel⟩
theorem km_X12_primeLine : j_m yX12_primeLine cX12_primeLine 1 (some .boolean) 0 := ⟨(j_at 1006 (by decide +kernel) rfl), (j_at 11 (by decide +kernel) rfl), by decide, by decide +kernel, by decide +kernel, by decide +kernel⟩
theorem km_X12_product : j_m yX12_product cX12_product 3 (some .boolean) 0 := ⟨(j_at 1049 (by decide +kernel) rfl), (j_at 11 (by decide +kernel) rfl), by decide, by decide +kernel, by decide +kernel, by decide +kernel⟩
theorem km_X12_pushes : j_m yX12_pushes cX12_pushes 4 none 3 := ⟨(j_at 1065 (by decide +kernel) rfl), (j_at 11 (by decide +kernel) rfl), by decide, by decide +kernel, by decide +kernel, by decide +kernel⟩
theorem km_X12_pushesNumber : j_m yX12_pushesNumber cX12_pushesNumber 3 none 1 := ⟨(j_at 1061 (by decide +kernel) rfl), (j_at 11 (by decide +kernel) rfl), by decide, by decide +kernel, by decide +kernel, by decide +kernel⟩
theorem km_X12_put : j_m yX12_put cX12_put 9 (some .boolean) 4 := ⟨(j_at 1415 (by decide +kernel) rfl), (j_at 11 (by decide +kernel) rfl), by decide, by decide +kernel, by decide +kernel, by decide +kernel⟩
theorem km_X12_puts : j_m yX12_puts cX12_puts 3 none 1 := ⟨(j_at 956 (by decide +kernel) rfl), (j_at 11 (by decide +kernel) rfl), by decide, by decide +kernel, by decide +kernel, by decide +kernel⟩
theorem km_X12_root : j_m yX12_root cX12_root 3 (some .int) 2 := ⟨(j_at 1395 (by decide +kernel) rfl), (j_at 11 (by decide +kernel) rfl), by decide, by decide +kernel, by decide +kernel, by decide +kernel⟩
theorem km_X12_row : j_m yX12_row cX12_row 4 (some .long) 3 := ⟨(j_at 1423 (by decide +kernel) rfl), (j_at 11 (by decide +kernel) rfl), by decide, by decide +kernel, by decide +kernel, by decide +kernel⟩
theorem km_X12_share : j_m yX12_share cX12_share 8 (some .int) 2 := ⟨(j_at 1321 (by decide +kernel) rfl), (j_at 11 (by decide +kernel) rfl), by decide, by decide +kernel, by decide +kernel, by decide +kernel⟩
theorem km_X12_sign : j_m yX12_sign cX12_sign 2 (some .boolean) 1 := ⟨(j_at 1021 (by decide +kernel) rfl), (j_at 11 (by decide +kernel) rfl), by decide, by decide +kernel, by decide +kernel, by decide +kernel⟩
theorem km_X12_small : j_m yX12_small cX12_small 2 (some .int) 1 := ⟨(j_at 1288 (by decide +kernel) rfl), (j_at 11 (by decide +kernel) rfl), by decide, by decide +kernel, by decide +kernel, by decide +kernel⟩
theorem km_X12_solves : j_m yX12_solves cX12_solves 5 (some .boolean) 1 := ⟨(j_at 1407 (by decide +kernel) rfl), (j_at 11 (by decide +kernel) rfl), by decide, by decide +kernel, by decide +kernel, by decide +kernel⟩
theorem km_X12_sortOf : j_m yX12_sortOf cX12_sortOf 2 (some .int) 1 := ⟨(j_at 1419 (by decide +kernel) rfl), (j_at 11 (by decide +kernel) rfl), by decide, by decide +kernel, by decide +kernel, by decide +kernel⟩
theorem km_X12_sum : j_m yX12_sum cX12_sum 5 (some .boolean) 0 := ⟨(j_at 1045 (by decide +kernel) rfl), (j_at 11 (by decide +kernel) rfl), by decide, by decide +kernel, by decide +kernel, by decide +kernel⟩
theorem km_X12_swap : j_m yX12_swap cX12_swap 2 (some .int) 0 := ⟨(j_at 1427 (by decide +kernel) rfl), (j_at 11 (by decide +kernel) rfl), by decide, by decide +kernel, by decide +kernel, by decide +kernel⟩
theorem km_X12_table : j_m yX12_table cX12_table 5 (some .int) 4 := ⟨(j_at 1379 (by decide +kernel) rfl), (j_at 11 (by decide +kernel) rfl), by decide, by decide +kernel, by decide +kernel, by decide +kernel⟩
theorem km_X12_take : j_m yX12_take cX12_take 3 (some .int) 2 := ⟨(j_at 1336 (by decide +kernel) rfl), (j_at 11 (by decide +kernel) rfl), by decide, by decide +kernel, by decide +kernel, by decide +kernel⟩
theorem km_X12_takes : j_m yX12_takes cX12_takes 3 none 0 := ⟨(j_at 1076 (by decide +kernel) rfl), (j_at 11 (by decide +kernel) rfl), by decide, by decide +kernel, by decide +kernel, by decide +kernel⟩
theorem km_X12_takesStep : j_m yX12_takesStep cX12_takesStep 9 none 3 := ⟨(j_at 1411 (by decide +kernel) rfl), (j_at 11 (by decide +kernel) rfl), by decide, by decide +kernel, by decide +kernel, by decide +kernel⟩
theorem km_X12_thrown : j_m yX12_thrown cX12_thrown 1 (some .int) 0 := ⟨(j_at 947 (by decide +kernel) rfl), (j_at 11 (by decide +kernel) rfl), by decide, by decide +kernel, by decide +kernel, by decide +kernel⟩
theorem km_X12_times : j_m yX12_times cX12_times 9 (some .long) 2 := ⟨(j_at 1304 (by decide +kernel) rfl), (j_at 11 (by decide +kernel) rfl), by decide, by decide +kernel, by decide +kernel, by decide +kernel⟩
theorem km_X12_times_ : j_m yX12_times_ cX12_times_ 3 (some .int) 2 := ⟨(j_at 1344 (by decide +kernel) rfl), (j_at 11 (by decide +kernel) rfl), by decide, by decide +kernel, by decide +kernel, by decide +kernel⟩
theorem km_X12_trace : j_m yX12_trace cX12_trace 5 (some .long) 2 := ⟨(j_at 1292 (by decide +kernel) rfl), (j_at 11 (by decide +kernel) rfl), by decide, by decide +kernel, by decide +kernel, by decide +kernel⟩
theorem km_X12_traceLeft : j_m yX12_traceLeft cX12_traceLeft 13 (some .int) 2 := ⟨(j_at 1317 (by decide +kernel) rfl), (j_at 11 (by decide +kernel) rfl), by decide, by decide +kernel, by decide +kernel, by decide +kernel⟩
theorem km_X12_traceOf : j_m yX12_traceOf cX12_traceOf 14 (some .long) 2 := ⟨(j_at 1300 (by decide +kernel) rfl), (j_at 11 (by decide +kernel) rfl), by decide, by decide +kernel, by decide +kernel, by decide +kernel⟩
theorem km_X12_weight : j_m yX12_weight cX12_weight 2 (some .int) 1 := ⟨(j_at 1258 (by decide +kernel) rfl), (j_at 11 (by decide +kernel) rfl), by decide, by decide +kernel, by decide +kernel, by decide +kernel⟩
theorem km_X12_whole : j_m yX12_whole cX12_whole 2 (some .int) 1 := ⟨(j_at 1272 (by decide +kernel) rfl), (j_at 11 (by decide +kernel) rfl), by decide, by decide +kernel, by decide +kernel, by decide +kernel⟩
theorem km_X12_wholeOf : j_m yX12_wholeOf cX12_wholeOf 1 (some .int) 1 := ⟨(j_at 1275 (by decide +kernel) rfl), (j_at 11 (by decide +kernel) rfl), by decide, by decide +kernel, by decide +kernel, by decide +kernel⟩
theorem km_X12_within : j_m yX12_within cX12_within 3 (some .boolean) 3 := ⟨(j_at 963 (by decide +kernel) rfl), (j_at 11 (by decide +kernel) rfl), by decide, by decide +kernel, by decide +kernel, by decide +kernel⟩
theorem km_X1_addUp : j_m yX1_addUp cX1_addUp 7 (some .int) 2 := ⟨(j_at 624 (by decide +kernel) rfl), (j_at 23 (by decide +kernel) rfl), by decide, by decide +kernel, by decide +kernel, by decide +kernel⟩
theorem km_X1_inTwelfths : j_m yX1_inTwelfths cX1_inTwelfths 1 (some .int) 1 := ⟨(j_at 648 (by decide +kernel) rfl), (j_at 23 (by decide +kernel) rfl), by decide, by decide +kernel, by decide +kernel, by decide +kernel⟩
theorem km_X1_isDiscriminant : j_m yX1_isDiscriminant cX1_isDiscriminant 1 (some .boolean) 1 := ⟨(j_at 621 (by decide +kernel) rfl), (j_at 23 (by decide +kernel) rfl), by decide, by decide +kernel, by decide +kernel, by decide +kernel⟩
theorem km_X1_ofNothingInCommon : j_m yX1_ofNothingInCommon cX1_ofNothingInCommon 1 (some .int) 1 := ⟨(j_at 618 (by decide +kernel) rfl), (j_at 23 (by decide +kernel) rfl), by decide, by decide +kernel, by decide +kernel, by decide +kernel⟩
theorem km_X1_onlyIfPrimitive : j_m yX1_onlyIfPrimitive cX1_onlyIfPrimitive 4 (some .int) 3 := ⟨(j_at 627 (by decide +kernel) rfl), (j_at 23 (by decide +kernel) rfl), by decide, by decide +kernel, by decide +kernel, by decide +kernel⟩
theorem km_X1_twelfths : j_m yX1_twelfths cX1_twelfths 3 (some .int) 3 := ⟨(j_at 630 (by decide +kernel) rfl), (j_at 23 (by decide +kernel) rfl), by decide, by decide +kernel, by decide +kernel, by decide +kernel⟩
theorem km_X2_add : j_m yX2_add cX2_add 5 none 3 := ⟨(j_at 503 (by decide +kernel) rfl), (j_at 2 (by decide +kernel) rfl), by decide, by decide +kernel, by decide +kernel, by decide +kernel⟩
theorem km_X2_copyFrom : j_m yX2_copyFrom cX2_copyFrom 2 none 1 := ⟨(j_at 487 (by decide +kernel) rfl), (j_at 2 (by decide +kernel) rfl), by decide, by decide +kernel, by decide +kernel, by decide +kernel⟩
theorem km_X2_firstNotZero : j_m yX2_firstNotZero cX2_firstNotZero 2 (some .int) 0 := ⟨(j_at 743 (by decide +kernel) rfl), (j_at 2 (by decide +kernel) rfl), by decide, by decide +kernel, by decide +kernel, by decide +kernel⟩
theorem km_X2_init : j_m yX2_init cX2_init 1 none 0 := ⟨(j_at 43 (by decide +kernel) rfl), (j_at 2 (by decide +kernel) rfl), by decide, by decide +kernel, by decide +kernel, by decide +kernel⟩
theorem km_X2_multiplyBy : j_m yX2_multiplyBy cX2_multiplyBy 7 none 2 := ⟨(j_at 498 (by decide +kernel) rfl), (j_at 2 (by decide +kernel) rfl), by decide, by decide +kernel, by decide +kernel, by decide +kernel⟩
theorem km_X2_setNumber : j_m yX2_setNumber cX2_setNumber 2 none 1 := ⟨(j_at 265 (by decide +kernel) rfl), (j_at 2 (by decide +kernel) rfl), by decide, by decide +kernel, by decide +kernel, by decide +kernel⟩
theorem km_X3_bringBack : j_m yX3_bringBack cX3_bringBack 4 (some .boolean) 2 := ⟨(j_at 862 (by decide +kernel) rfl), (j_at 9 (by decide +kernel) rfl), by decide, by decide +kernel, by decide +kernel, by decide +kernel⟩
theorem km_X3_copyAll : j_m yX3_copyAll cX3_copyAll 5 none 4 := ⟨(j_at 852 (by decide +kernel) rfl), (j_at 9 (by decide +kernel) rfl), by decide, by decide +kernel, by decide +kernel, by decide +kernel⟩
theorem km_X3_init : j_m yX3_init cX3_init 1 none 0 := ⟨(j_at 243 (by decide +kernel) rfl), (j_at 9 (by decide +kernel) rfl), by decide, by decide +kernel, by decide +kernel, by decide +kernel⟩
theorem km_X3_lay : j_m yX3_lay cX3_lay 3 none 2 := ⟨(j_at 849 (by decide +kernel) rfl), (j_at 9 (by decide +kernel) rfl), by decide, by decide +kernel, by decide +kernel, by decide +kernel⟩
theorem km_X4_divide : j_m yX4_divide cX4_divide 3 (some .int) 3 := ⟨(j_at 577 (by decide +kernel) rfl), (j_at 16 (by decide +kernel) rfl), by decide, by decide +kernel, by decide +kernel, by decide +kernel⟩
theorem km_X4_of : j_m yX4_of cX4_of 4 (some .int) 2 := ⟨(j_at 472 (by decide +kernel) rfl), (j_at 16 (by decide +kernel) rfl), by decide, by decide +kernel, by decide +kernel, by decide +kernel⟩
theorem km_X4_power : j_m yX4_power cX4_power 6 (some .int) 3 := ⟨(j_at 561 (by decide +kernel) rfl), (j_at 16 (by decide +kernel) rfl), by decide, by decide +kernel, by decide +kernel, by decide +kernel⟩
theorem km_X5_clearColumn : j_m yX5_clearColumn cX5_clearColumn 6 none 1 := ⟨(j_at 825 (by decide +kernel) rfl), (j_at 6 (by decide +kernel) rfl), by decide, by decide +kernel, by decide +kernel, by decide +kernel⟩
theorem km_X5_exchange : j_m yX5_exchange cX5_exchange 5 none 2 := ⟨(j_at 821 (by decide +kernel) rfl), (j_at 6 (by decide +kernel) rfl), by decide, by decide +kernel, by decide +kernel, by decide +kernel⟩
theorem km_X5_findOwn : j_m yX5_findOwn cX5_findOwn 5 (some .boolean) 2 := ⟨(j_at 809 (by decide +kernel) rfl), (j_at 6 (by decide +kernel) rfl), by decide, by decide +kernel, by decide +kernel, by decide +kernel⟩
theorem km_X5_findPolynomial : j_m yX5_findPolynomial cX5_findPolynomial 5 none 0 := ⟨(j_at 773 (by decide +kernel) rfl), (j_at 6 (by decide +kernel) rfl), by decide, by decide +kernel, by decide +kernel, by decide +kernel⟩
theorem km_X5_findRoots : j_m yX5_findRoots cX5_findRoots 4 (some .int) 1 := ⟨(j_at 797 (by decide +kernel) rfl), (j_at 6 (by decide +kernel) rfl), by decide, by decide +kernel, by decide +kernel, by decide +kernel⟩
theorem km_X5_init : j_m yX5_init cX5_init 1 none 0 := ⟨(j_at 147 (by decide +kernel) rfl), (j_at 6 (by decide +kernel) rfl), by decide, by decide +kernel, by decide +kernel, by decide +kernel⟩
theorem km_X5_layEquations : j_m yX5_layEquations cX5_layEquations 4 none 1 := ⟨(j_at 813 (by decide +kernel) rfl), (j_at 6 (by decide +kernel) rfl), by decide, by decide +kernel, by decide +kernel, by decide +kernel⟩
theorem km_X5_liftPivot : j_m yX5_liftPivot cX5_liftPivot 3 (some .boolean) 1 := ⟨(j_at 817 (by decide +kernel) rfl), (j_at 6 (by decide +kernel) rfl), by decide, by decide +kernel, by decide +kernel, by decide +kernel⟩
theorem km_X5_load : j_m yX5_load cX5_load 5 none 2 := ⟨(j_at 767 (by decide +kernel) rfl), (j_at 6 (by decide +kernel) rfl), by decide, by decide +kernel, by decide +kernel, by decide +kernel⟩
theorem km_X5_multiplyTableByWork : j_m yX5_multiplyTableByWork cX5_multiplyTableByWork 6 none 0 := ⟨(j_at 784 (by decide +kernel) rfl), (j_at 6 (by decide +kernel) rfl), by decide, by decide +kernel, by decide +kernel, by decide +kernel⟩
theorem km_X5_polynomialAt : j_m yX5_polynomialAt cX5_polynomialAt 4 (some .int) 1 := ⟨(j_at 801 (by decide +kernel) rfl), (j_at 6 (by decide +kernel) rfl), by decide, by decide +kernel, by decide +kernel, by decide +kernel⟩
theorem km_X5_takeProduct : j_m yX5_takeProduct cX5_takeProduct 3 none 1 := ⟨(j_at 778 (by decide +kernel) rfl), (j_at 6 (by decide +kernel) rfl), by decide, by decide +kernel, by decide +kernel, by decide +kernel⟩
theorem km_X6_copyFrom : j_m yX6_copyFrom cX6_copyFrom 3 none 1 := ⟨(j_at 857 (by decide +kernel) rfl), (j_at 3 (by decide +kernel) rfl), by decide, by decide +kernel, by decide +kernel, by decide +kernel⟩
theorem km_X6_empty : j_m yX6_empty cX6_empty 2 none 0 := ⟨(j_at 272 (by decide +kernel) rfl), (j_at 3 (by decide +kernel) rfl), by decide, by decide +kernel, by decide +kernel, by decide +kernel⟩
theorem km_X6_init : j_m yX6_init cX6_init 1 none 0 := ⟨(j_at 68 (by decide +kernel) rfl), (j_at 3 (by decide +kernel) rfl), by decide, by decide +kernel, by decide +kernel, by decide +kernel⟩
theorem km_X6_numbersInRow : j_m yX6_numbersInRow cX6_numbersInRow 1 (some .int) 0 := ⟨(j_at 943 (by decide +kernel) rfl), (j_at 3 (by decide +kernel) rfl), by decide, by decide +kernel, by decide +kernel, by decide +kernel⟩
theorem km_X7_begin : j_m yX7_begin cX7_begin 3 none 2 := ⟨(j_at 552 (by decide +kernel) rfl), (j_at 5 (by decide +kernel) rfl), by decide, by decide +kernel, by decide +kernel, by decide +kernel⟩
theorem km_X7_complete : j_m yX7_complete cX7_complete 3 none 1 := ⟨(j_at 735 (by decide +kernel) rfl), (j_at 5 (by decide +kernel) rfl), by decide, by decide +kernel, by decide +kernel, by decide +kernel⟩
theorem km_X7_expand : j_m yX7_expand cX7_expand 6 (some .int) 2 := ⟨(j_at 594 (by decide +kernel) rfl), (j_at 5 (by decide +kernel) rfl), by decide, by decide +kernel, by decide +kernel, by decide +kernel⟩
theorem km_X7_factorOfSums : j_m yX7_factorOfSums cX7_factorOfSums 1 (some .int) 0 := ⟨(j_at 557 (by decide +kernel) rfl), (j_at 5 (by decide +kernel) rfl), by decide, by decide +kernel, by decide +kernel, by decide +kernel⟩
theorem km_X7_heckeAt : j_m yX7_heckeAt cX7_heckeAt 8 (some .int) 3 := ⟨(j_at 730 (by decide +kernel) rfl), (j_at 5 (by decide +kernel) rfl), by decide, by decide +kernel, by decide +kernel, by decide +kernel⟩
theorem km_X7_init : j_m yX7_init cX7_init 2 none 1 := ⟨(j_at 101 (by decide +kernel) rfl), (j_at 5 (by decide +kernel) rfl), by decide, by decide +kernel, by decide +kernel, by decide +kernel⟩
theorem km_X7_isReady : j_m yX7_isReady cX7_isReady 3 (some .boolean) 2 := ⟨(j_at 540 (by decide +kernel) rfl), (j_at 5 (by decide +kernel) rfl), by decide, by decide +kernel, by decide +kernel, by decide +kernel⟩
theorem km_X7_makeAlone : j_m yX7_makeAlone cX7_makeAlone 8 none 2 := ⟨(j_at 548 (by decide +kernel) rfl), (j_at 5 (by decide +kernel) rfl), by decide, by decide +kernel, by decide +kernel, by decide +kernel⟩
theorem km_X7_makeFrom : j_m yX7_makeFrom cX7_makeFrom 5 none 3 := ⟨(j_at 590 (by decide +kernel) rfl), (j_at 5 (by decide +kernel) rfl), by decide, by decide +kernel, by decide +kernel, by decide +kernel⟩
theorem km_X7_makeTwelve : j_m yX7_makeTwelve cX7_makeTwelve 9 none 4 := ⟨(j_at 570 (by decide +kernel) rfl), (j_at 5 (by decide +kernel) rfl), by decide, by decide +kernel, by decide +kernel, by decide +kernel⟩
theorem km_X7_multiply : j_m yX7_multiply cX7_multiply 8 none 3 := ⟨(j_at 574 (by decide +kernel) rfl), (j_at 5 (by decide +kernel) rfl), by decide, by decide +kernel, by decide +kernel, by decide +kernel⟩
theorem km_X7_reduce : j_m yX7_reduce cX7_reduce 3 none 0 := ⟨(j_at 582 (by decide +kernel) rfl), (j_at 5 (by decide +kernel) rfl), by decide, by decide +kernel, by decide +kernel, by decide +kernel⟩
theorem km_X7_subtract : j_m yX7_subtract cX7_subtract 5 none 3 := ⟨(j_at 586 (by decide +kernel) rfl), (j_at 5 (by decide +kernel) rfl), by decide, by decide +kernel, by decide +kernel, by decide +kernel⟩
theorem km_X8_init : j_m yX8_init cX8_init 2 none 0 := ⟨(j_at 94 (by decide +kernel) rfl), (j_at 4 (by decide +kernel) rfl), by decide, by decide +kernel, by decide +kernel, by decide +kernel⟩
theorem km_X8_makeAlone : j_m yX8_makeAlone cX8_makeAlone 4 none 3 := ⟨(j_at 544 (by decide +kernel) rfl), (j_at 4 (by decide +kernel) rfl), by decide, by decide +kernel, by decide +kernel, by decide +kernel⟩
theorem km_X8_makeTwelve : j_m yX8_makeTwelve cX8_makeTwelve 3 none 2 := ⟨(j_at 566 (by decide +kernel) rfl), (j_at 4 (by decide +kernel) rfl), by decide, by decide +kernel, by decide +kernel, by decide +kernel⟩
theorem km_X8_ready : j_m yX8_ready cX8_ready 8 (some (.object "HeckeSeries$Space")) 3 := ⟨(j_at 536 (by decide +kernel) rfl), (j_at 4 (by decide +kernel) rfl), by decide, by decide +kernel, by decide +kernel, by decide +kernel⟩
theorem km_X9_addToken : j_m yX9_addToken cX9_addToken 4 none 3 := ⟨(j_at 346 (by decide +kernel) rfl), (j_at 8 (by decide +kernel) rfl), by decide, by decide +kernel, by decide +kernel, by decide +kernel⟩
theorem km_X9_addWord : j_m yX9_addWord cX9_addWord 6 none 3 := ⟨(j_at 342 (by decide +kernel) rfl), (j_at 8 (by decide +kernel) rfl), by decide, by decide +kernel, by decide +kernel, by decide +kernel⟩
theorem km_X9_endOfNumber : j_m yX9_endOfNumber cX9_endOfNumber 4 (some .int) 3 := ⟨(j_at 412 (by decide +kernel) rfl), (j_at 8 (by decide +kernel) rfl), by decide, by decide +kernel, by decide +kernel, by decide +kernel⟩
theorem km_X9_endOfWord : j_m yX9_endOfWord cX9_endOfWord 4 (some .int) 3 := ⟨(j_at 338 (by decide +kernel) rfl), (j_at 8 (by decide +kernel) rfl), by decide, by decide +kernel, by decide +kernel, by decide +kernel⟩
theorem km_X9_init : j_m yX9_init cX9_init 1 none 0 := ⟨(j_at 181 (by decide +kernel) rfl), (j_at 8 (by decide +kernel) rfl), by decide, by decide +kernel, by decide +kernel, by decide +kernel⟩
theorem km_X9_isDigit : j_m yX9_isDigit cX9_isDigit 1 (some .boolean) 1 := ⟨(j_at 409 (by decide +kernel) rfl), (j_at 8 (by decide +kernel) rfl), by decide, by decide +kernel, by decide +kernel, by decide +kernel⟩
theorem km_X9_isLetter : j_m yX9_isLetter cX9_isLetter 1 (some .boolean) 1 := ⟨(j_at 335 (by decide +kernel) rfl), (j_at 8 (by decide +kernel) rfl), by decide, by decide +kernel, by decide +kernel, by decide +kernel⟩
theorem km_X9_isSign : j_m yX9_isSign cX9_isSign 1 (some .boolean) 1 := ⟨(j_at 418 (by decide +kernel) rfl), (j_at 8 (by decide +kernel) rfl), by decide, by decide +kernel, by decide +kernel, by decide +kernel⟩
theorem km_X9_kindOfWord : j_m yX9_kindOfWord cX9_kindOfWord 3 (some .int) 3 := ⟨(j_at 349 (by decide +kernel) rfl), (j_at 8 (by decide +kernel) rfl), by decide, by decide +kernel, by decide +kernel, by decide +kernel⟩
theorem km_X9_numberOf : j_m yX9_numberOf cX9_numberOf 5 (some .int) 3 := ⟨(j_at 415 (by decide +kernel) rfl), (j_at 8 (by decide +kernel) rfl), by decide, by decide +kernel, by decide +kernel, by decide +kernel⟩
theorem km_X9_scan : j_m yX9_scan cX9_scan 6 none 2 := ⟨(j_at 332 (by decide +kernel) rfl), (j_at 8 (by decide +kernel) rfl), by decide, by decide +kernel, by decide +kernel, by decide +kernel⟩
theorem ks_1009 : (Int16.ofInt (1009)).toInt32 = 1009 := by decide
theorem ks_1086 : (Int16.ofInt (1086)).toInt32 = 1086 := by decide
theorem ks_1448 : (Int16.ofInt (1448)).toInt32 = 1448 := by decide
theorem ks_150 : (Int16.ofInt (150)).toInt32 = 150 := by decide
theorem ks_1728 : (Int16.ofInt (1728)).toInt32 = 1728 := by decide
theorem ks_180 : (Int16.ofInt (180)).toInt32 = 180 := by decide
theorem ks_181 : (Int16.ofInt (181)).toInt32 = 181 := by decide
theorem ks_2000 : (Int16.ofInt (2000)).toInt32 = 2000 := by decide
theorem ks_208 : (Int16.ofInt (208)).toInt32 = 208 := by decide
theorem ks_240 : (Int16.ofInt (240)).toInt32 = 240 := by decide
theorem ks_255 : (Int16.ofInt (255)).toInt32 = 255 := by decide
theorem ks_480 : (Int16.ofInt (480)).toInt32 = 480 := by decide
theorem ks_5430 : (Int16.ofInt (5430)).toInt32 = 5430 := by decide
theorem ks_600 : (Int16.ofInt (600)).toInt32 = 600 := by decide
theorem ks_601 : (Int16.ofInt (601)).toInt32 = 601 := by decide
theorem ks_724 : (Int16.ofInt (724)).toInt32 = 724 := by decide
theorem ks_9973 : (Int16.ofInt (9973)).toInt32 = 9973 := by decide
theorem ks_J7_fill_53178 : Cond.static yJ7_fill_53178 ∈ j_tbl := (j_at 267 (by decide +kernel) rfl)
theorem ks_Jxf58ca_floatToIntBits_5c35a : Cond.static yJxf58ca_floatToIntBits_5c35a ∈ j_tbl := (j_at 1324 (by decide +kernel) rfl)
theorem ks_Jxf58ca_isNaN_12338 : Cond.static yJxf58ca_isNaN_12338 ∈ j_tbl := (j_at 1327 (by decide +kernel) rfl)
theorem ks_L_row : Cond.static yL_row ∈ j_tbl := (j_at 934 (by decide +kernel) rfl)
theorem ks_L_whole : Cond.static yL_whole ∈ j_tbl := (j_at 864 (by decide +kernel) rfl)
theorem ks_X0_isPrime : Cond.static yX0_isPrime ∈ j_tbl := (j_at 440 (by decide +kernel) rfl)
theorem ks_X10_add : Cond.static yX10_add ∈ j_tbl := (j_at 661 (by decide +kernel) rfl)
theorem ks_X10_bitsOf : Cond.static yX10_bitsOf ∈ j_tbl := (j_at 696 (by decide +kernel) rfl)
theorem ks_X10_exact : Cond.static yX10_exact ∈ j_tbl := (j_at 641 (by decide +kernel) rfl)
theorem ks_X10_exactPower : Cond.static yX10_exactPower ∈ j_tbl := (j_at 668 (by decide +kernel) rfl)
theorem ks_X10_exactQ : Cond.static yX10_exactQ ∈ j_tbl := (j_at 650 (by decide +kernel) rfl)
theorem ks_X10_isAsked : Cond.static yX10_isAsked ∈ j_tbl := (j_at 636 (by decide +kernel) rfl)
theorem ks_X10_left : Cond.static yX10_left ∈ j_tbl := (j_at 677 (by decide +kernel) rfl)
theorem ks_X10_leftQ : Cond.static yX10_leftQ ∈ j_tbl := (j_at 680 (by decide +kernel) rfl)
theorem ks_X10_multiply : Cond.static yX10_multiply ∈ j_tbl := (j_at 653 (by decide +kernel) rfl)
theorem ks_X10_reachOf : Cond.static yX10_reachOf ∈ j_tbl := (j_at 644 (by decide +kernel) rfl)
theorem ks_X10_shareOf : Cond.static yX10_shareOf ∈ j_tbl := (j_at 692 (by decide +kernel) rfl)
theorem ks_X11_cuspsOf : Cond.static yX11_cuspsOf ∈ j_tbl := (j_at 607 (by decide +kernel) rfl)
theorem ks_X11_isHecke : Cond.static yX11_isHecke ∈ j_tbl := (j_at 721 (by decide +kernel) rfl)
theorem ks_X11_isRegister : Cond.static yX11_isRegister ∈ j_tbl := (j_at 527 (by decide +kernel) rfl)
theorem ks_X11_isRow : Cond.static yX11_isRow ∈ j_tbl := (j_at 831 (by decide +kernel) rfl)
theorem ks_X11_isWeight : Cond.static yX11_isWeight ∈ j_tbl := (j_at 604 (by decide +kernel) rfl)
theorem ks_X11_lengthOf : Cond.static yX11_lengthOf ∈ j_tbl := (j_at 106 (by decide +kernel) rfl)
theorem ks_X11_newForms : Cond.static yX11_newForms ∈ j_tbl := (j_at 36 (by decide +kernel) rfl)
theorem ks_X11_newShelves : Cond.static yX11_newShelves ∈ j_tbl := (j_at 61 (by decide +kernel) rfl)
theorem ks_X11_partingPlace : Cond.static yX11_partingPlace ∈ j_tbl := (j_at 750 (by decide +kernel) rfl)
theorem ks_X12_copies : Cond.static yX12_copies ∈ j_tbl := (j_at 1067 (by decide +kernel) rfl)
theorem ks_X12_counts : Cond.static yX12_counts ∈ j_tbl := (j_at 1280 (by decide +kernel) rfl)
theorem ks_X12_cuspsOf : Cond.static yX12_cuspsOf ∈ j_tbl := (j_at 1267 (by decide +kernel) rfl)
theorem ks_X12_divisor : Cond.static yX12_divisor ∈ j_tbl := (j_at 1283 (by decide +kernel) rfl)
theorem ks_X12_isDisc : Cond.static yX12_isDisc ∈ j_tbl := (j_at 1277 (by decide +kernel) rfl)
theorem ks_X12_isOperator : Cond.static yX12_isOperator ∈ j_tbl := (j_at 1350 (by decide +kernel) rfl)
theorem ks_X12_isPrime : Cond.static yX12_isPrime ∈ j_tbl := (j_at 1016 (by decide +kernel) rfl)
theorem ks_X12_isSign : Cond.static yX12_isSign ∈ j_tbl := (j_at 997 (by decide +kernel) rfl)
theorem ks_X12_isTraced : Cond.static yX12_isTraced ∈ j_tbl := (j_at 1294 (by decide +kernel) rfl)
theorem ks_X12_isWeight : Cond.static yX12_isWeight ∈ j_tbl := (j_at 1264 (by decide +kernel) rfl)
theorem ks_X12_longOf : Cond.static yX12_longOf ∈ j_tbl := (j_at 1245 (by decide +kernel) rfl)
theorem ks_X12_wholeOf : Cond.static yX12_wholeOf ∈ j_tbl := (j_at 1274 (by decide +kernel) rfl)
theorem ks_X12_within : Cond.static yX12_within ∈ j_tbl := (j_at 962 (by decide +kernel) rfl)
theorem ks_X1_addUp : Cond.static yX1_addUp ∈ j_tbl := (j_at 623 (by decide +kernel) rfl)
theorem ks_X1_inTwelfths : Cond.static yX1_inTwelfths ∈ j_tbl := (j_at 647 (by decide +kernel) rfl)
theorem ks_X1_isDiscriminant : Cond.static yX1_isDiscriminant ∈ j_tbl := (j_at 620 (by decide +kernel) rfl)
theorem ks_X1_ofNothingInCommon : Cond.static yX1_ofNothingInCommon ∈ j_tbl := (j_at 617 (by decide +kernel) rfl)
theorem ks_X1_onlyIfPrimitive : Cond.static yX1_onlyIfPrimitive ∈ j_tbl := (j_at 626 (by decide +kernel) rfl)
theorem ks_X1_twelfths : Cond.static yX1_twelfths ∈ j_tbl := (j_at 629 (by decide +kernel) rfl)
theorem ks_X3_copyAll : Cond.static yX3_copyAll ∈ j_tbl := (j_at 851 (by decide +kernel) rfl)
theorem ks_X4_divide : Cond.static yX4_divide ∈ j_tbl := (j_at 576 (by decide +kernel) rfl)
theorem ks_X4_of : Cond.static yX4_of ∈ j_tbl := (j_at 471 (by decide +kernel) rfl)
theorem ks_X4_power : Cond.static yX4_power ∈ j_tbl := (j_at 560 (by decide +kernel) rfl)
theorem ks_X9_endOfNumber : Cond.static yX9_endOfNumber ∈ j_tbl := (j_at 411 (by decide +kernel) rfl)
theorem ks_X9_endOfWord : Cond.static yX9_endOfWord ∈ j_tbl := (j_at 337 (by decide +kernel) rfl)
theorem ks_X9_isDigit : Cond.static yX9_isDigit ∈ j_tbl := (j_at 408 (by decide +kernel) rfl)
theorem ks_X9_isLetter : Cond.static yX9_isLetter ∈ j_tbl := (j_at 334 (by decide +kernel) rfl)
theorem ks_X9_isSign : Cond.static yX9_isSign ∈ j_tbl := (j_at 417 (by decide +kernel) rfl)
theorem ks_X9_kindOfWord : Cond.static yX9_kindOfWord ∈ j_tbl := (j_at 348 (by decide +kernel) rfl)
theorem ks_X9_numberOf : Cond.static yX9_numberOf ∈ j_tbl := (j_at 414 (by decide +kernel) rfl)
theorem ks_m264 : (Int16.ofInt (-264)).toInt32 = -264 := by decide
theorem ks_m504 : (Int16.ofInt (-504)).toInt32 = -504 := by decide
theorem kv_X0_expect : Cond.instanceMethod yX0_expect ∈ j_tbl ∧ Cond.selects yX0_expect.cls yX0_expect yX0_expect ∈ j_tbl := ⟨(j_at 444 (by decide +kernel) rfl), (j_ap 8 (by decide +kernel) rfl)⟩
theorem kv_X0_fail : Cond.instanceMethod yX0_fail ∈ j_tbl ∧ Cond.selects yX0_fail.cls yX0_fail yX0_fail ∈ j_tbl := ⟨(j_at 433 (by decide +kernel) rfl), (j_ap 6 (by decide +kernel) rfl)⟩
theorem kv_X0_findLet : Cond.instanceMethod yX0_findLet ∈ j_tbl ∧ Cond.selects yX0_findLet.cls yX0_findLet yX0_findLet ∈ j_tbl := ⟨(j_at 452 (by decide +kernel) rfl), (j_ap 9 (by decide +kernel) rfl)⟩
theorem kv_X0_goOn : Cond.instanceMethod yX0_goOn ∈ j_tbl ∧ Cond.selects yX0_goOn.cls yX0_goOn yX0_goOn ∈ j_tbl := ⟨(j_at 429 (by decide +kernel) rfl), (j_ap 5 (by decide +kernel) rfl)⟩
theorem kv_X0_kind : Cond.instanceMethod yX0_kind ∈ j_tbl ∧ Cond.selects yX0_kind.cls yX0_kind yX0_kind ∈ j_tbl := ⟨(j_at 425 (by decide +kernel) rfl), (j_ap 4 (by decide +kernel) rfl)⟩
theorem kv_X0_open : Cond.instanceMethod yX0_open ∈ j_tbl ∧ Cond.selects yX0_open.cls yX0_open yX0_open ∈ j_tbl := ⟨(j_at 326 (by decide +kernel) rfl), (j_at 327 (by decide +kernel) rfl)⟩
theorem kv_X0_raise : Cond.instanceMethod yX0_raise ∈ j_tbl ∧ Cond.selects yX0_raise.cls yX0_raise yX0_raise ∈ j_tbl := ⟨(j_at 493 (by decide +kernel) rfl), (j_ap 15 (by decide +kernel) rfl)⟩
theorem kv_X0_readAtom : Cond.instanceMethod yX0_readAtom ∈ j_tbl ∧ Cond.selects yX0_readAtom.cls yX0_readAtom yX0_readAtom ∈ j_tbl := ⟨(j_at 468 (by decide +kernel) rfl), (j_ap 13 (by decide +kernel) rfl)⟩
theorem kv_X0_readLets : Cond.instanceMethod yX0_readLets ∈ j_tbl ∧ Cond.selects yX0_readLets.cls yX0_readLets yX0_readLets ∈ j_tbl := ⟨(j_at 447 (by decide +kernel) rfl), (j_at 448 (by decide +kernel) rfl)⟩
theorem kv_X0_readPower : Cond.instanceMethod yX0_readPower ∈ j_tbl ∧ Cond.selects yX0_readPower.cls yX0_readPower yX0_readPower ∈ j_tbl := ⟨(j_at 464 (by decide +kernel) rfl), (j_ap 12 (by decide +kernel) rfl)⟩
theorem kv_X0_readPrime : Cond.instanceMethod yX0_readPrime ∈ j_tbl ∧ Cond.selects yX0_readPrime.cls yX0_readPrime yX0_readPrime ∈ j_tbl := ⟨(j_at 420 (by decide +kernel) rfl), (j_at 421 (by decide +kernel) rfl)⟩
theorem kv_X0_readProduct : Cond.instanceMethod yX0_readProduct ∈ j_tbl ∧ Cond.selects yX0_readProduct.cls yX0_readProduct yX0_readProduct ∈ j_tbl := ⟨(j_at 460 (by decide +kernel) rfl), (j_ap 11 (by decide +kernel) rfl)⟩
theorem kv_X0_readSum : Cond.instanceMethod yX0_readSum ∈ j_tbl ∧ Cond.selects yX0_readSum.cls yX0_readSum yX0_readSum ∈ j_tbl := ⟨(j_at 456 (by decide +kernel) rfl), (j_ap 10 (by decide +kernel) rfl)⟩
theorem kv_X0_setKnown : Cond.instanceMethod yX0_setKnown ∈ j_tbl ∧ Cond.selects yX0_setKnown.cls yX0_setKnown yX0_setKnown ∈ j_tbl := ⟨(j_at 478 (by decide +kernel) rfl), (j_ap 14 (by decide +kernel) rfl)⟩
theorem kv_X0_value : Cond.instanceMethod yX0_value ∈ j_tbl ∧ Cond.selects yX0_value.cls yX0_value yX0_value ∈ j_tbl := ⟨(j_at 437 (by decide +kernel) rfl), (j_ap 7 (by decide +kernel) rfl)⟩
theorem kv_X11_alike : Cond.instanceMethod yX11_alike ∈ j_tbl ∧ Cond.selects yX11_alike.cls yX11_alike yX11_alike ∈ j_tbl := ⟨(j_at 746 (by decide +kernel) rfl), (j_at 747 (by decide +kernel) rfl)⟩
theorem kv_X11_book : Cond.instanceMethod yX11_book ∈ j_tbl ∧ Cond.selects yX11_book.cls yX11_book yX11_book ∈ j_tbl := ⟨(j_at 322 (by decide +kernel) rfl), (j_at 323 (by decide +kernel) rfl)⟩
theorem kv_X11_coefficient : Cond.instanceMethod yX11_coefficient ∈ j_tbl ∧ Cond.selects yX11_coefficient.cls yX11_coefficient yX11_coefficient ∈ j_tbl := ⟨(j_at 523 (by decide +kernel) rfl), (j_at 524 (by decide +kernel) rfl)⟩
theorem kv_X11_coefficientOf : Cond.instanceMethod yX11_coefficientOf ∈ j_tbl ∧ Cond.selects yX11_coefficientOf.cls yX11_coefficientOf yX11_coefficientOf ∈ j_tbl := ⟨(j_at 531 (by decide +kernel) rfl), (j_ap 18 (by decide +kernel) rfl)⟩
theorem kv_X11_count : Cond.instanceMethod yX11_count ∈ j_tbl ∧ Cond.selects yX11_count.cls yX11_count yX11_count ∈ j_tbl := ⟨(j_at 506 (by decide +kernel) rfl), (j_at 507 (by decide +kernel) rfl)⟩
theorem kv_X11_feed : Cond.instanceMethod yX11_feed ∈ j_tbl ∧ Cond.selects yX11_feed.cls yX11_feed yX11_feed ∈ j_tbl := ⟨(j_at 314 (by decide +kernel) rfl), (j_at 315 (by decide +kernel) rfl)⟩
theorem kv_X11_feedFour : Cond.instanceMethod yX11_feedFour ∈ j_tbl ∧ Cond.selects yX11_feedFour.cls yX11_feedFour yX11_feedFour ∈ j_tbl := ⟨(j_at 319 (by decide +kernel) rfl), (j_ap 1 (by decide +kernel) rfl)⟩
theorem kv_X11_findFreshTraces : Cond.instanceMethod yX11_findFreshTraces ∈ j_tbl ∧ Cond.selects yX11_findFreshTraces.cls yX11_findFreshTraces yX11_findFreshTraces ∈ j_tbl := ⟨(j_at 835 (by decide +kernel) rfl), (j_ap 35 (by decide +kernel) rfl)⟩
theorem kv_X11_forget : Cond.instanceMethod yX11_forget ∈ j_tbl ∧ Cond.selects yX11_forget.cls yX11_forget yX11_forget ∈ j_tbl := ⟨(j_at 260 (by decide +kernel) rfl), (j_ap 0 (by decide +kernel) rfl)⟩
theorem kv_X11_hecke : Cond.instanceMethod yX11_hecke ∈ j_tbl ∧ Cond.selects yX11_hecke.cls yX11_hecke yX11_hecke ∈ j_tbl := ⟨(j_at 717 (by decide +kernel) rfl), (j_at 718 (by decide +kernel) rfl)⟩
theorem kv_X11_image : Cond.instanceMethod yX11_image ∈ j_tbl ∧ Cond.selects yX11_image.cls yX11_image yX11_image ∈ j_tbl := ⟨(j_at 843 (by decide +kernel) rfl), (j_at 844 (by decide +kernel) rfl)⟩
theorem kv_X11_isLet : Cond.instanceMethod yX11_isLet ∈ j_tbl ∧ Cond.selects yX11_isLet.cls yX11_isLet yX11_isLet ∈ j_tbl := ⟨(j_at 519 (by decide +kernel) rfl), (j_ap 17 (by decide +kernel) rfl)⟩
theorem kv_X11_laidImages : Cond.instanceMethod yX11_laidImages ∈ j_tbl ∧ Cond.selects yX11_laidImages.cls yX11_laidImages yX11_laidImages ∈ j_tbl := ⟨(j_at 511 (by decide +kernel) rfl), (j_ap 16 (by decide +kernel) rfl)⟩
theorem kv_X11_let : Cond.instanceMethod yX11_let ∈ j_tbl ∧ Cond.selects yX11_let.cls yX11_let yX11_let ∈ j_tbl := ⟨(j_at 514 (by decide +kernel) rfl), (j_at 515 (by decide +kernel) rfl)⟩
theorem kv_X11_makes : Cond.instanceMethod yX11_makes ∈ j_tbl ∧ Cond.selects yX11_makes.cls yX11_makes yX11_makes ∈ j_tbl := ⟨(j_at 600 (by decide +kernel) rfl), (j_at 601 (by decide +kernel) rfl)⟩
theorem kv_X11_multiplies : Cond.instanceMethod yX11_multiplies ∈ j_tbl ∧ Cond.selects yX11_multiplies.cls yX11_multiplies yX11_multiplies ∈ j_tbl := ⟨(j_at 737 (by decide +kernel) rfl), (j_at 738 (by decide +kernel) rfl)⟩
theorem kv_X11_own : Cond.instanceMethod yX11_own ∈ j_tbl ∧ Cond.selects yX11_own.cls yX11_own yX11_own ∈ j_tbl := ⟨(j_at 803 (by decide +kernel) rfl), (j_at 804 (by decide +kernel) rfl)⟩
theorem kv_X11_parts : Cond.instanceMethod yX11_parts ∈ j_tbl ∧ Cond.selects yX11_parts.cls yX11_parts yX11_parts ∈ j_tbl := ⟨(j_at 753 (by decide +kernel) rfl), (j_at 754 (by decide +kernel) rfl)⟩
theorem kv_X11_plus : Cond.instanceMethod yX11_plus ∈ j_tbl ∧ Cond.selects yX11_plus.cls yX11_plus yX11_plus ∈ j_tbl := ⟨(j_at 706 (by decide +kernel) rfl), (j_at 707 (by decide +kernel) rfl)⟩
theorem kv_X11_polynomial : Cond.instanceMethod yX11_polynomial ∈ j_tbl ∧ Cond.selects yX11_polynomial.cls yX11_polynomial yX11_polynomial ∈ j_tbl := ⟨(j_at 761 (by decide +kernel) rfl), (j_at 762 (by decide +kernel) rfl)⟩
theorem kv_X11_put : Cond.instanceMethod yX11_put ∈ j_tbl ∧ Cond.selects yX11_put.cls yX11_put yX11_put ∈ j_tbl := ⟨(j_at 827 (by decide +kernel) rfl), (j_at 828 (by decide +kernel) rfl)⟩
theorem kv_X11_readyForHecke : Cond.instanceMethod yX11_readyForHecke ∈ j_tbl ∧ Cond.selects yX11_readyForHecke.cls yX11_readyForHecke yX11_readyForHecke ∈ j_tbl := ⟨(j_at 725 (by decide +kernel) rfl), (j_ap 26 (by decide +kernel) rfl)⟩
theorem kv_X11_root : Cond.instanceMethod yX11_root ∈ j_tbl ∧ Cond.selects yX11_root.cls yX11_root yX11_root ∈ j_tbl := ⟨(j_at 787 (by decide +kernel) rfl), (j_at 788 (by decide +kernel) rfl)⟩
theorem kv_X11_share : Cond.instanceMethod yX11_share ∈ j_tbl ∧ Cond.selects yX11_share.cls yX11_share yX11_share ∈ j_tbl := ⟨(j_at 686 (by decide +kernel) rfl), (j_at 687 (by decide +kernel) rfl)⟩
theorem kv_X11_small : Cond.instanceMethod yX11_small ∈ j_tbl ∧ Cond.selects yX11_small.cls yX11_small yX11_small ∈ j_tbl := ⟨(j_at 613 (by decide +kernel) rfl), (j_at 614 (by decide +kernel) rfl)⟩
theorem kv_X11_spaceWithRoots : Cond.instanceMethod yX11_spaceWithRoots ∈ j_tbl ∧ Cond.selects yX11_spaceWithRoots.cls yX11_spaceWithRoots yX11_spaceWithRoots ∈ j_tbl := ⟨(j_at 792 (by decide +kernel) rfl), (j_ap 29 (by decide +kernel) rfl)⟩
theorem kv_X11_swap : Cond.instanceMethod yX11_swap ∈ j_tbl ∧ Cond.selects yX11_swap.cls yX11_swap yX11_swap ∈ j_tbl := ⟨(j_at 839 (by decide +kernel) rfl), (j_at 840 (by decide +kernel) rfl)⟩
theorem kv_X11_table : Cond.instanceMethod yX11_table ∈ j_tbl ∧ Cond.selects yX11_table.cls yX11_table yX11_table ∈ j_tbl := ⟨(j_at 757 (by decide +kernel) rfl), (j_at 758 (by decide +kernel) rfl)⟩
theorem kv_X11_take : Cond.instanceMethod yX11_take ∈ j_tbl ∧ Cond.selects yX11_take.cls yX11_take yX11_take ∈ j_tbl := ⟨(j_at 702 (by decide +kernel) rfl), (j_at 703 (by decide +kernel) rfl)⟩
theorem kv_X11_times : Cond.instanceMethod yX11_times ∈ j_tbl ∧ Cond.selects yX11_times.cls yX11_times yX11_times ∈ j_tbl := ⟨(j_at 712 (by decide +kernel) rfl), (j_at 713 (by decide +kernel) rfl)⟩
theorem kv_X11_trace : Cond.instanceMethod yX11_trace ∈ j_tbl ∧ Cond.selects yX11_trace.cls yX11_trace yX11_trace ∈ j_tbl := ⟨(j_at 632 (by decide +kernel) rfl), (j_at 633 (by decide +kernel) rfl)⟩
theorem kv_X11_traceLeft : Cond.instanceMethod yX11_traceLeft ∈ j_tbl ∧ Cond.selects yX11_traceLeft.cls yX11_traceLeft yX11_traceLeft ∈ j_tbl := ⟨(j_at 673 (by decide +kernel) rfl), (j_at 674 (by decide +kernel) rfl)⟩
theorem kv_X11_weight : Cond.instanceMethod yX11_weight ∈ j_tbl ∧ Cond.selects yX11_weight.cls yX11_weight yX11_weight ∈ j_tbl := ⟨(j_at 596 (by decide +kernel) rfl), (j_at 597 (by decide +kernel) rfl)⟩
theorem kv_X12_alike : Cond.instanceMethod yX12_alike ∈ j_tbl ∧ Cond.selects yX12_alike.cls yX12_alike yX12_alike ∈ j_tbl := ⟨(j_at 1369 (by decide +kernel) rfl), (j_at 1370 (by decide +kernel) rfl)⟩
theorem kv_X12_atom : Cond.instanceMethod yX12_atom ∈ j_tbl ∧ Cond.selects yX12_atom.cls yX12_atom yX12_atom ∈ j_tbl := ⟨(j_at 1056 (by decide +kernel) rfl), (j_ap 58 (by decide +kernel) rfl)⟩
theorem kv_X12_bad : Cond.instanceMethod yX12_bad ∈ j_tbl ∧ Cond.selects yX12_bad.cls yX12_bad yX12_bad ∈ j_tbl := ⟨(j_at 1009 (by decide +kernel) rfl), (j_ap 47 (by decide +kernel) rfl)⟩
theorem kv_X12_badAt : Cond.instanceMethod yX12_badAt ∈ j_tbl ∧ Cond.selects yX12_badAt.cls yX12_badAt yX12_badAt ∈ j_tbl := ⟨(j_at 1013 (by decide +kernel) rfl), (j_ap 48 (by decide +kernel) rfl)⟩
theorem kv_X12_book : Cond.instanceMethod yX12_book ∈ j_tbl ∧ Cond.selects yX12_book.cls yX12_book yX12_book ∈ j_tbl := ⟨(j_at 958 (by decide +kernel) rfl), (j_at 959 (by decide +kernel) rfl)⟩
theorem kv_X12_builds : Cond.instanceMethod yX12_builds ∈ j_tbl ∧ Cond.selects yX12_builds.cls yX12_builds yX12_builds ∈ j_tbl := ⟨(j_at 1358 (by decide +kernel) rfl), (j_ap 68 (by decide +kernel) rfl)⟩
theorem kv_X12_byteAt : Cond.instanceMethod yX12_byteAt ∈ j_tbl ∧ Cond.selects yX12_byteAt.cls yX12_byteAt yX12_byteAt ∈ j_tbl := ⟨(j_at 993 (by decide +kernel) rfl), (j_ap 44 (by decide +kernel) rfl)⟩
theorem kv_X12_coefficient : Cond.instanceMethod yX12_coefficient ∈ j_tbl ∧ Cond.selects yX12_coefficient.cls yX12_coefficient yX12_coefficient ∈ j_tbl := ⟨(j_at 1248 (by decide +kernel) rfl), (j_at 1249 (by decide +kernel) rfl)⟩
theorem kv_X12_count : Cond.instanceMethod yX12_count ∈ j_tbl ∧ Cond.selects yX12_count.cls yX12_count yX12_count ∈ j_tbl := ⟨(j_at 1237 (by decide +kernel) rfl), (j_at 1238 (by decide +kernel) rfl)⟩
theorem kv_X12_feed : Cond.instanceMethod yX12_feed ∈ j_tbl ∧ Cond.selects yX12_feed.cls yX12_feed yX12_feed ∈ j_tbl := ⟨(j_at 949 (by decide +kernel) rfl), (j_at 950 (by decide +kernel) rfl)⟩
theorem kv_X12_go : Cond.instanceMethod yX12_go ∈ j_tbl ∧ Cond.selects yX12_go.cls yX12_go yX12_go ∈ j_tbl := ⟨(j_at 989 (by decide +kernel) rfl), (j_ap 43 (by decide +kernel) rfl)⟩
theorem kv_X12_hecke : Cond.instanceMethod yX12_hecke ∈ j_tbl ∧ Cond.selects yX12_hecke.cls yX12_hecke yX12_hecke ∈ j_tbl := ⟨(j_at 1346 (by decide +kernel) rfl), (j_at 1347 (by decide +kernel) rfl)⟩
theorem kv_X12_heckeAt : Cond.instanceMethod yX12_heckeAt ∈ j_tbl ∧ Cond.selects yX12_heckeAt.cls yX12_heckeAt yX12_heckeAt ∈ j_tbl := ⟨(j_at 1354 (by decide +kernel) rfl), (j_ap 67 (by decide +kernel) rfl)⟩
theorem kv_X12_image : Cond.instanceMethod yX12_image ∈ j_tbl ∧ Cond.selects yX12_image.cls yX12_image yX12_image ∈ j_tbl := ⟨(j_at 1429 (by decide +kernel) rfl), (j_at 1430 (by decide +kernel) rfl)⟩
theorem kv_X12_inverse : Cond.instanceMethod yX12_inverse ∈ j_tbl ∧ Cond.selects yX12_inverse.cls yX12_inverse yX12_inverse ∈ j_tbl := ⟨(j_at 985 (by decide +kernel) rfl), (j_ap 42 (by decide +kernel) rfl)⟩
theorem kv_X12_is : Cond.instanceMethod yX12_is ∈ j_tbl ∧ Cond.selects yX12_is.cls yX12_is yX12_is ∈ j_tbl := ⟨(j_at 1024 (by decide +kernel) rfl), (j_ap 50 (by decide +kernel) rfl)⟩
theorem kv_X12_isName : Cond.instanceMethod yX12_isName ∈ j_tbl ∧ Cond.selects yX12_isName.cls yX12_isName yX12_isName ∈ j_tbl := ⟨(j_at 1032 (by decide +kernel) rfl), (j_ap 52 (by decide +kernel) rfl)⟩
theorem kv_X12_isOwn : Cond.instanceMethod yX12_isOwn ∈ j_tbl ∧ Cond.selects yX12_isOwn.cls yX12_isOwn yX12_isOwn ∈ j_tbl := ⟨(j_at 1036 (by decide +kernel) rfl), (j_ap 53 (by decide +kernel) rfl)⟩
theorem kv_X12_isRegister : Cond.instanceMethod yX12_isRegister ∈ j_tbl ∧ Cond.selects yX12_isRegister.cls yX12_isRegister yX12_isRegister ∈ j_tbl := ⟨(j_at 1253 (by decide +kernel) rfl), (j_ap 63 (by decide +kernel) rfl)⟩
theorem kv_X12_isWord : Cond.instanceMethod yX12_isWord ∈ j_tbl ∧ Cond.selects yX12_isWord.cls yX12_isWord yX12_isWord ∈ j_tbl := ⟨(j_at 1001 (by decide +kernel) rfl), (j_ap 45 (by decide +kernel) rfl)⟩
theorem kv_X12_joins : Cond.instanceMethod yX12_joins ∈ j_tbl ∧ Cond.selects yX12_joins.cls yX12_joins yX12_joins ∈ j_tbl := ⟨(j_at 1071 (by decide +kernel) rfl), (j_ap 61 (by decide +kernel) rfl)⟩
theorem kv_X12_laysBasic : Cond.instanceMethod yX12_laysBasic ∈ j_tbl ∧ Cond.selects yX12_laysBasic.cls yX12_laysBasic yX12_laysBasic ∈ j_tbl := ⟨(j_at 966 (by decide +kernel) rfl), (j_ap 38 (by decide +kernel) rfl)⟩
theorem kv_X12_laysPolynomial : Cond.instanceMethod yX12_laysPolynomial ∈ j_tbl ∧ Cond.selects yX12_laysPolynomial.cls yX12_laysPolynomial yX12_laysPolynomial ∈ j_tbl := ⟨(j_at 1390 (by decide +kernel) rfl), (j_ap 71 (by decide +kernel) rfl)⟩
theorem kv_X12_laysRoots : Cond.instanceMethod yX12_laysRoots ∈ j_tbl ∧ Cond.selects yX12_laysRoots.cls yX12_laysRoots yX12_laysRoots ∈ j_tbl := ⟨(j_at 1398 (by decide +kernel) rfl), (j_ap 72 (by decide +kernel) rfl)⟩
theorem kv_X12_laysRows : Cond.instanceMethod yX12_laysRows ∈ j_tbl ∧ Cond.selects yX12_laysRows.cls yX12_laysRows yX12_laysRows ∈ j_tbl := ⟨(j_at 1362 (by decide +kernel) rfl), (j_ap 69 (by decide +kernel) rfl)⟩
theorem kv_X12_laysTable : Cond.instanceMethod yX12_laysTable ∈ j_tbl ∧ Cond.selects yX12_laysTable.cls yX12_laysTable yX12_laysTable ∈ j_tbl := ⟨(j_at 1382 (by decide +kernel) rfl), (j_ap 70 (by decide +kernel) rfl)⟩
theorem kv_X12_left : Cond.instanceMethod yX12_left ∈ j_tbl ∧ Cond.selects yX12_left.cls yX12_left yX12_left ∈ j_tbl := ⟨(j_at 975 (by decide +kernel) rfl), (j_ap 40 (by decide +kernel) rfl)⟩
theorem kv_X12_let : Cond.instanceMethod yX12_let ∈ j_tbl ∧ Cond.selects yX12_let.cls yX12_let yX12_let ∈ j_tbl := ⟨(j_at 1241 (by decide +kernel) rfl), (j_at 1242 (by decide +kernel) rfl)⟩
theorem kv_X12_letLine : Cond.instanceMethod yX12_letLine ∈ j_tbl ∧ Cond.selects yX12_letLine.cls yX12_letLine yX12_letLine ∈ j_tbl := ⟨(j_at 1028 (by decide +kernel) rfl), (j_ap 51 (by decide +kernel) rfl)⟩
theorem kv_X12_makes : Cond.instanceMethod yX12_makes ∈ j_tbl ∧ Cond.selects yX12_makes.cls yX12_makes yX12_makes ∈ j_tbl := ⟨(j_at 1260 (by decide +kernel) rfl), (j_at 1261 (by decide +kernel) rfl)⟩
theorem kv_X12_multiplies : Cond.instanceMethod yX12_multiplies ∈ j_tbl ∧ Cond.selects yX12_multiplies.cls yX12_multiplies yX12_multiplies ∈ j_tbl := ⟨(j_at 980 (by decide +kernel) rfl), (j_ap 41 (by decide +kernel) rfl)⟩
theorem kv_X12_multiplies_ : Cond.instanceMethod yX12_multiplies_ ∈ j_tbl ∧ Cond.selects yX12_multiplies_.cls yX12_multiplies_ yX12_multiplies_ ∈ j_tbl := ⟨(j_at 1365 (by decide +kernel) rfl), (j_at 1366 (by decide +kernel) rfl)⟩
theorem kv_X12_named : Cond.instanceMethod yX12_named ∈ j_tbl ∧ Cond.selects yX12_named.cls yX12_named yX12_named ∈ j_tbl := ⟨(j_at 1040 (by decide +kernel) rfl), (j_ap 54 (by decide +kernel) rfl)⟩
theorem kv_X12_own : Cond.instanceMethod yX12_own ∈ j_tbl ∧ Cond.selects yX12_own.cls yX12_own yX12_own ∈ j_tbl := ⟨(j_at 1401 (by decide +kernel) rfl), (j_at 1402 (by decide +kernel) rfl)⟩
theorem kv_X12_parts : Cond.instanceMethod yX12_parts ∈ j_tbl ∧ Cond.selects yX12_parts.cls yX12_parts yX12_parts ∈ j_tbl := ⟨(j_at 1373 (by decide +kernel) rfl), (j_at 1374 (by decide +kernel) rfl)⟩
theorem kv_X12_plus : Cond.instanceMethod yX12_plus ∈ j_tbl ∧ Cond.selects yX12_plus.cls yX12_plus yX12_plus ∈ j_tbl := ⟨(j_at 1308 (by decide +kernel) rfl), (j_ap 66 (by decide +kernel) rfl)⟩
theorem kv_X12_plus_ : Cond.instanceMethod yX12_plus_ ∈ j_tbl ∧ Cond.selects yX12_plus_.cls yX12_plus_ yX12_plus_ ∈ j_tbl := ⟨(j_at 1338 (by decide +kernel) rfl), (j_at 1339 (by decide +kernel) rfl)⟩
theorem kv_X12_polynomial : Cond.instanceMethod yX12_polynomial ∈ j_tbl ∧ Cond.selects yX12_polynomial.cls yX12_polynomial yX12_polynomial ∈ j_tbl := ⟨(j_at 1385 (by decide +kernel) rfl), (j_at 1386 (by decide +kernel) rfl)⟩
theorem kv_X12_power : Cond.instanceMethod yX12_power ∈ j_tbl ∧ Cond.selects yX12_power.cls yX12_power yX12_power ∈ j_tbl := ⟨(j_at 970 (by decide +kernel) rfl), (j_ap 39 (by decide +kernel) rfl)⟩
theorem kv_X12_power_ : Cond.instanceMethod yX12_power_ ∈ j_tbl ∧ Cond.selects yX12_power_.cls yX12_power_ yX12_power_ ∈ j_tbl := ⟨(j_at 1052 (by decide +kernel) rfl), (j_ap 57 (by decide +kernel) rfl)⟩
theorem kv_X12_primeLine : Cond.instanceMethod yX12_primeLine ∈ j_tbl ∧ Cond.selects yX12_primeLine.cls yX12_primeLine yX12_primeLine ∈ j_tbl := ⟨(j_at 1005 (by decide +kernel) rfl), (j_ap 46 (by decide +kernel) rfl)⟩
theorem kv_X12_product : Cond.instanceMethod yX12_product ∈ j_tbl ∧ Cond.selects yX12_product.cls yX12_product yX12_product ∈ j_tbl := ⟨(j_at 1048 (by decide +kernel) rfl), (j_ap 56 (by decide +kernel) rfl)⟩
theorem kv_X12_pushes : Cond.instanceMethod yX12_pushes ∈ j_tbl ∧ Cond.selects yX12_pushes.cls yX12_pushes yX12_pushes ∈ j_tbl := ⟨(j_at 1064 (by decide +kernel) rfl), (j_ap 60 (by decide +kernel) rfl)⟩
theorem kv_X12_pushesNumber : Cond.instanceMethod yX12_pushesNumber ∈ j_tbl ∧ Cond.selects yX12_pushesNumber.cls yX12_pushesNumber yX12_pushesNumber ∈ j_tbl := ⟨(j_at 1060 (by decide +kernel) rfl), (j_ap 59 (by decide +kernel) rfl)⟩
theorem kv_X12_put : Cond.instanceMethod yX12_put ∈ j_tbl ∧ Cond.selects yX12_put.cls yX12_put yX12_put ∈ j_tbl := ⟨(j_at 1413 (by decide +kernel) rfl), (j_at 1414 (by decide +kernel) rfl)⟩
theorem kv_X12_puts : Cond.instanceMethod yX12_puts ∈ j_tbl ∧ Cond.selects yX12_puts.cls yX12_puts yX12_puts ∈ j_tbl := ⟨(j_at 954 (by decide +kernel) rfl), (j_ap 37 (by decide +kernel) rfl)⟩
theorem kv_X12_root : Cond.instanceMethod yX12_root ∈ j_tbl ∧ Cond.selects yX12_root.cls yX12_root yX12_root ∈ j_tbl := ⟨(j_at 1393 (by decide +kernel) rfl), (j_at 1394 (by decide +kernel) rfl)⟩
theorem kv_X12_row : Cond.instanceMethod yX12_row ∈ j_tbl ∧ Cond.selects yX12_row.cls yX12_row yX12_row ∈ j_tbl := ⟨(j_at 1421 (by decide +kernel) rfl), (j_at 1422 (by decide +kernel) rfl)⟩
theorem kv_X12_share : Cond.instanceMethod yX12_share ∈ j_tbl ∧ Cond.selects yX12_share.cls yX12_share yX12_share ∈ j_tbl := ⟨(j_at 1319 (by decide +kernel) rfl), (j_at 1320 (by decide +kernel) rfl)⟩
theorem kv_X12_sign : Cond.instanceMethod yX12_sign ∈ j_tbl ∧ Cond.selects yX12_sign.cls yX12_sign yX12_sign ∈ j_tbl := ⟨(j_at 1020 (by decide +kernel) rfl), (j_ap 49 (by decide +kernel) rfl)⟩
theorem kv_X12_small : Cond.instanceMethod yX12_small ∈ j_tbl ∧ Cond.selects yX12_small.cls yX12_small yX12_small ∈ j_tbl := ⟨(j_at 1286 (by decide +kernel) rfl), (j_at 1287 (by decide +kernel) rfl)⟩
theorem kv_X12_solves : Cond.instanceMethod yX12_solves ∈ j_tbl ∧ Cond.selects yX12_solves.cls yX12_solves yX12_solves ∈ j_tbl := ⟨(j_at 1406 (by decide +kernel) rfl), (j_ap 73 (by decide +kernel) rfl)⟩
theorem kv_X12_sortOf : Cond.instanceMethod yX12_sortOf ∈ j_tbl ∧ Cond.selects yX12_sortOf.cls yX12_sortOf yX12_sortOf ∈ j_tbl := ⟨(j_at 1418 (by decide +kernel) rfl), (j_ap 75 (by decide +kernel) rfl)⟩
theorem kv_X12_sum : Cond.instanceMethod yX12_sum ∈ j_tbl ∧ Cond.selects yX12_sum.cls yX12_sum yX12_sum ∈ j_tbl := ⟨(j_at 1044 (by decide +kernel) rfl), (j_ap 55 (by decide +kernel) rfl)⟩
theorem kv_X12_swap : Cond.instanceMethod yX12_swap ∈ j_tbl ∧ Cond.selects yX12_swap.cls yX12_swap yX12_swap ∈ j_tbl := ⟨(j_at 1425 (by decide +kernel) rfl), (j_at 1426 (by decide +kernel) rfl)⟩
theorem kv_X12_table : Cond.instanceMethod yX12_table ∈ j_tbl ∧ Cond.selects yX12_table.cls yX12_table yX12_table ∈ j_tbl := ⟨(j_at 1377 (by decide +kernel) rfl), (j_at 1378 (by decide +kernel) rfl)⟩
theorem kv_X12_take : Cond.instanceMethod yX12_take ∈ j_tbl ∧ Cond.selects yX12_take.cls yX12_take yX12_take ∈ j_tbl := ⟨(j_at 1334 (by decide +kernel) rfl), (j_at 1335 (by decide +kernel) rfl)⟩
theorem kv_X12_takes : Cond.instanceMethod yX12_takes ∈ j_tbl ∧ Cond.selects yX12_takes.cls yX12_takes yX12_takes ∈ j_tbl := ⟨(j_at 1075 (by decide +kernel) rfl), (j_ap 62 (by decide +kernel) rfl)⟩
theorem kv_X12_takesStep : Cond.instanceMethod yX12_takesStep ∈ j_tbl ∧ Cond.selects yX12_takesStep.cls yX12_takesStep yX12_takesStep ∈ j_tbl := ⟨(j_at 1410 (by decide +kernel) rfl), (j_ap 74 (by decide +kernel) rfl)⟩
theorem kv_X12_thrown : Cond.instanceMethod yX12_thrown ∈ j_tbl ∧ Cond.selects yX12_thrown.cls yX12_thrown yX12_thrown ∈ j_tbl := ⟨(j_at 945 (by decide +kernel) rfl), (j_at 946 (by decide +kernel) rfl)⟩
theorem kv_X12_times : Cond.instanceMethod yX12_times ∈ j_tbl ∧ Cond.selects yX12_times.cls yX12_times yX12_times ∈ j_tbl := ⟨(j_at 1303 (by decide +kernel) rfl), (j_ap 65 (by decide +kernel) rfl)⟩
theorem kv_X12_times_ : Cond.instanceMethod yX12_times_ ∈ j_tbl ∧ Cond.selects yX12_times_.cls yX12_times_ yX12_times_ ∈ j_tbl := ⟨(j_at 1342 (by decide +kernel) rfl), (j_at 1343 (by decide +kernel) rfl)⟩
theorem kv_X12_trace : Cond.instanceMethod yX12_trace ∈ j_tbl ∧ Cond.selects yX12_trace.cls yX12_trace yX12_trace ∈ j_tbl := ⟨(j_at 1290 (by decide +kernel) rfl), (j_at 1291 (by decide +kernel) rfl)⟩
theorem kv_X12_traceLeft : Cond.instanceMethod yX12_traceLeft ∈ j_tbl ∧ Cond.selects yX12_traceLeft.cls yX12_traceLeft yX12_traceLeft ∈ j_tbl := ⟨(j_at 1315 (by decide +kernel) rfl), (j_at 1316 (by decide +kernel) rfl)⟩
theorem kv_X12_traceOf : Cond.instanceMethod yX12_traceOf ∈ j_tbl ∧ Cond.selects yX12_traceOf.cls yX12_traceOf yX12_traceOf ∈ j_tbl := ⟨(j_at 1299 (by decide +kernel) rfl), (j_ap 64 (by decide +kernel) rfl)⟩
theorem kv_X12_weight : Cond.instanceMethod yX12_weight ∈ j_tbl ∧ Cond.selects yX12_weight.cls yX12_weight yX12_weight ∈ j_tbl := ⟨(j_at 1256 (by decide +kernel) rfl), (j_at 1257 (by decide +kernel) rfl)⟩
theorem kv_X12_whole : Cond.instanceMethod yX12_whole ∈ j_tbl ∧ Cond.selects yX12_whole.cls yX12_whole yX12_whole ∈ j_tbl := ⟨(j_at 1270 (by decide +kernel) rfl), (j_at 1271 (by decide +kernel) rfl)⟩
theorem kv_X2_add : Cond.instanceMethod yX2_add ∈ j_tbl ∧ Cond.selects yX2_add.cls yX2_add yX2_add ∈ j_tbl := ⟨(j_at 501 (by decide +kernel) rfl), (j_at 502 (by decide +kernel) rfl)⟩
theorem kv_X2_copyFrom : Cond.instanceMethod yX2_copyFrom ∈ j_tbl ∧ Cond.selects yX2_copyFrom.cls yX2_copyFrom yX2_copyFrom ∈ j_tbl := ⟨(j_at 485 (by decide +kernel) rfl), (j_at 486 (by decide +kernel) rfl)⟩
theorem kv_X2_firstNotZero : Cond.instanceMethod yX2_firstNotZero ∈ j_tbl ∧ Cond.selects yX2_firstNotZero.cls yX2_firstNotZero yX2_firstNotZero ∈ j_tbl := ⟨(j_at 741 (by decide +kernel) rfl), (j_at 742 (by decide +kernel) rfl)⟩
theorem kv_X2_multiplyBy : Cond.instanceMethod yX2_multiplyBy ∈ j_tbl ∧ Cond.selects yX2_multiplyBy.cls yX2_multiplyBy yX2_multiplyBy ∈ j_tbl := ⟨(j_at 496 (by decide +kernel) rfl), (j_at 497 (by decide +kernel) rfl)⟩
theorem kv_X2_setNumber : Cond.instanceMethod yX2_setNumber ∈ j_tbl ∧ Cond.selects yX2_setNumber.cls yX2_setNumber yX2_setNumber ∈ j_tbl := ⟨(j_at 263 (by decide +kernel) rfl), (j_at 264 (by decide +kernel) rfl)⟩
theorem kv_X3_bringBack : Cond.instanceMethod yX3_bringBack ∈ j_tbl ∧ Cond.selects yX3_bringBack.cls yX3_bringBack yX3_bringBack ∈ j_tbl := ⟨(j_at 860 (by decide +kernel) rfl), (j_at 861 (by decide +kernel) rfl)⟩
theorem kv_X3_lay : Cond.instanceMethod yX3_lay ∈ j_tbl ∧ Cond.selects yX3_lay.cls yX3_lay yX3_lay ∈ j_tbl := ⟨(j_at 847 (by decide +kernel) rfl), (j_at 848 (by decide +kernel) rfl)⟩
theorem kv_X5_clearColumn : Cond.instanceMethod yX5_clearColumn ∈ j_tbl ∧ Cond.selects yX5_clearColumn.cls yX5_clearColumn yX5_clearColumn ∈ j_tbl := ⟨(j_at 824 (by decide +kernel) rfl), (j_ap 34 (by decide +kernel) rfl)⟩
theorem kv_X5_exchange : Cond.instanceMethod yX5_exchange ∈ j_tbl ∧ Cond.selects yX5_exchange.cls yX5_exchange yX5_exchange ∈ j_tbl := ⟨(j_at 820 (by decide +kernel) rfl), (j_ap 33 (by decide +kernel) rfl)⟩
theorem kv_X5_findOwn : Cond.instanceMethod yX5_findOwn ∈ j_tbl ∧ Cond.selects yX5_findOwn.cls yX5_findOwn yX5_findOwn ∈ j_tbl := ⟨(j_at 807 (by decide +kernel) rfl), (j_at 808 (by decide +kernel) rfl)⟩
theorem kv_X5_findPolynomial : Cond.instanceMethod yX5_findPolynomial ∈ j_tbl ∧ Cond.selects yX5_findPolynomial.cls yX5_findPolynomial yX5_findPolynomial ∈ j_tbl := ⟨(j_at 771 (by decide +kernel) rfl), (j_at 772 (by decide +kernel) rfl)⟩
theorem kv_X5_findRoots : Cond.instanceMethod yX5_findRoots ∈ j_tbl ∧ Cond.selects yX5_findRoots.cls yX5_findRoots yX5_findRoots ∈ j_tbl := ⟨(j_at 795 (by decide +kernel) rfl), (j_at 796 (by decide +kernel) rfl)⟩
theorem kv_X5_layEquations : Cond.instanceMethod yX5_layEquations ∈ j_tbl ∧ Cond.selects yX5_layEquations.cls yX5_layEquations yX5_layEquations ∈ j_tbl := ⟨(j_at 812 (by decide +kernel) rfl), (j_ap 31 (by decide +kernel) rfl)⟩
theorem kv_X5_liftPivot : Cond.instanceMethod yX5_liftPivot ∈ j_tbl ∧ Cond.selects yX5_liftPivot.cls yX5_liftPivot yX5_liftPivot ∈ j_tbl := ⟨(j_at 816 (by decide +kernel) rfl), (j_ap 32 (by decide +kernel) rfl)⟩
theorem kv_X5_load : Cond.instanceMethod yX5_load ∈ j_tbl ∧ Cond.selects yX5_load.cls yX5_load yX5_load ∈ j_tbl := ⟨(j_at 765 (by decide +kernel) rfl), (j_at 766 (by decide +kernel) rfl)⟩
theorem kv_X5_multiplyTableByWork : Cond.instanceMethod yX5_multiplyTableByWork ∈ j_tbl ∧ Cond.selects yX5_multiplyTableByWork.cls yX5_multiplyTableByWork yX5_multiplyTableByWork ∈ j_tbl := ⟨(j_at 783 (by decide +kernel) rfl), (j_ap 28 (by decide +kernel) rfl)⟩
theorem kv_X5_polynomialAt : Cond.instanceMethod yX5_polynomialAt ∈ j_tbl ∧ Cond.selects yX5_polynomialAt.cls yX5_polynomialAt yX5_polynomialAt ∈ j_tbl := ⟨(j_at 800 (by decide +kernel) rfl), (j_ap 30 (by decide +kernel) rfl)⟩
theorem kv_X5_takeProduct : Cond.instanceMethod yX5_takeProduct ∈ j_tbl ∧ Cond.selects yX5_takeProduct.cls yX5_takeProduct yX5_takeProduct ∈ j_tbl := ⟨(j_at 777 (by decide +kernel) rfl), (j_ap 27 (by decide +kernel) rfl)⟩
theorem kv_X6_copyFrom : Cond.instanceMethod yX6_copyFrom ∈ j_tbl ∧ Cond.selects yX6_copyFrom.cls yX6_copyFrom yX6_copyFrom ∈ j_tbl := ⟨(j_at 855 (by decide +kernel) rfl), (j_at 856 (by decide +kernel) rfl)⟩
theorem kv_X6_empty : Cond.instanceMethod yX6_empty ∈ j_tbl ∧ Cond.selects yX6_empty.cls yX6_empty yX6_empty ∈ j_tbl := ⟨(j_at 270 (by decide +kernel) rfl), (j_at 271 (by decide +kernel) rfl)⟩
theorem kv_X6_numbersInRow : Cond.instanceMethod yX6_numbersInRow ∈ j_tbl ∧ Cond.selects yX6_numbersInRow.cls yX6_numbersInRow yX6_numbersInRow ∈ j_tbl := ⟨(j_at 941 (by decide +kernel) rfl), (j_at 942 (by decide +kernel) rfl)⟩
theorem kv_X7_begin : Cond.instanceMethod yX7_begin ∈ j_tbl ∧ Cond.selects yX7_begin.cls yX7_begin yX7_begin ∈ j_tbl := ⟨(j_at 551 (by decide +kernel) rfl), (j_ap 20 (by decide +kernel) rfl)⟩
theorem kv_X7_complete : Cond.instanceMethod yX7_complete ∈ j_tbl ∧ Cond.selects yX7_complete.cls yX7_complete yX7_complete ∈ j_tbl := ⟨(j_at 733 (by decide +kernel) rfl), (j_at 734 (by decide +kernel) rfl)⟩
theorem kv_X7_expand : Cond.instanceMethod yX7_expand ∈ j_tbl ∧ Cond.selects yX7_expand.cls yX7_expand yX7_expand ∈ j_tbl := ⟨(j_at 592 (by decide +kernel) rfl), (j_at 593 (by decide +kernel) rfl)⟩
theorem kv_X7_factorOfSums : Cond.instanceMethod yX7_factorOfSums ∈ j_tbl ∧ Cond.selects yX7_factorOfSums.cls yX7_factorOfSums yX7_factorOfSums ∈ j_tbl := ⟨(j_at 556 (by decide +kernel) rfl), (j_ap 21 (by decide +kernel) rfl)⟩
theorem kv_X7_heckeAt : Cond.instanceMethod yX7_heckeAt ∈ j_tbl ∧ Cond.selects yX7_heckeAt.cls yX7_heckeAt yX7_heckeAt ∈ j_tbl := ⟨(j_at 728 (by decide +kernel) rfl), (j_at 729 (by decide +kernel) rfl)⟩
theorem kv_X7_isReady : Cond.instanceMethod yX7_isReady ∈ j_tbl ∧ Cond.selects yX7_isReady.cls yX7_isReady yX7_isReady ∈ j_tbl := ⟨(j_at 538 (by decide +kernel) rfl), (j_at 539 (by decide +kernel) rfl)⟩
theorem kv_X7_makeAlone : Cond.instanceMethod yX7_makeAlone ∈ j_tbl ∧ Cond.selects yX7_makeAlone.cls yX7_makeAlone yX7_makeAlone ∈ j_tbl := ⟨(j_at 546 (by decide +kernel) rfl), (j_at 547 (by decide +kernel) rfl)⟩
theorem kv_X7_makeFrom : Cond.instanceMethod yX7_makeFrom ∈ j_tbl ∧ Cond.selects yX7_makeFrom.cls yX7_makeFrom yX7_makeFrom ∈ j_tbl := ⟨(j_at 588 (by decide +kernel) rfl), (j_at 589 (by decide +kernel) rfl)⟩
theorem kv_X7_makeTwelve : Cond.instanceMethod yX7_makeTwelve ∈ j_tbl ∧ Cond.selects yX7_makeTwelve.cls yX7_makeTwelve yX7_makeTwelve ∈ j_tbl := ⟨(j_at 568 (by decide +kernel) rfl), (j_at 569 (by decide +kernel) rfl)⟩
theorem kv_X7_multiply : Cond.instanceMethod yX7_multiply ∈ j_tbl ∧ Cond.selects yX7_multiply.cls yX7_multiply yX7_multiply ∈ j_tbl := ⟨(j_at 573 (by decide +kernel) rfl), (j_ap 23 (by decide +kernel) rfl)⟩
theorem kv_X7_reduce : Cond.instanceMethod yX7_reduce ∈ j_tbl ∧ Cond.selects yX7_reduce.cls yX7_reduce yX7_reduce ∈ j_tbl := ⟨(j_at 581 (by decide +kernel) rfl), (j_ap 24 (by decide +kernel) rfl)⟩
theorem kv_X7_subtract : Cond.instanceMethod yX7_subtract ∈ j_tbl ∧ Cond.selects yX7_subtract.cls yX7_subtract yX7_subtract ∈ j_tbl := ⟨(j_at 585 (by decide +kernel) rfl), (j_ap 25 (by decide +kernel) rfl)⟩
theorem kv_X8_makeAlone : Cond.instanceMethod yX8_makeAlone ∈ j_tbl ∧ Cond.selects yX8_makeAlone.cls yX8_makeAlone yX8_makeAlone ∈ j_tbl := ⟨(j_at 543 (by decide +kernel) rfl), (j_ap 19 (by decide +kernel) rfl)⟩
theorem kv_X8_makeTwelve : Cond.instanceMethod yX8_makeTwelve ∈ j_tbl ∧ Cond.selects yX8_makeTwelve.cls yX8_makeTwelve yX8_makeTwelve ∈ j_tbl := ⟨(j_at 565 (by decide +kernel) rfl), (j_ap 22 (by decide +kernel) rfl)⟩
theorem kv_X8_ready : Cond.instanceMethod yX8_ready ∈ j_tbl ∧ Cond.selects yX8_ready.cls yX8_ready yX8_ready ∈ j_tbl := ⟨(j_at 534 (by decide +kernel) rfl), (j_at 535 (by decide +kernel) rfl)⟩
theorem kv_X9_addToken : Cond.instanceMethod yX9_addToken ∈ j_tbl ∧ Cond.selects yX9_addToken.cls yX9_addToken yX9_addToken ∈ j_tbl := ⟨(j_at 345 (by decide +kernel) rfl), (j_ap 3 (by decide +kernel) rfl)⟩
theorem kv_X9_addWord : Cond.instanceMethod yX9_addWord ∈ j_tbl ∧ Cond.selects yX9_addWord.cls yX9_addWord yX9_addWord ∈ j_tbl := ⟨(j_at 341 (by decide +kernel) rfl), (j_ap 2 (by decide +kernel) rfl)⟩
theorem kv_X9_scan : Cond.instanceMethod yX9_scan ∈ j_tbl ∧ Cond.selects yX9_scan.cls yX9_scan yX9_scan ∈ j_tbl := ⟨(j_at 330 (by decide +kernel) rfl), (j_at 331 (by decide +kernel) rfl)⟩
theorem kw_L_row : j_mW yL_row cL_row 6 (some .int) [(0, 11, 14, 13)] 5 := ⟨(j_at 935 (by decide +kernel) rfl), (j_at 0 (by decide +kernel) rfl), by decide, by decide +kernel, by decide +kernel, by decide +kernel⟩
theorem kw_L_whole : j_mW yL_whole cL_whole 4 (some .int) [(0, 9, 12, 13)] 3 := ⟨(j_at 865 (by decide +kernel) rfl), (j_at 0 (by decide +kernel) rfl), by decide, by decide +kernel, by decide +kernel, by decide +kernel⟩
theorem lk_Jxf58ca_59 : Cond.methodLink RJxf58ca 59 yJxf58ca_isNaN_12338 ∈ j_tbl := (j_at 1326 (by decide +kernel) rfl)
theorem lk_L_102 : Cond.methodLink RL 102 yX12_multiplies_ ∈ j_tbl := (j_at 1364 (by decide +kernel) rfl)
theorem lk_L_103 : Cond.methodLink RL 103 yX11_alike ∈ j_tbl := (j_at 745 (by decide +kernel) rfl)
theorem lk_L_107 : Cond.methodLink RL 107 yX12_alike ∈ j_tbl := (j_at 1368 (by decide +kernel) rfl)
theorem lk_L_108 : Cond.methodLink RL 108 yX11_parts ∈ j_tbl := (j_at 752 (by decide +kernel) rfl)
theorem lk_L_111 : Cond.methodLink RL 111 yX12_parts ∈ j_tbl := (j_at 1372 (by decide +kernel) rfl)
theorem lk_L_112 : Cond.methodLink RL 112 yX11_table ∈ j_tbl := (j_at 756 (by decide +kernel) rfl)
theorem lk_L_116 : Cond.methodLink RL 116 yX12_table ∈ j_tbl := (j_at 1376 (by decide +kernel) rfl)
theorem lk_L_117 : Cond.methodLink RL 117 yX11_polynomial ∈ j_tbl := (j_at 760 (by decide +kernel) rfl)
theorem lk_L_120 : Cond.methodLink RL 120 yX12_polynomial ∈ j_tbl := (j_at 1384 (by decide +kernel) rfl)
theorem lk_L_121 : Cond.methodLink RL 121 yX11_root ∈ j_tbl := (j_at 786 (by decide +kernel) rfl)
theorem lk_L_124 : Cond.methodLink RL 124 yX12_root ∈ j_tbl := (j_at 1392 (by decide +kernel) rfl)
theorem lk_L_125 : Cond.methodLink RL 125 yX11_own ∈ j_tbl := (j_at 802 (by decide +kernel) rfl)
theorem lk_L_128 : Cond.methodLink RL 128 yX12_own ∈ j_tbl := (j_at 1400 (by decide +kernel) rfl)
theorem lk_L_129 : Cond.methodLink RL 129 yX11_put ∈ j_tbl := (j_at 826 (by decide +kernel) rfl)
theorem lk_L_133 : Cond.methodLink RL 133 yX12_put ∈ j_tbl := (j_at 1412 (by decide +kernel) rfl)
theorem lk_L_134 : Cond.methodLink RL 134 yL_row ∈ j_tbl := (j_at 933 (by decide +kernel) rfl)
theorem lk_L_137 : Cond.methodLink RL 137 yX12_row ∈ j_tbl := (j_at 1420 (by decide +kernel) rfl)
theorem lk_L_138 : Cond.methodLink RL 138 yX11_swap ∈ j_tbl := (j_at 838 (by decide +kernel) rfl)
theorem lk_L_141 : Cond.methodLink RL 141 yX12_swap ∈ j_tbl := (j_at 1424 (by decide +kernel) rfl)
theorem lk_L_142 : Cond.methodLink RL 142 yX11_image ∈ j_tbl := (j_at 842 (by decide +kernel) rfl)
theorem lk_L_146 : Cond.methodLink RL 146 yX12_image ∈ j_tbl := (j_at 1428 (by decide +kernel) rfl)
theorem lk_L_19 : Cond.methodLink RL 19 yX11_init ∈ j_tbl := (j_at 29 (by decide +kernel) rfl)
theorem lk_L_22 : Cond.methodLink RL 22 yX12_init ∈ j_tbl := (j_at 1078 (by decide +kernel) rfl)
theorem lk_L_23 : Cond.methodLink RL 23 yX11_feed ∈ j_tbl := (j_at 313 (by decide +kernel) rfl)
theorem lk_L_27 : Cond.methodLink RL 27 yX12_feed ∈ j_tbl := (j_at 948 (by decide +kernel) rfl)
theorem lk_L_28 : Cond.methodLink RL 28 yX11_book ∈ j_tbl := (j_at 321 (by decide +kernel) rfl)
theorem lk_L_31 : Cond.methodLink RL 31 yX12_book ∈ j_tbl := (j_at 957 (by decide +kernel) rfl)
theorem lk_L_32 : Cond.methodLink RL 32 yX11_count ∈ j_tbl := (j_at 505 (by decide +kernel) rfl)
theorem lk_L_35 : Cond.methodLink RL 35 yX12_count ∈ j_tbl := (j_at 1236 (by decide +kernel) rfl)
theorem lk_L_36 : Cond.methodLink RL 36 yX11_let ∈ j_tbl := (j_at 513 (by decide +kernel) rfl)
theorem lk_L_40 : Cond.methodLink RL 40 yX12_let ∈ j_tbl := (j_at 1240 (by decide +kernel) rfl)
theorem lk_L_41 : Cond.methodLink RL 41 yX11_coefficient ∈ j_tbl := (j_at 522 (by decide +kernel) rfl)
theorem lk_L_44 : Cond.methodLink RL 44 yX12_coefficient ∈ j_tbl := (j_at 1247 (by decide +kernel) rfl)
theorem lk_L_45 : Cond.methodLink RL 45 yX11_weight ∈ j_tbl := (j_at 595 (by decide +kernel) rfl)
theorem lk_L_48 : Cond.methodLink RL 48 yX12_weight ∈ j_tbl := (j_at 1255 (by decide +kernel) rfl)
theorem lk_L_49 : Cond.methodLink RL 49 yX11_makes ∈ j_tbl := (j_at 599 (by decide +kernel) rfl)
theorem lk_L_53 : Cond.methodLink RL 53 yX12_makes ∈ j_tbl := (j_at 1259 (by decide +kernel) rfl)
theorem lk_L_54 : Cond.methodLink RL 54 yL_whole ∈ j_tbl := (j_at 863 (by decide +kernel) rfl)
theorem lk_L_59 : Cond.methodLink RL 59 yX12_whole ∈ j_tbl := (j_at 1269 (by decide +kernel) rfl)
theorem lk_L_60 : Cond.methodLink RL 60 yX12_thrown ∈ j_tbl := (j_at 944 (by decide +kernel) rfl)
theorem lk_L_64 : Cond.methodLink RL 64 yX11_small ∈ j_tbl := (j_at 612 (by decide +kernel) rfl)
theorem lk_L_67 : Cond.methodLink RL 67 yX12_small ∈ j_tbl := (j_at 1285 (by decide +kernel) rfl)
theorem lk_L_68 : Cond.methodLink RL 68 yX11_trace ∈ j_tbl := (j_at 631 (by decide +kernel) rfl)
theorem lk_L_72 : Cond.methodLink RL 72 yX12_trace ∈ j_tbl := (j_at 1289 (by decide +kernel) rfl)
theorem lk_L_73 : Cond.methodLink RL 73 yX11_traceLeft ∈ j_tbl := (j_at 672 (by decide +kernel) rfl)
theorem lk_L_76 : Cond.methodLink RL 76 yX12_traceLeft ∈ j_tbl := (j_at 1314 (by decide +kernel) rfl)
theorem lk_L_77 : Cond.methodLink RL 77 yX11_share ∈ j_tbl := (j_at 685 (by decide +kernel) rfl)
theorem lk_L_80 : Cond.methodLink RL 80 yX12_share ∈ j_tbl := (j_at 1318 (by decide +kernel) rfl)
theorem lk_L_81 : Cond.methodLink RL 81 yX11_take ∈ j_tbl := (j_at 701 (by decide +kernel) rfl)
theorem lk_L_84 : Cond.methodLink RL 84 yX12_take ∈ j_tbl := (j_at 1333 (by decide +kernel) rfl)
theorem lk_L_85 : Cond.methodLink RL 85 yX11_plus ∈ j_tbl := (j_at 705 (by decide +kernel) rfl)
theorem lk_L_89 : Cond.methodLink RL 89 yX12_plus_ ∈ j_tbl := (j_at 1337 (by decide +kernel) rfl)
theorem lk_L_90 : Cond.methodLink RL 90 yX11_times ∈ j_tbl := (j_at 711 (by decide +kernel) rfl)
theorem lk_L_93 : Cond.methodLink RL 93 yX12_times_ ∈ j_tbl := (j_at 1341 (by decide +kernel) rfl)
theorem lk_L_94 : Cond.methodLink RL 94 yX11_hecke ∈ j_tbl := (j_at 716 (by decide +kernel) rfl)
theorem lk_L_98 : Cond.methodLink RL 98 yX12_hecke ∈ j_tbl := (j_at 1345 (by decide +kernel) rfl)
theorem lk_L_99 : Cond.methodLink RL 99 yX11_multiplies ∈ j_tbl := (j_at 736 (by decide +kernel) rfl)
theorem lk_X0_100 : Cond.methodLink RX0 100 yX0_readSum ∈ j_tbl := (j_at 454 (by decide +kernel) rfl)
theorem lk_X0_103 : Cond.methodLink RX0 103 yX2_copyFrom ∈ j_tbl := (j_at 484 (by decide +kernel) rfl)
theorem lk_X0_107 : Cond.methodLink RX0 107 yX0_readProduct ∈ j_tbl := (j_at 458 (by decide +kernel) rfl)
theorem lk_X0_113 : Cond.methodLink RX0 113 yX2_add ∈ j_tbl := (j_at 500 (by decide +kernel) rfl)
theorem lk_X0_117 : Cond.methodLink RX0 117 yX0_readPower ∈ j_tbl := (j_at 462 (by decide +kernel) rfl)
theorem lk_X0_120 : Cond.methodLink RX0 120 yX2_multiplyBy ∈ j_tbl := (j_at 495 (by decide +kernel) rfl)
theorem lk_X0_124 : Cond.methodLink RX0 124 yX0_readAtom ∈ j_tbl := (j_at 466 (by decide +kernel) rfl)
theorem lk_X0_127 : Cond.methodLink RX0 127 yX0_raise ∈ j_tbl := (j_at 491 (by decide +kernel) rfl)
theorem lk_X0_130 : Cond.methodLink RX0 130 yX2_setNumber ∈ j_tbl := (j_at 473 (by decide +kernel) rfl)
theorem lk_X0_134 : Cond.methodLink RX0 134 yX4_of ∈ j_tbl := (j_at 470 (by decide +kernel) rfl)
theorem lk_X0_143 : Cond.methodLink RX0 143 yX0_setKnown ∈ j_tbl := (j_at 476 (by decide +kernel) rfl)
theorem lk_X0_25 : Cond.methodLinkNest RX0 25 yX9_init "HeckeSeries" ∈ lw_tbl := (List.mem_append_right _ (List.mem_of_getElem? (i := 179) (by decide +kernel)))
theorem lk_X0_3 : Cond.methodLink RX0 3 Lib.objectInit ∈ j_tbl := (j_at 175 (by decide +kernel) rfl)
theorem lk_X0_41 : Cond.methodLinkNest RX0 41 yX2_init "HeckeSeries" ∈ lw_tbl := (List.mem_append_right _ (List.mem_of_getElem? (i := 201) (by decide +kernel)))
theorem lk_X0_46 : Cond.methodLink RX0 46 yX9_scan ∈ j_tbl := (j_at 329 (by decide +kernel) rfl)
theorem lk_X0_75 : Cond.methodLink RX0 75 yX0_kind ∈ j_tbl := (j_at 423 (by decide +kernel) rfl)
theorem lk_X0_79 : Cond.methodLink RX0 79 yX0_fail ∈ j_tbl := (j_at 431 (by decide +kernel) rfl)
theorem lk_X0_83 : Cond.methodLink RX0 83 yX0_goOn ∈ j_tbl := (j_at 427 (by decide +kernel) rfl)
theorem lk_X0_86 : Cond.methodLink RX0 86 yX0_value ∈ j_tbl := (j_at 435 (by decide +kernel) rfl)
theorem lk_X0_89 : Cond.methodLink RX0 89 yX0_isPrime ∈ j_tbl := (j_at 439 (by decide +kernel) rfl)
theorem lk_X0_9 : Cond.methodLinkNest RX0 9 yX11_newForms "HeckeSeries" ∈ lw_tbl := (List.mem_append_right _ (List.mem_of_getElem? (i := 176) (by decide +kernel)))
theorem lk_X0_93 : Cond.methodLink RX0 93 yX0_expect ∈ j_tbl := (j_at 442 (by decide +kernel) rfl)
theorem lk_X0_96 : Cond.methodLink RX0 96 yX0_findLet ∈ j_tbl := (j_at 450 (by decide +kernel) rfl)
theorem lk_X10_17 : Cond.methodLink RX10 17 yX10_reachOf ∈ j_tbl := (j_at 643 (by decide +kernel) rfl)
theorem lk_X10_21 : Cond.methodLink RX10 21 yX1_inTwelfths ∈ j_tbl := (j_at 646 (by decide +kernel) rfl)
theorem lk_X10_26 : Cond.methodLink RX10 26 yX10_exactQ ∈ j_tbl := (j_at 649 (by decide +kernel) rfl)
theorem lk_X10_30 : Cond.methodLink RX10 30 yX10_multiply ∈ j_tbl := (j_at 652 (by decide +kernel) rfl)
theorem lk_X10_34 : Cond.methodLink RX10 34 yX10_add ∈ j_tbl := (j_at 660 (by decide +kernel) rfl)
theorem lk_X10_37 : Cond.methodLink RX10 37 yJ9_min_7cf53 ∈ j_tbl := (j_at 664 (by decide +kernel) rfl)
theorem lk_X10_43 : Cond.methodLink RX10 43 yX10_exactPower ∈ j_tbl := (j_at 667 (by decide +kernel) rfl)
theorem lk_X10_57 : Cond.methodLink RX10 57 yJ9_abs_067f4 ∈ j_tbl := (j_at 656 (by decide +kernel) rfl)
theorem lk_X10_61 : Cond.methodLink RX10 61 yX10_leftQ ∈ j_tbl := (j_at 679 (by decide +kernel) rfl)
theorem lk_X10_65 : Cond.methodLink RX10 65 yX4_power ∈ j_tbl := (j_at 683 (by decide +kernel) rfl)
theorem lk_X10_71 : Cond.methodLink RX10 71 yX4_of ∈ j_tbl := (j_at 682 (by decide +kernel) rfl)
theorem lk_X10_75 : Cond.methodLink RX10 75 yX4_divide ∈ j_tbl := (j_at 684 (by decide +kernel) rfl)
theorem lk_X10_78 : Cond.methodLinkNest RX10 78 yX11_cuspsOf "HeckeSeries" ∈ lw_tbl := (List.mem_append_right _ (List.mem_of_getElem? (i := 694) (by decide +kernel)))
theorem lk_X10_9 : Cond.methodLinkNest RX10 9 yX11_isWeight "HeckeSeries" ∈ lw_tbl := (List.mem_append_right _ (List.mem_of_getElem? (i := 638) (by decide +kernel)))
theorem lk_X11_1 : Cond.methodLink RX11 1 Lib.objectInit ∈ j_tbl := (j_at 32 (by decide +kernel) rfl)
theorem lk_X11_111 : Cond.methodLink RX11 111 yX2_copyFrom ∈ j_tbl := (j_at 504 (by decide +kernel) rfl)
theorem lk_X11_115 : Cond.methodLink RX11 115 yX2_setNumber ∈ j_tbl := (j_at 262 (by decide +kernel) rfl)
theorem lk_X11_118 : Cond.methodLink RX11 118 yX6_empty ∈ j_tbl := (j_at 269 (by decide +kernel) rfl)
theorem lk_X11_124 : Cond.methodLink RX11 124 yX11_laidImages ∈ j_tbl := (j_at 509 (by decide +kernel) rfl)
theorem lk_X11_128 : Cond.methodLink RX11 128 yX11_isLet ∈ j_tbl := (j_at 517 (by decide +kernel) rfl)
theorem lk_X11_135 : Cond.methodLink RX11 135 yX11_lengthOf ∈ j_tbl := (j_at 521 (by decide +kernel) rfl)
theorem lk_X11_143 : Cond.methodLink RX11 143 yX11_isRegister ∈ j_tbl := (j_at 526 (by decide +kernel) rfl)
theorem lk_X11_146 : Cond.methodLink RX11 146 yX11_coefficientOf ∈ j_tbl := (j_at 529 (by decide +kernel) rfl)
theorem lk_X11_150 : Cond.methodLink RX11 150 yX8_ready ∈ j_tbl := (j_at 533 (by decide +kernel) rfl)
theorem lk_X11_154 : Cond.methodLink RX11 154 yX7_expand ∈ j_tbl := (j_at 591 (by decide +kernel) rfl)
theorem lk_X11_160 : Cond.methodLink RX11 160 yX11_isWeight ∈ j_tbl := (j_at 603 (by decide +kernel) rfl)
theorem lk_X11_163 : Cond.methodLink RX11 163 yX11_cuspsOf ∈ j_tbl := (j_at 606 (by decide +kernel) rfl)
theorem lk_X11_17 : Cond.methodLink RX11 17 yX11_newForms ∈ j_tbl := (j_at 35 (by decide +kernel) rfl)
theorem lk_X11_171 : Cond.methodLink RX11 171 yX1_inTwelfths ∈ j_tbl := (j_at 932 (by decide +kernel) rfl)
theorem lk_X11_174 : Cond.methodLink RX11 174 yX1_ofNothingInCommon ∈ j_tbl := (j_at 616 (by decide +kernel) rfl)
theorem lk_X11_177 : Cond.methodLink RX11 177 yX10_isAsked ∈ j_tbl := (j_at 635 (by decide +kernel) rfl)
theorem lk_X11_185 : Cond.methodLink RX11 185 yX10_exact ∈ j_tbl := (j_at 640 (by decide +kernel) rfl)
theorem lk_X11_189 : Cond.methodLink RX11 189 yX10_left ∈ j_tbl := (j_at 676 (by decide +kernel) rfl)
theorem lk_X11_198 : Cond.methodLink RX11 198 yX10_shareOf ∈ j_tbl := (j_at 691 (by decide +kernel) rfl)
theorem lk_X11_202 : Cond.methodLink RX11 202 yX10_bitsOf ∈ j_tbl := (j_at 695 (by decide +kernel) rfl)
theorem lk_X11_206 : Cond.methodLink RX11 206 yX4_of ∈ j_tbl := (j_at 709 (by decide +kernel) rfl)
theorem lk_X11_212 : Cond.methodLink RX11 212 yX2_add ∈ j_tbl := (j_at 710 (by decide +kernel) rfl)
theorem lk_X11_216 : Cond.methodLink RX11 216 yX2_multiplyBy ∈ j_tbl := (j_at 715 (by decide +kernel) rfl)
theorem lk_X11_220 : Cond.methodLink RX11 220 yX11_isHecke ∈ j_tbl := (j_at 720 (by decide +kernel) rfl)
theorem lk_X11_223 : Cond.methodLink RX11 223 yX11_readyForHecke ∈ j_tbl := (j_at 723 (by decide +kernel) rfl)
theorem lk_X11_230 : Cond.methodLink RX11 230 yX7_heckeAt ∈ j_tbl := (j_at 727 (by decide +kernel) rfl)
theorem lk_X11_234 : Cond.methodLink RX11 234 yX7_complete ∈ j_tbl := (j_at 732 (by decide +kernel) rfl)
theorem lk_X11_237 : Cond.methodLink RX11 237 yX2_firstNotZero ∈ j_tbl := (j_at 740 (by decide +kernel) rfl)
theorem lk_X11_240 : Cond.methodLink RX11 240 yX4_divide ∈ j_tbl := (j_at 744 (by decide +kernel) rfl)
theorem lk_X11_243 : Cond.methodLink RX11 243 yX11_partingPlace ∈ j_tbl := (j_at 749 (by decide +kernel) rfl)
theorem lk_X11_251 : Cond.methodLink RX11 251 yX5_load ∈ j_tbl := (j_at 764 (by decide +kernel) rfl)
theorem lk_X11_255 : Cond.methodLink RX11 255 yX5_findPolynomial ∈ j_tbl := (j_at 770 (by decide +kernel) rfl)
theorem lk_X11_261 : Cond.methodLink RX11 261 yX11_spaceWithRoots ∈ j_tbl := (j_at 790 (by decide +kernel) rfl)
theorem lk_X11_274 : Cond.methodLink RX11 274 yX5_findRoots ∈ j_tbl := (j_at 794 (by decide +kernel) rfl)
theorem lk_X11_278 : Cond.methodLink RX11 278 yX5_findOwn ∈ j_tbl := (j_at 806 (by decide +kernel) rfl)
theorem lk_X11_28 : Cond.methodLink RX11 28 yX11_newShelves ∈ j_tbl := (j_at 60 (by decide +kernel) rfl)
theorem lk_X11_282 : Cond.methodLink RX11 282 yX11_isRow ∈ j_tbl := (j_at 830 (by decide +kernel) rfl)
theorem lk_X11_289 : Cond.methodLink RX11 289 yX11_findFreshTraces ∈ j_tbl := (j_at 833 (by decide +kernel) rfl)
theorem lk_X11_292 : Cond.methodLink RX11 292 arraycopyName ∈ j_tbl := (j_at 837 (by decide +kernel) rfl)
theorem lk_X11_302 : Cond.methodLink RX11 302 yX6_numbersInRow ∈ j_tbl := (j_at 940 (by decide +kernel) rfl)
theorem lk_X11_305 : Cond.methodLink RX11 305 yX3_lay ∈ j_tbl := (j_at 846 (by decide +kernel) rfl)
theorem lk_X11_309 : Cond.methodLink RX11 309 yX3_bringBack ∈ j_tbl := (j_at 859 (by decide +kernel) rfl)
theorem lk_X11_313 : Cond.methodLink RX11 313 yJ9_max_7cf53 ∈ j_tbl := (j_at 609 (by decide +kernel) rfl)
theorem lk_X11_319 : Cond.methodLinkNest RX11 319 yX6_init "HeckeSeries" ∈ lw_tbl := (List.mem_append_right _ (List.mem_of_getElem? (i := 66) (by decide +kernel)))
theorem lk_X11_44 : Cond.methodLink RX11 44 yX8_init ∈ j_tbl := (j_at 92 (by decide +kernel) rfl)
theorem lk_X11_51 : Cond.methodLinkNest RX11 51 yX5_init "HeckeSeries" ∈ lw_tbl := (List.mem_append_right _ (List.mem_of_getElem? (i := 145) (by decide +kernel)))
theorem lk_X11_58 : Cond.methodLinkNest RX11 58 yX0_init "HeckeSeries" ∈ lw_tbl := (List.mem_append_right _ (List.mem_of_getElem? (i := 172) (by decide +kernel)))
theorem lk_X11_65 : Cond.methodLinkNest RX11 65 yX2_init "HeckeSeries" ∈ lw_tbl := (List.mem_append_right _ (List.mem_of_getElem? (i := 41) (by decide +kernel)))
theorem lk_X11_74 : Cond.methodLinkNest RX11 74 yX3_init "HeckeSeries" ∈ lw_tbl := (List.mem_append_right _ (List.mem_of_getElem? (i := 241) (by decide +kernel)))
theorem lk_X11_81 : Cond.methodLink RX11 81 yX11_forget ∈ j_tbl := (j_at 258 (by decide +kernel) rfl)
theorem lk_X11_87 : Cond.methodLink RX11 87 yX11_feedFour ∈ j_tbl := (j_at 317 (by decide +kernel) rfl)
theorem lk_X11_91 : Cond.methodLink RX11 91 yX0_open ∈ j_tbl := (j_at 325 (by decide +kernel) rfl)
theorem lk_X11_95 : Cond.methodLink RX11 95 yX0_readPrime ∈ j_tbl := (j_at 419 (by decide +kernel) rfl)
theorem lk_X11_99 : Cond.methodLink RX11 99 yX0_readLets ∈ j_tbl := (j_at 446 (by decide +kernel) rfl)
theorem lk_X12_10 : Cond.methodLink RX12 10 yX12_left ∈ j_tbl := (j_at 973 (by decide +kernel) rfl)
theorem lk_X12_104 : Cond.methodLink RX12 104 yX12_isSign ∈ j_tbl := (j_at 996 (by decide +kernel) rfl)
theorem lk_X12_111 : Cond.methodLink RX12 111 yX12_badAt ∈ j_tbl := (j_at 1011 (by decide +kernel) rfl)
theorem lk_X12_115 : Cond.methodLink RX12 115 yX12_is ∈ j_tbl := (j_at 1022 (by decide +kernel) rfl)
theorem lk_X12_118 : Cond.methodLink RX12 118 yX12_bad ∈ j_tbl := (j_at 1007 (by decide +kernel) rfl)
theorem lk_X12_121 : Cond.methodLink RX12 121 yX12_go ∈ j_tbl := (j_at 987 (by decide +kernel) rfl)
theorem lk_X12_125 : Cond.methodLink RX12 125 yX12_isWord ∈ j_tbl := (j_at 999 (by decide +kernel) rfl)
theorem lk_X12_138 : Cond.methodLink RX12 138 yX12_isOwn ∈ j_tbl := (j_at 1034 (by decide +kernel) rfl)
theorem lk_X12_14 : Cond.methodLink RX12 14 yX12_power ∈ j_tbl := (j_at 968 (by decide +kernel) rfl)
theorem lk_X12_151 : Cond.methodLink RX12 151 yX12_pushes ∈ j_tbl := (j_at 1062 (by decide +kernel) rfl)
theorem lk_X12_155 : Cond.methodLink RX12 155 yX12_pushesNumber ∈ j_tbl := (j_at 1058 (by decide +kernel) rfl)
theorem lk_X12_161 : Cond.methodLink RX12 161 yX12_sum ∈ j_tbl := (j_at 1042 (by decide +kernel) rfl)
theorem lk_X12_164 : Cond.methodLink RX12 164 yX12_sign ∈ j_tbl := (j_at 1018 (by decide +kernel) rfl)
theorem lk_X12_167 : Cond.methodLink RX12 167 yX12_isName ∈ j_tbl := (j_at 1030 (by decide +kernel) rfl)
theorem lk_X12_170 : Cond.methodLink RX12 170 yX12_named ∈ j_tbl := (j_at 1038 (by decide +kernel) rfl)
theorem lk_X12_180 : Cond.methodLink RX12 180 yX12_atom ∈ j_tbl := (j_at 1054 (by decide +kernel) rfl)
theorem lk_X12_183 : Cond.methodLink RX12 183 yX12_power_ ∈ j_tbl := (j_at 1050 (by decide +kernel) rfl)
theorem lk_X12_185 : Cond.methodLink RX12 185 yX12_joins ∈ j_tbl := (j_at 1069 (by decide +kernel) rfl)
theorem lk_X12_188 : Cond.methodLink RX12 188 yX12_product ∈ j_tbl := (j_at 1046 (by decide +kernel) rfl)
theorem lk_X12_191 : Cond.methodLink RX12 191 yX12_isPrime ∈ j_tbl := (j_at 1015 (by decide +kernel) rfl)
theorem lk_X12_194 : Cond.methodLink RX12 194 yX12_laysBasic ∈ j_tbl := (j_at 964 (by decide +kernel) rfl)
theorem lk_X12_197 : Cond.methodLink RX12 197 yX12_primeLine ∈ j_tbl := (j_at 1003 (by decide +kernel) rfl)
theorem lk_X12_200 : Cond.methodLink RX12 200 yX12_letLine ∈ j_tbl := (j_at 1026 (by decide +kernel) rfl)
theorem lk_X12_203 : Cond.methodLink RX12 203 yX12_takes ∈ j_tbl := (j_at 1073 (by decide +kernel) rfl)
theorem lk_X12_228 : Cond.methodLink RX12 228 Lib.objectInit ∈ j_tbl := (j_at 1081 (by decide +kernel) rfl)
theorem lk_X12_269 : Cond.methodLink RX12 269 yX12_isRegister ∈ j_tbl := (j_at 1251 (by decide +kernel) rfl)
theorem lk_X12_272 : Cond.methodLink RX12 272 yX12_isWeight ∈ j_tbl := (j_at 1263 (by decide +kernel) rfl)
theorem lk_X12_275 : Cond.methodLink RX12 275 yX12_cuspsOf ∈ j_tbl := (j_at 1266 (by decide +kernel) rfl)
theorem lk_X12_278 : Cond.methodLink RX12 278 yX12_divisor ∈ j_tbl := (j_at 1282 (by decide +kernel) rfl)
theorem lk_X12_281 : Cond.methodLink RX12 281 yX12_isDisc ∈ j_tbl := (j_at 1276 (by decide +kernel) rfl)
theorem lk_X12_284 : Cond.methodLink RX12 284 yX12_counts ∈ j_tbl := (j_at 1279 (by decide +kernel) rfl)
theorem lk_X12_288 : Cond.methodLink RX12 288 yX12_wholeOf ∈ j_tbl := (j_at 1273 (by decide +kernel) rfl)
theorem lk_X12_299 : Cond.methodLink RX12 299 yX12_times ∈ j_tbl := (j_at 1301 (by decide +kernel) rfl)
theorem lk_X12_303 : Cond.methodLink RX12 303 yX12_plus ∈ j_tbl := (j_at 1306 (by decide +kernel) rfl)
theorem lk_X12_310 : Cond.methodLink RX12 310 yX12_isTraced ∈ j_tbl := (j_at 1293 (by decide +kernel) rfl)
theorem lk_X12_317 : Cond.methodLink RX12 317 yX12_traceOf ∈ j_tbl := (j_at 1297 (by decide +kernel) rfl)
theorem lk_X12_32 : Cond.methodLink RX12 32 yX12_multiplies ∈ j_tbl := (j_at 978 (by decide +kernel) rfl)
theorem lk_X12_326 : Cond.methodLink RX12 326 yJxf58ca_floatToIntBits_5c35a ∈ j_tbl := (j_at 1323 (by decide +kernel) rfl)
theorem lk_X12_332 : Cond.methodLink RX12 332 yX12_isOperator ∈ j_tbl := (j_at 1349 (by decide +kernel) rfl)
theorem lk_X12_335 : Cond.methodLink RX12 335 yX12_heckeAt ∈ j_tbl := (j_at 1352 (by decide +kernel) rfl)
theorem lk_X12_339 : Cond.methodLink RX12 339 yX12_builds ∈ j_tbl := (j_at 1356 (by decide +kernel) rfl)
theorem lk_X12_345 : Cond.methodLink RX12 345 yX12_laysTable ∈ j_tbl := (j_at 1380 (by decide +kernel) rfl)
theorem lk_X12_349 : Cond.methodLink RX12 349 yX12_laysPolynomial ∈ j_tbl := (j_at 1388 (by decide +kernel) rfl)
theorem lk_X12_355 : Cond.methodLink RX12 355 yX12_laysRoots ∈ j_tbl := (j_at 1396 (by decide +kernel) rfl)
theorem lk_X12_358 : Cond.methodLink RX12 358 yX12_takesStep ∈ j_tbl := (j_at 1408 (by decide +kernel) rfl)
theorem lk_X12_362 : Cond.methodLink RX12 362 yX12_solves ∈ j_tbl := (j_at 1404 (by decide +kernel) rfl)
theorem lk_X12_368 : Cond.methodLink RX12 368 yX12_sortOf ∈ j_tbl := (j_at 1416 (by decide +kernel) rfl)
theorem lk_X12_41 : Cond.methodLink RX12 41 yX12_inverse ∈ j_tbl := (j_at 983 (by decide +kernel) rfl)
theorem lk_X12_45 : Cond.methodLink RX12 45 yX12_within ∈ j_tbl := (j_at 961 (by decide +kernel) rfl)
theorem lk_X12_52 : Cond.methodLink RX12 52 yX12_longOf ∈ j_tbl := (j_at 1244 (by decide +kernel) rfl)
theorem lk_X12_58 : Cond.methodLink RX12 58 yX12_copies ∈ j_tbl := (j_at 1066 (by decide +kernel) rfl)
theorem lk_X12_65 : Cond.methodLink RX12 65 yX12_laysRows ∈ j_tbl := (j_at 1360 (by decide +kernel) rfl)
theorem lk_X12_78 : Cond.methodLink RX12 78 yX12_puts ∈ j_tbl := (j_at 952 (by decide +kernel) rfl)
theorem lk_X12_91 : Cond.methodLink RX12 91 yX12_byteAt ∈ j_tbl := (j_at 991 (by decide +kernel) rfl)
theorem lk_X1_13 : Cond.methodLink RX1 13 yX1_addUp ∈ j_tbl := (j_at 622 (by decide +kernel) rfl)
theorem lk_X1_17 : Cond.methodLink RX1 17 yX1_onlyIfPrimitive ∈ j_tbl := (j_at 625 (by decide +kernel) rfl)
theorem lk_X1_21 : Cond.methodLink RX1 21 yX1_twelfths ∈ j_tbl := (j_at 628 (by decide +kernel) rfl)
theorem lk_X1_7 : Cond.methodLink RX1 7 yX1_isDiscriminant ∈ j_tbl := (j_at 619 (by decide +kernel) rfl)
theorem lk_X2_19 : Cond.methodLink RX2 19 yJ7_fill_53178 ∈ j_tbl := (j_at 266 (by decide +kernel) rfl)
theorem lk_X2_25 : Cond.methodLink RX2 25 arraycopyName ∈ j_tbl := (j_at 488 (by decide +kernel) rfl)
theorem lk_X2_3 : Cond.methodLink RX2 3 Lib.objectInit ∈ j_tbl := (j_at 44 (by decide +kernel) rfl)
theorem lk_X2_31 : Cond.methodLink RX2 31 yX4_of ∈ j_tbl := (j_at 499 (by decide +kernel) rfl)
theorem lk_X3_19 : Cond.methodLinkNest RX3 19 yX11_newShelves "HeckeSeries" ∈ lw_tbl := (List.mem_append_right _ (List.mem_of_getElem? (i := 246) (by decide +kernel)))
theorem lk_X3_27 : Cond.methodLink RX3 27 yX3_copyAll ∈ j_tbl := (j_at 850 (by decide +kernel) rfl)
theorem lk_X3_3 : Cond.methodLink RX3 3 Lib.objectInit ∈ j_tbl := (j_at 244 (by decide +kernel) rfl)
theorem lk_X3_40 : Cond.methodLink RX3 40 yX2_copyFrom ∈ j_tbl := (j_at 853 (by decide +kernel) rfl)
theorem lk_X3_46 : Cond.methodLink RX3 46 yX6_copyFrom ∈ j_tbl := (j_at 854 (by decide +kernel) rfl)
theorem lk_X3_9 : Cond.methodLinkNest RX3 9 yX11_newForms "HeckeSeries" ∈ lw_tbl := (List.mem_append_right _ (List.mem_of_getElem? (i := 245) (by decide +kernel)))
theorem lk_X4_13 : Cond.methodLink RX4 13 yX4_power ∈ j_tbl := (j_at 578 (by decide +kernel) rfl)
theorem lk_X4_7 : Cond.methodLink RX4 7 yX4_of ∈ j_tbl := (j_at 562 (by decide +kernel) rfl)
theorem lk_X5_3 : Cond.methodLink RX5 3 Lib.objectInit ∈ j_tbl := (j_at 148 (by decide +kernel) rfl)
theorem lk_X5_32 : Cond.methodLinkNest RX5 32 yX11_cuspsOf "HeckeSeries" ∈ lw_tbl := (List.mem_append_right _ (List.mem_of_getElem? (i := 768) (by decide +kernel)))
theorem lk_X5_46 : Cond.methodLink RX5 46 yX7_heckeAt ∈ j_tbl := (j_at 769 (by decide +kernel) rfl)
theorem lk_X5_50 : Cond.methodLink RX5 50 yJ7_fill_53178 ∈ j_tbl := (j_at 774 (by decide +kernel) rfl)
theorem lk_X5_56 : Cond.methodLink RX5 56 yX5_takeProduct ∈ j_tbl := (j_at 775 (by decide +kernel) rfl)
theorem lk_X5_60 : Cond.methodLink RX5 60 yX5_multiplyTableByWork ∈ j_tbl := (j_at 781 (by decide +kernel) rfl)
theorem lk_X5_63 : Cond.methodLink RX5 63 yX4_of ∈ j_tbl := (j_at 780 (by decide +kernel) rfl)
theorem lk_X5_69 : Cond.methodLink RX5 69 yX4_divide ∈ j_tbl := (j_at 785 (by decide +kernel) rfl)
theorem lk_X5_73 : Cond.methodLink RX5 73 arraycopyName ∈ j_tbl := (j_at 779 (by decide +kernel) rfl)
theorem lk_X5_79 : Cond.methodLink RX5 79 yX5_polynomialAt ∈ j_tbl := (j_at 798 (by decide +kernel) rfl)
theorem lk_X5_82 : Cond.methodLink RX5 82 yX5_layEquations ∈ j_tbl := (j_at 810 (by decide +kernel) rfl)
theorem lk_X5_85 : Cond.methodLink RX5 85 yX5_liftPivot ∈ j_tbl := (j_at 814 (by decide +kernel) rfl)
theorem lk_X5_89 : Cond.methodLink RX5 89 yX5_clearColumn ∈ j_tbl := (j_at 822 (by decide +kernel) rfl)
theorem lk_X5_92 : Cond.methodLink RX5 92 yX5_exchange ∈ j_tbl := (j_at 818 (by decide +kernel) rfl)
theorem lk_X6_24 : Cond.methodLink RX6 24 arraycopyName ∈ j_tbl := (j_at 858 (by decide +kernel) rfl)
theorem lk_X6_3 : Cond.methodLink RX6 3 Lib.objectInit ∈ j_tbl := (j_at 69 (by decide +kernel) rfl)
theorem lk_X7_24 : Cond.methodLinkNest RX7 24 yX11_lengthOf "HeckeSeries" ∈ lw_tbl := (List.mem_append_right _ (List.mem_of_getElem? (i := 105) (by decide +kernel)))
theorem lk_X7_3 : Cond.methodLink RX7 3 Lib.objectInit ∈ j_tbl := (j_at 102 (by decide +kernel) rfl)
theorem lk_X7_37 : Cond.methodLink RX7 37 yX7_begin ∈ j_tbl := (j_at 549 (by decide +kernel) rfl)
theorem lk_X7_41 : Cond.methodLink RX7 41 yJ7_fill_53178 ∈ j_tbl := (j_at 553 (by decide +kernel) rfl)
theorem lk_X7_47 : Cond.methodLink RX7 47 yX7_factorOfSums ∈ j_tbl := (j_at 554 (by decide +kernel) rfl)
theorem lk_X7_51 : Cond.methodLink RX7 51 yX4_of ∈ j_tbl := (j_at 558 (by decide +kernel) rfl)
theorem lk_X7_57 : Cond.methodLink RX7 57 yX4_power ∈ j_tbl := (j_at 559 (by decide +kernel) rfl)
theorem lk_X7_61 : Cond.methodLink RX7 61 yX7_multiply ∈ j_tbl := (j_at 571 (by decide +kernel) rfl)
theorem lk_X7_65 : Cond.methodLink RX7 65 yX4_divide ∈ j_tbl := (j_at 575 (by decide +kernel) rfl)
theorem lk_X7_68 : Cond.methodLink RX7 68 yX7_reduce ∈ j_tbl := (j_at 579 (by decide +kernel) rfl)
theorem lk_X7_71 : Cond.methodLink RX7 71 yX7_subtract ∈ j_tbl := (j_at 583 (by decide +kernel) rfl)
theorem lk_X7_81 : Cond.methodLink RX7 81 yX7_expand ∈ j_tbl := (j_at 731 (by decide +kernel) rfl)
theorem lk_X8_17 : Cond.methodLink RX8 17 yX7_init ∈ j_tbl := (j_at 99 (by decide +kernel) rfl)
theorem lk_X8_20 : Cond.methodLink RX8 20 yX7_isReady ∈ j_tbl := (j_at 537 (by decide +kernel) rfl)
theorem lk_X8_24 : Cond.methodLink RX8 24 yX8_makeAlone ∈ j_tbl := (j_at 541 (by decide +kernel) rfl)
theorem lk_X8_28 : Cond.methodLink RX8 28 yX8_makeTwelve ∈ j_tbl := (j_at 563 (by decide +kernel) rfl)
theorem lk_X8_3 : Cond.methodLink RX8 3 Lib.objectInit ∈ j_tbl := (j_at 95 (by decide +kernel) rfl)
theorem lk_X8_32 : Cond.methodLink RX8 32 yX7_makeFrom ∈ j_tbl := (j_at 587 (by decide +kernel) rfl)
theorem lk_X8_36 : Cond.methodLink RX8 36 yX7_makeAlone ∈ j_tbl := (j_at 545 (by decide +kernel) rfl)
theorem lk_X8_38 : Cond.methodLink RX8 38 yX7_makeTwelve ∈ j_tbl := (j_at 567 (by decide +kernel) rfl)
theorem lk_X9_25 : Cond.methodLink RX9 25 yX9_isLetter ∈ j_tbl := (j_at 333 (by decide +kernel) rfl)
theorem lk_X9_29 : Cond.methodLink RX9 29 yX9_endOfWord ∈ j_tbl := (j_at 336 (by decide +kernel) rfl)
theorem lk_X9_3 : Cond.methodLink RX9 3 Lib.objectInit ∈ j_tbl := (j_at 182 (by decide +kernel) rfl)
theorem lk_X9_33 : Cond.methodLink RX9 33 yX9_addWord ∈ j_tbl := (j_at 339 (by decide +kernel) rfl)
theorem lk_X9_37 : Cond.methodLink RX9 37 yX9_isDigit ∈ j_tbl := (j_at 407 (by decide +kernel) rfl)
theorem lk_X9_40 : Cond.methodLink RX9 40 yX9_endOfNumber ∈ j_tbl := (j_at 410 (by decide +kernel) rfl)
theorem lk_X9_43 : Cond.methodLink RX9 43 yX9_numberOf ∈ j_tbl := (j_at 413 (by decide +kernel) rfl)
theorem lk_X9_46 : Cond.methodLink RX9 46 yX9_addToken ∈ j_tbl := (j_at 343 (by decide +kernel) rfl)
theorem lk_X9_50 : Cond.methodLink RX9 50 yX9_isSign ∈ j_tbl := (j_at 416 (by decide +kernel) rfl)
theorem lk_X9_53 : Cond.methodLink RX9 53 yX9_kindOfWord ∈ j_tbl := (j_at 347 (by decide +kernel) rfl)
theorem nc_L_20 : j_cl RL 20 9 [.int 0, .int 0, .null, .null, .null, .null, .null, .int 0, .null, .null, .null, .null, .int 0, .int 0, .int 0, .int 0, .int 0, .int 0, .int 0, .int 0, .null, .null, .int 0, .null, .null, .null, .null, .int 0, .null, .null, .int 0, .null, .null, .int 0, .null, .int 0, .null, .null, .null, .int 0, .null, .null, .int 0, .null, .null, .null, .null, .null, .null, .null, .null] := ⟨RX12, TX12, tyX12, rfl, in_X12, tyX12_ok, fun j hj => by
  have hj : j < 51 := hj
  rcases (show j = 0 ∨ j = 1 ∨ j = 2 ∨ j = 3 ∨ j = 4 ∨ j = 5 ∨ j = 6 ∨ j = 7 ∨ j = 8 ∨ j = 9 ∨ j = 10 ∨ j = 11 ∨ j = 12 ∨ j = 13 ∨ j = 14 ∨ j = 15 ∨ j = 16 ∨ j = 17 ∨ j = 18 ∨ j = 19 ∨ j = 20 ∨ j = 21 ∨ j = 22 ∨ j = 23 ∨ j = 24 ∨ j = 25 ∨ j = 26 ∨ j = 27 ∨ j = 28 ∨ j = 29 ∨ j = 30 ∨ j = 31 ∨ j = 32 ∨ j = 33 ∨ j = 34 ∨ j = 35 ∨ j = 36 ∨ j = 37 ∨ j = 38 ∨ j = 39 ∨ j = 40 ∨ j = 41 ∨ j = 42 ∨ j = 43 ∨ j = 44 ∨ j = 45 ∨ j = 46 ∨ j = 47 ∨ j = 48 ∨ j = 49 ∨ j = 50 by omega) with rfl | rfl | rfl | rfl | rfl | rfl | rfl | rfl | rfl | rfl | rfl | rfl | rfl | rfl | rfl | rfl | rfl | rfl | rfl | rfl | rfl | rfl | rfl | rfl | rfl | rfl | rfl | rfl | rfl | rfl | rfl | rfl | rfl | rfl | rfl | rfl | rfl | rfl | rfl | rfl | rfl | rfl | rfl | rfl | rfl | rfl | rfl | rfl | rfl | rfl | rfl <;> rfl, (j_at 1077 (by decide +kernel) rfl), (j_at 955 (by decide +kernel) rfl), (j_at 11 (by decide +kernel) rfl)⟩
theorem nc_L_8 : j_cl RL 8 8 [.null, .int 0, .int 0, .int 0, .null, .null, .null, .null, .null, .null, .null, .null, .null] := ⟨RX11, TX11, tyX11, rfl, in_X11, tyX11_ok, fun j hj => by
  have hj : j < 13 := hj
  rcases (show j = 0 ∨ j = 1 ∨ j = 2 ∨ j = 3 ∨ j = 4 ∨ j = 5 ∨ j = 6 ∨ j = 7 ∨ j = 8 ∨ j = 9 ∨ j = 10 ∨ j = 11 ∨ j = 12 by omega) with rfl | rfl | rfl | rfl | rfl | rfl | rfl | rfl | rfl | rfl | rfl | rfl | rfl <;> rfl, (j_at 27 (by decide +kernel) rfl), (j_at 28 (by decide +kernel) rfl), (j_at 1 (by decide +kernel) rfl)⟩
theorem nc_X0_23 : j_cl RX0 23 7 [.null, .null, .null, .int 0] := ⟨RX9, TX9, tyX9, rfl, in_X9, tyX9_ok, fun j hj => by
  have hj : j < 4 := hj
  rcases (show j = 0 ∨ j = 1 ∨ j = 2 ∨ j = 3 by omega) with rfl | rfl | rfl | rfl <;> rfl, (j_at 177 (by decide +kernel) rfl), (j_at 178 (by decide +kernel) rfl), (j_at 8 (by decide +kernel) rfl)⟩
theorem nc_X0_39 : j_cl RX0 39 1 [.int 0, .null] := ⟨RX2, TX2, tyX2, rfl, in_X2, tyX2_ok, fun j hj => by
  have hj : j < 2 := hj
  rcases (show j = 0 ∨ j = 1 by omega) with rfl | rfl <;> rfl, (j_at 200 (by decide +kernel) rfl), (j_at 40 (by decide +kernel) rfl), (j_at 2 (by decide +kernel) rfl)⟩
theorem nc_X11_36 : j_cl RX11 36 2 [.int 0, .null, .null] := ⟨RX3, TX3, tyX3, rfl, in_X3, tyX3_ok, fun j hj => by
  have hj : j < 3 := hj
  rcases (show j = 0 ∨ j = 1 ∨ j = 2 by omega) with rfl | rfl | rfl <;> rfl, (j_at 88 (by decide +kernel) rfl), (j_at 240 (by decide +kernel) rfl), (j_at 9 (by decide +kernel) rfl)⟩
theorem nc_X11_42 : j_cl RX11 42 6 [.null] := ⟨RX8, TX8, tyX8, rfl, in_X8, tyX8_ok, fun j hj => by
  have hj : j < 1 := hj
  rcases (show j = 0 by omega) with rfl <;> rfl, (j_at 90 (by decide +kernel) rfl), (j_at 91 (by decide +kernel) rfl), (j_at 4 (by decide +kernel) rfl)⟩
theorem nc_X11_49 : j_cl RX11 49 3 [.null, .null, .null, .null, .int 0, .int 0] := ⟨RX5, TX5, tyX5, rfl, in_X5, tyX5_ok, fun j hj => by
  have hj : j < 6 := hj
  rcases (show j = 0 ∨ j = 1 ∨ j = 2 ∨ j = 3 ∨ j = 4 ∨ j = 5 by omega) with rfl | rfl | rfl | rfl | rfl | rfl <;> rfl, (j_at 143 (by decide +kernel) rfl), (j_at 144 (by decide +kernel) rfl), (j_at 6 (by decide +kernel) rfl)⟩
theorem nc_X11_56 : j_cl RX11 56 0 [.int 0, .int 0, .int 0, .null, .null, .null, .int 0, .null, .null, .null, .null] := ⟨RX0, TX0, tyX0, rfl, in_X0, tyX0_ok, fun j hj => by
  have hj : j < 11 := hj
  rcases (show j = 0 ∨ j = 1 ∨ j = 2 ∨ j = 3 ∨ j = 4 ∨ j = 5 ∨ j = 6 ∨ j = 7 ∨ j = 8 ∨ j = 9 ∨ j = 10 by omega) with rfl | rfl | rfl | rfl | rfl | rfl | rfl | rfl | rfl | rfl | rfl <;> rfl, (j_at 170 (by decide +kernel) rfl), (j_at 171 (by decide +kernel) rfl), (j_at 7 (by decide +kernel) rfl)⟩
theorem nc_X11_63 : j_cl RX11 63 1 [.int 0, .null] := ⟨RX2, TX2, tyX2, rfl, in_X2, tyX2_ok, fun j hj => by
  have hj : j < 2 := hj
  rcases (show j = 0 ∨ j = 1 by omega) with rfl | rfl <;> rfl, (j_at 38 (by decide +kernel) rfl), (j_at 40 (by decide +kernel) rfl), (j_at 2 (by decide +kernel) rfl)⟩
theorem nc_X11_76 : j_cl RX11 76 4 [.int 0, .null, .null] := ⟨RX6, TX6, tyX6, rfl, in_X6, tyX6_ok, fun j hj => by
  have hj : j < 3 := hj
  rcases (show j = 0 ∨ j = 1 ∨ j = 2 by omega) with rfl | rfl | rfl <;> rfl, (j_at 63 (by decide +kernel) rfl), (j_at 65 (by decide +kernel) rfl), (j_at 3 (by decide +kernel) rfl)⟩
theorem nc_X8_9 : j_cl RX8 9 5 [.int 0, .int 0, .null, .int 0, .int 0, .null, .int 0, .int 0] := ⟨RX7, TX7, tyX7, rfl, in_X7, tyX7_ok, fun j hj => by
  have hj : j < 8 := hj
  rcases (show j = 0 ∨ j = 1 ∨ j = 2 ∨ j = 3 ∨ j = 4 ∨ j = 5 ∨ j = 6 ∨ j = 7 by omega) with rfl | rfl | rfl | rfl | rfl | rfl | rfl | rfl <;> rfl, (j_at 96 (by decide +kernel) rfl), (j_at 98 (by decide +kernel) rfl), (j_at 5 (by decide +kernel) rfl)⟩
theorem w_abs : Cond.static Lib.MathLoose.abs_long.x ∈ j_tbl ∧ Cond.initialized "java/lang/Math" ∈ j_tbl ∧ Cond.code Lib.MathLoose.abs_long.x Lib.MathLoose.abs_long.code 2 (some .long) ∈ j_tbl := ⟨(j_mem (by decide +kernel) rfl), (j_mem (by decide +kernel) rfl), (j_mem (by decide +kernel) rfl)⟩
theorem w_acp : Cond.native arraycopyName ∈ j_tbl ∧ Cond.static arraycopyName ∈ j_tbl ∧ Cond.initialized "java/lang/System" ∈ j_tbl := ⟨(j_mem (by decide +kernel) rfl), (j_mem (by decide +kernel) rfl), (j_mem (by decide +kernel) rfl)⟩
theorem w_f2r : Cond.methodLink RJxf58ca 74 ⟨"java/lang/Float", "floatToRawIntBits", "(F)I"⟩ ∈ j_tbl ∧ Cond.native ⟨"java/lang/Float", "floatToRawIntBits", "(F)I"⟩ ∈ j_tbl ∧ Cond.static ⟨"java/lang/Float", "floatToRawIntBits", "(F)I"⟩ ∈ j_tbl ∧ Cond.initialized "java/lang/Float" ∈ j_tbl := ⟨(j_at 1329 (by decide +kernel) rfl), (j_at 1331 (by decide +kernel) rfl), (j_at 1330 (by decide +kernel) rfl), (j_at 26 (by decide +kernel) rfl)⟩
theorem w_max : Cond.static Lib.Math.max.name ∈ j_tbl ∧ Cond.initialized "java/lang/Math" ∈ j_tbl ∧ Cond.code Lib.Math.max.name Lib.Math.max.code 2 (some .int) ∈ j_tbl := ⟨(j_mem (by decide +kernel) rfl), (j_mem (by decide +kernel) rfl), (j_mem (by decide +kernel) rfl)⟩
theorem w_min : Cond.static Lib.Math.min.name ∈ j_tbl ∧ Cond.initialized "java/lang/Math" ∈ j_tbl ∧ Cond.code Lib.Math.min.name Lib.Math.min.code 2 (some .int) ∈ j_tbl := ⟨(j_mem (by decide +kernel) rfl), (j_mem (by decide +kernel) rfl), (j_mem (by decide +kernel) rfl)⟩
theorem w_obj : Cond.instanceMethod Lib.objectInit ∈ j_tbl ∧ Cond.code Lib.objectInit ⟨#[0xb1]⟩ 1 none ∈ j_tbl := ⟨(j_mem (by decide +kernel) rfl), (j_mem (by decide +kernel) rfl)⟩
theorem wc_X11_36 : Cond.classLink RX11 36 "HeckeSeries$Image" ∈ j_tbl := (j_mem (by decide +kernel) rfl)
theorem wc_X11_63 : Cond.classLink RX11 63 "HeckeSeries$Form" ∈ j_tbl := (j_mem (by decide +kernel) rfl)
theorem wc_X11_76 : Cond.classLink RX11 76 "HeckeSeries$Shelf" ∈ j_tbl := (j_mem (by decide +kernel) rfl)
theorem wc_X8_9 : Cond.classLink RX8 9 "HeckeSeries$Space" ∈ j_tbl := (j_mem (by decide +kernel) rfl)
theorem wi_boolean : Cond.arrayClass .boolean ∈ j_tbl := (j_mem (by decide +kernel) rfl)
theorem wi_byte : Cond.arrayClass .byte ∈ j_tbl := (j_mem (by decide +kernel) rfl)
theorem wi_int : Cond.arrayClass .int ∈ j_tbl := (j_mem (by decide +kernel) rfl)
theorem wi_long : Cond.arrayClass .long ∈ j_tbl := (j_mem (by decide +kernel) rfl)
theorem wm_X5_15 : Cond.classLink RX5 15 ("[" ++ (FieldType.array .int).toString) ∈ j_tbl ∧ Cond.arrayOver (.array .int) ∈ lw_tbl ∧ Cond.arrayClass .int ∈ j_tbl := ⟨(j_mem (by decide +kernel) rfl), by decide +kernel, (j_mem (by decide +kernel) rfl)⟩
theorem wm_X6_15 : Cond.classLink RX6 15 ("[" ++ (FieldType.array .long).toString) ∈ j_tbl ∧ Cond.arrayOver (.array .long) ∈ lw_tbl ∧ Cond.arrayClass .long ∈ j_tbl := ⟨(j_mem (by decide +kernel) rfl), by decide +kernel, (j_mem (by decide +kernel) rfl)⟩
theorem wm_X7_9 : Cond.classLink RX7 9 ("[" ++ (FieldType.array .int).toString) ∈ j_tbl ∧ Cond.arrayOver (.array .int) ∈ lw_tbl ∧ Cond.arrayClass .int ∈ j_tbl := ⟨(j_mem (by decide +kernel) rfl), by decide +kernel, (j_mem (by decide +kernel) rfl)⟩
theorem wo_X2 : Cond.arrayOver (.object "HeckeSeries$Form") ∈ lw_tbl := by decide +kernel
theorem wo_X3 : Cond.arrayOver (.object "HeckeSeries$Image") ∈ lw_tbl := by decide +kernel
theorem wo_X6 : Cond.arrayOver (.object "HeckeSeries$Shelf") ∈ lw_tbl := by decide +kernel
theorem wo_X7 : Cond.arrayOver (.object "HeckeSeries$Space") ∈ lw_tbl := by decide +kernel
theorem ws_X0_140 : Cond.fieldLink RX0 140 "HeckeSeries$BookReader" "FOUR_HEAD" "[I" ∈ j_tbl := (j_mem (by decide +kernel) rfl)
theorem ws_X0_147 : Cond.fieldLink RX0 147 "HeckeSeries$BookReader" "SIX_HEAD" "[I" ∈ j_tbl := (j_mem (by decide +kernel) rfl)
theorem ws_X0_150 : Cond.fieldLink RX0 150 "HeckeSeries$BookReader" "DELTA_HEAD" "[I" ∈ j_tbl := (j_mem (by decide +kernel) rfl)
