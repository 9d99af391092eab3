set_option maxRecDepth 20000 in
theorem ggX10_growth_X10_isSet : GoodIn wsX10_growth wsX10_isSet := goodIn_r _ [10, 11, 12, 13, 9, 14, 46, 47, 48, 49, 50, 51, 52, 53, 54, 55, 56, 57, 58, 59, 60, 61, 62, 63, 64, 65, 66, 67, 68, 69, 70, 71, 72] (by decide +kernel) (by decide +kernel)
set_option maxRecDepth 20000 in
theorem gX10_growth_X10_isSet : GoodIn wsX10_growth (wsV RX10 90 RX10 yX10_isSet wsX10_isSet) := goodIn_app (goodIn_of _ (by decide +kernel)) ggX10_growth_X10_isSet
set_option maxRecDepth 20000 in
theorem ggX10_growth_X10_in : GoodIn wsX10_growth wsX10_in := goodIn_r _ [14] (by decide +kernel) (by decide +kernel)
set_option maxRecDepth 20000 in
theorem gX10_growth_X10_in : GoodIn wsX10_growth (va_wsS RX10 86 yX10_in wsX10_in) := goodIn_app (goodIn_of _ (by decide +kernel)) ggX10_growth_X10_in
set_option maxRecDepth 20000 in
theorem ggX10_growth_X10_liveOf : GoodIn wsX10_growth wsX10_liveOf := goodIn_r _ [18, 3, 19, 20, 21, 9, 22, 23, 24, 25, 26, 27, 46, 47, 48, 49, 50, 51, 52, 53, 54, 55, 56, 57, 58, 59, 60, 61, 62, 63, 64, 65, 66, 67, 68, 69, 70, 71, 72] (by decide +kernel) (by decide +kernel)
set_option maxRecDepth 20000 in
theorem gX10_growth_X10_liveOf : GoodIn wsX10_growth (wsV RX10 122 RX10 yX10_liveOf wsX10_liveOf) := goodIn_app (goodIn_of _ (by decide +kernel)) ggX10_growth_X10_liveOf
set_option maxRecDepth 20000 in
theorem ggX10_growth_X10_sumUp : GoodIn wsX10_growth wsX10_sumUp := goodIn_r _ [31, 3, 5, 4, 32, 33, 34, 9, 35, 23, 24, 25, 26, 27, 46, 47, 48, 49, 50, 51, 52, 53, 54, 55, 56, 57, 58, 59, 60, 61, 62, 63, 64, 65, 66, 67, 68, 69, 70, 71, 72] (by decide +kernel) (by decide +kernel)
set_option maxRecDepth 20000 in
theorem gX10_growth_X10_sumUp : GoodIn wsX10_growth (wsV RX10 141 RX10 yX10_sumUp wsX10_sumUp) := goodIn_app (goodIn_of _ (by decide +kernel)) ggX10_growth_X10_sumUp
set_option maxRecDepth 20000 in
theorem ggX10_growth_X10_goOn : GoodIn wsX10_growth wsX10_goOn := goodIn_r _ [39, 3, 4, 5, 46, 47, 48, 49, 50, 51, 52, 53, 54, 55, 56, 57, 58, 59, 60, 61, 62, 63, 64, 65, 66, 67, 68, 69, 70, 71, 72] (by decide +kernel) (by decide +kernel)
set_option maxRecDepth 20000 in
theorem gX10_growth_X10_goOn : GoodIn wsX10_growth (wsV RX10 145 RX10 yX10_goOn wsX10_goOn) := goodIn_app (goodIn_of _ (by decide +kernel)) ggX10_growth_X10_goOn
set_option maxRecDepth 20000 in
theorem ggX10_growth_X10_isLess : GoodIn wsX10_growth wsX10_isLess := goodIn_r _ [42] (by decide +kernel) (by decide +kernel)
set_option maxRecDepth 20000 in
theorem gX10_growth_X10_isLess : GoodIn wsX10_growth (va_wsS RX10 151 yX10_isLess wsX10_isLess) := goodIn_app (goodIn_of _ (by decide +kernel)) ggX10_growth_X10_isLess
set_option maxRecDepth 20000 in
theorem ggX10_growth_X10_common : GoodIn wsX10_growth wsX10_common := goodIn_r _ [45] (by decide +kernel) (by decide +kernel)
set_option maxRecDepth 20000 in
theorem gX10_growth_X10_common : GoodIn wsX10_growth (va_wsS RX10 155 yX10_common wsX10_common) := goodIn_app (goodIn_of _ (by decide +kernel)) ggX10_growth_X10_common
theorem dX10_growth_0 : decode cX10_growth 0 = .ok (.aload_n 0, 1) := by decide +kernel
theorem dX10_growth_1 : decode cX10_growth 1 = .ok (.iload_n 1, 1) := by decide +kernel
theorem dX10_growth_2 : decode cX10_growth 2 = .ok (.invokevirtual 90, 3) := by decide +kernel
theorem dX10_growth_5 : decode cX10_growth 5 = .ok (.ifCond .eq 22, 3) := by decide +kernel
theorem dX10_growth_8 : decode cX10_growth 8 = .ok (.iload_n 2, 1) := by decide +kernel
theorem dX10_growth_9 : decode cX10_growth 9 = .ok (.iconst 0, 1) := by decide +kernel
theorem dX10_growth_10 : decode cX10_growth 10 = .ok (.bipush 9, 2) := by decide +kernel
theorem dX10_growth_12 : decode cX10_growth 12 = .ok (.invokestatic 86, 3) := by decide +kernel
theorem dX10_growth_15 : decode cX10_growth 15 = .ok (.ifCond .eq 12, 3) := by decide +kernel
theorem dX10_growth_18 : decode cX10_growth 18 = .ok (.iload_n 3, 1) := by decide +kernel
theorem dX10_growth_19 : decode cX10_growth 19 = .ok (.iconst 0, 1) := by decide +kernel
theorem dX10_growth_20 : decode cX10_growth 20 = .ok (.iconst 3, 1) := by decide +kernel
theorem dX10_growth_21 : decode cX10_growth 21 = .ok (.invokestatic 86, 3) := by decide +kernel
theorem dX10_growth_24 : decode cX10_growth 24 = .ok (.ifCond .ne 7, 3) := by decide +kernel
theorem dX10_growth_27 : decode cX10_growth 27 = .ok (.ldc2_w 136, 3) := by decide +kernel
theorem dX10_growth_30 : decode cX10_growth 30 = .ok (.lreturn, 1) := by decide +kernel
theorem dX10_growth_31 : decode cX10_growth 31 = .ok (.aload_n 0, 1) := by decide +kernel
theorem dX10_growth_32 : decode cX10_growth 32 = .ok (.iload_n 1, 1) := by decide +kernel
theorem dX10_growth_33 : decode cX10_growth 33 = .ok (.invokevirtual 122, 3) := by decide +kernel
theorem dX10_growth_36 : decode cX10_growth 36 = .ok (.istore 4, 2) := by decide +kernel
theorem dX10_growth_38 : decode cX10_growth 38 = .ok (.iload 4, 2) := by decide +kernel
theorem dX10_growth_40 : decode cX10_growth 40 = .ok (.ifCond .ne 7, 3) := by decide +kernel
theorem dX10_growth_43 : decode cX10_growth 43 = .ok (.ldc2_w 149, 3) := by decide +kernel
theorem dX10_growth_46 : decode cX10_growth 46 = .ok (.lreturn, 1) := by decide +kernel
theorem dX10_growth_47 : decode cX10_growth 47 = .ok (.iconst 0, 1) := by decide +kernel
theorem dX10_growth_48 : decode cX10_growth 48 = .ok (.istore 5, 2) := by decide +kernel
theorem dX10_growth_50 : decode cX10_growth 50 = .ok (.iload 5, 2) := by decide +kernel
theorem dX10_growth_52 : decode cX10_growth 52 = .ok (.aload_n 0, 1) := by decide +kernel
theorem dX10_growth_53 : decode cX10_growth 53 = .ok (.getfield 13, 3) := by decide +kernel
theorem dX10_growth_56 : decode cX10_growth 56 = .ok (.iload_n 1, 1) := by decide +kernel
theorem dX10_growth_57 : decode cX10_growth 57 = .ok (.iaload, 1) := by decide +kernel
theorem dX10_growth_58 : decode cX10_growth 58 = .ok (.if_icmp .ge 17, 3) := by decide +kernel
theorem dX10_growth_61 : decode cX10_growth 61 = .ok (.aload_n 0, 1) := by decide +kernel
theorem dX10_growth_62 : decode cX10_growth 62 = .ok (.getfield 55, 3) := by decide +kernel
theorem dX10_growth_65 : decode cX10_growth 65 = .ok (.iload 5, 2) := by decide +kernel
theorem dX10_growth_67 : decode cX10_growth 67 = .ok (.lconst 1, 1) := by decide +kernel
theorem dX10_growth_68 : decode cX10_growth 68 = .ok (.lastore, 1) := by decide +kernel
theorem dX10_growth_69 : decode cX10_growth 69 = .ok (.iinc 5 1, 3) := by decide +kernel
theorem dX10_growth_72 : decode cX10_growth 72 = .ok (.goto (-22), 3) := by decide +kernel
theorem dX10_growth_75 : decode cX10_growth 75 = .ok (.iconst 0, 1) := by decide +kernel
theorem dX10_growth_76 : decode cX10_growth 76 = .ok (.istore 5, 2) := by decide +kernel
theorem dX10_growth_78 : decode cX10_growth 78 = .ok (.iload 5, 2) := by decide +kernel
theorem dX10_growth_80 : decode cX10_growth 80 = .ok (.iload_n 2, 1) := by decide +kernel
theorem dX10_growth_81 : decode cX10_growth 81 = .ok (.if_icmp .ge 21, 3) := by decide +kernel
theorem dX10_growth_84 : decode cX10_growth 84 = .ok (.aload_n 0, 1) := by decide +kernel
theorem dX10_growth_85 : decode cX10_growth 85 = .ok (.iload_n 1, 1) := by decide +kernel
theorem dX10_growth_86 : decode cX10_growth 86 = .ok (.iload 4, 2) := by decide +kernel
theorem dX10_growth_88 : decode cX10_growth 88 = .ok (.invokevirtual 141, 3) := by decide +kernel
theorem dX10_growth_91 : decode cX10_growth 91 = .ok (.aload_n 0, 1) := by decide +kernel
theorem dX10_growth_92 : decode cX10_growth 92 = .ok (.iload_n 1, 1) := by decide +kernel
theorem dX10_growth_93 : decode cX10_growth 93 = .ok (.invokevirtual 145, 3) := by decide +kernel
theorem dX10_growth_96 : decode cX10_growth 96 = .ok (.iinc 5 1, 3) := by decide +kernel
theorem dX10_growth_99 : decode cX10_growth 99 = .ok (.goto (-21), 3) := by decide +kernel
theorem dX10_growth_102 : decode cX10_growth 102 = .ok (.aload_n 0, 1) := by decide +kernel
theorem dX10_growth_103 : decode cX10_growth 103 = .ok (.iload_n 1, 1) := by decide +kernel
theorem dX10_growth_104 : decode cX10_growth 104 = .ok (.iload 4, 2) := by decide +kernel
theorem dX10_growth_106 : decode cX10_growth 106 = .ok (.invokevirtual 141, 3) := by decide +kernel
theorem dX10_growth_109 : decode cX10_growth 109 = .ok (.iconst (-1), 1) := by decide +kernel
theorem dX10_growth_110 : decode cX10_growth 110 = .ok (.istore 5, 2) := by decide +kernel
theorem dX10_growth_112 : decode cX10_growth 112 = .ok (.iconst 0, 1) := by decide +kernel
theorem dX10_growth_113 : decode cX10_growth 113 = .ok (.istore 6, 2) := by decide +kernel
theorem dX10_growth_115 : decode cX10_growth 115 = .ok (.iload 6, 2) := by decide +kernel
theorem dX10_growth_117 : decode cX10_growth 117 = .ok (.aload_n 0, 1) := by decide +kernel
theorem dX10_growth_118 : decode cX10_growth 118 = .ok (.getfield 13, 3) := by decide +kernel
theorem dX10_growth_121 : decode cX10_growth 121 = .ok (.iload_n 1, 1) := by decide +kernel
theorem dX10_growth_122 : decode cX10_growth 122 = .ok (.iaload, 1) := by decide +kernel
theorem dX10_growth_123 : decode cX10_growth 123 = .ok (.if_icmp .ge 122, 3) := by decide +kernel
theorem dX10_growth_126 : decode cX10_growth 126 = .ok (.iload 4, 2) := by decide +kernel
theorem dX10_growth_128 : decode cX10_growth 128 = .ok (.iload 6, 2) := by decide +kernel
theorem dX10_growth_130 : decode cX10_growth 130 = .ok (.ishr, 1) := by decide +kernel
theorem dX10_growth_131 : decode cX10_growth 131 = .ok (.iconst 1, 1) := by decide +kernel
theorem dX10_growth_132 : decode cX10_growth 132 = .ok (.iand, 1) := by decide +kernel
theorem dX10_growth_133 : decode cX10_growth 133 = .ok (.iconst 1, 1) := by decide +kernel
theorem dX10_growth_134 : decode cX10_growth 134 = .ok (.if_icmp .ne 105, 3) := by decide +kernel
theorem dX10_growth_137 : decode cX10_growth 137 = .ok (.iload 5, 2) := by decide +kernel
theorem dX10_growth_139 : decode cX10_growth 139 = .ok (.ifCond .lt 79, 3) := by decide +kernel
theorem dX10_growth_142 : decode cX10_growth 142 = .ok (.iload_n 3, 1) := by decide +kernel
theorem dX10_growth_143 : decode cX10_growth 143 = .ok (.iconst 2, 1) := by decide +kernel
theorem dX10_growth_144 : decode cX10_growth 144 = .ok (.if_icmp .ge 40, 3) := by decide +kernel
theorem dX10_growth_147 : decode cX10_growth 147 = .ok (.aload_n 0, 1) := by decide +kernel
theorem dX10_growth_148 : decode cX10_growth 148 = .ok (.getfield 58, 3) := by decide +kernel
theorem dX10_growth_151 : decode cX10_growth 151 = .ok (.iload 6, 2) := by decide +kernel
theorem dX10_growth_153 : decode cX10_growth 153 = .ok (.laload, 1) := by decide +kernel
theorem dX10_growth_154 : decode cX10_growth 154 = .ok (.aload_n 0, 1) := by decide +kernel
theorem dX10_growth_155 : decode cX10_growth 155 = .ok (.getfield 55, 3) := by decide +kernel
theorem dX10_growth_158 : decode cX10_growth 158 = .ok (.iload 6, 2) := by decide +kernel
theorem dX10_growth_160 : decode cX10_growth 160 = .ok (.laload, 1) := by decide +kernel
theorem dX10_growth_161 : decode cX10_growth 161 = .ok (.aload_n 0, 1) := by decide +kernel
theorem dX10_growth_162 : decode cX10_growth 162 = .ok (.getfield 58, 3) := by decide +kernel
theorem dX10_growth_165 : decode cX10_growth 165 = .ok (.iload 5, 2) := by decide +kernel
theorem dX10_growth_167 : decode cX10_growth 167 = .ok (.laload, 1) := by decide +kernel
theorem dX10_growth_168 : decode cX10_growth 168 = .ok (.aload_n 0, 1) := by decide +kernel
theorem dX10_growth_169 : decode cX10_growth 169 = .ok (.getfield 55, 3) := by decide +kernel
theorem dX10_growth_172 : decode cX10_growth 172 = .ok (.iload 5, 2) := by decide +kernel
theorem dX10_growth_174 : decode cX10_growth 174 = .ok (.laload, 1) := by decide +kernel
theorem dX10_growth_175 : decode cX10_growth 175 = .ok (.invokestatic 151, 3) := by decide +kernel
theorem dX10_growth_178 : decode cX10_growth 178 = .ok (.ifCond .eq 44, 3) := by decide +kernel
theorem dX10_growth_181 : decode cX10_growth 181 = .ok (.goto 37, 3) := by decide +kernel
theorem dX10_growth_184 : decode cX10_growth 184 = .ok (.aload_n 0, 1) := by decide +kernel
theorem dX10_growth_185 : decode cX10_growth 185 = .ok (.getfield 58, 3) := by decide +kernel
theorem dX10_growth_188 : decode cX10_growth 188 = .ok (.iload 5, 2) := by decide +kernel
theorem dX10_growth_190 : decode cX10_growth 190 = .ok (.laload, 1) := by decide +kernel
theorem dX10_growth_191 : decode cX10_growth 191 = .ok (.aload_n 0, 1) := by decide +kernel
theorem dX10_growth_192 : decode cX10_growth 192 = .ok (.getfield 55, 3) := by decide +kernel
theorem dX10_growth_195 : decode cX10_growth 195 = .ok (.iload 5, 2) := by decide +kernel
theorem dX10_growth_197 : decode cX10_growth 197 = .ok (.laload, 1) := by decide +kernel
theorem dX10_growth_198 : decode cX10_growth 198 = .ok (.aload_n 0, 1) := by decide +kernel
theorem dX10_growth_199 : decode cX10_growth 199 = .ok (.getfield 58, 3) := by decide +kernel
theorem dX10_growth_202 : decode cX10_growth 202 = .ok (.iload 6, 2) := by decide +kernel
theorem dX10_growth_204 : decode cX10_growth 204 = .ok (.laload, 1) := by decide +kernel
theorem dX10_growth_205 : decode cX10_growth 205 = .ok (.aload_n 0, 1) := by decide +kernel
theorem dX10_growth_206 : decode cX10_growth 206 = .ok (.getfield 55, 3) := by decide +kernel
theorem dX10_growth_209 : decode cX10_growth 209 = .ok (.iload 6, 2) := by decide +kernel
theorem dX10_growth_211 : decode cX10_growth 211 = .ok (.laload, 1) := by decide +kernel
theorem dX10_growth_212 : decode cX10_growth 212 = .ok (.invokestatic 151, 3) := by decide +kernel
theorem dX10_growth_215 : decode cX10_growth 215 = .ok (.ifCond .eq 7, 3) := by decide +kernel
theorem dX10_growth_218 : decode cX10_growth 218 = .ok (.iconst 1, 1) := by decide +kernel
theorem dX10_growth_219 : decode cX10_growth 219 = .ok (.goto 4, 3) := by decide +kernel
theorem dX10_growth_222 : decode cX10_growth 222 = .ok (.iconst 0, 1) := by decide +kernel
theorem dX10_growth_223 : decode cX10_growth 223 = .ok (.istore 7, 2) := by decide +kernel
theorem dX10_growth_225 : decode cX10_growth 225 = .ok (.iload 7, 2) := by decide +kernel
theorem dX10_growth_227 : decode cX10_growth 227 = .ok (.ifCond .eq 8, 3) := by decide +kernel
theorem dX10_growth_230 : decode cX10_growth 230 = .ok (.iload 6, 2) := by decide +kernel
theorem dX10_growth_232 : decode cX10_growth 232 = .ok (.goto 5, 3) := by decide +kernel
theorem dX10_growth_235 : decode cX10_growth 235 = .ok (.iload 5, 2) := by decide +kernel
theorem dX10_growth_237 : decode cX10_growth 237 = .ok (.istore 5, 2) := by decide +kernel
theorem dX10_growth_239 : decode cX10_growth 239 = .ok (.iinc 6 1, 3) := by decide +kernel
theorem dX10_growth_242 : decode cX10_growth 242 = .ok (.goto (-127), 3) := by decide +kernel
theorem dX10_growth_245 : decode cX10_growth 245 = .ok (.aload_n 0, 1) := by decide +kernel
theorem dX10_growth_246 : decode cX10_growth 246 = .ok (.getfield 58, 3) := by decide +kernel
theorem dX10_growth_249 : decode cX10_growth 249 = .ok (.iload 5, 2) := by decide +kernel
theorem dX10_growth_251 : decode cX10_growth 251 = .ok (.laload, 1) := by decide +kernel
theorem dX10_growth_252 : decode cX10_growth 252 = .ok (.aload_n 0, 1) := by decide +kernel
theorem dX10_growth_253 : decode cX10_growth 253 = .ok (.getfield 55, 3) := by decide +kernel
theorem dX10_growth_256 : decode cX10_growth 256 = .ok (.iload 5, 2) := by decide +kernel
theorem dX10_growth_258 : decode cX10_growth 258 = .ok (.laload, 1) := by decide +kernel
theorem dX10_growth_259 : decode cX10_growth 259 = .ok (.invokestatic 155, 3) := by decide +kernel
theorem dX10_growth_262 : decode cX10_growth 262 = .ok (.lstore 6, 2) := by decide +kernel
theorem dX10_growth_264 : decode cX10_growth 264 = .ok (.iload_n 3, 1) := by decide +kernel
theorem dX10_growth_265 : decode cX10_growth 265 = .ok (.iconst 2, 1) := by decide +kernel
theorem dX10_growth_266 : decode cX10_growth 266 = .ok (.irem, 1) := by decide +kernel
theorem dX10_growth_267 : decode cX10_growth 267 = .ok (.ifCond .ne 16, 3) := by decide +kernel
theorem dX10_growth_270 : decode cX10_growth 270 = .ok (.aload_n 0, 1) := by decide +kernel
theorem dX10_growth_271 : decode cX10_growth 271 = .ok (.getfield 58, 3) := by decide +kernel
theorem dX10_growth_274 : decode cX10_growth 274 = .ok (.iload 5, 2) := by decide +kernel
theorem dX10_growth_276 : decode cX10_growth 276 = .ok (.laload, 1) := by decide +kernel
theorem dX10_growth_277 : decode cX10_growth 277 = .ok (.lload 6, 2) := by decide +kernel
theorem dX10_growth_279 : decode cX10_growth 279 = .ok (.ldiv, 1) := by decide +kernel
theorem dX10_growth_280 : decode cX10_growth 280 = .ok (.goto 13, 3) := by decide +kernel
theorem dX10_growth_283 : decode cX10_growth 283 = .ok (.aload_n 0, 1) := by decide +kernel
theorem dX10_growth_284 : decode cX10_growth 284 = .ok (.getfield 55, 3) := by decide +kernel
theorem dX10_growth_287 : decode cX10_growth 287 = .ok (.iload 5, 2) := by decide +kernel
theorem dX10_growth_289 : decode cX10_growth 289 = .ok (.laload, 1) := by decide +kernel
theorem dX10_growth_290 : decode cX10_growth 290 = .ok (.lload 6, 2) := by decide +kernel
theorem dX10_growth_292 : decode cX10_growth 292 = .ok (.ldiv, 1) := by decide +kernel
theorem dX10_growth_293 : decode cX10_growth 293 = .ok (.lreturn, 1) := by decide +kernel
theorem dX10_forget_0 : decode cX10_forget 0 = .ok (.aload_n 0, 1) := by decide +kernel
theorem dX10_forget_1 : decode cX10_forget 1 = .ok (.iconst 0, 1) := by decide +kernel
theorem dX10_forget_2 : decode cX10_forget 2 = .ok (.putfield 159, 3) := by decide +kernel
theorem dX10_forget_5 : decode cX10_forget 5 = .ok (.iconst 0, 1) := by decide +kernel
theorem dX10_forget_6 : decode cX10_forget 6 = .ok (.istore_n 1, 1) := by decide +kernel
theorem dX10_forget_7 : decode cX10_forget 7 = .ok (.iload_n 1, 1) := by decide +kernel
theorem dX10_forget_8 : decode cX10_forget 8 = .ok (.ldc 73, 2) := by decide +kernel
theorem dX10_forget_10 : decode cX10_forget 10 = .ok (.if_icmp .ge 16, 3) := by decide +kernel
theorem dX10_forget_13 : decode cX10_forget 13 = .ok (.aload_n 0, 1) := by decide +kernel
theorem dX10_forget_14 : decode cX10_forget 14 = .ok (.getfield 74, 3) := by decide +kernel
theorem dX10_forget_17 : decode cX10_forget 17 = .ok (.iload_n 1, 1) := by decide +kernel
theorem dX10_forget_18 : decode cX10_forget 18 = .ok (.iconst (-1), 1) := by decide +kernel
theorem dX10_forget_19 : decode cX10_forget 19 = .ok (.iastore, 1) := by decide +kernel
theorem dX10_forget_20 : decode cX10_forget 20 = .ok (.iinc 1 1, 3) := by decide +kernel
theorem dX10_forget_23 : decode cX10_forget 23 = .ok (.goto (-16), 3) := by decide +kernel
theorem dX10_forget_26 : decode cX10_forget 26 = .ok (.return_, 1) := by decide +kernel
theorem dX10_meets_0 : decode cX10_meets 0 = .ok (.lload_n 1, 1) := by decide +kernel
theorem dX10_meets_1 : decode cX10_meets 1 = .ok (.ldc2_w 162, 3) := by decide +kernel
theorem dX10_meets_4 : decode cX10_meets 4 = .ok (.lmul, 1) := by decide +kernel
theorem dX10_meets_5 : decode cX10_meets 5 = .ok (.bipush 49, 2) := by decide +kernel
theorem dX10_meets_7 : decode cX10_meets 7 = .ok (.lushr, 1) := by decide +kernel
theorem dX10_meets_8 : decode cX10_meets 8 = .ok (.ldc2_w 164, 3) := by decide +kernel
theorem dX10_meets_11 : decode cX10_meets 11 = .ok (.land, 1) := by decide +kernel
theorem dX10_meets_12 : decode cX10_meets 12 = .ok (.l2i, 1) := by decide +kernel
theorem dX10_meets_13 : decode cX10_meets 13 = .ok (.istore 5, 2) := by decide +kernel
theorem dX10_meets_15 : decode cX10_meets 15 = .ok (.aload_n 0, 1) := by decide +kernel
theorem dX10_meets_16 : decode cX10_meets 16 = .ok (.getfield 74, 3) := by decide +kernel
theorem dX10_meets_19 : decode cX10_meets 19 = .ok (.iload 5, 2) := by decide +kernel
theorem dX10_meets_21 : decode cX10_meets 21 = .ok (.iaload, 1) := by decide +kernel
theorem dX10_meets_22 : decode cX10_meets 22 = .ok (.istore 6, 2) := by decide +kernel
theorem dX10_meets_24 : decode cX10_meets 24 = .ok (.iload 6, 2) := by decide +kernel
theorem dX10_meets_26 : decode cX10_meets 26 = .ok (.ifCond .lt 29, 3) := by decide +kernel
theorem dX10_meets_29 : decode cX10_meets 29 = .ok (.aload_n 0, 1) := by decide +kernel
theorem dX10_meets_30 : decode cX10_meets 30 = .ok (.getfield 61, 3) := by decide +kernel
theorem dX10_meets_33 : decode cX10_meets 33 = .ok (.iload 6, 2) := by decide +kernel
theorem dX10_meets_35 : decode cX10_meets 35 = .ok (.laload, 1) := by decide +kernel
theorem dX10_meets_36 : decode cX10_meets 36 = .ok (.lload_n 1, 1) := by decide +kernel
theorem dX10_meets_37 : decode cX10_meets 37 = .ok (.lcmp, 1) := by decide +kernel
theorem dX10_meets_38 : decode cX10_meets 38 = .ok (.ifCond .ne 5, 3) := by decide +kernel
theorem dX10_meets_41 : decode cX10_meets 41 = .ok (.iconst 0, 1) := by decide +kernel
theorem dX10_meets_42 : decode cX10_meets 42 = .ok (.ireturn, 1) := by decide +kernel
theorem dX10_meets_43 : decode cX10_meets 43 = .ok (.aload_n 0, 1) := by decide +kernel
theorem dX10_meets_44 : decode cX10_meets 44 = .ok (.getfield 70, 3) := by decide +kernel
theorem dX10_meets_47 : decode cX10_meets 47 = .ok (.iload 6, 2) := by decide +kernel
theorem dX10_meets_49 : decode cX10_meets 49 = .ok (.iaload, 1) := by decide +kernel
theorem dX10_meets_50 : decode cX10_meets 50 = .ok (.istore 6, 2) := by decide +kernel
theorem dX10_meets_52 : decode cX10_meets 52 = .ok (.goto (-28), 3) := by decide +kernel
theorem dX10_meets_55 : decode cX10_meets 55 = .ok (.aload_n 0, 1) := by decide +kernel
theorem dX10_meets_56 : decode cX10_meets 56 = .ok (.getfield 159, 3) := by decide +kernel
theorem dX10_meets_59 : decode cX10_meets 59 = .ok (.sipush 20000, 3) := by decide +kernel
theorem dX10_meets_62 : decode cX10_meets 62 = .ok (.if_icmp .gt 61, 3) := by decide +kernel
theorem dX10_meets_65 : decode cX10_meets 65 = .ok (.aload_n 0, 1) := by decide +kernel
theorem dX10_meets_66 : decode cX10_meets 66 = .ok (.getfield 61, 3) := by decide +kernel
theorem dX10_meets_69 : decode cX10_meets 69 = .ok (.aload_n 0, 1) := by decide +kernel
theorem dX10_meets_70 : decode cX10_meets 70 = .ok (.getfield 159, 3) := by decide +kernel
theorem dX10_meets_73 : decode cX10_meets 73 = .ok (.lload_n 1, 1) := by decide +kernel
theorem dX10_meets_74 : decode cX10_meets 74 = .ok (.lastore, 1) := by decide +kernel
theorem dX10_meets_75 : decode cX10_meets 75 = .ok (.aload_n 0, 1) := by decide +kernel
theorem dX10_meets_76 : decode cX10_meets 76 = .ok (.getfield 64, 3) := by decide +kernel
theorem dX10_meets_79 : decode cX10_meets 79 = .ok (.aload_n 0, 1) := by decide +kernel
theorem dX10_meets_80 : decode cX10_meets 80 = .ok (.getfield 159, 3) := by decide +kernel
theorem dX10_meets_83 : decode cX10_meets 83 = .ok (.iload_n 3, 1) := by decide +kernel
theorem dX10_meets_84 : decode cX10_meets 84 = .ok (.iastore, 1) := by decide +kernel
theorem dX10_meets_85 : decode cX10_meets 85 = .ok (.aload_n 0, 1) := by decide +kernel
theorem dX10_meets_86 : decode cX10_meets 86 = .ok (.getfield 67, 3) := by decide +kernel
theorem dX10_meets_89 : decode cX10_meets 89 = .ok (.aload_n 0, 1) := by decide +kernel
theorem dX10_meets_90 : decode cX10_meets 90 = .ok (.getfield 159, 3) := by decide +kernel
theorem dX10_meets_93 : decode cX10_meets 93 = .ok (.iload 4, 2) := by decide +kernel
theorem dX10_meets_95 : decode cX10_meets 95 = .ok (.iastore, 1) := by decide +kernel
theorem dX10_meets_96 : decode cX10_meets 96 = .ok (.aload_n 0, 1) := by decide +kernel
theorem dX10_meets_97 : decode cX10_meets 97 = .ok (.getfield 70, 3) := by decide +kernel
theorem dX10_meets_100 : decode cX10_meets 100 = .ok (.aload_n 0, 1) := by decide +kernel
theorem dX10_meets_101 : decode cX10_meets 101 = .ok (.getfield 159, 3) := by decide +kernel
theorem dX10_meets_104 : decode cX10_meets 104 = .ok (.aload_n 0, 1) := by decide +kernel
theorem dX10_meets_105 : decode cX10_meets 105 = .ok (.getfield 74, 3) := by decide +kernel
theorem dX10_meets_108 : decode cX10_meets 108 = .ok (.iload 5, 2) := by decide +kernel
theorem dX10_meets_110 : decode cX10_meets 110 = .ok (.iaload, 1) := by decide +kernel
theorem dX10_meets_111 : decode cX10_meets 111 = .ok (.iastore, 1) := by decide +kernel
theorem dX10_meets_112 : decode cX10_meets 112 = .ok (.aload_n 0, 1) := by decide +kernel
theorem dX10_meets_113 : decode cX10_meets 113 = .ok (.getfield 74, 3) := by decide +kernel
theorem dX10_meets_116 : decode cX10_meets 116 = .ok (.iload 5, 2) := by decide +kernel
theorem dX10_meets_118 : decode cX10_meets 118 = .ok (.aload_n 0, 1) := by decide +kernel
theorem dX10_meets_119 : decode cX10_meets 119 = .ok (.getfield 159, 3) := by decide +kernel
theorem dX10_meets_122 : decode cX10_meets 122 = .ok (.iastore, 1) := by decide +kernel
theorem dX10_meets_123 : decode cX10_meets 123 = .ok (.aload_n 0, 1) := by decide +kernel
theorem dX10_meets_124 : decode cX10_meets 124 = .ok (.dup, 1) := by decide +kernel
theorem dX10_meets_125 : decode cX10_meets 125 = .ok (.getfield 159, 3) := by decide +kernel
theorem dX10_meets_128 : decode cX10_meets 128 = .ok (.iconst 1, 1) := by decide +kernel
theorem dX10_meets_129 : decode cX10_meets 129 = .ok (.iadd, 1) := by decide +kernel
theorem dX10_meets_130 : decode cX10_meets 130 = .ok (.putfield 159, 3) := by decide +kernel
theorem dX10_meets_133 : decode cX10_meets 133 = .ok (.iconst 1, 1) := by decide +kernel
theorem dX10_meets_134 : decode cX10_meets 134 = .ok (.ireturn, 1) := by decide +kernel
theorem dX10_layWord_0 : decode cX10_layWord 0 = .ok (.iconst 1, 1) := by decide +kernel
theorem dX10_layWord_1 : decode cX10_layWord 1 = .ok (.istore_n 3, 1) := by decide +kernel
theorem dX10_layWord_2 : decode cX10_layWord 2 = .ok (.iload_n 1, 1) := by decide +kernel
theorem dX10_layWord_3 : decode cX10_layWord 3 = .ok (.istore 4, 2) := by decide +kernel
theorem dX10_layWord_5 : decode cX10_layWord 5 = .ok (.aload_n 0, 1) := by decide +kernel
theorem dX10_layWord_6 : decode cX10_layWord 6 = .ok (.getfield 64, 3) := by decide +kernel
theorem dX10_layWord_9 : decode cX10_layWord 9 = .ok (.iload 4, 2) := by decide +kernel
theorem dX10_layWord_11 : decode cX10_layWord 11 = .ok (.iaload, 1) := by decide +kernel
theorem dX10_layWord_12 : decode cX10_layWord 12 = .ok (.ifCond .lt 18, 3) := by decide +kernel
theorem dX10_layWord_15 : decode cX10_layWord 15 = .ok (.iinc 3 1, 3) := by decide +kernel
theorem dX10_layWord_18 : decode cX10_layWord 18 = .ok (.aload_n 0, 1) := by decide +kernel
theorem dX10_layWord_19 : decode cX10_layWord 19 = .ok (.getfield 64, 3) := by decide +kernel
theorem dX10_layWord_22 : decode cX10_layWord 22 = .ok (.iload 4, 2) := by decide +kernel
theorem dX10_layWord_24 : decode cX10_layWord 24 = .ok (.iaload, 1) := by decide +kernel
theorem dX10_layWord_25 : decode cX10_layWord 25 = .ok (.istore 4, 2) := by decide +kernel
theorem dX10_layWord_27 : decode cX10_layWord 27 = .ok (.goto (-22), 3) := by decide +kernel
theorem dX10_layWord_30 : decode cX10_layWord 30 = .ok (.aload_n 0, 1) := by decide +kernel
theorem dX10_layWord_31 : decode cX10_layWord 31 = .ok (.iload_n 3, 1) := by decide +kernel
theorem dX10_layWord_32 : decode cX10_layWord 32 = .ok (.bipush 30, 2) := by decide +kernel
theorem dX10_layWord_34 : decode cX10_layWord 34 = .ok (.if_icmp .ge 7, 3) := by decide +kernel
theorem dX10_layWord_37 : decode cX10_layWord 37 = .ok (.iload_n 3, 1) := by decide +kernel
theorem dX10_layWord_38 : decode cX10_layWord 38 = .ok (.goto 5, 3) := by decide +kernel
theorem dX10_layWord_41 : decode cX10_layWord 41 = .ok (.bipush 30, 2) := by decide +kernel
theorem dX10_layWord_43 : decode cX10_layWord 43 = .ok (.putfield 110, 3) := by decide +kernel
theorem dX10_layWord_46 : decode cX10_layWord 46 = .ok (.iload_n 3, 1) := by decide +kernel
theorem dX10_layWord_47 : decode cX10_layWord 47 = .ok (.iconst 1, 1) := by decide +kernel
theorem dX10_layWord_48 : decode cX10_layWord 48 = .ok (.isub, 1) := by decide +kernel
theorem dX10_layWord_49 : decode cX10_layWord 49 = .ok (.istore 4, 2) := by decide +kernel
theorem dX10_layWord_51 : decode cX10_layWord 51 = .ok (.iload 4, 2) := by decide +kernel
theorem dX10_layWord_53 : decode cX10_layWord 53 = .ok (.bipush 30, 2) := by decide +kernel
theorem dX10_layWord_55 : decode cX10_layWord 55 = .ok (.if_icmp .ge 11, 3) := by decide +kernel
theorem dX10_layWord_58 : decode cX10_layWord 58 = .ok (.aload_n 0, 1) := by decide +kernel
theorem dX10_layWord_59 : decode cX10_layWord 59 = .ok (.getfield 19, 3) := by decide +kernel
theorem dX10_layWord_62 : decode cX10_layWord 62 = .ok (.iload 4, 2) := by decide +kernel
theorem dX10_layWord_64 : decode cX10_layWord 64 = .ok (.iload_n 2, 1) := by decide +kernel
theorem dX10_layWord_65 : decode cX10_layWord 65 = .ok (.iastore, 1) := by decide +kernel
theorem dX10_layWord_66 : decode cX10_layWord 66 = .ok (.iinc 4 (-1), 3) := by decide +kernel
theorem dX10_layWord_69 : decode cX10_layWord 69 = .ok (.iload_n 1, 1) := by decide +kernel
theorem dX10_layWord_70 : decode cX10_layWord 70 = .ok (.istore 5, 2) := by decide +kernel
theorem dX10_layWord_72 : decode cX10_layWord 72 = .ok (.aload_n 0, 1) := by decide +kernel
theorem dX10_layWord_73 : decode cX10_layWord 73 = .ok (.getfield 64, 3) := by decide +kernel
theorem dX10_layWord_76 : decode cX10_layWord 76 = .ok (.iload 5, 2) := by decide +kernel
theorem dX10_layWord_78 : decode cX10_layWord 78 = .ok (.iaload, 1) := by decide +kernel
theorem dX10_layWord_79 : decode cX10_layWord 79 = .ok (.ifCond .lt 39, 3) := by decide +kernel
theorem dX10_layWord_82 : decode cX10_layWord 82 = .ok (.iload 4, 2) := by decide +kernel
theorem dX10_layWord_84 : decode cX10_layWord 84 = .ok (.bipush 30, 2) := by decide +kernel
theorem dX10_layWord_86 : decode cX10_layWord 86 = .ok (.if_icmp .ge 17, 3) := by decide +kernel
theorem dX10_layWord_89 : decode cX10_layWord 89 = .ok (.aload_n 0, 1) := by decide +kernel
theorem dX10_layWord_90 : decode cX10_layWord 90 = .ok (.getfield 19, 3) := by decide +kernel
theorem dX10_layWord_93 : decode cX10_layWord 93 = .ok (.iload 4, 2) := by decide +kernel
theorem dX10_layWord_95 : decode cX10_layWord 95 = .ok (.aload_n 0, 1) := by decide +kernel
theorem dX10_layWord_96 : decode cX10_layWord 96 = .ok (.getfield 67, 3) := by decide +kernel
theorem dX10_layWord_99 : decode cX10_layWord 99 = .ok (.iload 5, 2) := by decide +kernel
theorem dX10_layWord_101 : decode cX10_layWord 101 = .ok (.iaload, 1) := by decide +kernel
theorem dX10_layWord_102 : decode cX10_layWord 102 = .ok (.iastore, 1) := by decide +kernel
theorem dX10_layWord_103 : decode cX10_layWord 103 = .ok (.iinc 4 (-1), 3) := by decide +kernel
theorem dX10_layWord_106 : decode cX10_layWord 106 = .ok (.aload_n 0, 1) := by decide +kernel
theorem dX10_layWord_107 : decode cX10_layWord 107 = .ok (.getfield 64, 3) := by decide +kernel
theorem dX10_layWord_110 : decode cX10_layWord 110 = .ok (.iload 5, 2) := by decide +kernel
theorem dX10_layWord_112 : decode cX10_layWord 112 = .ok (.iaload, 1) := by decide +kernel
theorem dX10_layWord_113 : decode cX10_layWord 113 = .ok (.istore 5, 2) := by decide +kernel
theorem dX10_layWord_115 : decode cX10_layWord 115 = .ok (.goto (-43), 3) := by decide +kernel
theorem dX10_layWord_118 : decode cX10_layWord 118 = .ok (.return_, 1) := by decide +kernel
set_option maxRecDepth 20000 in
theorem ggX10_same_X10_isSet : GoodIn wsX10_same wsX10_isSet := goodIn_r _ [10, 11, 12, 13, 9, 14, 52, 53, 54, 55, 56, 57, 58, 59, 60, 61, 62, 63, 64, 65, 66, 67, 68, 69, 70, 71, 72, 73, 74, 75, 76, 77, 78] (by decide +kernel) (by decide +kernel)
set_option maxRecDepth 20000 in
theorem gX10_same_X10_isSet : GoodIn wsX10_same (wsV RX10 90 RX10 yX10_isSet wsX10_isSet) := goodIn_app (goodIn_of _ (by decide +kernel)) ggX10_same_X10_isSet
set_option maxRecDepth 20000 in
theorem ggX10_same_X10_liveOf : GoodIn wsX10_same wsX10_liveOf := goodIn_r _ [18, 19, 20, 21, 22, 9, 23, 1, 24, 25, 26, 27, 52, 53, 54, 55, 56, 57, 58, 59, 60, 61, 62, 63, 64, 65, 66, 67, 68, 69, 70, 71, 72, 73, 74, 75, 76, 77, 78] (by decide +kernel) (by decide +kernel)
set_option maxRecDepth 20000 in
theorem gX10_same_X10_liveOf : GoodIn wsX10_same (wsV RX10 122 RX10 yX10_liveOf wsX10_liveOf) := goodIn_app (goodIn_of _ (by decide +kernel)) ggX10_same_X10_liveOf
set_option maxRecDepth 20000 in
theorem ggX10_same_X10_forget : GoodIn wsX10_same wsX10_forget := goodIn_r _ [31, 3, 32, 33, 52, 53, 54, 55, 56, 57, 58, 59, 60, 61, 62, 63, 64, 65, 66, 67, 68, 69, 70, 71, 72, 73, 74, 75, 76, 77, 78] (by decide +kernel) (by decide +kernel)
set_option maxRecDepth 20000 in
theorem gX10_same_X10_forget : GoodIn wsX10_same (wsV RX10 166 RX10 yX10_forget wsX10_forget) := goodIn_app (goodIn_of _ (by decide +kernel)) ggX10_same_X10_forget
set_option maxRecDepth 20000 in
theorem ggX10_same_X10_meets : GoodIn wsX10_same wsX10_meets := goodIn_r _ [37, 38, 39, 33, 4, 40, 3, 41, 42, 52, 53, 54, 55, 56, 57, 58, 59, 60, 61, 62, 63, 64, 65, 66, 67, 68, 69, 70, 71, 72, 73, 74, 75, 76, 77, 78] (by decide +kernel) (by decide +kernel)
set_option maxRecDepth 20000 in
theorem gX10_same_X10_meets : GoodIn wsX10_same (wsV RX10 169 RX10 yX10_meets wsX10_meets) := goodIn_app (goodIn_of _ (by decide +kernel)) ggX10_same_X10_meets
set_option maxRecDepth 20000 in
theorem ggX10_same_X10_lead : GoodIn wsX10_same wsX10_lead := goodIn_r _ [46, 19, 1, 24, 25, 26, 9, 27, 52, 53, 54, 55, 56, 57, 58, 59, 60, 61, 62, 63, 64, 65, 66, 67, 68, 69, 70, 71, 72, 73, 74, 75, 76, 77, 78] (by decide +kernel) (by decide +kernel)
set_option maxRecDepth 20000 in
theorem gX10_same_X10_lead : GoodIn wsX10_same (wsV RX10 132 RX10 yX10_lead wsX10_lead) := goodIn_app (goodIn_of _ (by decide +kernel)) ggX10_same_X10_lead
set_option maxRecDepth 20000 in
theorem ggX10_same_X10_layWord : GoodIn wsX10_same wsX10_layWord := goodIn_r _ [50, 41, 2, 51, 42, 52, 53, 54, 55, 56, 57, 58, 59, 60, 61, 62, 63, 64, 65, 66, 67, 68, 69, 70, 71, 72, 73, 74, 75, 76, 77, 78] (by decide +kernel) (by decide +kernel)
set_option maxRecDepth 20000 in
theorem gX10_same_X10_layWord : GoodIn wsX10_same (wsV RX10 175 RX10 yX10_layWord wsX10_layWord) := goodIn_app (goodIn_of _ (by decide +kernel)) ggX10_same_X10_layWord
theorem dX10_same_0 : decode cX10_same 0 = .ok (.aload_n 0, 1) := by decide +kernel
theorem dX10_same_1 : decode cX10_same 1 = .ok (.iload_n 1, 1) := by decide +kernel
theorem dX10_same_2 : decode cX10_same 2 = .ok (.invokevirtual 90, 3) := by decide +kernel
theorem dX10_same_5 : decode cX10_same 5 = .ok (.ifCond .eq 11, 3) := by decide +kernel
theorem dX10_same_8 : decode cX10_same 8 = .ok (.aload_n 0, 1) := by decide +kernel
theorem dX10_same_9 : decode cX10_same 9 = .ok (.iload_n 2, 1) := by decide +kernel
theorem dX10_same_10 : decode cX10_same 10 = .ok (.invokevirtual 90, 3) := by decide +kernel
theorem dX10_same_13 : decode cX10_same 13 = .ok (.ifCond .ne 6, 3) := by decide +kernel
theorem dX10_same_16 : decode cX10_same 16 = .ok (.bipush (-2), 2) := by decide +kernel
theorem dX10_same_18 : decode cX10_same 18 = .ok (.ireturn, 1) := by decide +kernel
theorem dX10_same_19 : decode cX10_same 19 = .ok (.aload_n 0, 1) := by decide +kernel
theorem dX10_same_20 : decode cX10_same 20 = .ok (.getfield 7, 3) := by decide +kernel
theorem dX10_same_23 : decode cX10_same 23 = .ok (.iload_n 1, 1) := by decide +kernel
theorem dX10_same_24 : decode cX10_same 24 = .ok (.iaload, 1) := by decide +kernel
theorem dX10_same_25 : decode cX10_same 25 = .ok (.aload_n 0, 1) := by decide +kernel
theorem dX10_same_26 : decode cX10_same 26 = .ok (.getfield 7, 3) := by decide +kernel
theorem dX10_same_29 : decode cX10_same 29 = .ok (.iload_n 2, 1) := by decide +kernel
theorem dX10_same_30 : decode cX10_same 30 = .ok (.iaload, 1) := by decide +kernel
theorem dX10_same_31 : decode cX10_same 31 = .ok (.if_icmp .eq 6, 3) := by decide +kernel
theorem dX10_same_34 : decode cX10_same 34 = .ok (.bipush (-3), 2) := by decide +kernel
theorem dX10_same_36 : decode cX10_same 36 = .ok (.ireturn, 1) := by decide +kernel
theorem dX10_same_37 : decode cX10_same 37 = .ok (.aload_n 0, 1) := by decide +kernel
theorem dX10_same_38 : decode cX10_same 38 = .ok (.iload_n 1, 1) := by decide +kernel
theorem dX10_same_39 : decode cX10_same 39 = .ok (.invokevirtual 122, 3) := by decide +kernel
theorem dX10_same_42 : decode cX10_same 42 = .ok (.istore_n 3, 1) := by decide +kernel
theorem dX10_same_43 : decode cX10_same 43 = .ok (.aload_n 0, 1) := by decide +kernel
theorem dX10_same_44 : decode cX10_same 44 = .ok (.iload_n 2, 1) := by decide +kernel
theorem dX10_same_45 : decode cX10_same 45 = .ok (.invokevirtual 122, 3) := by decide +kernel
theorem dX10_same_48 : decode cX10_same 48 = .ok (.istore 4, 2) := by decide +kernel
theorem dX10_same_50 : decode cX10_same 50 = .ok (.aload_n 0, 1) := by decide +kernel
theorem dX10_same_51 : decode cX10_same 51 = .ok (.invokevirtual 166, 3) := by decide +kernel
theorem dX10_same_54 : decode cX10_same 54 = .ok (.aload_n 0, 1) := by decide +kernel
theorem dX10_same_55 : decode cX10_same 55 = .ok (.iload_n 3, 1) := by decide +kernel
theorem dX10_same_56 : decode cX10_same 56 = .ok (.i2l, 1) := by decide +kernel
theorem dX10_same_57 : decode cX10_same 57 = .ok (.bipush 16, 2) := by decide +kernel
theorem dX10_same_59 : decode cX10_same 59 = .ok (.lshl, 1) := by decide +kernel
theorem dX10_same_60 : decode cX10_same 60 = .ok (.iload 4, 2) := by decide +kernel
theorem dX10_same_62 : decode cX10_same 62 = .ok (.i2l, 1) := by decide +kernel
theorem dX10_same_63 : decode cX10_same 63 = .ok (.lor, 1) := by decide +kernel
theorem dX10_same_64 : decode cX10_same 64 = .ok (.iconst (-1), 1) := by decide +kernel
theorem dX10_same_65 : decode cX10_same 65 = .ok (.iconst 0, 1) := by decide +kernel
theorem dX10_same_66 : decode cX10_same 66 = .ok (.invokevirtual 169, 3) := by decide +kernel
theorem dX10_same_69 : decode cX10_same 69 = .ok (.istore 5, 2) := by decide +kernel
theorem dX10_same_71 : decode cX10_same 71 = .ok (.iload_n 3, 1) := by decide +kernel
theorem dX10_same_72 : decode cX10_same 72 = .ok (.ifCond .ne 7, 3) := by decide +kernel
theorem dX10_same_75 : decode cX10_same 75 = .ok (.iconst 1, 1) := by decide +kernel
theorem dX10_same_76 : decode cX10_same 76 = .ok (.goto 4, 3) := by decide +kernel
theorem dX10_same_79 : decode cX10_same 79 = .ok (.iconst 0, 1) := by decide +kernel
theorem dX10_same_80 : decode cX10_same 80 = .ok (.iload 4, 2) := by decide +kernel
theorem dX10_same_82 : decode cX10_same 82 = .ok (.ifCond .ne 7, 3) := by decide +kernel
theorem dX10_same_85 : decode cX10_same 85 = .ok (.iconst 1, 1) := by decide +kernel
theorem dX10_same_86 : decode cX10_same 86 = .ok (.goto 4, 3) := by decide +kernel
theorem dX10_same_89 : decode cX10_same 89 = .ok (.iconst 0, 1) := by decide +kernel
theorem dX10_same_90 : decode cX10_same 90 = .ok (.if_icmp .eq 10, 3) := by decide +kernel
theorem dX10_same_93 : decode cX10_same 93 = .ok (.aload_n 0, 1) := by decide +kernel
theorem dX10_same_94 : decode cX10_same 94 = .ok (.iconst 0, 1) := by decide +kernel
theorem dX10_same_95 : decode cX10_same 95 = .ok (.putfield 110, 3) := by decide +kernel
theorem dX10_same_98 : decode cX10_same 98 = .ok (.iconst 0, 1) := by decide +kernel
theorem dX10_same_99 : decode cX10_same 99 = .ok (.ireturn, 1) := by decide +kernel
theorem dX10_same_100 : decode cX10_same 100 = .ok (.iconst 0, 1) := by decide +kernel
theorem dX10_same_101 : decode cX10_same 101 = .ok (.istore 6, 2) := by decide +kernel
theorem dX10_same_103 : decode cX10_same 103 = .ok (.iload 6, 2) := by decide +kernel
theorem dX10_same_105 : decode cX10_same 105 = .ok (.aload_n 0, 1) := by decide +kernel
theorem dX10_same_106 : decode cX10_same 106 = .ok (.getfield 159, 3) := by decide +kernel
theorem dX10_same_109 : decode cX10_same 109 = .ok (.if_icmp .ge 153, 3) := by decide +kernel
theorem dX10_same_112 : decode cX10_same 112 = .ok (.aload_n 0, 1) := by decide +kernel
theorem dX10_same_113 : decode cX10_same 113 = .ok (.getfield 61, 3) := by decide +kernel
theorem dX10_same_116 : decode cX10_same 116 = .ok (.iload 6, 2) := by decide +kernel
theorem dX10_same_118 : decode cX10_same 118 = .ok (.laload, 1) := by decide +kernel
theorem dX10_same_119 : decode cX10_same 119 = .ok (.bipush 16, 2) := by decide +kernel
theorem dX10_same_121 : decode cX10_same 121 = .ok (.lshr, 1) := by decide +kernel
theorem dX10_same_122 : decode cX10_same 122 = .ok (.l2i, 1) := by decide +kernel
theorem dX10_same_123 : decode cX10_same 123 = .ok (.istore 7, 2) := by decide +kernel
theorem dX10_same_125 : decode cX10_same 125 = .ok (.aload_n 0, 1) := by decide +kernel
theorem dX10_same_126 : decode cX10_same 126 = .ok (.getfield 61, 3) := by decide +kernel
theorem dX10_same_129 : decode cX10_same 129 = .ok (.iload 6, 2) := by decide +kernel
theorem dX10_same_131 : decode cX10_same 131 = .ok (.laload, 1) := by decide +kernel
theorem dX10_same_132 : decode cX10_same 132 = .ok (.ldc2_w 173, 3) := by decide +kernel
theorem dX10_same_135 : decode cX10_same 135 = .ok (.land, 1) := by decide +kernel
theorem dX10_same_136 : decode cX10_same 136 = .ok (.l2i, 1) := by decide +kernel
theorem dX10_same_137 : decode cX10_same 137 = .ok (.istore 8, 2) := by decide +kernel
theorem dX10_same_139 : decode cX10_same 139 = .ok (.iconst 0, 1) := by decide +kernel
theorem dX10_same_140 : decode cX10_same 140 = .ok (.istore 9, 2) := by decide +kernel
theorem dX10_same_142 : decode cX10_same 142 = .ok (.iload 9, 2) := by decide +kernel
theorem dX10_same_144 : decode cX10_same 144 = .ok (.aload_n 0, 1) := by decide +kernel
theorem dX10_same_145 : decode cX10_same 145 = .ok (.getfield 7, 3) := by decide +kernel
theorem dX10_same_148 : decode cX10_same 148 = .ok (.iload_n 1, 1) := by decide +kernel
theorem dX10_same_149 : decode cX10_same 149 = .ok (.iaload, 1) := by decide +kernel
theorem dX10_same_150 : decode cX10_same 150 = .ok (.if_icmp .ge 106, 3) := by decide +kernel
theorem dX10_same_153 : decode cX10_same 153 = .ok (.aload_n 0, 1) := by decide +kernel
theorem dX10_same_154 : decode cX10_same 154 = .ok (.iload_n 1, 1) := by decide +kernel
theorem dX10_same_155 : decode cX10_same 155 = .ok (.iload_n 3, 1) := by decide +kernel
theorem dX10_same_156 : decode cX10_same 156 = .ok (.iload 7, 2) := by decide +kernel
theorem dX10_same_158 : decode cX10_same 158 = .ok (.iload 9, 2) := by decide +kernel
theorem dX10_same_160 : decode cX10_same 160 = .ok (.invokevirtual 132, 3) := by decide +kernel
theorem dX10_same_163 : decode cX10_same 163 = .ok (.istore 10, 2) := by decide +kernel
theorem dX10_same_165 : decode cX10_same 165 = .ok (.aload_n 0, 1) := by decide +kernel
theorem dX10_same_166 : decode cX10_same 166 = .ok (.iload_n 2, 1) := by decide +kernel
theorem dX10_same_167 : decode cX10_same 167 = .ok (.iload 4, 2) := by decide +kernel
theorem dX10_same_169 : decode cX10_same 169 = .ok (.iload 8, 2) := by decide +kernel
theorem dX10_same_171 : decode cX10_same 171 = .ok (.iload 9, 2) := by decide +kernel
theorem dX10_same_173 : decode cX10_same 173 = .ok (.invokevirtual 132, 3) := by decide +kernel
theorem dX10_same_176 : decode cX10_same 176 = .ok (.istore 11, 2) := by decide +kernel
theorem dX10_same_178 : decode cX10_same 178 = .ok (.iload 10, 2) := by decide +kernel
theorem dX10_same_180 : decode cX10_same 180 = .ok (.ifCond .ne 7, 3) := by decide +kernel
theorem dX10_same_183 : decode cX10_same 183 = .ok (.iconst 1, 1) := by decide +kernel
theorem dX10_same_184 : decode cX10_same 184 = .ok (.goto 4, 3) := by decide +kernel
theorem dX10_same_187 : decode cX10_same 187 = .ok (.iconst 0, 1) := by decide +kernel
theorem dX10_same_188 : decode cX10_same 188 = .ok (.iload 11, 2) := by decide +kernel
theorem dX10_same_190 : decode cX10_same 190 = .ok (.ifCond .ne 7, 3) := by decide +kernel
theorem dX10_same_193 : decode cX10_same 193 = .ok (.iconst 1, 1) := by decide +kernel
theorem dX10_same_194 : decode cX10_same 194 = .ok (.goto 4, 3) := by decide +kernel
theorem dX10_same_197 : decode cX10_same 197 = .ok (.iconst 0, 1) := by decide +kernel
theorem dX10_same_198 : decode cX10_same 198 = .ok (.if_icmp .eq 13, 3) := by decide +kernel
theorem dX10_same_201 : decode cX10_same 201 = .ok (.aload_n 0, 1) := by decide +kernel
theorem dX10_same_202 : decode cX10_same 202 = .ok (.iload 6, 2) := by decide +kernel
theorem dX10_same_204 : decode cX10_same 204 = .ok (.iload 9, 2) := by decide +kernel
theorem dX10_same_206 : decode cX10_same 206 = .ok (.invokevirtual 175, 3) := by decide +kernel
theorem dX10_same_209 : decode cX10_same 209 = .ok (.iconst 0, 1) := by decide +kernel
theorem dX10_same_210 : decode cX10_same 210 = .ok (.ireturn, 1) := by decide +kernel
theorem dX10_same_211 : decode cX10_same 211 = .ok (.iload 10, 2) := by decide +kernel
theorem dX10_same_213 : decode cX10_same 213 = .ok (.ifCond .eq 37, 3) := by decide +kernel
theorem dX10_same_216 : decode cX10_same 216 = .ok (.aload_n 0, 1) := by decide +kernel
theorem dX10_same_217 : decode cX10_same 217 = .ok (.iload 10, 2) := by decide +kernel
theorem dX10_same_219 : decode cX10_same 219 = .ok (.i2l, 1) := by decide +kernel
theorem dX10_same_220 : decode cX10_same 220 = .ok (.bipush 16, 2) := by decide +kernel
theorem dX10_same_222 : decode cX10_same 222 = .ok (.lshl, 1) := by decide +kernel
theorem dX10_same_223 : decode cX10_same 223 = .ok (.iload 11, 2) := by decide +kernel
theorem dX10_same_225 : decode cX10_same 225 = .ok (.i2l, 1) := by decide +kernel
theorem dX10_same_226 : decode cX10_same 226 = .ok (.lor, 1) := by decide +kernel
theorem dX10_same_227 : decode cX10_same 227 = .ok (.iload 6, 2) := by decide +kernel
theorem dX10_same_229 : decode cX10_same 229 = .ok (.iload 9, 2) := by decide +kernel
theorem dX10_same_231 : decode cX10_same 231 = .ok (.invokevirtual 169, 3) := by decide +kernel
theorem dX10_same_234 : decode cX10_same 234 = .ok (.ifCond .eq 16, 3) := by decide +kernel
theorem dX10_same_237 : decode cX10_same 237 = .ok (.aload_n 0, 1) := by decide +kernel
theorem dX10_same_238 : decode cX10_same 238 = .ok (.getfield 159, 3) := by decide +kernel
theorem dX10_same_241 : decode cX10_same 241 = .ok (.sipush 20000, 3) := by decide +kernel
theorem dX10_same_244 : decode cX10_same 244 = .ok (.if_icmp .le 6, 3) := by decide +kernel
theorem dX10_same_247 : decode cX10_same 247 = .ok (.bipush (-5), 2) := by decide +kernel
theorem dX10_same_249 : decode cX10_same 249 = .ok (.ireturn, 1) := by decide +kernel
theorem dX10_same_250 : decode cX10_same 250 = .ok (.iinc 9 1, 3) := by decide +kernel
theorem dX10_same_253 : decode cX10_same 253 = .ok (.goto (-111), 3) := by decide +kernel
theorem dX10_same_256 : decode cX10_same 256 = .ok (.iinc 6 1, 3) := by decide +kernel
theorem dX10_same_259 : decode cX10_same 259 = .ok (.goto (-156), 3) := by decide +kernel
theorem dX10_same_262 : decode cX10_same 262 = .ok (.iconst 1, 1) := by decide +kernel
theorem dX10_same_263 : decode cX10_same 263 = .ok (.ireturn, 1) := by decide +kernel
set_option maxRecDepth 20000 in
theorem ggX10_reach_X10_outOf : GoodIn wsX10_reach wsX10_outOf := goodIn_r _ [6, 7, 8, 9, 10, 5, 11, 12, 13, 14, 15, 16, 17, 18, 19, 20, 21, 22, 23, 24, 25, 26, 27, 28, 29, 30, 31, 32, 33, 34, 35, 36, 37, 38] (by decide +kernel) (by decide +kernel)
set_option maxRecDepth 20000 in
theorem gX10_reach_X10_outOf : GoodIn wsX10_reach (wsV RX10 119 RX10 yX10_outOf wsX10_outOf) := goodIn_app (goodIn_of _ (by decide +kernel)) ggX10_reach_X10_outOf
theorem dX10_reach_0 : decode cX10_reach 0 = .ok (.iconst 0, 1) := by decide +kernel
theorem dX10_reach_1 : decode cX10_reach 1 = .ok (.istore 4, 2) := by decide +kernel
theorem dX10_reach_3 : decode cX10_reach 3 = .ok (.aload_n 0, 1) := by decide +kernel
theorem dX10_reach_4 : decode cX10_reach 4 = .ok (.iload_n 1, 1) := by decide +kernel
theorem dX10_reach_5 : decode cX10_reach 5 = .ok (.iload_n 3, 1) := by decide +kernel
theorem dX10_reach_6 : decode cX10_reach 6 = .ok (.invokevirtual 119, 3) := by decide +kernel
theorem dX10_reach_9 : decode cX10_reach 9 = .ok (.iload_n 2, 1) := by decide +kernel
theorem dX10_reach_10 : decode cX10_reach 10 = .ok (.iand, 1) := by decide +kernel
theorem dX10_reach_11 : decode cX10_reach 11 = .ok (.istore 5, 2) := by decide +kernel
theorem dX10_reach_13 : decode cX10_reach 13 = .ok (.iload 5, 2) := by decide +kernel
theorem dX10_reach_15 : decode cX10_reach 15 = .ok (.iload 4, 2) := by decide +kernel
theorem dX10_reach_17 : decode cX10_reach 17 = .ok (.iconst (-1), 1) := by decide +kernel
theorem dX10_reach_18 : decode cX10_reach 18 = .ok (.ixor, 1) := by decide +kernel
theorem dX10_reach_19 : decode cX10_reach 19 = .ok (.iand, 1) := by decide +kernel
theorem dX10_reach_20 : decode cX10_reach 20 = .ok (.ifCond .eq 65, 3) := by decide +kernel
theorem dX10_reach_23 : decode cX10_reach 23 = .ok (.iload 4, 2) := by decide +kernel
theorem dX10_reach_25 : decode cX10_reach 25 = .ok (.iload 5, 2) := by decide +kernel
theorem dX10_reach_27 : decode cX10_reach 27 = .ok (.ior, 1) := by decide +kernel
theorem dX10_reach_28 : decode cX10_reach 28 = .ok (.istore 4, 2) := by decide +kernel
theorem dX10_reach_30 : decode cX10_reach 30 = .ok (.iconst 0, 1) := by decide +kernel
theorem dX10_reach_31 : decode cX10_reach 31 = .ok (.istore 5, 2) := by decide +kernel
theorem dX10_reach_33 : decode cX10_reach 33 = .ok (.iconst 0, 1) := by decide +kernel
theorem dX10_reach_34 : decode cX10_reach 34 = .ok (.istore 6, 2) := by decide +kernel
theorem dX10_reach_36 : decode cX10_reach 36 = .ok (.iload 6, 2) := by decide +kernel
theorem dX10_reach_38 : decode cX10_reach 38 = .ok (.aload_n 0, 1) := by decide +kernel
theorem dX10_reach_39 : decode cX10_reach 39 = .ok (.getfield 13, 3) := by decide +kernel
theorem dX10_reach_42 : decode cX10_reach 42 = .ok (.iload_n 1, 1) := by decide +kernel
theorem dX10_reach_43 : decode cX10_reach 43 = .ok (.iaload, 1) := by decide +kernel
theorem dX10_reach_44 : decode cX10_reach 44 = .ok (.if_icmp .ge 38, 3) := by decide +kernel
theorem dX10_reach_47 : decode cX10_reach 47 = .ok (.iload 5, 2) := by decide +kernel
theorem dX10_reach_49 : decode cX10_reach 49 = .ok (.iload 4, 2) := by decide +kernel
theorem dX10_reach_51 : decode cX10_reach 51 = .ok (.iload 6, 2) := by decide +kernel
theorem dX10_reach_53 : decode cX10_reach 53 = .ok (.ishr, 1) := by decide +kernel
theorem dX10_reach_54 : decode cX10_reach 54 = .ok (.iconst 1, 1) := by decide +kernel
theorem dX10_reach_55 : decode cX10_reach 55 = .ok (.iand, 1) := by decide +kernel
theorem dX10_reach_56 : decode cX10_reach 56 = .ok (.iconst 1, 1) := by decide +kernel
theorem dX10_reach_57 : decode cX10_reach 57 = .ok (.if_icmp .ne 15, 3) := by decide +kernel
theorem dX10_reach_60 : decode cX10_reach 60 = .ok (.aload_n 0, 1) := by decide +kernel
theorem dX10_reach_61 : decode cX10_reach 61 = .ok (.iload_n 1, 1) := by decide +kernel
theorem dX10_reach_62 : decode cX10_reach 62 = .ok (.iload 6, 2) := by decide +kernel
theorem dX10_reach_64 : decode cX10_reach 64 = .ok (.invokevirtual 119, 3) := by decide +kernel
theorem dX10_reach_67 : decode cX10_reach 67 = .ok (.iload_n 2, 1) := by decide +kernel
theorem dX10_reach_68 : decode cX10_reach 68 = .ok (.iand, 1) := by decide +kernel
theorem dX10_reach_69 : decode cX10_reach 69 = .ok (.goto 4, 3) := by decide +kernel
theorem dX10_reach_72 : decode cX10_reach 72 = .ok (.iconst 0, 1) := by decide +kernel
theorem dX10_reach_73 : decode cX10_reach 73 = .ok (.ior, 1) := by decide +kernel
theorem dX10_reach_74 : decode cX10_reach 74 = .ok (.istore 5, 2) := by decide +kernel
theorem dX10_reach_76 : decode cX10_reach 76 = .ok (.iinc 6 1, 3) := by decide +kernel
theorem dX10_reach_79 : decode cX10_reach 79 = .ok (.goto (-43), 3) := by decide +kernel
theorem dX10_reach_82 : decode cX10_reach 82 = .ok (.goto (-69), 3) := by decide +kernel
theorem dX10_reach_85 : decode cX10_reach 85 = .ok (.iload 4, 2) := by decide +kernel
theorem dX10_reach_87 : decode cX10_reach 87 = .ok (.ireturn, 1) := by decide +kernel
set_option maxRecDepth 20000 in
theorem ggX10_partOf_X10_reach : GoodIn wsX10_partOf wsX10_reach := goodIn_r _ [5, 6, 7, 8, 9, 4, 10, 11, 12, 13, 14, 15, 16, 17, 18, 19, 20, 21, 22, 23, 24, 25, 26, 27, 28, 29, 30, 31, 32, 33, 34, 35, 36, 37, 38, 39, 40, 41, 42] (by decide +kernel) (by decide +kernel)
set_option maxRecDepth 20000 in
theorem gX10_partOf_X10_reach : GoodIn wsX10_partOf (wsV RX10 178 RX10 yX10_reach wsX10_reach) := goodIn_app (goodIn_of _ (by decide +kernel)) ggX10_partOf_X10_reach
theorem dX10_partOf_0 : decode cX10_partOf 0 = .ok (.aload_n 0, 1) := by decide +kernel
theorem dX10_partOf_1 : decode cX10_partOf 1 = .ok (.iload_n 1, 1) := by decide +kernel
theorem dX10_partOf_2 : decode cX10_partOf 2 = .ok (.iload_n 2, 1) := by decide +kernel
theorem dX10_partOf_3 : decode cX10_partOf 3 = .ok (.iload_n 3, 1) := by decide +kernel
theorem dX10_partOf_4 : decode cX10_partOf 4 = .ok (.invokevirtual 178, 3) := by decide +kernel
theorem dX10_partOf_7 : decode cX10_partOf 7 = .ok (.istore 4, 2) := by decide +kernel
theorem dX10_partOf_9 : decode cX10_partOf 9 = .ok (.iconst 0, 1) := by decide +kernel
theorem dX10_partOf_10 : decode cX10_partOf 10 = .ok (.istore 5, 2) := by decide +kernel
theorem dX10_partOf_12 : decode cX10_partOf 12 = .ok (.iload 5, 2) := by decide +kernel
theorem dX10_partOf_14 : decode cX10_partOf 14 = .ok (.iload_n 3, 1) := by decide +kernel
theorem dX10_partOf_15 : decode cX10_partOf 15 = .ok (.if_icmp .ge 39, 3) := by decide +kernel
theorem dX10_partOf_18 : decode cX10_partOf 18 = .ok (.iload 4, 2) := by decide +kernel
theorem dX10_partOf_20 : decode cX10_partOf 20 = .ok (.iload 5, 2) := by decide +kernel
theorem dX10_partOf_22 : decode cX10_partOf 22 = .ok (.ishr, 1) := by decide +kernel
theorem dX10_partOf_23 : decode cX10_partOf 23 = .ok (.iconst 1, 1) := by decide +kernel
theorem dX10_partOf_24 : decode cX10_partOf 24 = .ok (.iand, 1) := by decide +kernel
theorem dX10_partOf_25 : decode cX10_partOf 25 = .ok (.iconst 1, 1) := by decide +kernel
theorem dX10_partOf_26 : decode cX10_partOf 26 = .ok (.if_icmp .ne 22, 3) := by decide +kernel
theorem dX10_partOf_29 : decode cX10_partOf 29 = .ok (.aload_n 0, 1) := by decide +kernel
theorem dX10_partOf_30 : decode cX10_partOf 30 = .ok (.iload_n 1, 1) := by decide +kernel
theorem dX10_partOf_31 : decode cX10_partOf 31 = .ok (.iload_n 2, 1) := by decide +kernel
theorem dX10_partOf_32 : decode cX10_partOf 32 = .ok (.iload 5, 2) := by decide +kernel
theorem dX10_partOf_34 : decode cX10_partOf 34 = .ok (.invokevirtual 178, 3) := by decide +kernel
theorem dX10_partOf_37 : decode cX10_partOf 37 = .ok (.iload_n 3, 1) := by decide +kernel
theorem dX10_partOf_38 : decode cX10_partOf 38 = .ok (.ishr, 1) := by decide +kernel
theorem dX10_partOf_39 : decode cX10_partOf 39 = .ok (.iconst 1, 1) := by decide +kernel
theorem dX10_partOf_40 : decode cX10_partOf 40 = .ok (.iand, 1) := by decide +kernel
theorem dX10_partOf_41 : decode cX10_partOf 41 = .ok (.iconst 1, 1) := by decide +kernel
theorem dX10_partOf_42 : decode cX10_partOf 42 = .ok (.if_icmp .ne 6, 3) := by decide +kernel
theorem dX10_partOf_45 : decode cX10_partOf 45 = .ok (.iload 5, 2) := by decide +kernel
theorem dX10_partOf_47 : decode cX10_partOf 47 = .ok (.ireturn, 1) := by decide +kernel
theorem dX10_partOf_48 : decode cX10_partOf 48 = .ok (.iinc 5 1, 3) := by decide +kernel
theorem dX10_partOf_51 : decode cX10_partOf 51 = .ok (.goto (-39), 3) := by decide +kernel
theorem dX10_partOf_54 : decode cX10_partOf 54 = .ok (.iload_n 3, 1) := by decide +kernel
theorem dX10_partOf_55 : decode cX10_partOf 55 = .ok (.ireturn, 1) := by decide +kernel
set_option maxRecDepth 20000 in
theorem ggX10_part_X10_isState : GoodIn wsX10_part wsX10_isState := goodIn_r _ [5, 6, 7, 8, 9, 4, 10, 11, 12, 13, 14, 36, 37, 38, 39, 40, 41, 42, 43, 44, 45, 46, 47, 48, 49, 50, 51, 52, 53, 54, 55, 56, 57, 58, 59, 60, 61, 62] (by decide +kernel) (by decide +kernel)
set_option maxRecDepth 20000 in
theorem gX10_part_X10_isState : GoodIn wsX10_part (wsV RX10 98 RX10 yX10_isState wsX10_isState) := goodIn_app (goodIn_of _ (by decide +kernel)) ggX10_part_X10_isState
set_option maxRecDepth 20000 in
theorem ggX10_part_X10_liveOf : GoodIn wsX10_part wsX10_liveOf := goodIn_r _ [18, 6, 19, 20, 21, 4, 22, 23, 24, 25, 26, 27, 36, 37, 38, 39, 40, 41, 42, 43, 44, 45, 46, 47, 48, 49, 50, 51, 52, 53, 54, 55, 56, 57, 58, 59, 60, 61, 62] (by decide +kernel) (by decide +kernel)
set_option maxRecDepth 20000 in
theorem gX10_part_X10_liveOf : GoodIn wsX10_part (wsV RX10 122 RX10 yX10_liveOf wsX10_liveOf) := goodIn_app (goodIn_of _ (by decide +kernel)) ggX10_part_X10_liveOf
set_option maxRecDepth 20000 in
theorem ggX10_part_X10_partOf : GoodIn wsX10_part wsX10_partOf := goodIn_r _ [31, 32, 33, 34, 4, 35, 6, 19, 20, 21, 22, 23, 24, 25, 26, 27, 36, 37, 38, 39, 40, 41, 42, 43, 44, 45, 46, 47, 48, 49, 50, 51, 52, 53, 54, 55, 56, 57, 58, 59, 60, 61, 62] (by decide +kernel) (by decide +kernel)
set_option maxRecDepth 20000 in
theorem gX10_part_X10_partOf : GoodIn wsX10_part (wsV RX10 129 RX10 yX10_partOf wsX10_partOf) := goodIn_app (goodIn_of _ (by decide +kernel)) ggX10_part_X10_partOf
theorem dX10_part_0 : decode cX10_part 0 = .ok (.aload_n 0, 1) := by decide +kernel
theorem dX10_part_1 : decode cX10_part 1 = .ok (.iload_n 1, 1) := by decide +kernel
theorem dX10_part_2 : decode cX10_part 2 = .ok (.iload_n 2, 1) := by decide +kernel
theorem dX10_part_3 : decode cX10_part 3 = .ok (.invokevirtual 98, 3) := by decide +kernel
theorem dX10_part_6 : decode cX10_part 6 = .ok (.ifCond .ne 6, 3) := by decide +kernel
theorem dX10_part_9 : decode cX10_part 9 = .ok (.bipush (-2), 2) := by decide +kernel
theorem dX10_part_11 : decode cX10_part 11 = .ok (.ireturn, 1) := by decide +kernel
theorem dX10_part_12 : decode cX10_part 12 = .ok (.aload_n 0, 1) := by decide +kernel
theorem dX10_part_13 : decode cX10_part 13 = .ok (.iload_n 1, 1) := by decide +kernel
theorem dX10_part_14 : decode cX10_part 14 = .ok (.invokevirtual 122, 3) := by decide +kernel
theorem dX10_part_17 : decode cX10_part 17 = .ok (.istore_n 3, 1) := by decide +kernel
theorem dX10_part_18 : decode cX10_part 18 = .ok (.iload_n 3, 1) := by decide +kernel
theorem dX10_part_19 : decode cX10_part 19 = .ok (.iload_n 2, 1) := by decide +kernel
theorem dX10_part_20 : decode cX10_part 20 = .ok (.ishr, 1) := by decide +kernel
theorem dX10_part_21 : decode cX10_part 21 = .ok (.iconst 1, 1) := by decide +kernel
theorem dX10_part_22 : decode cX10_part 22 = .ok (.iand, 1) := by decide +kernel
theorem dX10_part_23 : decode cX10_part 23 = .ok (.ifCond .ne 7, 3) := by decide +kernel
theorem dX10_part_26 : decode cX10_part 26 = .ok (.iconst (-1), 1) := by decide +kernel
theorem dX10_part_27 : decode cX10_part 27 = .ok (.goto 10, 3) := by decide +kernel
theorem dX10_part_30 : decode cX10_part 30 = .ok (.aload_n 0, 1) := by decide +kernel
theorem dX10_part_31 : decode cX10_part 31 = .ok (.iload_n 1, 1) := by decide +kernel
theorem dX10_part_32 : decode cX10_part 32 = .ok (.iload_n 3, 1) := by decide +kernel
theorem dX10_part_33 : decode cX10_part 33 = .ok (.iload_n 2, 1) := by decide +kernel
theorem dX10_part_34 : decode cX10_part 34 = .ok (.invokevirtual 129, 3) := by decide +kernel
theorem dX10_part_37 : decode cX10_part 37 = .ok (.ireturn, 1) := by decide +kernel
set_option maxRecDepth 20000 in
theorem ggX10_pace_X10_isState : GoodIn wsX10_pace wsX10_isState := goodIn_r _ [7, 1, 8, 9, 10, 6, 11, 12, 13, 14, 15, 40, 41, 42, 43, 44, 45, 46, 47, 48, 49, 50, 51, 52, 53, 54, 55, 56, 57, 58, 59, 60, 61, 62, 63, 64, 65, 66] (by decide +kernel) (by decide +kernel)
set_option maxRecDepth 20000 in
theorem gX10_pace_X10_isState : GoodIn wsX10_pace (wsV RX10 98 RX10 yX10_isState wsX10_isState) := goodIn_app (goodIn_of _ (by decide +kernel)) ggX10_pace_X10_isState
set_option maxRecDepth 20000 in
theorem ggX10_pace_X10_liveOf : GoodIn wsX10_pace wsX10_liveOf := goodIn_r _ [19, 1, 20, 21, 22, 6, 23, 24, 25, 26, 27, 28, 40, 41, 42, 43, 44, 45, 46, 47, 48, 49, 50, 51, 52, 53, 54, 55, 56, 57, 58, 59, 60, 61, 62, 63, 64, 65, 66] (by decide +kernel) (by decide +kernel)
set_option maxRecDepth 20000 in
theorem gX10_pace_X10_liveOf : GoodIn wsX10_pace (wsV RX10 122 RX10 yX10_liveOf wsX10_liveOf) := goodIn_app (goodIn_of _ (by decide +kernel)) ggX10_pace_X10_liveOf
set_option maxRecDepth 20000 in
theorem ggX10_pace_X10_reach : GoodIn wsX10_pace wsX10_reach := goodIn_r _ [32, 1, 20, 21, 22, 6, 23, 24, 25, 26, 27, 28, 40, 41, 42, 43, 44, 45, 46, 47, 48, 49, 50, 51, 52, 53, 54, 55, 56, 57, 58, 59, 60, 61, 62, 63, 64, 65, 66] (by decide +kernel) (by decide +kernel)
set_option maxRecDepth 20000 in
theorem gX10_pace_X10_reach : GoodIn wsX10_pace (wsV RX10 178 RX10 yX10_reach wsX10_reach) := goodIn_app (goodIn_of _ (by decide +kernel)) ggX10_pace_X10_reach
set_option maxRecDepth 20000 in
theorem ggX10_pace_X10_waysBetween : GoodIn wsX10_pace wsX10_waysBetween := goodIn_r _ [36, 24, 25, 26, 27, 6, 28, 40, 41, 42, 43, 44, 45, 46, 47, 48, 49, 50, 51, 52, 53, 54, 55, 56, 57, 58, 59, 60, 61, 62, 63, 64, 65, 66] (by decide +kernel) (by decide +kernel)
set_option maxRecDepth 20000 in
theorem gX10_pace_X10_waysBetween : GoodIn wsX10_pace (wsV RX10 138 RX10 yX10_waysBetween wsX10_waysBetween) := goodIn_app (goodIn_of _ (by decide +kernel)) ggX10_pace_X10_waysBetween
set_option maxRecDepth 20000 in
theorem ggX10_pace_X10_common : GoodIn wsX10_pace wsX10_common := goodIn_r _ [39] (by decide +kernel) (by decide +kernel)
set_option maxRecDepth 20000 in
theorem gX10_pace_X10_common : GoodIn wsX10_pace (va_wsS RX10 155 yX10_common wsX10_common) := goodIn_app (goodIn_of _ (by decide +kernel)) ggX10_pace_X10_common
theorem dX10_pace_0 : decode cX10_pace 0 = .ok (.aload_n 0, 1) := by decide +kernel
theorem dX10_pace_1 : decode cX10_pace 1 = .ok (.iload_n 1, 1) := by decide +kernel
theorem dX10_pace_2 : decode cX10_pace 2 = .ok (.iload_n 2, 1) := by decide +kernel
theorem dX10_pace_3 : decode cX10_pace 3 = .ok (.invokevirtual 98, 3) := by decide +kernel
theorem dX10_pace_6 : decode cX10_pace 6 = .ok (.ifCond .ne 6, 3) := by decide +kernel
theorem dX10_pace_9 : decode cX10_pace 9 = .ok (.bipush (-2), 2) := by decide +kernel
theorem dX10_pace_11 : decode cX10_pace 11 = .ok (.ireturn, 1) := by decide +kernel
theorem dX10_pace_12 : decode cX10_pace 12 = .ok (.aload_n 0, 1) := by decide +kernel
theorem dX10_pace_13 : decode cX10_pace 13 = .ok (.iload_n 1, 1) := by decide +kernel
theorem dX10_pace_14 : decode cX10_pace 14 = .ok (.invokevirtual 122, 3) := by decide +kernel
theorem dX10_pace_17 : decode cX10_pace 17 = .ok (.istore_n 3, 1) := by decide +kernel
theorem dX10_pace_18 : decode cX10_pace 18 = .ok (.iload_n 3, 1) := by decide +kernel
theorem dX10_pace_19 : decode cX10_pace 19 = .ok (.iload_n 2, 1) := by decide +kernel
theorem dX10_pace_20 : decode cX10_pace 20 = .ok (.ishr, 1) := by decide +kernel
theorem dX10_pace_21 : decode cX10_pace 21 = .ok (.iconst 1, 1) := by decide +kernel
theorem dX10_pace_22 : decode cX10_pace 22 = .ok (.iand, 1) := by decide +kernel
theorem dX10_pace_23 : decode cX10_pace 23 = .ok (.ifCond .ne 5, 3) := by decide +kernel
theorem dX10_pace_26 : decode cX10_pace 26 = .ok (.iconst (-1), 1) := by decide +kernel
theorem dX10_pace_27 : decode cX10_pace 27 = .ok (.ireturn, 1) := by decide +kernel
theorem dX10_pace_28 : decode cX10_pace 28 = .ok (.iconst 0, 1) := by decide +kernel
theorem dX10_pace_29 : decode cX10_pace 29 = .ok (.istore 4, 2) := by decide +kernel
theorem dX10_pace_31 : decode cX10_pace 31 = .ok (.aload_n 0, 1) := by decide +kernel
theorem dX10_pace_32 : decode cX10_pace 32 = .ok (.iload_n 1, 1) := by decide +kernel
theorem dX10_pace_33 : decode cX10_pace 33 = .ok (.iload_n 3, 1) := by decide +kernel
theorem dX10_pace_34 : decode cX10_pace 34 = .ok (.iload_n 2, 1) := by decide +kernel
theorem dX10_pace_35 : decode cX10_pace 35 = .ok (.invokevirtual 178, 3) := by decide +kernel
theorem dX10_pace_38 : decode cX10_pace 38 = .ok (.istore 5, 2) := by decide +kernel
theorem dX10_pace_40 : decode cX10_pace 40 = .ok (.iconst 0, 1) := by decide +kernel
theorem dX10_pace_41 : decode cX10_pace 41 = .ok (.istore 6, 2) := by decide +kernel
theorem dX10_pace_43 : decode cX10_pace 43 = .ok (.iload 6, 2) := by decide +kernel
theorem dX10_pace_45 : decode cX10_pace 45 = .ok (.aload_n 0, 1) := by decide +kernel
theorem dX10_pace_46 : decode cX10_pace 46 = .ok (.getfield 13, 3) := by decide +kernel
theorem dX10_pace_49 : decode cX10_pace 49 = .ok (.iload_n 1, 1) := by decide +kernel
theorem dX10_pace_50 : decode cX10_pace 50 = .ok (.iaload, 1) := by decide +kernel
theorem dX10_pace_51 : decode cX10_pace 51 = .ok (.if_icmp .ge 49, 3) := by decide +kernel
theorem dX10_pace_54 : decode cX10_pace 54 = .ok (.iload 4, 2) := by decide +kernel
theorem dX10_pace_56 : decode cX10_pace 56 = .ok (.iload 5, 2) := by decide +kernel
theorem dX10_pace_58 : decode cX10_pace 58 = .ok (.iload 6, 2) := by decide +kernel
theorem dX10_pace_60 : decode cX10_pace 60 = .ok (.ishr, 1) := by decide +kernel
theorem dX10_pace_61 : decode cX10_pace 61 = .ok (.iconst 1, 1) := by decide +kernel
theorem dX10_pace_62 : decode cX10_pace 62 = .ok (.iand, 1) := by decide +kernel
theorem dX10_pace_63 : decode cX10_pace 63 = .ok (.iconst 1, 1) := by decide +kernel
theorem dX10_pace_64 : decode cX10_pace 64 = .ok (.if_icmp .ne 26, 3) := by decide +kernel
theorem dX10_pace_67 : decode cX10_pace 67 = .ok (.aload_n 0, 1) := by decide +kernel
theorem dX10_pace_68 : decode cX10_pace 68 = .ok (.iload_n 1, 1) := by decide +kernel
theorem dX10_pace_69 : decode cX10_pace 69 = .ok (.iload_n 3, 1) := by decide +kernel
theorem dX10_pace_70 : decode cX10_pace 70 = .ok (.iload 6, 2) := by decide +kernel
theorem dX10_pace_72 : decode cX10_pace 72 = .ok (.invokevirtual 178, 3) := by decide +kernel
theorem dX10_pace_75 : decode cX10_pace 75 = .ok (.iload_n 2, 1) := by decide +kernel
theorem dX10_pace_76 : decode cX10_pace 76 = .ok (.ishr, 1) := by decide +kernel
theorem dX10_pace_77 : decode cX10_pace 77 = .ok (.iconst 1, 1) := by decide +kernel
theorem dX10_pace_78 : decode cX10_pace 78 = .ok (.iand, 1) := by decide +kernel
theorem dX10_pace_79 : decode cX10_pace 79 = .ok (.iconst 1, 1) := by decide +kernel
theorem dX10_pace_80 : decode cX10_pace 80 = .ok (.if_icmp .ne 10, 3) := by decide +kernel
theorem dX10_pace_83 : decode cX10_pace 83 = .ok (.iconst 1, 1) := by decide +kernel
theorem dX10_pace_84 : decode cX10_pace 84 = .ok (.iload 6, 2) := by decide +kernel
theorem dX10_pace_86 : decode cX10_pace 86 = .ok (.ishl, 1) := by decide +kernel
theorem dX10_pace_87 : decode cX10_pace 87 = .ok (.goto 4, 3) := by decide +kernel
theorem dX10_pace_90 : decode cX10_pace 90 = .ok (.iconst 0, 1) := by decide +kernel
theorem dX10_pace_91 : decode cX10_pace 91 = .ok (.ior, 1) := by decide +kernel
theorem dX10_pace_92 : decode cX10_pace 92 = .ok (.istore 4, 2) := by decide +kernel
theorem dX10_pace_94 : decode cX10_pace 94 = .ok (.iinc 6 1, 3) := by decide +kernel
theorem dX10_pace_97 : decode cX10_pace 97 = .ok (.goto (-54), 3) := by decide +kernel
theorem dX10_pace_100 : decode cX10_pace 100 = .ok (.iload 4, 2) := by decide +kernel
theorem dX10_pace_102 : decode cX10_pace 102 = .ok (.ifCond .ne 5, 3) := by decide +kernel
theorem dX10_pace_105 : decode cX10_pace 105 = .ok (.iconst 0, 1) := by decide +kernel
theorem dX10_pace_106 : decode cX10_pace 106 = .ok (.ireturn, 1) := by decide +kernel
theorem dX10_pace_107 : decode cX10_pace 107 = .ok (.iconst 0, 1) := by decide +kernel
theorem dX10_pace_108 : decode cX10_pace 108 = .ok (.istore 6, 2) := by decide +kernel
theorem dX10_pace_110 : decode cX10_pace 110 = .ok (.iload 6, 2) := by decide +kernel
theorem dX10_pace_112 : decode cX10_pace 112 = .ok (.bipush 16, 2) := by decide +kernel
theorem dX10_pace_114 : decode cX10_pace 114 = .ok (.if_icmp .ge 17, 3) := by decide +kernel
theorem dX10_pace_117 : decode cX10_pace 117 = .ok (.aload_n 0, 1) := by decide +kernel
theorem dX10_pace_118 : decode cX10_pace 118 = .ok (.getfield 77, 3) := by decide +kernel
theorem dX10_pace_121 : decode cX10_pace 121 = .ok (.iload 6, 2) := by decide +kernel
theorem dX10_pace_123 : decode cX10_pace 123 = .ok (.iconst (-1), 1) := by decide +kernel
theorem dX10_pace_124 : decode cX10_pace 124 = .ok (.iastore, 1) := by decide +kernel
theorem dX10_pace_125 : decode cX10_pace 125 = .ok (.iinc 6 1, 3) := by decide +kernel
theorem dX10_pace_128 : decode cX10_pace 128 = .ok (.goto (-18), 3) := by decide +kernel
theorem dX10_pace_131 : decode cX10_pace 131 = .ok (.aload_n 0, 1) := by decide +kernel
theorem dX10_pace_132 : decode cX10_pace 132 = .ok (.getfield 77, 3) := by decide +kernel
theorem dX10_pace_135 : decode cX10_pace 135 = .ok (.iload_n 2, 1) := by decide +kernel
theorem dX10_pace_136 : decode cX10_pace 136 = .ok (.iconst 0, 1) := by decide +kernel
theorem dX10_pace_137 : decode cX10_pace 137 = .ok (.iastore, 1) := by decide +kernel
theorem dX10_pace_138 : decode cX10_pace 138 = .ok (.iconst 1, 1) := by decide +kernel
theorem dX10_pace_139 : decode cX10_pace 139 = .ok (.istore 6, 2) := by decide +kernel
theorem dX10_pace_141 : decode cX10_pace 141 = .ok (.iload 6, 2) := by decide +kernel
theorem dX10_pace_143 : decode cX10_pace 143 = .ok (.ifCond .eq 111, 3) := by decide +kernel
theorem dX10_pace_146 : decode cX10_pace 146 = .ok (.iconst 0, 1) := by decide +kernel
theorem dX10_pace_147 : decode cX10_pace 147 = .ok (.istore 6, 2) := by decide +kernel
theorem dX10_pace_149 : decode cX10_pace 149 = .ok (.iconst 0, 1) := by decide +kernel
theorem dX10_pace_150 : decode cX10_pace 150 = .ok (.istore 7, 2) := by decide +kernel
theorem dX10_pace_152 : decode cX10_pace 152 = .ok (.iload 7, 2) := by decide +kernel
theorem dX10_pace_154 : decode cX10_pace 154 = .ok (.aload_n 0, 1) := by decide +kernel
theorem dX10_pace_155 : decode cX10_pace 155 = .ok (.getfield 13, 3) := by decide +kernel
theorem dX10_pace_158 : decode cX10_pace 158 = .ok (.iload_n 1, 1) := by decide +kernel
theorem dX10_pace_159 : decode cX10_pace 159 = .ok (.iaload, 1) := by decide +kernel
theorem dX10_pace_160 : decode cX10_pace 160 = .ok (.if_icmp .ge 91, 3) := by decide +kernel
theorem dX10_pace_163 : decode cX10_pace 163 = .ok (.iconst 0, 1) := by decide +kernel
theorem dX10_pace_164 : decode cX10_pace 164 = .ok (.istore 8, 2) := by decide +kernel
theorem dX10_pace_166 : decode cX10_pace 166 = .ok (.iload 8, 2) := by decide +kernel
theorem dX10_pace_168 : decode cX10_pace 168 = .ok (.aload_n 0, 1) := by decide +kernel
theorem dX10_pace_169 : decode cX10_pace 169 = .ok (.getfield 13, 3) := by decide +kernel
theorem dX10_pace_172 : decode cX10_pace 172 = .ok (.iload_n 1, 1) := by decide +kernel
theorem dX10_pace_173 : decode cX10_pace 173 = .ok (.iaload, 1) := by decide +kernel
theorem dX10_pace_174 : decode cX10_pace 174 = .ok (.if_icmp .ge 71, 3) := by decide +kernel
theorem dX10_pace_177 : decode cX10_pace 177 = .ok (.aload_n 0, 1) := by decide +kernel
theorem dX10_pace_178 : decode cX10_pace 178 = .ok (.getfield 77, 3) := by decide +kernel
theorem dX10_pace_181 : decode cX10_pace 181 = .ok (.iload 7, 2) := by decide +kernel
theorem dX10_pace_183 : decode cX10_pace 183 = .ok (.iaload, 1) := by decide +kernel
theorem dX10_pace_184 : decode cX10_pace 184 = .ok (.ifCond .lt 55, 3) := by decide +kernel
theorem dX10_pace_187 : decode cX10_pace 187 = .ok (.aload_n 0, 1) := by decide +kernel
theorem dX10_pace_188 : decode cX10_pace 188 = .ok (.getfield 77, 3) := by decide +kernel
theorem dX10_pace_191 : decode cX10_pace 191 = .ok (.iload 8, 2) := by decide +kernel
theorem dX10_pace_193 : decode cX10_pace 193 = .ok (.iaload, 1) := by decide +kernel
theorem dX10_pace_194 : decode cX10_pace 194 = .ok (.ifCond .ge 45, 3) := by decide +kernel
theorem dX10_pace_197 : decode cX10_pace 197 = .ok (.iload 4, 2) := by decide +kernel
theorem dX10_pace_199 : decode cX10_pace 199 = .ok (.iload 8, 2) := by decide +kernel
theorem dX10_pace_201 : decode cX10_pace 201 = .ok (.ishr, 1) := by decide +kernel
theorem dX10_pace_202 : decode cX10_pace 202 = .ok (.iconst 1, 1) := by decide +kernel
theorem dX10_pace_203 : decode cX10_pace 203 = .ok (.iand, 1) := by decide +kernel
theorem dX10_pace_204 : decode cX10_pace 204 = .ok (.iconst 1, 1) := by decide +kernel
theorem dX10_pace_205 : decode cX10_pace 205 = .ok (.if_icmp .ne 34, 3) := by decide +kernel
theorem dX10_pace_208 : decode cX10_pace 208 = .ok (.aload_n 0, 1) := by decide +kernel
theorem dX10_pace_209 : decode cX10_pace 209 = .ok (.iload_n 1, 1) := by decide +kernel
theorem dX10_pace_210 : decode cX10_pace 210 = .ok (.iload 7, 2) := by decide +kernel
theorem dX10_pace_212 : decode cX10_pace 212 = .ok (.iload 8, 2) := by decide +kernel
theorem dX10_pace_214 : decode cX10_pace 214 = .ok (.invokevirtual 138, 3) := by decide +kernel
theorem dX10_pace_217 : decode cX10_pace 217 = .ok (.ifCond .le 22, 3) := by decide +kernel
theorem dX10_pace_220 : decode cX10_pace 220 = .ok (.aload_n 0, 1) := by decide +kernel
theorem dX10_pace_221 : decode cX10_pace 221 = .ok (.getfield 77, 3) := by decide +kernel
theorem dX10_pace_224 : decode cX10_pace 224 = .ok (.iload 8, 2) := by decide +kernel
theorem dX10_pace_226 : decode cX10_pace 226 = .ok (.aload_n 0, 1) := by decide +kernel
theorem dX10_pace_227 : decode cX10_pace 227 = .ok (.getfield 77, 3) := by decide +kernel
theorem dX10_pace_230 : decode cX10_pace 230 = .ok (.iload 7, 2) := by decide +kernel
theorem dX10_pace_232 : decode cX10_pace 232 = .ok (.iaload, 1) := by decide +kernel
theorem dX10_pace_233 : decode cX10_pace 233 = .ok (.iconst 1, 1) := by decide +kernel
theorem dX10_pace_234 : decode cX10_pace 234 = .ok (.iadd, 1) := by decide +kernel
theorem dX10_pace_235 : decode cX10_pace 235 = .ok (.iastore, 1) := by decide +kernel
theorem dX10_pace_236 : decode cX10_pace 236 = .ok (.iconst 1, 1) := by decide +kernel
theorem dX10_pace_237 : decode cX10_pace 237 = .ok (.istore 6, 2) := by decide +kernel
theorem dX10_pace_239 : decode cX10_pace 239 = .ok (.iinc 8 1, 3) := by decide +kernel
theorem dX10_pace_242 : decode cX10_pace 242 = .ok (.goto (-76), 3) := by decide +kernel
theorem dX10_pace_245 : decode cX10_pace 245 = .ok (.iinc 7 1, 3) := by decide +kernel
theorem dX10_pace_248 : decode cX10_pace 248 = .ok (.goto (-96), 3) := by decide +kernel
theorem dX10_pace_251 : decode cX10_pace 251 = .ok (.goto (-110), 3) := by decide +kernel
theorem dX10_pace_254 : decode cX10_pace 254 = .ok (.lconst 0, 1) := by decide +kernel
theorem dX10_pace_255 : decode cX10_pace 255 = .ok (.lstore 7, 2) := by decide +kernel
theorem dX10_pace_257 : decode cX10_pace 257 = .ok (.iconst 0, 1) := by decide +kernel
theorem dX10_pace_258 : decode cX10_pace 258 = .ok (.istore 9, 2) := by decide +kernel
theorem dX10_pace_260 : decode cX10_pace 260 = .ok (.iload 9, 2) := by decide +kernel
theorem dX10_pace_262 : decode cX10_pace 262 = .ok (.aload_n 0, 1) := by decide +kernel
theorem dX10_pace_263 : decode cX10_pace 263 = .ok (.getfield 13, 3) := by decide +kernel
theorem dX10_pace_266 : decode cX10_pace 266 = .ok (.iload_n 1, 1) := by decide +kernel
theorem dX10_pace_267 : decode cX10_pace 267 = .ok (.iaload, 1) := by decide +kernel
theorem dX10_pace_268 : decode cX10_pace 268 = .ok (.if_icmp .ge 105, 3) := by decide +kernel
theorem dX10_pace_271 : decode cX10_pace 271 = .ok (.iconst 0, 1) := by decide +kernel
theorem dX10_pace_272 : decode cX10_pace 272 = .ok (.istore 10, 2) := by decide +kernel
theorem dX10_pace_274 : decode cX10_pace 274 = .ok (.iload 10, 2) := by decide +kernel
theorem dX10_pace_276 : decode cX10_pace 276 = .ok (.aload_n 0, 1) := by decide +kernel
theorem dX10_pace_277 : decode cX10_pace 277 = .ok (.getfield 13, 3) := by decide +kernel
theorem dX10_pace_280 : decode cX10_pace 280 = .ok (.iload_n 1, 1) := by decide +kernel
theorem dX10_pace_281 : decode cX10_pace 281 = .ok (.iaload, 1) := by decide +kernel
theorem dX10_pace_282 : decode cX10_pace 282 = .ok (.if_icmp .ge 85, 3) := by decide +kernel
theorem dX10_pace_285 : decode cX10_pace 285 = .ok (.iload 4, 2) := by decide +kernel
theorem dX10_pace_287 : decode cX10_pace 287 = .ok (.iload 9, 2) := by decide +kernel
theorem dX10_pace_289 : decode cX10_pace 289 = .ok (.ishr, 1) := by decide +kernel
theorem dX10_pace_290 : decode cX10_pace 290 = .ok (.iconst 1, 1) := by decide +kernel
theorem dX10_pace_291 : decode cX10_pace 291 = .ok (.iand, 1) := by decide +kernel
theorem dX10_pace_292 : decode cX10_pace 292 = .ok (.iconst 1, 1) := by decide +kernel
theorem dX10_pace_293 : decode cX10_pace 293 = .ok (.if_icmp .ne 68, 3) := by decide +kernel
theorem dX10_pace_296 : decode cX10_pace 296 = .ok (.iload 4, 2) := by decide +kernel
theorem dX10_pace_298 : decode cX10_pace 298 = .ok (.iload 10, 2) := by decide +kernel
theorem dX10_pace_300 : decode cX10_pace 300 = .ok (.ishr, 1) := by decide +kernel
theorem dX10_pace_301 : decode cX10_pace 301 = .ok (.iconst 1, 1) := by decide +kernel
theorem dX10_pace_302 : decode cX10_pace 302 = .ok (.iand, 1) := by decide +kernel
theorem dX10_pace_303 : decode cX10_pace 303 = .ok (.iconst 1, 1) := by decide +kernel
theorem dX10_pace_304 : decode cX10_pace 304 = .ok (.if_icmp .ne 57, 3) := by decide +kernel
theorem dX10_pace_307 : decode cX10_pace 307 = .ok (.aload_n 0, 1) := by decide +kernel
theorem dX10_pace_308 : decode cX10_pace 308 = .ok (.iload_n 1, 1) := by decide +kernel
theorem dX10_pace_309 : decode cX10_pace 309 = .ok (.iload 9, 2) := by decide +kernel
theorem dX10_pace_311 : decode cX10_pace 311 = .ok (.iload 10, 2) := by decide +kernel
theorem dX10_pace_313 : decode cX10_pace 313 = .ok (.invokevirtual 138, 3) := by decide +kernel
theorem dX10_pace_316 : decode cX10_pace 316 = .ok (.ifCond .le 45, 3) := by decide +kernel
theorem dX10_pace_319 : decode cX10_pace 319 = .ok (.aload_n 0, 1) := by decide +kernel
theorem dX10_pace_320 : decode cX10_pace 320 = .ok (.getfield 77, 3) := by decide +kernel
theorem dX10_pace_323 : decode cX10_pace 323 = .ok (.iload 9, 2) := by decide +kernel
theorem dX10_pace_325 : decode cX10_pace 325 = .ok (.iaload, 1) := by decide +kernel
theorem dX10_pace_326 : decode cX10_pace 326 = .ok (.iconst 1, 1) := by decide +kernel
theorem dX10_pace_327 : decode cX10_pace 327 = .ok (.iadd, 1) := by decide +kernel
theorem dX10_pace_328 : decode cX10_pace 328 = .ok (.aload_n 0, 1) := by decide +kernel
theorem dX10_pace_329 : decode cX10_pace 329 = .ok (.getfield 77, 3) := by decide +kernel
theorem dX10_pace_332 : decode cX10_pace 332 = .ok (.iload 10, 2) := by decide +kernel
theorem dX10_pace_334 : decode cX10_pace 334 = .ok (.iaload, 1) := by decide +kernel
theorem dX10_pace_335 : decode cX10_pace 335 = .ok (.isub, 1) := by decide +kernel
theorem dX10_pace_336 : decode cX10_pace 336 = .ok (.i2l, 1) := by decide +kernel
theorem dX10_pace_337 : decode cX10_pace 337 = .ok (.lstore 11, 2) := by decide +kernel
theorem dX10_pace_339 : decode cX10_pace 339 = .ok (.lload 7, 2) := by decide +kernel
theorem dX10_pace_341 : decode cX10_pace 341 = .ok (.lload 11, 2) := by decide +kernel
theorem dX10_pace_343 : decode cX10_pace 343 = .ok (.lconst 0, 1) := by decide +kernel
theorem dX10_pace_344 : decode cX10_pace 344 = .ok (.lcmp, 1) := by decide +kernel
theorem dX10_pace_345 : decode cX10_pace 345 = .ok (.ifCond .ge 9, 3) := by decide +kernel
theorem dX10_pace_348 : decode cX10_pace 348 = .ok (.lload 11, 2) := by decide +kernel
theorem dX10_pace_350 : decode cX10_pace 350 = .ok (.lneg, 1) := by decide +kernel
theorem dX10_pace_351 : decode cX10_pace 351 = .ok (.goto 5, 3) := by decide +kernel
theorem dX10_pace_354 : decode cX10_pace 354 = .ok (.lload 11, 2) := by decide +kernel
theorem dX10_pace_356 : decode cX10_pace 356 = .ok (.invokestatic 155, 3) := by decide +kernel
theorem dX10_pace_359 : decode cX10_pace 359 = .ok (.lstore 7, 2) := by decide +kernel
theorem dX10_pace_361 : decode cX10_pace 361 = .ok (.iinc 10 1, 3) := by decide +kernel
theorem dX10_pace_364 : decode cX10_pace 364 = .ok (.goto (-90), 3) := by decide +kernel
theorem dX10_pace_367 : decode cX10_pace 367 = .ok (.iinc 9 1, 3) := by decide +kernel
theorem dX10_pace_370 : decode cX10_pace 370 = .ok (.goto (-110), 3) := by decide +kernel
theorem dX10_pace_373 : decode cX10_pace 373 = .ok (.lload 7, 2) := by decide +kernel
theorem dX10_pace_375 : decode cX10_pace 375 = .ok (.l2i, 1) := by decide +kernel
theorem dX10_pace_376 : decode cX10_pace 376 = .ok (.ireturn, 1) := by decide +kernel
set_option maxRecDepth 20000 in
theorem ggX10_window_X10_in : GoodIn wsX10_window wsX10_in := goodIn_r _ [6] (by decide +kernel) (by decide +kernel)
set_option maxRecDepth 20000 in
theorem gX10_window_X10_in : GoodIn wsX10_window (va_wsS RX10 86 yX10_in wsX10_in) := goodIn_app (goodIn_of _ (by decide +kernel)) ggX10_window_X10_in
theorem dX10_window_0 : decode cX10_window 0 = .ok (.iload_n 1, 1) := by decide +kernel
theorem dX10_window_1 : decode cX10_window 1 = .ok (.iconst 1, 1) := by decide +kernel
theorem dX10_window_2 : decode cX10_window 2 = .ok (.iconst 3, 1) := by decide +kernel
theorem dX10_window_3 : decode cX10_window 3 = .ok (.invokestatic 86, 3) := by decide +kernel
theorem dX10_window_6 : decode cX10_window 6 = .ok (.ifCond .ne 6, 3) := by decide +kernel
theorem dX10_window_9 : decode cX10_window 9 = .ok (.bipush (-2), 2) := by decide +kernel
theorem dX10_window_11 : decode cX10_window 11 = .ok (.ireturn, 1) := by decide +kernel
theorem dX10_window_12 : decode cX10_window 12 = .ok (.aload_n 0, 1) := by decide +kernel
theorem dX10_window_13 : decode cX10_window 13 = .ok (.iload_n 1, 1) := by decide +kernel
theorem dX10_window_14 : decode cX10_window 14 = .ok (.putfield 28, 3) := by decide +kernel
theorem dX10_window_17 : decode cX10_window 17 = .ok (.iconst 0, 1) := by decide +kernel
theorem dX10_window_18 : decode cX10_window 18 = .ok (.istore_n 2, 1) := by decide +kernel
theorem dX10_window_19 : decode cX10_window 19 = .ok (.iload_n 2, 1) := by decide +kernel
theorem dX10_window_20 : decode cX10_window 20 = .ok (.bipush 64, 2) := by decide +kernel
theorem dX10_window_22 : decode cX10_window 22 = .ok (.if_icmp .ge 16, 3) := by decide +kernel
theorem dX10_window_25 : decode cX10_window 25 = .ok (.aload_n 0, 1) := by decide +kernel
theorem dX10_window_26 : decode cX10_window 26 = .ok (.getfield 32, 3) := by decide +kernel
theorem dX10_window_29 : decode cX10_window 29 = .ok (.iload_n 2, 1) := by decide +kernel
theorem dX10_window_30 : decode cX10_window 30 = .ok (.iconst 0, 1) := by decide +kernel
theorem dX10_window_31 : decode cX10_window 31 = .ok (.iastore, 1) := by decide +kernel
theorem dX10_window_32 : decode cX10_window 32 = .ok (.iinc 2 1, 3) := by decide +kernel
theorem dX10_window_35 : decode cX10_window 35 = .ok (.goto (-16), 3) := by decide +kernel
theorem dX10_window_38 : decode cX10_window 38 = .ok (.iconst 1, 1) := by decide +kernel
theorem dX10_window_39 : decode cX10_window 39 = .ok (.ireturn, 1) := by decide +kernel
theorem dX10_windowRows_0 : decode cX10_windowRows 0 = .ok (.iconst 1, 1) := by decide +kernel
theorem dX10_windowRows_1 : decode cX10_windowRows 1 = .ok (.iconst 2, 1) := by decide +kernel
theorem dX10_windowRows_2 : decode cX10_windowRows 2 = .ok (.aload_n 0, 1) := by decide +kernel
theorem dX10_windowRows_3 : decode cX10_windowRows 3 = .ok (.getfield 28, 3) := by decide +kernel
theorem dX10_windowRows_6 : decode cX10_windowRows 6 = .ok (.imul, 1) := by decide +kernel
theorem dX10_windowRows_7 : decode cX10_windowRows 7 = .ok (.ishl, 1) := by decide +kernel
theorem dX10_windowRows_8 : decode cX10_windowRows 8 = .ok (.ireturn, 1) := by decide +kernel
set_option maxRecDepth 20000 in
theorem ggX10_tells_X10_windowRows : GoodIn wsX10_tells wsX10_windowRows := goodIn_r _ [6, 7, 11, 12, 13, 14, 15, 16, 17, 18, 19, 20, 21, 22, 23, 24, 25, 26, 27, 28, 29, 30, 31, 32, 33, 34, 35, 36, 37] (by decide +kernel) (by decide +kernel)
set_option maxRecDepth 20000 in
theorem gX10_tells_X10_windowRows : GoodIn wsX10_tells (wsV RX10 181 RX10 yX10_windowRows wsX10_windowRows) := goodIn_app (goodIn_of _ (by decide +kernel)) ggX10_tells_X10_windowRows
set_option maxRecDepth 20000 in
theorem ggX10_tells_X10_in : GoodIn wsX10_tells wsX10_in := goodIn_r _ [10] (by decide +kernel) (by decide +kernel)
set_option maxRecDepth 20000 in
theorem gX10_tells_X10_in : GoodIn wsX10_tells (va_wsS RX10 86 yX10_in wsX10_in) := goodIn_app (goodIn_of _ (by decide +kernel)) ggX10_tells_X10_in
theorem dX10_tells_0 : decode cX10_tells 0 = .ok (.iload_n 1, 1) := by decide +kernel
theorem dX10_tells_1 : decode cX10_tells 1 = .ok (.iconst 0, 1) := by decide +kernel
theorem dX10_tells_2 : decode cX10_tells 2 = .ok (.aload_n 0, 1) := by decide +kernel
theorem dX10_tells_3 : decode cX10_tells 3 = .ok (.invokevirtual 181, 3) := by decide +kernel
theorem dX10_tells_6 : decode cX10_tells 6 = .ok (.iconst 1, 1) := by decide +kernel
theorem dX10_tells_7 : decode cX10_tells 7 = .ok (.isub, 1) := by decide +kernel
theorem dX10_tells_8 : decode cX10_tells 8 = .ok (.invokestatic 86, 3) := by decide +kernel
theorem dX10_tells_11 : decode cX10_tells 11 = .ok (.ifCond .eq 12, 3) := by decide +kernel
theorem dX10_tells_14 : decode cX10_tells 14 = .ok (.iload_n 2, 1) := by decide +kernel
theorem dX10_tells_15 : decode cX10_tells 15 = .ok (.iconst 0, 1) := by decide +kernel
theorem dX10_tells_16 : decode cX10_tells 16 = .ok (.iconst 3, 1) := by decide +kernel
theorem dX10_tells_17 : decode cX10_tells 17 = .ok (.invokestatic 86, 3) := by decide +kernel
theorem dX10_tells_20 : decode cX10_tells 20 = .ok (.ifCond .ne 6, 3) := by decide +kernel
theorem dX10_tells_23 : decode cX10_tells 23 = .ok (.bipush (-2), 2) := by decide +kernel
theorem dX10_tells_25 : decode cX10_tells 25 = .ok (.ireturn, 1) := by decide +kernel
theorem dX10_tells_26 : decode cX10_tells 26 = .ok (.aload_n 0, 1) := by decide +kernel
theorem dX10_tells_27 : decode cX10_tells 27 = .ok (.getfield 32, 3) := by decide +kernel
theorem dX10_tells_30 : decode cX10_tells 30 = .ok (.iload_n 1, 1) := by decide +kernel
theorem dX10_tells_31 : decode cX10_tells 31 = .ok (.iaload, 1) := by decide +kernel
theorem dX10_tells_32 : decode cX10_tells 32 = .ok (.istore_n 3, 1) := by decide +kernel
theorem dX10_tells_33 : decode cX10_tells 33 = .ok (.aload_n 0, 1) := by decide +kernel
theorem dX10_tells_34 : decode cX10_tells 34 = .ok (.getfield 32, 3) := by decide +kernel
theorem dX10_tells_37 : decode cX10_tells 37 = .ok (.iload_n 1, 1) := by decide +kernel
theorem dX10_tells_38 : decode cX10_tells 38 = .ok (.iload_n 2, 1) := by decide +kernel
theorem dX10_tells_39 : decode cX10_tells 39 = .ok (.iastore, 1) := by decide +kernel
theorem dX10_tells_40 : decode cX10_tells 40 = .ok (.iload_n 3, 1) := by decide +kernel
theorem dX10_tells_41 : decode cX10_tells 41 = .ok (.ireturn, 1) := by decide +kernel
set_option maxRecDepth 20000 in
theorem ggX10_maps_X10_isSet : GoodIn wsX10_maps wsX10_isSet := goodIn_r _ [15, 16, 17, 18, 14, 19, 50, 51, 52, 53, 54, 55, 56, 57, 58, 59, 60, 61, 62, 63, 64, 65, 66, 67, 68, 69, 70, 71, 72, 73, 74, 75, 76] (by decide +kernel) (by decide +kernel)
set_option maxRecDepth 20000 in
theorem gX10_maps_X10_isSet : GoodIn wsX10_maps (wsV RX10 90 RX10 yX10_isSet wsX10_isSet) := goodIn_app (goodIn_of _ (by decide +kernel)) ggX10_maps_X10_isSet
set_option maxRecDepth 20000 in
theorem ggX10_maps_X10_liveOf : GoodIn wsX10_maps wsX10_liveOf := goodIn_r _ [23, 1, 24, 25, 26, 14, 27, 7, 8, 28, 29, 30, 50, 51, 52, 53, 54, 55, 56, 57, 58, 59, 60, 61, 62, 63, 64, 65, 66, 67, 68, 69, 70, 71, 72, 73, 74, 75, 76] (by decide +kernel) (by decide +kernel)
set_option maxRecDepth 20000 in
theorem gX10_maps_X10_liveOf : GoodIn wsX10_maps (wsV RX10 122 RX10 yX10_liveOf wsX10_liveOf) := goodIn_app (goodIn_of _ (by decide +kernel)) ggX10_maps_X10_liveOf
set_option maxRecDepth 20000 in
theorem ggX10_maps_X10_forget : GoodIn wsX10_maps wsX10_forget := goodIn_r _ [34, 2, 35, 36, 50, 51, 52, 53, 54, 55, 56, 57, 58, 59, 60, 61, 62, 63, 64, 65, 66, 67, 68, 69, 70, 71, 72, 73, 74, 75, 76] (by decide +kernel) (by decide +kernel)
set_option maxRecDepth 20000 in
theorem gX10_maps_X10_forget : GoodIn wsX10_maps (wsV RX10 166 RX10 yX10_forget wsX10_forget) := goodIn_app (goodIn_of _ (by decide +kernel)) ggX10_maps_X10_forget
set_option maxRecDepth 20000 in
theorem ggX10_maps_X10_meets : GoodIn wsX10_maps wsX10_meets := goodIn_r _ [40, 41, 42, 36, 3, 43, 2, 44, 45, 50, 51, 52, 53, 54, 55, 56, 57, 58, 59, 60, 61, 62, 63, 64, 65, 66, 67, 68, 69, 70, 71, 72, 73, 74, 75, 76] (by decide +kernel) (by decide +kernel)
set_option maxRecDepth 20000 in
theorem gX10_maps_X10_meets : GoodIn wsX10_maps (wsV RX10 169 RX10 yX10_meets wsX10_meets) := goodIn_app (goodIn_of _ (by decide +kernel)) ggX10_maps_X10_meets
set_option maxRecDepth 20000 in
theorem ggX10_maps_X10_at : GoodIn wsX10_maps wsX10_at := goodIn_r _ [30] (by decide +kernel) (by decide +kernel)
set_option maxRecDepth 20000 in
theorem gX10_maps_X10_at : GoodIn wsX10_maps (va_wsS RX10 106 yX10_at wsX10_at) := goodIn_app (goodIn_of _ (by decide +kernel)) ggX10_maps_X10_at
set_option maxRecDepth 20000 in
theorem ggX10_maps_X10_lead : GoodIn wsX10_maps wsX10_lead := goodIn_r _ [49, 1, 7, 8, 28, 29, 14, 30, 50, 51, 52, 53, 54, 55, 56, 57, 58, 59, 60, 61, 62, 63, 64, 65, 66, 67, 68, 69, 70, 71, 72, 73, 74, 75, 76] (by decide +kernel) (by decide +kernel)
set_option maxRecDepth 20000 in
theorem gX10_maps_X10_lead : GoodIn wsX10_maps (wsV RX10 132 RX10 yX10_lead wsX10_lead) := goodIn_app (goodIn_of _ (by decide +kernel)) ggX10_maps_X10_lead
theorem dX10_maps_0 : decode cX10_maps 0 = .ok (.aload_n 0, 1) := by decide +kernel
theorem dX10_maps_1 : decode cX10_maps 1 = .ok (.iload_n 1, 1) := by decide +kernel
theorem dX10_maps_2 : decode cX10_maps 2 = .ok (.invokevirtual 90, 3) := by decide +kernel
theorem dX10_maps_5 : decode cX10_maps 5 = .ok (.ifCond .eq 11, 3) := by decide +kernel
theorem dX10_maps_8 : decode cX10_maps 8 = .ok (.aload_n 0, 1) := by decide +kernel
theorem dX10_maps_9 : decode cX10_maps 9 = .ok (.iload_n 2, 1) := by decide +kernel
theorem dX10_maps_10 : decode cX10_maps 10 = .ok (.invokevirtual 90, 3) := by decide +kernel
theorem dX10_maps_13 : decode cX10_maps 13 = .ok (.ifCond .ne 6, 3) := by decide +kernel
theorem dX10_maps_16 : decode cX10_maps 16 = .ok (.bipush (-2), 2) := by decide +kernel
theorem dX10_maps_18 : decode cX10_maps 18 = .ok (.ireturn, 1) := by decide +kernel
theorem dX10_maps_19 : decode cX10_maps 19 = .ok (.aload_n 0, 1) := by decide +kernel
theorem dX10_maps_20 : decode cX10_maps 20 = .ok (.iload_n 1, 1) := by decide +kernel
theorem dX10_maps_21 : decode cX10_maps 21 = .ok (.invokevirtual 122, 3) := by decide +kernel
theorem dX10_maps_24 : decode cX10_maps 24 = .ok (.istore_n 3, 1) := by decide +kernel
theorem dX10_maps_25 : decode cX10_maps 25 = .ok (.aload_n 0, 1) := by decide +kernel
theorem dX10_maps_26 : decode cX10_maps 26 = .ok (.iload_n 2, 1) := by decide +kernel
theorem dX10_maps_27 : decode cX10_maps 27 = .ok (.invokevirtual 122, 3) := by decide +kernel
theorem dX10_maps_30 : decode cX10_maps 30 = .ok (.istore 4, 2) := by decide +kernel
theorem dX10_maps_32 : decode cX10_maps 32 = .ok (.iload_n 3, 1) := by decide +kernel
theorem dX10_maps_33 : decode cX10_maps 33 = .ok (.ifCond .ne 5, 3) := by decide +kernel
theorem dX10_maps_36 : decode cX10_maps 36 = .ok (.iconst 1, 1) := by decide +kernel
theorem dX10_maps_37 : decode cX10_maps 37 = .ok (.ireturn, 1) := by decide +kernel
theorem dX10_maps_38 : decode cX10_maps 38 = .ok (.iload 4, 2) := by decide +kernel
theorem dX10_maps_40 : decode cX10_maps 40 = .ok (.ifCond .ne 5, 3) := by decide +kernel
theorem dX10_maps_43 : decode cX10_maps 43 = .ok (.iconst 0, 1) := by decide +kernel
theorem dX10_maps_44 : decode cX10_maps 44 = .ok (.ireturn, 1) := by decide +kernel
theorem dX10_maps_45 : decode cX10_maps 45 = .ok (.aload_n 0, 1) := by decide +kernel
theorem dX10_maps_46 : decode cX10_maps 46 = .ok (.invokevirtual 166, 3) := by decide +kernel
theorem dX10_maps_49 : decode cX10_maps 49 = .ok (.iconst 0, 1) := by decide +kernel
theorem dX10_maps_50 : decode cX10_maps 50 = .ok (.istore 5, 2) := by decide +kernel
theorem dX10_maps_52 : decode cX10_maps 52 = .ok (.iload 5, 2) := by decide +kernel
theorem dX10_maps_54 : decode cX10_maps 54 = .ok (.aload_n 0, 1) := by decide +kernel
theorem dX10_maps_55 : decode cX10_maps 55 = .ok (.getfield 13, 3) := by decide +kernel
theorem dX10_maps_58 : decode cX10_maps 58 = .ok (.iload_n 1, 1) := by decide +kernel
theorem dX10_maps_59 : decode cX10_maps 59 = .ok (.iaload, 1) := by decide +kernel
theorem dX10_maps_60 : decode cX10_maps 60 = .ok (.if_icmp .ge 37, 3) := by decide +kernel
theorem dX10_maps_63 : decode cX10_maps 63 = .ok (.iload_n 3, 1) := by decide +kernel
theorem dX10_maps_64 : decode cX10_maps 64 = .ok (.iload 5, 2) := by decide +kernel
theorem dX10_maps_66 : decode cX10_maps 66 = .ok (.ishr, 1) := by decide +kernel
theorem dX10_maps_67 : decode cX10_maps 67 = .ok (.iconst 1, 1) := by decide +kernel
theorem dX10_maps_68 : decode cX10_maps 68 = .ok (.iand, 1) := by decide +kernel
theorem dX10_maps_69 : decode cX10_maps 69 = .ok (.iconst 1, 1) := by decide +kernel
theorem dX10_maps_70 : decode cX10_maps 70 = .ok (.if_icmp .ne 21, 3) := by decide +kernel
theorem dX10_maps_73 : decode cX10_maps 73 = .ok (.aload_n 0, 1) := by decide +kernel
theorem dX10_maps_74 : decode cX10_maps 74 = .ok (.iload 5, 2) := by decide +kernel
theorem dX10_maps_76 : decode cX10_maps 76 = .ok (.i2l, 1) := by decide +kernel
theorem dX10_maps_77 : decode cX10_maps 77 = .ok (.bipush 40, 2) := by decide +kernel
theorem dX10_maps_79 : decode cX10_maps 79 = .ok (.lshl, 1) := by decide +kernel
theorem dX10_maps_80 : decode cX10_maps 80 = .ok (.iload 4, 2) := by decide +kernel
theorem dX10_maps_82 : decode cX10_maps 82 = .ok (.i2l, 1) := by decide +kernel
theorem dX10_maps_83 : decode cX10_maps 83 = .ok (.lor, 1) := by decide +kernel
theorem dX10_maps_84 : decode cX10_maps 84 = .ok (.iconst (-1), 1) := by decide +kernel
theorem dX10_maps_85 : decode cX10_maps 85 = .ok (.iconst 0, 1) := by decide +kernel
theorem dX10_maps_86 : decode cX10_maps 86 = .ok (.invokevirtual 169, 3) := by decide +kernel
theorem dX10_maps_89 : decode cX10_maps 89 = .ok (.istore 6, 2) := by decide +kernel
theorem dX10_maps_91 : decode cX10_maps 91 = .ok (.iinc 5 1, 3) := by decide +kernel
theorem dX10_maps_94 : decode cX10_maps 94 = .ok (.goto (-42), 3) := by decide +kernel
theorem dX10_maps_97 : decode cX10_maps 97 = .ok (.iconst 0, 1) := by decide +kernel
theorem dX10_maps_98 : decode cX10_maps 98 = .ok (.istore 5, 2) := by decide +kernel
theorem dX10_maps_100 : decode cX10_maps 100 = .ok (.iload 5, 2) := by decide +kernel
theorem dX10_maps_102 : decode cX10_maps 102 = .ok (.aload_n 0, 1) := by decide +kernel
theorem dX10_maps_103 : decode cX10_maps 103 = .ok (.getfield 159, 3) := by decide +kernel
theorem dX10_maps_106 : decode cX10_maps 106 = .ok (.if_icmp .ge 290, 3) := by decide +kernel
theorem dX10_maps_109 : decode cX10_maps 109 = .ok (.aload_n 0, 1) := by decide +kernel
theorem dX10_maps_110 : decode cX10_maps 110 = .ok (.getfield 61, 3) := by decide +kernel
theorem dX10_maps_113 : decode cX10_maps 113 = .ok (.iload 5, 2) := by decide +kernel
theorem dX10_maps_115 : decode cX10_maps 115 = .ok (.laload, 1) := by decide +kernel
theorem dX10_maps_116 : decode cX10_maps 116 = .ok (.bipush 40, 2) := by decide +kernel
theorem dX10_maps_118 : decode cX10_maps 118 = .ok (.lshr, 1) := by decide +kernel
theorem dX10_maps_119 : decode cX10_maps 119 = .ok (.l2i, 1) := by decide +kernel
theorem dX10_maps_120 : decode cX10_maps 120 = .ok (.istore 6, 2) := by decide +kernel
theorem dX10_maps_122 : decode cX10_maps 122 = .ok (.aload_n 0, 1) := by decide +kernel
theorem dX10_maps_123 : decode cX10_maps 123 = .ok (.getfield 61, 3) := by decide +kernel
theorem dX10_maps_126 : decode cX10_maps 126 = .ok (.iload 5, 2) := by decide +kernel
theorem dX10_maps_128 : decode cX10_maps 128 = .ok (.laload, 1) := by decide +kernel
theorem dX10_maps_129 : decode cX10_maps 129 = .ok (.bipush 32, 2) := by decide +kernel
theorem dX10_maps_131 : decode cX10_maps 131 = .ok (.lshr, 1) := by decide +kernel
theorem dX10_maps_132 : decode cX10_maps 132 = .ok (.ldc2_w 185, 3) := by decide +kernel
theorem dX10_maps_135 : decode cX10_maps 135 = .ok (.land, 1) := by decide +kernel
theorem dX10_maps_136 : decode cX10_maps 136 = .ok (.l2i, 1) := by decide +kernel
theorem dX10_maps_137 : decode cX10_maps 137 = .ok (.istore 7, 2) := by decide +kernel
theorem dX10_maps_139 : decode cX10_maps 139 = .ok (.aload_n 0, 1) := by decide +kernel
theorem dX10_maps_140 : decode cX10_maps 140 = .ok (.getfield 61, 3) := by decide +kernel
theorem dX10_maps_143 : decode cX10_maps 143 = .ok (.iload 5, 2) := by decide +kernel
theorem dX10_maps_145 : decode cX10_maps 145 = .ok (.laload, 1) := by decide +kernel
theorem dX10_maps_146 : decode cX10_maps 146 = .ok (.bipush 24, 2) := by decide +kernel
theorem dX10_maps_148 : decode cX10_maps 148 = .ok (.lshr, 1) := by decide +kernel
theorem dX10_maps_149 : decode cX10_maps 149 = .ok (.ldc2_w 187, 3) := by decide +kernel
theorem dX10_maps_152 : decode cX10_maps 152 = .ok (.land, 1) := by decide +kernel
theorem dX10_maps_153 : decode cX10_maps 153 = .ok (.l2i, 1) := by decide +kernel
theorem dX10_maps_154 : decode cX10_maps 154 = .ok (.istore 8, 2) := by decide +kernel
theorem dX10_maps_156 : decode cX10_maps 156 = .ok (.aload_n 0, 1) := by decide +kernel
theorem dX10_maps_157 : decode cX10_maps 157 = .ok (.getfield 61, 3) := by decide +kernel
theorem dX10_maps_160 : decode cX10_maps 160 = .ok (.iload 5, 2) := by decide +kernel
theorem dX10_maps_162 : decode cX10_maps 162 = .ok (.laload, 1) := by decide +kernel
theorem dX10_maps_163 : decode cX10_maps 163 = .ok (.ldc2_w 173, 3) := by decide +kernel
theorem dX10_maps_166 : decode cX10_maps 166 = .ok (.land, 1) := by decide +kernel
theorem dX10_maps_167 : decode cX10_maps 167 = .ok (.l2i, 1) := by decide +kernel
theorem dX10_maps_168 : decode cX10_maps 168 = .ok (.istore 9, 2) := by decide +kernel
theorem dX10_maps_170 : decode cX10_maps 170 = .ok (.iconst 0, 1) := by decide +kernel
theorem dX10_maps_171 : decode cX10_maps 171 = .ok (.istore 10, 2) := by decide +kernel
theorem dX10_maps_173 : decode cX10_maps 173 = .ok (.iload 10, 2) := by decide +kernel
theorem dX10_maps_175 : decode cX10_maps 175 = .ok (.aload_n 0, 1) := by decide +kernel
theorem dX10_maps_176 : decode cX10_maps 176 = .ok (.getfield 7, 3) := by decide +kernel
theorem dX10_maps_179 : decode cX10_maps 179 = .ok (.iload_n 1, 1) := by decide +kernel
theorem dX10_maps_180 : decode cX10_maps 180 = .ok (.iaload, 1) := by decide +kernel
theorem dX10_maps_181 : decode cX10_maps 181 = .ok (.if_icmp .ge 209, 3) := by decide +kernel
theorem dX10_maps_184 : decode cX10_maps 184 = .ok (.aload_n 0, 1) := by decide +kernel
theorem dX10_maps_185 : decode cX10_maps 185 = .ok (.getfield 16, 3) := by decide +kernel
theorem dX10_maps_188 : decode cX10_maps 188 = .ok (.iload_n 1, 1) := by decide +kernel
theorem dX10_maps_189 : decode cX10_maps 189 = .ok (.iload 6, 2) := by decide +kernel
theorem dX10_maps_191 : decode cX10_maps 191 = .ok (.iload 10, 2) := by decide +kernel
theorem dX10_maps_193 : decode cX10_maps 193 = .ok (.invokestatic 106, 3) := by decide +kernel
theorem dX10_maps_196 : decode cX10_maps 196 = .ok (.iaload, 1) := by decide +kernel
theorem dX10_maps_197 : decode cX10_maps 197 = .ok (.iload_n 3, 1) := by decide +kernel
theorem dX10_maps_198 : decode cX10_maps 198 = .ok (.iand, 1) := by decide +kernel
theorem dX10_maps_199 : decode cX10_maps 199 = .ok (.istore 11, 2) := by decide +kernel
theorem dX10_maps_201 : decode cX10_maps 201 = .ok (.iconst 4, 1) := by decide +kernel
theorem dX10_maps_202 : decode cX10_maps 202 = .ok (.iload 8, 2) := by decide +kernel
theorem dX10_maps_204 : decode cX10_maps 204 = .ok (.imul, 1) := by decide +kernel
theorem dX10_maps_205 : decode cX10_maps 205 = .ok (.iload 10, 2) := by decide +kernel
theorem dX10_maps_207 : decode cX10_maps 207 = .ok (.iadd, 1) := by decide +kernel
theorem dX10_maps_208 : decode cX10_maps 208 = .ok (.istore 12, 2) := by decide +kernel
theorem dX10_maps_210 : decode cX10_maps 210 = .ok (.iload 7, 2) := by decide +kernel
theorem dX10_maps_212 : decode cX10_maps 212 = .ok (.aload_n 0, 1) := by decide +kernel
theorem dX10_maps_213 : decode cX10_maps 213 = .ok (.getfield 28, 3) := by decide +kernel
theorem dX10_maps_216 : decode cX10_maps 216 = .ok (.iconst 1, 1) := by decide +kernel
theorem dX10_maps_217 : decode cX10_maps 217 = .ok (.isub, 1) := by decide +kernel
theorem dX10_maps_218 : decode cX10_maps 218 = .ok (.if_icmp .ne 22, 3) := by decide +kernel
theorem dX10_maps_221 : decode cX10_maps 221 = .ok (.aload_n 0, 1) := by decide +kernel
theorem dX10_maps_222 : decode cX10_maps 222 = .ok (.iload_n 2, 1) := by decide +kernel
theorem dX10_maps_223 : decode cX10_maps 223 = .ok (.iload 4, 2) := by decide +kernel
theorem dX10_maps_225 : decode cX10_maps 225 = .ok (.iload 9, 2) := by decide +kernel
theorem dX10_maps_227 : decode cX10_maps 227 = .ok (.aload_n 0, 1) := by decide +kernel
theorem dX10_maps_228 : decode cX10_maps 228 = .ok (.getfield 32, 3) := by decide +kernel
theorem dX10_maps_231 : decode cX10_maps 231 = .ok (.iload 12, 2) := by decide +kernel
theorem dX10_maps_233 : decode cX10_maps 233 = .ok (.iaload, 1) := by decide +kernel
theorem dX10_maps_234 : decode cX10_maps 234 = .ok (.invokevirtual 132, 3) := by decide +kernel
theorem dX10_maps_237 : decode cX10_maps 237 = .ok (.goto 5, 3) := by decide +kernel
theorem dX10_maps_240 : decode cX10_maps 240 = .ok (.iload 9, 2) := by decide +kernel
theorem dX10_maps_242 : decode cX10_maps 242 = .ok (.istore 13, 2) := by decide +kernel
theorem dX10_maps_244 : decode cX10_maps 244 = .ok (.iload 11, 2) := by decide +kernel
theorem dX10_maps_246 : decode cX10_maps 246 = .ok (.ifCond .eq 10, 3) := by decide +kernel
theorem dX10_maps_249 : decode cX10_maps 249 = .ok (.iload 13, 2) := by decide +kernel
theorem dX10_maps_251 : decode cX10_maps 251 = .ok (.ifCond .ne 5, 3) := by decide +kernel
theorem dX10_maps_254 : decode cX10_maps 254 = .ok (.iconst 0, 1) := by decide +kernel
theorem dX10_maps_255 : decode cX10_maps 255 = .ok (.ireturn, 1) := by decide +kernel
theorem dX10_maps_256 : decode cX10_maps 256 = .ok (.iload 7, 2) := by decide +kernel
theorem dX10_maps_258 : decode cX10_maps 258 = .ok (.aload_n 0, 1) := by decide +kernel
theorem dX10_maps_259 : decode cX10_maps 259 = .ok (.getfield 28, 3) := by decide +kernel
theorem dX10_maps_262 : decode cX10_maps 262 = .ok (.iconst 1, 1) := by decide +kernel
theorem dX10_maps_263 : decode cX10_maps 263 = .ok (.isub, 1) := by decide +kernel
theorem dX10_maps_264 : decode cX10_maps 264 = .ok (.if_icmp .ne 8, 3) := by decide +kernel
theorem dX10_maps_267 : decode cX10_maps 267 = .ok (.iload 7, 2) := by decide +kernel
theorem dX10_maps_269 : decode cX10_maps 269 = .ok (.goto 7, 3) := by decide +kernel
theorem dX10_maps_272 : decode cX10_maps 272 = .ok (.iload 7, 2) := by decide +kernel
theorem dX10_maps_274 : decode cX10_maps 274 = .ok (.iconst 1, 1) := by decide +kernel
theorem dX10_maps_275 : decode cX10_maps 275 = .ok (.iadd, 1) := by decide +kernel
theorem dX10_maps_276 : decode cX10_maps 276 = .ok (.istore 14, 2) := by decide +kernel
theorem dX10_maps_278 : decode cX10_maps 278 = .ok (.aload_n 0, 1) := by decide +kernel
theorem dX10_maps_279 : decode cX10_maps 279 = .ok (.getfield 28, 3) := by decide +kernel
theorem dX10_maps_282 : decode cX10_maps 282 = .ok (.iconst 1, 1) := by decide +kernel
theorem dX10_maps_283 : decode cX10_maps 283 = .ok (.if_icmp .ne 7, 3) := by decide +kernel
theorem dX10_maps_286 : decode cX10_maps 286 = .ok (.iconst 0, 1) := by decide +kernel
theorem dX10_maps_287 : decode cX10_maps 287 = .ok (.goto 16, 3) := by decide +kernel
theorem dX10_maps_290 : decode cX10_maps 290 = .ok (.iload 12, 2) := by decide +kernel
theorem dX10_maps_292 : decode cX10_maps 292 = .ok (.iconst 1, 1) := by decide +kernel
theorem dX10_maps_293 : decode cX10_maps 293 = .ok (.iconst 2, 1) := by decide +kernel
theorem dX10_maps_294 : decode cX10_maps 294 = .ok (.aload_n 0, 1) := by decide +kernel
theorem dX10_maps_295 : decode cX10_maps 295 = .ok (.getfield 28, 3) := by decide +kernel
theorem dX10_maps_298 : decode cX10_maps 298 = .ok (.iconst 1, 1) := by decide +kernel
theorem dX10_maps_299 : decode cX10_maps 299 = .ok (.isub, 1) := by decide +kernel
theorem dX10_maps_300 : decode cX10_maps 300 = .ok (.imul, 1) := by decide +kernel
theorem dX10_maps_301 : decode cX10_maps 301 = .ok (.ishl, 1) := by decide +kernel
theorem dX10_maps_302 : decode cX10_maps 302 = .ok (.irem, 1) := by decide +kernel
theorem dX10_maps_303 : decode cX10_maps 303 = .ok (.istore 15, 2) := by decide +kernel
theorem dX10_maps_305 : decode cX10_maps 305 = .ok (.iconst 0, 1) := by decide +kernel
theorem dX10_maps_306 : decode cX10_maps 306 = .ok (.istore 16, 2) := by decide +kernel
theorem dX10_maps_308 : decode cX10_maps 308 = .ok (.iload 16, 2) := by decide +kernel
theorem dX10_maps_310 : decode cX10_maps 310 = .ok (.aload_n 0, 1) := by decide +kernel
theorem dX10_maps_311 : decode cX10_maps 311 = .ok (.getfield 13, 3) := by decide +kernel
theorem dX10_maps_314 : decode cX10_maps 314 = .ok (.iload_n 1, 1) := by decide +kernel
theorem dX10_maps_315 : decode cX10_maps 315 = .ok (.iaload, 1) := by decide +kernel
theorem dX10_maps_316 : decode cX10_maps 316 = .ok (.if_icmp .ge 68, 3) := by decide +kernel
theorem dX10_maps_319 : decode cX10_maps 319 = .ok (.iload 11, 2) := by decide +kernel
theorem dX10_maps_321 : decode cX10_maps 321 = .ok (.iload 16, 2) := by decide +kernel
theorem dX10_maps_323 : decode cX10_maps 323 = .ok (.ishr, 1) := by decide +kernel
theorem dX10_maps_324 : decode cX10_maps 324 = .ok (.iconst 1, 1) := by decide +kernel
theorem dX10_maps_325 : decode cX10_maps 325 = .ok (.iand, 1) := by decide +kernel
theorem dX10_maps_326 : decode cX10_maps 326 = .ok (.iconst 1, 1) := by decide +kernel
theorem dX10_maps_327 : decode cX10_maps 327 = .ok (.if_icmp .ne 51, 3) := by decide +kernel
theorem dX10_maps_330 : decode cX10_maps 330 = .ok (.aload_n 0, 1) := by decide +kernel
theorem dX10_maps_331 : decode cX10_maps 331 = .ok (.iload 16, 2) := by decide +kernel
theorem dX10_maps_333 : decode cX10_maps 333 = .ok (.i2l, 1) := by decide +kernel
theorem dX10_maps_334 : decode cX10_maps 334 = .ok (.bipush 40, 2) := by decide +kernel
theorem dX10_maps_336 : decode cX10_maps 336 = .ok (.lshl, 1) := by decide +kernel
theorem dX10_maps_337 : decode cX10_maps 337 = .ok (.iload 14, 2) := by decide +kernel
theorem dX10_maps_339 : decode cX10_maps 339 = .ok (.i2l, 1) := by decide +kernel
theorem dX10_maps_340 : decode cX10_maps 340 = .ok (.bipush 32, 2) := by decide +kernel
theorem dX10_maps_342 : decode cX10_maps 342 = .ok (.lshl, 1) := by decide +kernel
theorem dX10_maps_343 : decode cX10_maps 343 = .ok (.lor, 1) := by decide +kernel
theorem dX10_maps_344 : decode cX10_maps 344 = .ok (.iload 15, 2) := by decide +kernel
theorem dX10_maps_346 : decode cX10_maps 346 = .ok (.i2l, 1) := by decide +kernel
theorem dX10_maps_347 : decode cX10_maps 347 = .ok (.bipush 24, 2) := by decide +kernel
theorem dX10_maps_349 : decode cX10_maps 349 = .ok (.lshl, 1) := by decide +kernel
theorem dX10_maps_350 : decode cX10_maps 350 = .ok (.lor, 1) := by decide +kernel
theorem dX10_maps_351 : decode cX10_maps 351 = .ok (.iload 13, 2) := by decide +kernel
theorem dX10_maps_353 : decode cX10_maps 353 = .ok (.i2l, 1) := by decide +kernel
theorem dX10_maps_354 : decode cX10_maps 354 = .ok (.lor, 1) := by decide +kernel
theorem dX10_maps_355 : decode cX10_maps 355 = .ok (.iload 5, 2) := by decide +kernel
theorem dX10_maps_357 : decode cX10_maps 357 = .ok (.iload 10, 2) := by decide +kernel
theorem dX10_maps_359 : decode cX10_maps 359 = .ok (.invokevirtual 169, 3) := by decide +kernel
theorem dX10_maps_362 : decode cX10_maps 362 = .ok (.ifCond .eq 16, 3) := by decide +kernel
theorem dX10_maps_365 : decode cX10_maps 365 = .ok (.aload_n 0, 1) := by decide +kernel
theorem dX10_maps_366 : decode cX10_maps 366 = .ok (.getfield 159, 3) := by decide +kernel
theorem dX10_maps_369 : decode cX10_maps 369 = .ok (.sipush 20000, 3) := by decide +kernel
theorem dX10_maps_372 : decode cX10_maps 372 = .ok (.if_icmp .le 6, 3) := by decide +kernel
theorem dX10_maps_375 : decode cX10_maps 375 = .ok (.bipush (-5), 2) := by decide +kernel
theorem dX10_maps_377 : decode cX10_maps 377 = .ok (.ireturn, 1) := by decide +kernel
theorem dX10_maps_378 : decode cX10_maps 378 = .ok (.iinc 16 1, 3) := by decide +kernel
theorem dX10_maps_381 : decode cX10_maps 381 = .ok (.goto (-73), 3) := by decide +kernel
theorem dX10_maps_384 : decode cX10_maps 384 = .ok (.iinc 10 1, 3) := by decide +kernel
theorem dX10_maps_387 : decode cX10_maps 387 = .ok (.goto (-214), 3) := by decide +kernel
theorem dX10_maps_390 : decode cX10_maps 390 = .ok (.iinc 5 1, 3) := by decide +kernel
theorem dX10_maps_393 : decode cX10_maps 393 = .ok (.goto (-293), 3) := by decide +kernel
theorem dX10_maps_396 : decode cX10_maps 396 = .ok (.iconst 1, 1) := by decide +kernel
theorem dX10_maps_397 : decode cX10_maps 397 = .ok (.ireturn, 1) := by decide +kernel
set_option maxRecDepth 20000 in
theorem ggX10_isCoder_X10_isSet : GoodIn wsX10_isCoder wsX10_isSet := goodIn_r _ [5, 6, 7, 8, 4, 9, 10, 11, 12, 13, 14, 15, 16, 17, 18, 19, 20, 21, 22, 23, 24, 25, 26, 27, 28, 29, 30, 31, 32, 33, 34, 35, 36] (by decide +kernel) (by decide +kernel)
set_option maxRecDepth 20000 in
theorem gX10_isCoder_X10_isSet : GoodIn wsX10_isCoder (wsV RX10 90 RX10 yX10_isSet wsX10_isSet) := goodIn_app (goodIn_of _ (by decide +kernel)) ggX10_isCoder_X10_isSet
set_option maxRecDepth 20000 in
theorem ggX10_isCoder_X10_in : GoodIn wsX10_isCoder wsX10_in := goodIn_r _ [9] (by decide +kernel) (by decide +kernel)
set_option maxRecDepth 20000 in
theorem gX10_isCoder_X10_in : GoodIn wsX10_isCoder (va_wsS RX10 86 yX10_in wsX10_in) := goodIn_app (goodIn_of _ (by decide +kernel)) ggX10_isCoder_X10_in
theorem dX10_isCoder_0 : decode cX10_isCoder 0 = .ok (.aload_n 0, 1) := by decide +kernel
theorem dX10_isCoder_1 : decode cX10_isCoder 1 = .ok (.iload_n 1, 1) := by decide +kernel
theorem dX10_isCoder_2 : decode cX10_isCoder 2 = .ok (.invokevirtual 90, 3) := by decide +kernel
theorem dX10_isCoder_5 : decode cX10_isCoder 5 = .ok (.ifCond .eq 37, 3) := by decide +kernel
theorem dX10_isCoder_8 : decode cX10_isCoder 8 = .ok (.iload_n 2, 1) := by decide +kernel
theorem dX10_isCoder_9 : decode cX10_isCoder 9 = .ok (.iconst 1, 1) := by decide +kernel
theorem dX10_isCoder_10 : decode cX10_isCoder 10 = .ok (.bipush 8, 2) := by decide +kernel
theorem dX10_isCoder_12 : decode cX10_isCoder 12 = .ok (.invokestatic 86, 3) := by decide +kernel
theorem dX10_isCoder_15 : decode cX10_isCoder 15 = .ok (.ifCond .eq 27, 3) := by decide +kernel
theorem dX10_isCoder_18 : decode cX10_isCoder 18 = .ok (.iload_n 3, 1) := by decide +kernel
theorem dX10_isCoder_19 : decode cX10_isCoder 19 = .ok (.iconst 1, 1) := by decide +kernel
theorem dX10_isCoder_20 : decode cX10_isCoder 20 = .ok (.iconst 4, 1) := by decide +kernel
theorem dX10_isCoder_21 : decode cX10_isCoder 21 = .ok (.invokestatic 86, 3) := by decide +kernel
theorem dX10_isCoder_24 : decode cX10_isCoder 24 = .ok (.ifCond .eq 18, 3) := by decide +kernel
theorem dX10_isCoder_27 : decode cX10_isCoder 27 = .ok (.iload 4, 2) := by decide +kernel
theorem dX10_isCoder_29 : decode cX10_isCoder 29 = .ok (.iconst 1, 1) := by decide +kernel
theorem dX10_isCoder_30 : decode cX10_isCoder 30 = .ok (.bipush 100, 2) := by decide +kernel
theorem dX10_isCoder_32 : decode cX10_isCoder 32 = .ok (.invokestatic 86, 3) := by decide +kernel
theorem dX10_isCoder_35 : decode cX10_isCoder 35 = .ok (.ifCond .eq 7, 3) := by decide +kernel
theorem dX10_isCoder_38 : decode cX10_isCoder 38 = .ok (.iconst 1, 1) := by decide +kernel
theorem dX10_isCoder_39 : decode cX10_isCoder 39 = .ok (.goto 4, 3) := by decide +kernel
theorem dX10_isCoder_42 : decode cX10_isCoder 42 = .ok (.iconst 0, 1) := by decide +kernel
theorem dX10_isCoder_43 : decode cX10_isCoder 43 = .ok (.ireturn, 1) := by decide +kernel
set_option maxRecDepth 20000 in
theorem ggX10_layWeights_X10_liveOf : GoodIn wsX10_layWeights wsX10_liveOf := goodIn_r _ [8, 1, 9, 10, 11, 7, 12, 13, 14, 15, 16, 17, 31, 32, 33, 34, 35, 36, 37, 38, 39, 40, 41, 42, 43, 44, 45, 46, 47, 48, 49, 50, 51, 52, 53, 54, 55, 56, 57] (by decide +kernel) (by decide +kernel)
set_option maxRecDepth 20000 in
theorem gX10_layWeights_X10_liveOf : GoodIn wsX10_layWeights (wsV RX10 122 RX10 yX10_liveOf wsX10_liveOf) := goodIn_app (goodIn_of _ (by decide +kernel)) ggX10_layWeights_X10_liveOf
set_option maxRecDepth 20000 in
theorem ggX10_layWeights_X10_sumUp : GoodIn wsX10_layWeights wsX10_sumUp := goodIn_r _ [21, 1, 22, 3, 23, 24, 25, 7, 26, 13, 14, 15, 16, 17, 31, 32, 33, 34, 35, 36, 37, 38, 39, 40, 41, 42, 43, 44, 45, 46, 47, 48, 49, 50, 51, 52, 53, 54, 55, 56, 57] (by decide +kernel) (by decide +kernel)
set_option maxRecDepth 20000 in
theorem gX10_layWeights_X10_sumUp : GoodIn wsX10_layWeights (wsV RX10 141 RX10 yX10_sumUp wsX10_sumUp) := goodIn_app (goodIn_of _ (by decide +kernel)) ggX10_layWeights_X10_sumUp
set_option maxRecDepth 20000 in
theorem ggX10_layWeights_X10_goOn : GoodIn wsX10_layWeights wsX10_goOn := goodIn_r _ [30, 1, 3, 22, 31, 32, 33, 34, 35, 36, 37, 38, 39, 40, 41, 42, 43, 44, 45, 46, 47, 48, 49, 50, 51, 52, 53, 54, 55, 56, 57] (by decide +kernel) (by decide +kernel)
set_option maxRecDepth 20000 in
theorem gX10_layWeights_X10_goOn : GoodIn wsX10_layWeights (wsV RX10 145 RX10 yX10_goOn wsX10_goOn) := goodIn_app (goodIn_of _ (by decide +kernel)) ggX10_layWeights_X10_goOn
theorem dX10_layWeights_0 : decode cX10_layWeights 0 = .ok (.aload_n 0, 1) := by decide +kernel
theorem dX10_layWeights_1 : decode cX10_layWeights 1 = .ok (.iload_n 1, 1) := by decide +kernel
theorem dX10_layWeights_2 : decode cX10_layWeights 2 = .ok (.invokevirtual 122, 3) := by decide +kernel
theorem dX10_layWeights_5 : decode cX10_layWeights 5 = .ok (.istore 5, 2) := by decide +kernel
theorem dX10_layWeights_7 : decode cX10_layWeights 7 = .ok (.iconst 0, 1) := by decide +kernel
theorem dX10_layWeights_8 : decode cX10_layWeights 8 = .ok (.istore 6, 2) := by decide +kernel
theorem dX10_layWeights_10 : decode cX10_layWeights 10 = .ok (.iload 6, 2) := by decide +kernel
theorem dX10_layWeights_12 : decode cX10_layWeights 12 = .ok (.aload_n 0, 1) := by decide +kernel
theorem dX10_layWeights_13 : decode cX10_layWeights 13 = .ok (.getfield 13, 3) := by decide +kernel
theorem dX10_layWeights_16 : decode cX10_layWeights 16 = .ok (.iload_n 1, 1) := by decide +kernel
theorem dX10_layWeights_17 : decode cX10_layWeights 17 = .ok (.iaload, 1) := by decide +kernel
theorem dX10_layWeights_18 : decode cX10_layWeights 18 = .ok (.if_icmp .ge 34, 3) := by decide +kernel
theorem dX10_layWeights_21 : decode cX10_layWeights 21 = .ok (.aload_n 0, 1) := by decide +kernel
theorem dX10_layWeights_22 : decode cX10_layWeights 22 = .ok (.getfield 80, 3) := by decide +kernel
theorem dX10_layWeights_25 : decode cX10_layWeights 25 = .ok (.iload 6, 2) := by decide +kernel
theorem dX10_layWeights_27 : decode cX10_layWeights 27 = .ok (.iload 5, 2) := by decide +kernel
theorem dX10_layWeights_29 : decode cX10_layWeights 29 = .ok (.iload 6, 2) := by decide +kernel
theorem dX10_layWeights_31 : decode cX10_layWeights 31 = .ok (.ishr, 1) := by decide +kernel
theorem dX10_layWeights_32 : decode cX10_layWeights 32 = .ok (.iconst 1, 1) := by decide +kernel
theorem dX10_layWeights_33 : decode cX10_layWeights 33 = .ok (.iand, 1) := by decide +kernel
theorem dX10_layWeights_34 : decode cX10_layWeights 34 = .ok (.iconst 1, 1) := by decide +kernel
theorem dX10_layWeights_35 : decode cX10_layWeights 35 = .ok (.if_icmp .ne 9, 3) := by decide +kernel
theorem dX10_layWeights_38 : decode cX10_layWeights 38 = .ok (.iload 4, 2) := by decide +kernel
theorem dX10_layWeights_40 : decode cX10_layWeights 40 = .ok (.i2l, 1) := by decide +kernel
theorem dX10_layWeights_41 : decode cX10_layWeights 41 = .ok (.goto 4, 3) := by decide +kernel
theorem dX10_layWeights_44 : decode cX10_layWeights 44 = .ok (.lconst 0, 1) := by decide +kernel
theorem dX10_layWeights_45 : decode cX10_layWeights 45 = .ok (.lastore, 1) := by decide +kernel
theorem dX10_layWeights_46 : decode cX10_layWeights 46 = .ok (.iinc 6 1, 3) := by decide +kernel
theorem dX10_layWeights_49 : decode cX10_layWeights 49 = .ok (.goto (-39), 3) := by decide +kernel
theorem dX10_layWeights_52 : decode cX10_layWeights 52 = .ok (.iconst 1, 1) := by decide +kernel
theorem dX10_layWeights_53 : decode cX10_layWeights 53 = .ok (.istore 6, 2) := by decide +kernel
theorem dX10_layWeights_55 : decode cX10_layWeights 55 = .ok (.iload 6, 2) := by decide +kernel
theorem dX10_layWeights_57 : decode cX10_layWeights 57 = .ok (.ifCond .eq 126, 3) := by decide +kernel
theorem dX10_layWeights_60 : decode cX10_layWeights 60 = .ok (.iconst 0, 1) := by decide +kernel
theorem dX10_layWeights_61 : decode cX10_layWeights 61 = .ok (.istore 7, 2) := by decide +kernel
theorem dX10_layWeights_63 : decode cX10_layWeights 63 = .ok (.iload 7, 2) := by decide +kernel
theorem dX10_layWeights_65 : decode cX10_layWeights 65 = .ok (.aload_n 0, 1) := by decide +kernel
theorem dX10_layWeights_66 : decode cX10_layWeights 66 = .ok (.getfield 13, 3) := by decide +kernel
theorem dX10_layWeights_69 : decode cX10_layWeights 69 = .ok (.iload_n 1, 1) := by decide +kernel
theorem dX10_layWeights_70 : decode cX10_layWeights 70 = .ok (.iaload, 1) := by decide +kernel
theorem dX10_layWeights_71 : decode cX10_layWeights 71 = .ok (.if_icmp .ge 23, 3) := by decide +kernel
theorem dX10_layWeights_74 : decode cX10_layWeights 74 = .ok (.aload_n 0, 1) := by decide +kernel
theorem dX10_layWeights_75 : decode cX10_layWeights 75 = .ok (.getfield 55, 3) := by decide +kernel
theorem dX10_layWeights_78 : decode cX10_layWeights 78 = .ok (.iload 7, 2) := by decide +kernel
theorem dX10_layWeights_80 : decode cX10_layWeights 80 = .ok (.aload_n 0, 1) := by decide +kernel
theorem dX10_layWeights_81 : decode cX10_layWeights 81 = .ok (.getfield 80, 3) := by decide +kernel
theorem dX10_layWeights_84 : decode cX10_layWeights 84 = .ok (.iload 7, 2) := by decide +kernel
theorem dX10_layWeights_86 : decode cX10_layWeights 86 = .ok (.laload, 1) := by decide +kernel
theorem dX10_layWeights_87 : decode cX10_layWeights 87 = .ok (.lastore, 1) := by decide +kernel
theorem dX10_layWeights_88 : decode cX10_layWeights 88 = .ok (.iinc 7 1, 3) := by decide +kernel
theorem dX10_layWeights_91 : decode cX10_layWeights 91 = .ok (.goto (-28), 3) := by decide +kernel
theorem dX10_layWeights_94 : decode cX10_layWeights 94 = .ok (.iconst 0, 1) := by decide +kernel
theorem dX10_layWeights_95 : decode cX10_layWeights 95 = .ok (.istore 7, 2) := by decide +kernel
theorem dX10_layWeights_97 : decode cX10_layWeights 97 = .ok (.iload 7, 2) := by decide +kernel
theorem dX10_layWeights_99 : decode cX10_layWeights 99 = .ok (.iload_n 3, 1) := by decide +kernel
theorem dX10_layWeights_100 : decode cX10_layWeights 100 = .ok (.if_icmp .ge 21, 3) := by decide +kernel
theorem dX10_layWeights_103 : decode cX10_layWeights 103 = .ok (.aload_n 0, 1) := by decide +kernel
theorem dX10_layWeights_104 : decode cX10_layWeights 104 = .ok (.iload_n 1, 1) := by decide +kernel
theorem dX10_layWeights_105 : decode cX10_layWeights 105 = .ok (.iload 5, 2) := by decide +kernel
theorem dX10_layWeights_107 : decode cX10_layWeights 107 = .ok (.invokevirtual 141, 3) := by decide +kernel
theorem dX10_layWeights_110 : decode cX10_layWeights 110 = .ok (.aload_n 0, 1) := by decide +kernel
theorem dX10_layWeights_111 : decode cX10_layWeights 111 = .ok (.iload_n 1, 1) := by decide +kernel
theorem dX10_layWeights_112 : decode cX10_layWeights 112 = .ok (.invokevirtual 145, 3) := by decide +kernel
theorem dX10_layWeights_115 : decode cX10_layWeights 115 = .ok (.iinc 7 1, 3) := by decide +kernel
theorem dX10_layWeights_118 : decode cX10_layWeights 118 = .ok (.goto (-21), 3) := by decide +kernel
theorem dX10_layWeights_121 : decode cX10_layWeights 121 = .ok (.iconst 0, 1) := by decide +kernel
theorem dX10_layWeights_122 : decode cX10_layWeights 122 = .ok (.istore 6, 2) := by decide +kernel
theorem dX10_layWeights_124 : decode cX10_layWeights 124 = .ok (.iconst 0, 1) := by decide +kernel
theorem dX10_layWeights_125 : decode cX10_layWeights 125 = .ok (.istore 7, 2) := by decide +kernel
theorem dX10_layWeights_127 : decode cX10_layWeights 127 = .ok (.iload 7, 2) := by decide +kernel
theorem dX10_layWeights_129 : decode cX10_layWeights 129 = .ok (.aload_n 0, 1) := by decide +kernel
theorem dX10_layWeights_130 : decode cX10_layWeights 130 = .ok (.getfield 13, 3) := by decide +kernel
theorem dX10_layWeights_133 : decode cX10_layWeights 133 = .ok (.iload_n 1, 1) := by decide +kernel
theorem dX10_layWeights_134 : decode cX10_layWeights 134 = .ok (.iaload, 1) := by decide +kernel
theorem dX10_layWeights_135 : decode cX10_layWeights 135 = .ok (.if_icmp .ge 45, 3) := by decide +kernel
theorem dX10_layWeights_138 : decode cX10_layWeights 138 = .ok (.aload_n 0, 1) := by decide +kernel
theorem dX10_layWeights_139 : decode cX10_layWeights 139 = .ok (.getfield 55, 3) := by decide +kernel
theorem dX10_layWeights_142 : decode cX10_layWeights 142 = .ok (.iload 7, 2) := by decide +kernel
theorem dX10_layWeights_144 : decode cX10_layWeights 144 = .ok (.laload, 1) := by decide +kernel
theorem dX10_layWeights_145 : decode cX10_layWeights 145 = .ok (.iload_n 2, 1) := by decide +kernel
theorem dX10_layWeights_146 : decode cX10_layWeights 146 = .ok (.lshr, 1) := by decide +kernel
theorem dX10_layWeights_147 : decode cX10_layWeights 147 = .ok (.lstore 8, 2) := by decide +kernel
theorem dX10_layWeights_149 : decode cX10_layWeights 149 = .ok (.lload 8, 2) := by decide +kernel
theorem dX10_layWeights_151 : decode cX10_layWeights 151 = .ok (.aload_n 0, 1) := by decide +kernel
theorem dX10_layWeights_152 : decode cX10_layWeights 152 = .ok (.getfield 80, 3) := by decide +kernel
theorem dX10_layWeights_155 : decode cX10_layWeights 155 = .ok (.iload 7, 2) := by decide +kernel
theorem dX10_layWeights_157 : decode cX10_layWeights 157 = .ok (.laload, 1) := by decide +kernel
theorem dX10_layWeights_158 : decode cX10_layWeights 158 = .ok (.lcmp, 1) := by decide +kernel
theorem dX10_layWeights_159 : decode cX10_layWeights 159 = .ok (.ifCond .ge 15, 3) := by decide +kernel
theorem dX10_layWeights_162 : decode cX10_layWeights 162 = .ok (.aload_n 0, 1) := by decide +kernel
theorem dX10_layWeights_163 : decode cX10_layWeights 163 = .ok (.getfield 80, 3) := by decide +kernel
theorem dX10_layWeights_166 : decode cX10_layWeights 166 = .ok (.iload 7, 2) := by decide +kernel
theorem dX10_layWeights_168 : decode cX10_layWeights 168 = .ok (.lload 8, 2) := by decide +kernel
theorem dX10_layWeights_170 : decode cX10_layWeights 170 = .ok (.lastore, 1) := by decide +kernel
theorem dX10_layWeights_171 : decode cX10_layWeights 171 = .ok (.iconst 1, 1) := by decide +kernel
theorem dX10_layWeights_172 : decode cX10_layWeights 172 = .ok (.istore 6, 2) := by decide +kernel
theorem dX10_layWeights_174 : decode cX10_layWeights 174 = .ok (.iinc 7 1, 3) := by decide +kernel
theorem dX10_layWeights_177 : decode cX10_layWeights 177 = .ok (.goto (-50), 3) := by decide +kernel
theorem dX10_layWeights_180 : decode cX10_layWeights 180 = .ok (.goto (-125), 3) := by decide +kernel
theorem dX10_layWeights_183 : decode cX10_layWeights 183 = .ok (.return_, 1) := by decide +kernel
set_option maxRecDepth 20000 in
theorem ggX10_weights_X10_isCoder : GoodIn wsX10_weights wsX10_isCoder := goodIn_r _ [7, 8, 9, 10, 6, 11, 12, 13, 14, 15, 47, 48, 49, 50, 51, 52, 53, 54, 55, 56, 57, 58, 59, 60, 61, 62, 63, 64, 65, 66, 67, 68, 69, 70, 71, 72, 73] (by decide +kernel) (by decide +kernel)
set_option maxRecDepth 20000 in
theorem gX10_weights_X10_isCoder : GoodIn wsX10_weights (wsV RX10 189 RX10 yX10_isCoder wsX10_isCoder) := goodIn_app (goodIn_of _ (by decide +kernel)) ggX10_weights_X10_isCoder
set_option maxRecDepth 20000 in
theorem ggX10_weights_X10_layWeights : GoodIn wsX10_weights wsX10_layWeights := goodIn_r _ [19, 1, 2, 20, 21, 22, 23, 6, 24, 25, 26, 27, 28, 29, 30, 31, 32, 33, 34, 35, 36, 37, 38, 39, 40, 41, 42, 43, 44, 45, 46, 47, 48, 49, 50, 51, 52, 53, 54, 55, 56, 57, 58, 59, 60, 61, 62, 63, 64, 65, 66, 67, 68, 69, 70, 71, 72, 73] (by decide +kernel) (by decide +kernel)
set_option maxRecDepth 20000 in
theorem gX10_weights_X10_layWeights : GoodIn wsX10_weights (wsV RX10 192 RX10 yX10_layWeights wsX10_layWeights) := goodIn_app (goodIn_of _ (by decide +kernel)) ggX10_weights_X10_layWeights
theorem dX10_weights_0 : decode cX10_weights 0 = .ok (.aload_n 0, 1) := by decide +kernel
theorem dX10_weights_1 : decode cX10_weights 1 = .ok (.iload_n 1, 1) := by decide +kernel
theorem dX10_weights_2 : decode cX10_weights 2 = .ok (.iload_n 2, 1) := by decide +kernel
theorem dX10_weights_3 : decode cX10_weights 3 = .ok (.iload_n 3, 1) := by decide +kernel
theorem dX10_weights_4 : decode cX10_weights 4 = .ok (.iload 4, 2) := by decide +kernel
theorem dX10_weights_6 : decode cX10_weights 6 = .ok (.invokevirtual 189, 3) := by decide +kernel
theorem dX10_weights_9 : decode cX10_weights 9 = .ok (.ifCond .ne 6, 3) := by decide +kernel
theorem dX10_weights_12 : decode cX10_weights 12 = .ok (.bipush (-2), 2) := by decide +kernel
theorem dX10_weights_14 : decode cX10_weights 14 = .ok (.ireturn, 1) := by decide +kernel
theorem dX10_weights_15 : decode cX10_weights 15 = .ok (.aload_n 0, 1) := by decide +kernel
theorem dX10_weights_16 : decode cX10_weights 16 = .ok (.iload_n 1, 1) := by decide +kernel
theorem dX10_weights_17 : decode cX10_weights 17 = .ok (.iload_n 2, 1) := by decide +kernel
theorem dX10_weights_18 : decode cX10_weights 18 = .ok (.iload_n 3, 1) := by decide +kernel
theorem dX10_weights_19 : decode cX10_weights 19 = .ok (.iload 4, 2) := by decide +kernel
theorem dX10_weights_21 : decode cX10_weights 21 = .ok (.invokevirtual 192, 3) := by decide +kernel
theorem dX10_weights_24 : decode cX10_weights 24 = .ok (.lconst 0, 1) := by decide +kernel
theorem dX10_weights_25 : decode cX10_weights 25 = .ok (.lstore 5, 2) := by decide +kernel
theorem dX10_weights_27 : decode cX10_weights 27 = .ok (.iconst 0, 1) := by decide +kernel
theorem dX10_weights_28 : decode cX10_weights 28 = .ok (.istore 7, 2) := by decide +kernel
theorem dX10_weights_30 : decode cX10_weights 30 = .ok (.iload 7, 2) := by decide +kernel
theorem dX10_weights_32 : decode cX10_weights 32 = .ok (.aload_n 0, 1) := by decide +kernel
theorem dX10_weights_33 : decode cX10_weights 33 = .ok (.getfield 13, 3) := by decide +kernel
theorem dX10_weights_36 : decode cX10_weights 36 = .ok (.iload_n 1, 1) := by decide +kernel
theorem dX10_weights_37 : decode cX10_weights 37 = .ok (.iaload, 1) := by decide +kernel
theorem dX10_weights_38 : decode cX10_weights 38 = .ok (.if_icmp .ge 21, 3) := by decide +kernel
theorem dX10_weights_41 : decode cX10_weights 41 = .ok (.lload 5, 2) := by decide +kernel
theorem dX10_weights_43 : decode cX10_weights 43 = .ok (.aload_n 0, 1) := by decide +kernel
theorem dX10_weights_44 : decode cX10_weights 44 = .ok (.getfield 80, 3) := by decide +kernel
theorem dX10_weights_47 : decode cX10_weights 47 = .ok (.iload 7, 2) := by decide +kernel
theorem dX10_weights_49 : decode cX10_weights 49 = .ok (.laload, 1) := by decide +kernel
theorem dX10_weights_50 : decode cX10_weights 50 = .ok (.ladd, 1) := by decide +kernel
theorem dX10_weights_51 : decode cX10_weights 51 = .ok (.lstore 5, 2) := by decide +kernel
theorem dX10_weights_53 : decode cX10_weights 53 = .ok (.iinc 7 1, 3) := by decide +kernel
theorem dX10_weights_56 : decode cX10_weights 56 = .ok (.goto (-26), 3) := by decide +kernel
theorem dX10_weights_59 : decode cX10_weights 59 = .ok (.lload 5, 2) := by decide +kernel
theorem dX10_weights_61 : decode cX10_weights 61 = .ok (.l2i, 1) := by decide +kernel
theorem dX10_weights_62 : decode cX10_weights 62 = .ok (.ireturn, 1) := by decide +kernel
set_option maxRecDepth 20000 in
theorem ggX10_weight_X10_isCoder : GoodIn wsX10_weight wsX10_isCoder := goodIn_r _ [6, 7, 8, 9, 5, 10, 11, 12, 13, 14, 51, 52, 53, 54, 55, 56, 57, 58, 59, 60, 61, 62, 63, 64, 65, 66, 67, 68, 69, 70, 71, 72, 73, 74, 75, 76, 77] (by decide +kernel) (by decide +kernel)
set_option maxRecDepth 20000 in
theorem gX10_weight_X10_isCoder : GoodIn wsX10_weight (wsV RX10 189 RX10 yX10_isCoder wsX10_isCoder) := goodIn_app (goodIn_of _ (by decide +kernel)) ggX10_weight_X10_isCoder
set_option maxRecDepth 20000 in
theorem ggX10_weight_X10_isState : GoodIn wsX10_weight wsX10_isState := goodIn_r _ [18, 19, 7, 8, 9, 5, 10, 11, 12, 13, 14, 51, 52, 53, 54, 55, 56, 57, 58, 59, 60, 61, 62, 63, 64, 65, 66, 67, 68, 69, 70, 71, 72, 73, 74, 75, 76, 77] (by decide +kernel) (by decide +kernel)
set_option maxRecDepth 20000 in
theorem gX10_weight_X10_isState : GoodIn wsX10_weight (wsV RX10 98 RX10 yX10_isState wsX10_isState) := goodIn_app (goodIn_of _ (by decide +kernel)) ggX10_weight_X10_isState
set_option maxRecDepth 20000 in
theorem ggX10_weight_X10_layWeights : GoodIn wsX10_weight wsX10_layWeights := goodIn_r _ [23, 19, 1, 24, 25, 26, 27, 5, 28, 29, 30, 31, 32, 33, 34, 35, 36, 37, 38, 39, 40, 41, 42, 43, 44, 45, 46, 47, 48, 49, 50, 51, 52, 53, 54, 55, 56, 57, 58, 59, 60, 61, 62, 63, 64, 65, 66, 67, 68, 69, 70, 71, 72, 73, 74, 75, 76, 77] (by decide +kernel) (by decide +kernel)
set_option maxRecDepth 20000 in
theorem gX10_weight_X10_layWeights : GoodIn wsX10_weight (wsV RX10 192 RX10 yX10_layWeights wsX10_layWeights) := goodIn_app (goodIn_of _ (by decide +kernel)) ggX10_weight_X10_layWeights
theorem dX10_weight_0 : decode cX10_weight 0 = .ok (.aload_n 0, 1) := by decide +kernel
theorem dX10_weight_1 : decode cX10_weight 1 = .ok (.iload_n 1, 1) := by decide +kernel
theorem dX10_weight_2 : decode cX10_weight 2 = .ok (.iload_n 2, 1) := by decide +kernel
theorem dX10_weight_3 : decode cX10_weight 3 = .ok (.iload_n 3, 1) := by decide +kernel
theorem dX10_weight_4 : decode cX10_weight 4 = .ok (.iload 4, 2) := by decide +kernel
theorem dX10_weight_6 : decode cX10_weight 6 = .ok (.invokevirtual 189, 3) := by decide +kernel
theorem dX10_weight_9 : decode cX10_weight 9 = .ok (.ifCond .eq 13, 3) := by decide +kernel
theorem dX10_weight_12 : decode cX10_weight 12 = .ok (.aload_n 0, 1) := by decide +kernel
theorem dX10_weight_13 : decode cX10_weight 13 = .ok (.iload_n 1, 1) := by decide +kernel
theorem dX10_weight_14 : decode cX10_weight 14 = .ok (.iload 5, 2) := by decide +kernel
theorem dX10_weight_16 : decode cX10_weight 16 = .ok (.invokevirtual 98, 3) := by decide +kernel
theorem dX10_weight_19 : decode cX10_weight 19 = .ok (.ifCond .ne 6, 3) := by decide +kernel
theorem dX10_weight_22 : decode cX10_weight 22 = .ok (.bipush (-2), 2) := by decide +kernel
theorem dX10_weight_24 : decode cX10_weight 24 = .ok (.ireturn, 1) := by decide +kernel
theorem dX10_weight_25 : decode cX10_weight 25 = .ok (.aload_n 0, 1) := by decide +kernel
theorem dX10_weight_26 : decode cX10_weight 26 = .ok (.iload_n 1, 1) := by decide +kernel
theorem dX10_weight_27 : decode cX10_weight 27 = .ok (.iload_n 2, 1) := by decide +kernel
theorem dX10_weight_28 : decode cX10_weight 28 = .ok (.iload_n 3, 1) := by decide +kernel
theorem dX10_weight_29 : decode cX10_weight 29 = .ok (.iload 4, 2) := by decide +kernel
theorem dX10_weight_31 : decode cX10_weight 31 = .ok (.invokevirtual 192, 3) := by decide +kernel
theorem dX10_weight_34 : decode cX10_weight 34 = .ok (.aload_n 0, 1) := by decide +kernel
theorem dX10_weight_35 : decode cX10_weight 35 = .ok (.getfield 80, 3) := by decide +kernel
theorem dX10_weight_38 : decode cX10_weight 38 = .ok (.iload 5, 2) := by decide +kernel
theorem dX10_weight_40 : decode cX10_weight 40 = .ok (.laload, 1) := by decide +kernel
theorem dX10_weight_41 : decode cX10_weight 41 = .ok (.l2i, 1) := by decide +kernel
theorem dX10_weight_42 : decode cX10_weight 42 = .ok (.ireturn, 1) := by decide +kernel
theorem dX10_count_0 : decode cX10_count 0 = .ok (.iload_n 1, 1) := by decide +kernel
theorem dX10_count_1 : decode cX10_count 1 = .ok (.ifCond .ne 10, 3) := by decide +kernel
theorem dX10_count_4 : decode cX10_count 4 = .ok (.aload_n 0, 1) := by decide +kernel
theorem dX10_count_5 : decode cX10_count 5 = .ok (.getfield 83, 3) := by decide +kernel
theorem dX10_count_8 : decode cX10_count 8 = .ok (.goto 41, 3) := by decide +kernel
theorem dX10_count_11 : decode cX10_count 11 = .ok (.iload_n 1, 1) := by decide +kernel
theorem dX10_count_12 : decode cX10_count 12 = .ok (.iconst 1, 1) := by decide +kernel
theorem dX10_count_13 : decode cX10_count 13 = .ok (.if_icmp .ne 10, 3) := by decide +kernel
theorem dX10_count_16 : decode cX10_count 16 = .ok (.aload_n 0, 1) := by decide +kernel
theorem dX10_count_17 : decode cX10_count 17 = .ok (.getfield 110, 3) := by decide +kernel
theorem dX10_count_20 : decode cX10_count 20 = .ok (.goto 29, 3) := by decide +kernel
theorem dX10_count_23 : decode cX10_count 23 = .ok (.iload_n 1, 1) := by decide +kernel
theorem dX10_count_24 : decode cX10_count 24 = .ok (.iconst 2, 1) := by decide +kernel
theorem dX10_count_25 : decode cX10_count 25 = .ok (.if_icmp .ne 10, 3) := by decide +kernel
theorem dX10_count_28 : decode cX10_count 28 = .ok (.aload_n 0, 1) := by decide +kernel
theorem dX10_count_29 : decode cX10_count 29 = .ok (.getfield 113, 3) := by decide +kernel
theorem dX10_count_32 : decode cX10_count 32 = .ok (.goto 17, 3) := by decide +kernel
theorem dX10_count_35 : decode cX10_count 35 = .ok (.iload_n 1, 1) := by decide +kernel
theorem dX10_count_36 : decode cX10_count 36 = .ok (.iconst 3, 1) := by decide +kernel
theorem dX10_count_37 : decode cX10_count 37 = .ok (.if_icmp .ne 10, 3) := by decide +kernel
theorem dX10_count_40 : decode cX10_count 40 = .ok (.aload_n 0, 1) := by decide +kernel
theorem dX10_count_41 : decode cX10_count 41 = .ok (.getfield 28, 3) := by decide +kernel
theorem dX10_count_44 : decode cX10_count 44 = .ok (.goto 5, 3) := by decide +kernel
theorem dX10_count_47 : decode cX10_count 47 = .ok (.bipush (-2), 2) := by decide +kernel
theorem dX10_count_49 : decode cX10_count 49 = .ok (.ireturn, 1) := by decide +kernel
set_option maxRecDepth 20000 in
theorem ggX10_digest_X10_count : GoodIn wsX10_digest wsX10_count := goodIn_r _ [17, 3, 7, 9, 18, 56, 57, 58, 59, 60, 61, 62, 63, 64, 65, 66, 67, 68, 69, 70, 71, 72, 73, 74, 75, 76, 77, 78, 79, 80, 81, 82] (by decide +kernel) (by decide +kernel)
set_option maxRecDepth 20000 in
theorem gX10_digest_X10_count : GoodIn wsX10_digest (wsV RX10 200 RX10 yX10_count wsX10_count) := goodIn_app (goodIn_of _ (by decide +kernel)) ggX10_digest_X10_count
set_option maxRecDepth 20000 in
theorem ggX10_digest_X10_about : GoodIn wsX10_digest wsX10_about := goodIn_r _ [22, 5, 4, 6, 23, 24, 25, 16, 26, 3, 27, 28, 29, 30, 31, 32, 33, 34, 35, 36, 37, 38, 39, 40, 41, 42, 43, 44, 45, 46, 47, 48, 49, 50, 51, 56, 57, 58, 59, 60, 61, 62, 63, 64, 65, 66, 67, 68, 69, 70, 71, 72, 73, 74, 75, 76, 77, 78, 79, 80, 81, 82] (by decide +kernel) (by decide +kernel)
set_option maxRecDepth 20000 in
theorem gX10_digest_X10_about : GoodIn wsX10_digest (wsV RX10 203 RX10 yX10_about wsX10_about) := goodIn_app (goodIn_of _ (by decide +kernel)) ggX10_digest_X10_about
set_option maxRecDepth 20000 in
theorem ggX10_digest_X10_at : GoodIn wsX10_digest wsX10_at := goodIn_r _ [40] (by decide +kernel) (by decide +kernel)
set_option maxRecDepth 20000 in
theorem gX10_digest_X10_at : GoodIn wsX10_digest (va_wsS RX10 106 yX10_at wsX10_at) := goodIn_app (goodIn_of _ (by decide +kernel)) ggX10_digest_X10_at
set_option maxRecDepth 20000 in
theorem ggX10_digest_X10_windowRows : GoodIn wsX10_digest wsX10_windowRows := goodIn_r _ [55, 18, 56, 57, 58, 59, 60, 61, 62, 63, 64, 65, 66, 67, 68, 69, 70, 71, 72, 73, 74, 75, 76, 77, 78, 79, 80, 81, 82] (by decide +kernel) (by decide +kernel)
set_option maxRecDepth 20000 in
theorem gX10_digest_X10_windowRows : GoodIn wsX10_digest (wsV RX10 181 RX10 yX10_windowRows wsX10_windowRows) := goodIn_app (goodIn_of _ (by decide +kernel)) ggX10_digest_X10_windowRows
theorem dX10_digest_0 : decode cX10_digest 0 = .ok (.ldc2_w 196, 3) := by decide +kernel
theorem dX10_digest_3 : decode cX10_digest 3 = .ok (.lstore_n 1, 1) := by decide +kernel
theorem dX10_digest_4 : decode cX10_digest 4 = .ok (.iconst 0, 1) := by decide +kernel
theorem dX10_digest_5 : decode cX10_digest 5 = .ok (.istore_n 3, 1) := by decide +kernel
theorem dX10_digest_6 : decode cX10_digest 6 = .ok (.iload_n 3, 1) := by decide +kernel
theorem dX10_digest_7 : decode cX10_digest 7 = .ok (.iconst 4, 1) := by decide +kernel
theorem dX10_digest_8 : decode cX10_digest 8 = .ok (.if_icmp .ge 22, 3) := by decide +kernel
theorem dX10_digest_11 : decode cX10_digest 11 = .ok (.ldc2_w 198, 3) := by decide +kernel
theorem dX10_digest_14 : decode cX10_digest 14 = .ok (.lload_n 1, 1) := by decide +kernel
theorem dX10_digest_15 : decode cX10_digest 15 = .ok (.lmul, 1) := by decide +kernel
theorem dX10_digest_16 : decode cX10_digest 16 = .ok (.aload_n 0, 1) := by decide +kernel
theorem dX10_digest_17 : decode cX10_digest 17 = .ok (.iload_n 3, 1) := by decide +kernel
theorem dX10_digest_18 : decode cX10_digest 18 = .ok (.invokevirtual 200, 3) := by decide +kernel
theorem dX10_digest_21 : decode cX10_digest 21 = .ok (.i2l, 1) := by decide +kernel
theorem dX10_digest_22 : decode cX10_digest 22 = .ok (.ladd, 1) := by decide +kernel
theorem dX10_digest_23 : decode cX10_digest 23 = .ok (.lstore_n 1, 1) := by decide +kernel
theorem dX10_digest_24 : decode cX10_digest 24 = .ok (.iinc 3 1, 3) := by decide +kernel
theorem dX10_digest_27 : decode cX10_digest 27 = .ok (.goto (-21), 3) := by decide +kernel
theorem dX10_digest_30 : decode cX10_digest 30 = .ok (.iconst 0, 1) := by decide +kernel
theorem dX10_digest_31 : decode cX10_digest 31 = .ok (.istore_n 3, 1) := by decide +kernel
theorem dX10_digest_32 : decode cX10_digest 32 = .ok (.iload_n 3, 1) := by decide +kernel
theorem dX10_digest_33 : decode cX10_digest 33 = .ok (.aload_n 0, 1) := by decide +kernel
theorem dX10_digest_34 : decode cX10_digest 34 = .ok (.getfield 83, 3) := by decide +kernel
theorem dX10_digest_37 : decode cX10_digest 37 = .ok (.if_icmp .ge 100, 3) := by decide +kernel
theorem dX10_digest_40 : decode cX10_digest 40 = .ok (.iconst 0, 1) := by decide +kernel
theorem dX10_digest_41 : decode cX10_digest 41 = .ok (.istore 4, 2) := by decide +kernel
theorem dX10_digest_43 : decode cX10_digest 43 = .ok (.iload 4, 2) := by decide +kernel
theorem dX10_digest_45 : decode cX10_digest 45 = .ok (.iconst 5, 1) := by decide +kernel
theorem dX10_digest_46 : decode cX10_digest 46 = .ok (.if_icmp .ge 24, 3) := by decide +kernel
theorem dX10_digest_49 : decode cX10_digest 49 = .ok (.ldc2_w 198, 3) := by decide +kernel
theorem dX10_digest_52 : decode cX10_digest 52 = .ok (.lload_n 1, 1) := by decide +kernel
theorem dX10_digest_53 : decode cX10_digest 53 = .ok (.lmul, 1) := by decide +kernel
theorem dX10_digest_54 : decode cX10_digest 54 = .ok (.aload_n 0, 1) := by decide +kernel
theorem dX10_digest_55 : decode cX10_digest 55 = .ok (.iload_n 3, 1) := by decide +kernel
theorem dX10_digest_56 : decode cX10_digest 56 = .ok (.iload 4, 2) := by decide +kernel
theorem dX10_digest_58 : decode cX10_digest 58 = .ok (.invokevirtual 203, 3) := by decide +kernel
theorem dX10_digest_61 : decode cX10_digest 61 = .ok (.i2l, 1) := by decide +kernel
theorem dX10_digest_62 : decode cX10_digest 62 = .ok (.ladd, 1) := by decide +kernel
theorem dX10_digest_63 : decode cX10_digest 63 = .ok (.lstore_n 1, 1) := by decide +kernel
theorem dX10_digest_64 : decode cX10_digest 64 = .ok (.iinc 4 1, 3) := by decide +kernel
theorem dX10_digest_67 : decode cX10_digest 67 = .ok (.goto (-24), 3) := by decide +kernel
theorem dX10_digest_70 : decode cX10_digest 70 = .ok (.iconst 0, 1) := by decide +kernel
theorem dX10_digest_71 : decode cX10_digest 71 = .ok (.istore 4, 2) := by decide +kernel
theorem dX10_digest_73 : decode cX10_digest 73 = .ok (.iload 4, 2) := by decide +kernel
theorem dX10_digest_75 : decode cX10_digest 75 = .ok (.aload_n 0, 1) := by decide +kernel
theorem dX10_digest_76 : decode cX10_digest 76 = .ok (.getfield 13, 3) := by decide +kernel
theorem dX10_digest_79 : decode cX10_digest 79 = .ok (.iload_n 3, 1) := by decide +kernel
theorem dX10_digest_80 : decode cX10_digest 80 = .ok (.iaload, 1) := by decide +kernel
theorem dX10_digest_81 : decode cX10_digest 81 = .ok (.if_icmp .ge 50, 3) := by decide +kernel
theorem dX10_digest_84 : decode cX10_digest 84 = .ok (.iconst 0, 1) := by decide +kernel
theorem dX10_digest_85 : decode cX10_digest 85 = .ok (.istore 5, 2) := by decide +kernel
theorem dX10_digest_87 : decode cX10_digest 87 = .ok (.iload 5, 2) := by decide +kernel
theorem dX10_digest_89 : decode cX10_digest 89 = .ok (.aload_n 0, 1) := by decide +kernel
theorem dX10_digest_90 : decode cX10_digest 90 = .ok (.getfield 7, 3) := by decide +kernel
theorem dX10_digest_93 : decode cX10_digest 93 = .ok (.iload_n 3, 1) := by decide +kernel
theorem dX10_digest_94 : decode cX10_digest 94 = .ok (.iaload, 1) := by decide +kernel
theorem dX10_digest_95 : decode cX10_digest 95 = .ok (.if_icmp .ge 30, 3) := by decide +kernel
theorem dX10_digest_98 : decode cX10_digest 98 = .ok (.ldc2_w 198, 3) := by decide +kernel
theorem dX10_digest_101 : decode cX10_digest 101 = .ok (.lload_n 1, 1) := by decide +kernel
theorem dX10_digest_102 : decode cX10_digest 102 = .ok (.lmul, 1) := by decide +kernel
theorem dX10_digest_103 : decode cX10_digest 103 = .ok (.aload_n 0, 1) := by decide +kernel
theorem dX10_digest_104 : decode cX10_digest 104 = .ok (.getfield 16, 3) := by decide +kernel
theorem dX10_digest_107 : decode cX10_digest 107 = .ok (.iload_n 3, 1) := by decide +kernel
theorem dX10_digest_108 : decode cX10_digest 108 = .ok (.iload 4, 2) := by decide +kernel
theorem dX10_digest_110 : decode cX10_digest 110 = .ok (.iload 5, 2) := by decide +kernel
theorem dX10_digest_112 : decode cX10_digest 112 = .ok (.invokestatic 106, 3) := by decide +kernel
theorem dX10_digest_115 : decode cX10_digest 115 = .ok (.iaload, 1) := by decide +kernel
theorem dX10_digest_116 : decode cX10_digest 116 = .ok (.i2l, 1) := by decide +kernel
theorem dX10_digest_117 : decode cX10_digest 117 = .ok (.ladd, 1) := by decide +kernel
theorem dX10_digest_118 : decode cX10_digest 118 = .ok (.lstore_n 1, 1) := by decide +kernel
theorem dX10_digest_119 : decode cX10_digest 119 = .ok (.iinc 5 1, 3) := by decide +kernel
theorem dX10_digest_122 : decode cX10_digest 122 = .ok (.goto (-35), 3) := by decide +kernel
theorem dX10_digest_125 : decode cX10_digest 125 = .ok (.iinc 4 1, 3) := by decide +kernel
theorem dX10_digest_128 : decode cX10_digest 128 = .ok (.goto (-55), 3) := by decide +kernel
theorem dX10_digest_131 : decode cX10_digest 131 = .ok (.iinc 3 1, 3) := by decide +kernel
theorem dX10_digest_134 : decode cX10_digest 134 = .ok (.goto (-102), 3) := by decide +kernel
theorem dX10_digest_137 : decode cX10_digest 137 = .ok (.iconst 0, 1) := by decide +kernel
theorem dX10_digest_138 : decode cX10_digest 138 = .ok (.istore_n 3, 1) := by decide +kernel
theorem dX10_digest_139 : decode cX10_digest 139 = .ok (.iload_n 3, 1) := by decide +kernel
theorem dX10_digest_140 : decode cX10_digest 140 = .ok (.aload_n 0, 1) := by decide +kernel
theorem dX10_digest_141 : decode cX10_digest 141 = .ok (.getfield 110, 3) := by decide +kernel
theorem dX10_digest_144 : decode cX10_digest 144 = .ok (.if_icmp .ge 23, 3) := by decide +kernel
theorem dX10_digest_147 : decode cX10_digest 147 = .ok (.ldc2_w 198, 3) := by decide +kernel
theorem dX10_digest_150 : decode cX10_digest 150 = .ok (.lload_n 1, 1) := by decide +kernel
theorem dX10_digest_151 : decode cX10_digest 151 = .ok (.lmul, 1) := by decide +kernel
theorem dX10_digest_152 : decode cX10_digest 152 = .ok (.aload_n 0, 1) := by decide +kernel
theorem dX10_digest_153 : decode cX10_digest 153 = .ok (.getfield 19, 3) := by decide +kernel
theorem dX10_digest_156 : decode cX10_digest 156 = .ok (.iload_n 3, 1) := by decide +kernel
theorem dX10_digest_157 : decode cX10_digest 157 = .ok (.iaload, 1) := by decide +kernel
theorem dX10_digest_158 : decode cX10_digest 158 = .ok (.i2l, 1) := by decide +kernel
theorem dX10_digest_159 : decode cX10_digest 159 = .ok (.ladd, 1) := by decide +kernel
theorem dX10_digest_160 : decode cX10_digest 160 = .ok (.lstore_n 1, 1) := by decide +kernel
theorem dX10_digest_161 : decode cX10_digest 161 = .ok (.iinc 3 1, 3) := by decide +kernel
theorem dX10_digest_164 : decode cX10_digest 164 = .ok (.goto (-25), 3) := by decide +kernel
theorem dX10_digest_167 : decode cX10_digest 167 = .ok (.iconst 0, 1) := by decide +kernel
theorem dX10_digest_168 : decode cX10_digest 168 = .ok (.istore_n 3, 1) := by decide +kernel
theorem dX10_digest_169 : decode cX10_digest 169 = .ok (.iload_n 3, 1) := by decide +kernel
theorem dX10_digest_170 : decode cX10_digest 170 = .ok (.aload_n 0, 1) := by decide +kernel
theorem dX10_digest_171 : decode cX10_digest 171 = .ok (.getfield 113, 3) := by decide +kernel
theorem dX10_digest_174 : decode cX10_digest 174 = .ok (.if_icmp .ge 62, 3) := by decide +kernel
theorem dX10_digest_177 : decode cX10_digest 177 = .ok (.ldc2_w 198, 3) := by decide +kernel
theorem dX10_digest_180 : decode cX10_digest 180 = .ok (.lload_n 1, 1) := by decide +kernel
theorem dX10_digest_181 : decode cX10_digest 181 = .ok (.lmul, 1) := by decide +kernel
theorem dX10_digest_182 : decode cX10_digest 182 = .ok (.aload_n 0, 1) := by decide +kernel
theorem dX10_digest_183 : decode cX10_digest 183 = .ok (.getfield 22, 3) := by decide +kernel
theorem dX10_digest_186 : decode cX10_digest 186 = .ok (.iload_n 3, 1) := by decide +kernel
theorem dX10_digest_187 : decode cX10_digest 187 = .ok (.iaload, 1) := by decide +kernel
theorem dX10_digest_188 : decode cX10_digest 188 = .ok (.i2l, 1) := by decide +kernel
theorem dX10_digest_189 : decode cX10_digest 189 = .ok (.ladd, 1) := by decide +kernel
theorem dX10_digest_190 : decode cX10_digest 190 = .ok (.lstore_n 1, 1) := by decide +kernel
theorem dX10_digest_191 : decode cX10_digest 191 = .ok (.iconst 0, 1) := by decide +kernel
theorem dX10_digest_192 : decode cX10_digest 192 = .ok (.istore 4, 2) := by decide +kernel
theorem dX10_digest_194 : decode cX10_digest 194 = .ok (.iload 4, 2) := by decide +kernel
theorem dX10_digest_196 : decode cX10_digest 196 = .ok (.aload_n 0, 1) := by decide +kernel
theorem dX10_digest_197 : decode cX10_digest 197 = .ok (.getfield 22, 3) := by decide +kernel
theorem dX10_digest_200 : decode cX10_digest 200 = .ok (.iload_n 3, 1) := by decide +kernel
theorem dX10_digest_201 : decode cX10_digest 201 = .ok (.iaload, 1) := by decide +kernel
theorem dX10_digest_202 : decode cX10_digest 202 = .ok (.if_icmp .ge 28, 3) := by decide +kernel
theorem dX10_digest_205 : decode cX10_digest 205 = .ok (.ldc2_w 198, 3) := by decide +kernel
theorem dX10_digest_208 : decode cX10_digest 208 = .ok (.lload_n 1, 1) := by decide +kernel
theorem dX10_digest_209 : decode cX10_digest 209 = .ok (.lmul, 1) := by decide +kernel
theorem dX10_digest_210 : decode cX10_digest 210 = .ok (.aload_n 0, 1) := by decide +kernel
theorem dX10_digest_211 : decode cX10_digest 211 = .ok (.getfield 25, 3) := by decide +kernel
theorem dX10_digest_214 : decode cX10_digest 214 = .ok (.iconst 5, 1) := by decide +kernel
theorem dX10_digest_215 : decode cX10_digest 215 = .ok (.iload_n 3, 1) := by decide +kernel
theorem dX10_digest_216 : decode cX10_digest 216 = .ok (.imul, 1) := by decide +kernel
theorem dX10_digest_217 : decode cX10_digest 217 = .ok (.iload 4, 2) := by decide +kernel
theorem dX10_digest_219 : decode cX10_digest 219 = .ok (.iadd, 1) := by decide +kernel
theorem dX10_digest_220 : decode cX10_digest 220 = .ok (.iaload, 1) := by decide +kernel
theorem dX10_digest_221 : decode cX10_digest 221 = .ok (.i2l, 1) := by decide +kernel
theorem dX10_digest_222 : decode cX10_digest 222 = .ok (.ladd, 1) := by decide +kernel
theorem dX10_digest_223 : decode cX10_digest 223 = .ok (.lstore_n 1, 1) := by decide +kernel
theorem dX10_digest_224 : decode cX10_digest 224 = .ok (.iinc 4 1, 3) := by decide +kernel
theorem dX10_digest_227 : decode cX10_digest 227 = .ok (.goto (-33), 3) := by decide +kernel
theorem dX10_digest_230 : decode cX10_digest 230 = .ok (.iinc 3 1, 3) := by decide +kernel
theorem dX10_digest_233 : decode cX10_digest 233 = .ok (.goto (-64), 3) := by decide +kernel
theorem dX10_digest_236 : decode cX10_digest 236 = .ok (.iconst 0, 1) := by decide +kernel
theorem dX10_digest_237 : decode cX10_digest 237 = .ok (.istore_n 3, 1) := by decide +kernel
theorem dX10_digest_238 : decode cX10_digest 238 = .ok (.iload_n 3, 1) := by decide +kernel
theorem dX10_digest_239 : decode cX10_digest 239 = .ok (.aload_n 0, 1) := by decide +kernel
theorem dX10_digest_240 : decode cX10_digest 240 = .ok (.invokevirtual 181, 3) := by decide +kernel
theorem dX10_digest_243 : decode cX10_digest 243 = .ok (.if_icmp .ge 23, 3) := by decide +kernel
theorem dX10_digest_246 : decode cX10_digest 246 = .ok (.ldc2_w 198, 3) := by decide +kernel
theorem dX10_digest_249 : decode cX10_digest 249 = .ok (.lload_n 1, 1) := by decide +kernel
theorem dX10_digest_250 : decode cX10_digest 250 = .ok (.lmul, 1) := by decide +kernel
theorem dX10_digest_251 : decode cX10_digest 251 = .ok (.aload_n 0, 1) := by decide +kernel
theorem dX10_digest_252 : decode cX10_digest 252 = .ok (.getfield 32, 3) := by decide +kernel
theorem dX10_digest_255 : decode cX10_digest 255 = .ok (.iload_n 3, 1) := by decide +kernel
theorem dX10_digest_256 : decode cX10_digest 256 = .ok (.iaload, 1) := by decide +kernel
theorem dX10_digest_257 : decode cX10_digest 257 = .ok (.i2l, 1) := by decide +kernel
theorem dX10_digest_258 : decode cX10_digest 258 = .ok (.ladd, 1) := by decide +kernel
theorem dX10_digest_259 : decode cX10_digest 259 = .ok (.lstore_n 1, 1) := by decide +kernel
theorem dX10_digest_260 : decode cX10_digest 260 = .ok (.iinc 3 1, 3) := by decide +kernel
theorem dX10_digest_263 : decode cX10_digest 263 = .ok (.goto (-25), 3) := by decide +kernel
theorem dX10_digest_266 : decode cX10_digest 266 = .ok (.lload_n 1, 1) := by decide +kernel
theorem dX10_digest_267 : decode cX10_digest 267 = .ok (.lreturn, 1) := by decide +kernel
