theorem dX9_init_0 : decode cX9_init 0 = .ok (.aload_n 0, 1) := by decide +kernel
theorem dX9_init_1 : decode cX9_init 1 = .ok (.invokespecial 1, 3) := by decide +kernel
theorem dX9_init_4 : decode cX9_init 4 = .ok (.aload_n 0, 1) := by decide +kernel
theorem dX9_init_5 : decode cX9_init 5 = .ok (.ldc2_w 7, 3) := by decide +kernel
theorem dX9_init_8 : decode cX9_init 8 = .ok (.putfield 9, 3) := by decide +kernel
theorem dX9_init_11 : decode cX9_init 11 = .ok (.aload_n 0, 1) := by decide +kernel
theorem dX9_init_12 : decode cX9_init 12 = .ok (.ldc 15, 2) := by decide +kernel
theorem dX9_init_14 : decode cX9_init 14 = .ok (.putfield 16, 3) := by decide +kernel
theorem dX9_init_17 : decode cX9_init 17 = .ok (.aload_n 0, 1) := by decide +kernel
theorem dX9_init_18 : decode cX9_init 18 = .ok (.bipush 6, 2) := by decide +kernel
theorem dX9_init_20 : decode cX9_init 20 = .ok (.newarray .int, 2) := by decide +kernel
theorem dX9_init_22 : decode cX9_init 22 = .ok (.putfield 20, 3) := by decide +kernel
theorem dX9_init_25 : decode cX9_init 25 = .ok (.aload_n 0, 1) := by decide +kernel
theorem dX9_init_26 : decode cX9_init 26 = .ok (.bipush 6, 2) := by decide +kernel
theorem dX9_init_28 : decode cX9_init 28 = .ok (.newarray .int, 2) := by decide +kernel
theorem dX9_init_30 : decode cX9_init 30 = .ok (.putfield 24, 3) := by decide +kernel
theorem dX9_init_33 : decode cX9_init 33 = .ok (.aload_n 0, 1) := by decide +kernel
theorem dX9_init_34 : decode cX9_init 34 = .ok (.bipush 6, 2) := by decide +kernel
theorem dX9_init_36 : decode cX9_init 36 = .ok (.newarray .double, 2) := by decide +kernel
theorem dX9_init_38 : decode cX9_init 38 = .ok (.putfield 27, 3) := by decide +kernel
theorem dX9_init_41 : decode cX9_init 41 = .ok (.aload_n 0, 1) := by decide +kernel
theorem dX9_init_42 : decode cX9_init 42 = .ok (.bipush 6, 2) := by decide +kernel
theorem dX9_init_44 : decode cX9_init 44 = .ok (.newarray .double, 2) := by decide +kernel
theorem dX9_init_46 : decode cX9_init 46 = .ok (.putfield 31, 3) := by decide +kernel
theorem dX9_init_49 : decode cX9_init 49 = .ok (.aload_n 0, 1) := by decide +kernel
theorem dX9_init_50 : decode cX9_init 50 = .ok (.bipush 6, 2) := by decide +kernel
theorem dX9_init_52 : decode cX9_init 52 = .ok (.newarray .double, 2) := by decide +kernel
theorem dX9_init_54 : decode cX9_init 54 = .ok (.putfield 34, 3) := by decide +kernel
theorem dX9_init_57 : decode cX9_init 57 = .ok (.aload_n 0, 1) := by decide +kernel
theorem dX9_init_58 : decode cX9_init 58 = .ok (.bipush 6, 2) := by decide +kernel
theorem dX9_init_60 : decode cX9_init 60 = .ok (.newarray .double, 2) := by decide +kernel
theorem dX9_init_62 : decode cX9_init 62 = .ok (.putfield 37, 3) := by decide +kernel
theorem dX9_init_65 : decode cX9_init 65 = .ok (.aload_n 0, 1) := by decide +kernel
theorem dX9_init_66 : decode cX9_init 66 = .ok (.bipush 6, 2) := by decide +kernel
theorem dX9_init_68 : decode cX9_init 68 = .ok (.newarray .double, 2) := by decide +kernel
theorem dX9_init_70 : decode cX9_init 70 = .ok (.putfield 40, 3) := by decide +kernel
theorem dX9_init_73 : decode cX9_init 73 = .ok (.aload_n 0, 1) := by decide +kernel
theorem dX9_init_74 : decode cX9_init 74 = .ok (.bipush 6, 2) := by decide +kernel
theorem dX9_init_76 : decode cX9_init 76 = .ok (.newarray .int, 2) := by decide +kernel
theorem dX9_init_78 : decode cX9_init 78 = .ok (.putfield 43, 3) := by decide +kernel
theorem dX9_init_81 : decode cX9_init 81 = .ok (.aload_n 0, 1) := by decide +kernel
theorem dX9_init_82 : decode cX9_init 82 = .ok (.bipush 6, 2) := by decide +kernel
theorem dX9_init_84 : decode cX9_init 84 = .ok (.newarray .int, 2) := by decide +kernel
theorem dX9_init_86 : decode cX9_init 86 = .ok (.putfield 46, 3) := by decide +kernel
theorem dX9_init_89 : decode cX9_init 89 = .ok (.aload_n 0, 1) := by decide +kernel
theorem dX9_init_90 : decode cX9_init 90 = .ok (.bipush 6, 2) := by decide +kernel
theorem dX9_init_92 : decode cX9_init 92 = .ok (.newarray .double, 2) := by decide +kernel
theorem dX9_init_94 : decode cX9_init 94 = .ok (.putfield 49, 3) := by decide +kernel
theorem dX9_init_97 : decode cX9_init 97 = .ok (.aload_n 0, 1) := by decide +kernel
theorem dX9_init_98 : decode cX9_init 98 = .ok (.bipush 6, 2) := by decide +kernel
theorem dX9_init_100 : decode cX9_init 100 = .ok (.newarray .double, 2) := by decide +kernel
theorem dX9_init_102 : decode cX9_init 102 = .ok (.putfield 52, 3) := by decide +kernel
theorem dX9_init_105 : decode cX9_init 105 = .ok (.aload_n 0, 1) := by decide +kernel
theorem dX9_init_106 : decode cX9_init 106 = .ok (.bipush 6, 2) := by decide +kernel
theorem dX9_init_108 : decode cX9_init 108 = .ok (.newarray .double, 2) := by decide +kernel
theorem dX9_init_110 : decode cX9_init 110 = .ok (.putfield 55, 3) := by decide +kernel
theorem dX9_init_113 : decode cX9_init 113 = .ok (.aload_n 0, 1) := by decide +kernel
theorem dX9_init_114 : decode cX9_init 114 = .ok (.bipush 6, 2) := by decide +kernel
theorem dX9_init_116 : decode cX9_init 116 = .ok (.newarray .boolean, 2) := by decide +kernel
theorem dX9_init_118 : decode cX9_init 118 = .ok (.putfield 58, 3) := by decide +kernel
theorem dX9_init_121 : decode cX9_init 121 = .ok (.aload_n 0, 1) := by decide +kernel
theorem dX9_init_122 : decode cX9_init 122 = .ok (.bipush 6, 2) := by decide +kernel
theorem dX9_init_124 : decode cX9_init 124 = .ok (.newarray .boolean, 2) := by decide +kernel
theorem dX9_init_126 : decode cX9_init 126 = .ok (.putfield 62, 3) := by decide +kernel
theorem dX9_init_129 : decode cX9_init 129 = .ok (.aload_n 0, 1) := by decide +kernel
theorem dX9_init_130 : decode cX9_init 130 = .ok (.bipush 6, 2) := by decide +kernel
theorem dX9_init_132 : decode cX9_init 132 = .ok (.newarray .double, 2) := by decide +kernel
theorem dX9_init_134 : decode cX9_init 134 = .ok (.putfield 65, 3) := by decide +kernel
theorem dX9_init_137 : decode cX9_init 137 = .ok (.aload_n 0, 1) := by decide +kernel
theorem dX9_init_138 : decode cX9_init 138 = .ok (.bipush 6, 2) := by decide +kernel
theorem dX9_init_140 : decode cX9_init 140 = .ok (.newarray .int, 2) := by decide +kernel
theorem dX9_init_142 : decode cX9_init 142 = .ok (.putfield 68, 3) := by decide +kernel
theorem dX9_init_145 : decode cX9_init 145 = .ok (.aload_n 0, 1) := by decide +kernel
theorem dX9_init_146 : decode cX9_init 146 = .ok (.bipush 6, 2) := by decide +kernel
theorem dX9_init_148 : decode cX9_init 148 = .ok (.newarray .int, 2) := by decide +kernel
theorem dX9_init_150 : decode cX9_init 150 = .ok (.putfield 71, 3) := by decide +kernel
theorem dX9_init_153 : decode cX9_init 153 = .ok (.aload_n 0, 1) := by decide +kernel
theorem dX9_init_154 : decode cX9_init 154 = .ok (.bipush 6, 2) := by decide +kernel
theorem dX9_init_156 : decode cX9_init 156 = .ok (.newarray .int, 2) := by decide +kernel
theorem dX9_init_158 : decode cX9_init 158 = .ok (.putfield 74, 3) := by decide +kernel
theorem dX9_init_161 : decode cX9_init 161 = .ok (.aload_n 0, 1) := by decide +kernel
theorem dX9_init_162 : decode cX9_init 162 = .ok (.sipush 600, 3) := by decide +kernel
theorem dX9_init_165 : decode cX9_init 165 = .ok (.newarray .int, 2) := by decide +kernel
theorem dX9_init_167 : decode cX9_init 167 = .ok (.putfield 77, 3) := by decide +kernel
theorem dX9_init_170 : decode cX9_init 170 = .ok (.aload_n 0, 1) := by decide +kernel
theorem dX9_init_171 : decode cX9_init 171 = .ok (.sipush 600, 3) := by decide +kernel
theorem dX9_init_174 : decode cX9_init 174 = .ok (.newarray .int, 2) := by decide +kernel
theorem dX9_init_176 : decode cX9_init 176 = .ok (.putfield 80, 3) := by decide +kernel
theorem dX9_init_179 : decode cX9_init 179 = .ok (.aload_n 0, 1) := by decide +kernel
theorem dX9_init_180 : decode cX9_init 180 = .ok (.sipush 600, 3) := by decide +kernel
theorem dX9_init_183 : decode cX9_init 183 = .ok (.newarray .int, 2) := by decide +kernel
theorem dX9_init_185 : decode cX9_init 185 = .ok (.putfield 83, 3) := by decide +kernel
theorem dX9_init_188 : decode cX9_init 188 = .ok (.aload_n 0, 1) := by decide +kernel
theorem dX9_init_189 : decode cX9_init 189 = .ok (.sipush 600, 3) := by decide +kernel
theorem dX9_init_192 : decode cX9_init 192 = .ok (.newarray .boolean, 2) := by decide +kernel
theorem dX9_init_194 : decode cX9_init 194 = .ok (.putfield 86, 3) := by decide +kernel
theorem dX9_init_197 : decode cX9_init 197 = .ok (.aload_n 0, 1) := by decide +kernel
theorem dX9_init_198 : decode cX9_init 198 = .ok (.sipush 600, 3) := by decide +kernel
theorem dX9_init_201 : decode cX9_init 201 = .ok (.newarray .boolean, 2) := by decide +kernel
theorem dX9_init_203 : decode cX9_init 203 = .ok (.putfield 89, 3) := by decide +kernel
theorem dX9_init_206 : decode cX9_init 206 = .ok (.aload_n 0, 1) := by decide +kernel
theorem dX9_init_207 : decode cX9_init 207 = .ok (.bipush 60, 2) := by decide +kernel
theorem dX9_init_209 : decode cX9_init 209 = .ok (.newarray .int, 2) := by decide +kernel
theorem dX9_init_211 : decode cX9_init 211 = .ok (.putfield 92, 3) := by decide +kernel
theorem dX9_init_214 : decode cX9_init 214 = .ok (.aload_n 0, 1) := by decide +kernel
theorem dX9_init_215 : decode cX9_init 215 = .ok (.bipush 6, 2) := by decide +kernel
theorem dX9_init_217 : decode cX9_init 217 = .ok (.newarray .int, 2) := by decide +kernel
theorem dX9_init_219 : decode cX9_init 219 = .ok (.putfield 95, 3) := by decide +kernel
theorem dX9_init_222 : decode cX9_init 222 = .ok (.aload_n 0, 1) := by decide +kernel
theorem dX9_init_223 : decode cX9_init 223 = .ok (.bipush 6, 2) := by decide +kernel
theorem dX9_init_225 : decode cX9_init 225 = .ok (.newarray .int, 2) := by decide +kernel
theorem dX9_init_227 : decode cX9_init 227 = .ok (.putfield 98, 3) := by decide +kernel
theorem dX9_init_230 : decode cX9_init 230 = .ok (.aload_n 0, 1) := by decide +kernel
theorem dX9_init_231 : decode cX9_init 231 = .ok (.bipush 64, 2) := by decide +kernel
theorem dX9_init_233 : decode cX9_init 233 = .ok (.newarray .double, 2) := by decide +kernel
theorem dX9_init_235 : decode cX9_init 235 = .ok (.putfield 101, 3) := by decide +kernel
theorem dX9_init_238 : decode cX9_init 238 = .ok (.aload_n 0, 1) := by decide +kernel
theorem dX9_init_239 : decode cX9_init 239 = .ok (.sipush 160, 3) := by decide +kernel
theorem dX9_init_242 : decode cX9_init 242 = .ok (.newarray .int, 2) := by decide +kernel
theorem dX9_init_244 : decode cX9_init 244 = .ok (.putfield 104, 3) := by decide +kernel
theorem dX9_init_247 : decode cX9_init 247 = .ok (.iconst 0, 1) := by decide +kernel
theorem dX9_init_248 : decode cX9_init 248 = .ok (.istore_n 1, 1) := by decide +kernel
theorem dX9_init_249 : decode cX9_init 249 = .ok (.iload_n 1, 1) := by decide +kernel
theorem dX9_init_250 : decode cX9_init 250 = .ok (.bipush 6, 2) := by decide +kernel
theorem dX9_init_252 : decode cX9_init 252 = .ok (.if_icmp .ge 79, 3) := by decide +kernel
theorem dX9_init_255 : decode cX9_init 255 = .ok (.aload_n 0, 1) := by decide +kernel
theorem dX9_init_256 : decode cX9_init 256 = .ok (.getfield 24, 3) := by decide +kernel
theorem dX9_init_259 : decode cX9_init 259 = .ok (.iload_n 1, 1) := by decide +kernel
theorem dX9_init_260 : decode cX9_init 260 = .ok (.sipush 1500, 3) := by decide +kernel
theorem dX9_init_263 : decode cX9_init 263 = .ok (.iastore, 1) := by decide +kernel
theorem dX9_init_264 : decode cX9_init 264 = .ok (.aload_n 0, 1) := by decide +kernel
theorem dX9_init_265 : decode cX9_init 265 = .ok (.getfield 27, 3) := by decide +kernel
theorem dX9_init_268 : decode cX9_init 268 = .ok (.iload_n 1, 1) := by decide +kernel
theorem dX9_init_269 : decode cX9_init 269 = .ok (.ldc2_w 107, 3) := by decide +kernel
theorem dX9_init_272 : decode cX9_init 272 = .ok (.dastore, 1) := by decide +kernel
theorem dX9_init_273 : decode cX9_init 273 = .ok (.aload_n 0, 1) := by decide +kernel
theorem dX9_init_274 : decode cX9_init 274 = .ok (.getfield 31, 3) := by decide +kernel
theorem dX9_init_277 : decode cX9_init 277 = .ok (.iload_n 1, 1) := by decide +kernel
theorem dX9_init_278 : decode cX9_init 278 = .ok (.ldc2_w 109, 3) := by decide +kernel
theorem dX9_init_281 : decode cX9_init 281 = .ok (.dastore, 1) := by decide +kernel
theorem dX9_init_282 : decode cX9_init 282 = .ok (.aload_n 0, 1) := by decide +kernel
theorem dX9_init_283 : decode cX9_init 283 = .ok (.getfield 34, 3) := by decide +kernel
theorem dX9_init_286 : decode cX9_init 286 = .ok (.iload_n 1, 1) := by decide +kernel
theorem dX9_init_287 : decode cX9_init 287 = .ok (.ldc2_w 111, 3) := by decide +kernel
theorem dX9_init_290 : decode cX9_init 290 = .ok (.dastore, 1) := by decide +kernel
theorem dX9_init_291 : decode cX9_init 291 = .ok (.aload_n 0, 1) := by decide +kernel
theorem dX9_init_292 : decode cX9_init 292 = .ok (.getfield 37, 3) := by decide +kernel
theorem dX9_init_295 : decode cX9_init 295 = .ok (.iload_n 1, 1) := by decide +kernel
theorem dX9_init_296 : decode cX9_init 296 = .ok (.ldc2_w 113, 3) := by decide +kernel
theorem dX9_init_299 : decode cX9_init 299 = .ok (.dastore, 1) := by decide +kernel
theorem dX9_init_300 : decode cX9_init 300 = .ok (.aload_n 0, 1) := by decide +kernel
theorem dX9_init_301 : decode cX9_init 301 = .ok (.getfield 43, 3) := by decide +kernel
theorem dX9_init_304 : decode cX9_init 304 = .ok (.iload_n 1, 1) := by decide +kernel
theorem dX9_init_305 : decode cX9_init 305 = .ok (.iconst (-1), 1) := by decide +kernel
theorem dX9_init_306 : decode cX9_init 306 = .ok (.iastore, 1) := by decide +kernel
theorem dX9_init_307 : decode cX9_init 307 = .ok (.aload_n 0, 1) := by decide +kernel
theorem dX9_init_308 : decode cX9_init 308 = .ok (.getfield 49, 3) := by decide +kernel
theorem dX9_init_311 : decode cX9_init 311 = .ok (.iload_n 1, 1) := by decide +kernel
theorem dX9_init_312 : decode cX9_init 312 = .ok (.ldc2_w 107, 3) := by decide +kernel
theorem dX9_init_315 : decode cX9_init 315 = .ok (.dastore, 1) := by decide +kernel
theorem dX9_init_316 : decode cX9_init 316 = .ok (.aload_n 0, 1) := by decide +kernel
theorem dX9_init_317 : decode cX9_init 317 = .ok (.getfield 52, 3) := by decide +kernel
theorem dX9_init_320 : decode cX9_init 320 = .ok (.iload_n 1, 1) := by decide +kernel
theorem dX9_init_321 : decode cX9_init 321 = .ok (.ldc2_w 7, 3) := by decide +kernel
theorem dX9_init_324 : decode cX9_init 324 = .ok (.dastore, 1) := by decide +kernel
theorem dX9_init_325 : decode cX9_init 325 = .ok (.iinc 1 1, 3) := by decide +kernel
theorem dX9_init_328 : decode cX9_init 328 = .ok (.goto (-79), 3) := by decide +kernel
theorem dX9_init_331 : decode cX9_init 331 = .ok (.return_, 1) := by decide +kernel
theorem dX9_thrown_0 : decode cX9_thrown 0 = .ok (.aload_n 0, 1) := by decide +kernel
theorem dX9_thrown_1 : decode cX9_thrown 1 = .ok (.getfield 115, 3) := by decide +kernel
theorem dX9_thrown_4 : decode cX9_thrown 4 = .ok (.ireturn, 1) := by decide +kernel
theorem dX9_refused_0 : decode cX9_refused 0 = .ok (.aload_n 0, 1) := by decide +kernel
theorem dX9_refused_1 : decode cX9_refused 1 = .ok (.iload_n 1, 1) := by decide +kernel
theorem dX9_refused_2 : decode cX9_refused 2 = .ok (.putfield 115, 3) := by decide +kernel
theorem dX9_refused_5 : decode cX9_refused 5 = .ok (.iload_n 1, 1) := by decide +kernel
theorem dX9_refused_6 : decode cX9_refused 6 = .ok (.ifCond .le 7, 3) := by decide +kernel
theorem dX9_refused_9 : decode cX9_refused 9 = .ok (.iconst 1, 1) := by decide +kernel
theorem dX9_refused_10 : decode cX9_refused 10 = .ok (.goto 4, 3) := by decide +kernel
theorem dX9_refused_13 : decode cX9_refused 13 = .ok (.iconst 0, 1) := by decide +kernel
theorem dX9_refused_14 : decode cX9_refused 14 = .ok (.ireturn, 1) := by decide +kernel
theorem dX9_isIn_0 : decode cX9_isIn 0 = .ok (.iload_n 0, 1) := by decide +kernel
theorem dX9_isIn_1 : decode cX9_isIn 1 = .ok (.iload_n 1, 1) := by decide +kernel
theorem dX9_isIn_2 : decode cX9_isIn 2 = .ok (.if_icmp .lt 12, 3) := by decide +kernel
theorem dX9_isIn_5 : decode cX9_isIn 5 = .ok (.iload_n 0, 1) := by decide +kernel
theorem dX9_isIn_6 : decode cX9_isIn 6 = .ok (.iload_n 2, 1) := by decide +kernel
theorem dX9_isIn_7 : decode cX9_isIn 7 = .ok (.if_icmp .gt 7, 3) := by decide +kernel
theorem dX9_isIn_10 : decode cX9_isIn 10 = .ok (.iconst 1, 1) := by decide +kernel
theorem dX9_isIn_11 : decode cX9_isIn 11 = .ok (.goto 4, 3) := by decide +kernel
theorem dX9_isIn_14 : decode cX9_isIn 14 = .ok (.iconst 0, 1) := by decide +kernel
theorem dX9_isIn_15 : decode cX9_isIn 15 = .ok (.ireturn, 1) := by decide +kernel
set_option maxRecDepth 20000 in
theorem ggX9_kind_X9_isIn : GoodIn wsX9_kind wsX9_isIn := goodIn_r _ [15] (by decide +kernel) (by decide +kernel)
set_option maxRecDepth 20000 in
theorem gX9_kind_X9_isIn : GoodIn wsX9_kind (va_wsS RX9 118 yX9_isIn wsX9_isIn) := goodIn_app (goodIn_of _ (by decide +kernel)) ggX9_kind_X9_isIn
set_option maxRecDepth 20000 in
theorem ggX9_kind_X9_refused : GoodIn wsX9_kind wsX9_refused := goodIn_r _ [19, 20, 21, 22, 23, 24, 25, 26, 27, 28, 29, 30, 31, 32, 33, 34, 35, 36, 37, 38, 39, 40, 41, 42, 43, 44, 45, 46, 47, 48, 49, 50, 51, 52, 53, 54, 55, 56, 57, 58, 59, 60, 61, 62, 63] (by decide +kernel) (by decide +kernel)
set_option maxRecDepth 20000 in
theorem gX9_kind_X9_refused : GoodIn wsX9_kind (wsV RX9 122 RX9 yX9_refused wsX9_refused) := goodIn_app (goodIn_of _ (by decide +kernel)) ggX9_kind_X9_refused
theorem dX9_kind_0 : decode cX9_kind 0 = .ok (.aload_n 0, 1) := by decide +kernel
theorem dX9_kind_1 : decode cX9_kind 1 = .ok (.iload_n 1, 1) := by decide +kernel
theorem dX9_kind_2 : decode cX9_kind 2 = .ok (.iconst 0, 1) := by decide +kernel
theorem dX9_kind_3 : decode cX9_kind 3 = .ok (.iconst 5, 1) := by decide +kernel
theorem dX9_kind_4 : decode cX9_kind 4 = .ok (.invokestatic 118, 3) := by decide +kernel
theorem dX9_kind_7 : decode cX9_kind 7 = .ok (.ifCond .eq 27, 3) := by decide +kernel
theorem dX9_kind_10 : decode cX9_kind 10 = .ok (.iload_n 2, 1) := by decide +kernel
theorem dX9_kind_11 : decode cX9_kind 11 = .ok (.iconst 0, 1) := by decide +kernel
theorem dX9_kind_12 : decode cX9_kind 12 = .ok (.iconst 2, 1) := by decide +kernel
theorem dX9_kind_13 : decode cX9_kind 13 = .ok (.invokestatic 118, 3) := by decide +kernel
theorem dX9_kind_16 : decode cX9_kind 16 = .ok (.ifCond .eq 18, 3) := by decide +kernel
theorem dX9_kind_19 : decode cX9_kind 19 = .ok (.iload_n 3, 1) := by decide +kernel
theorem dX9_kind_20 : decode cX9_kind 20 = .ok (.iconst 1, 1) := by decide +kernel
theorem dX9_kind_21 : decode cX9_kind 21 = .ok (.sipush 3000, 3) := by decide +kernel
theorem dX9_kind_24 : decode cX9_kind 24 = .ok (.invokestatic 118, 3) := by decide +kernel
theorem dX9_kind_27 : decode cX9_kind 27 = .ok (.ifCond .eq 7, 3) := by decide +kernel
theorem dX9_kind_30 : decode cX9_kind 30 = .ok (.iconst 0, 1) := by decide +kernel
theorem dX9_kind_31 : decode cX9_kind 31 = .ok (.goto 4, 3) := by decide +kernel
theorem dX9_kind_34 : decode cX9_kind 34 = .ok (.iconst 1, 1) := by decide +kernel
theorem dX9_kind_35 : decode cX9_kind 35 = .ok (.invokevirtual 122, 3) := by decide +kernel
theorem dX9_kind_38 : decode cX9_kind 38 = .ok (.ifCond .eq 4, 3) := by decide +kernel
theorem dX9_kind_41 : decode cX9_kind 41 = .ok (.return_, 1) := by decide +kernel
theorem dX9_kind_42 : decode cX9_kind 42 = .ok (.aload_n 0, 1) := by decide +kernel
theorem dX9_kind_43 : decode cX9_kind 43 = .ok (.getfield 20, 3) := by decide +kernel
theorem dX9_kind_46 : decode cX9_kind 46 = .ok (.iload_n 1, 1) := by decide +kernel
theorem dX9_kind_47 : decode cX9_kind 47 = .ok (.iload_n 2, 1) := by decide +kernel
theorem dX9_kind_48 : decode cX9_kind 48 = .ok (.iastore, 1) := by decide +kernel
theorem dX9_kind_49 : decode cX9_kind 49 = .ok (.aload_n 0, 1) := by decide +kernel
theorem dX9_kind_50 : decode cX9_kind 50 = .ok (.getfield 24, 3) := by decide +kernel
theorem dX9_kind_53 : decode cX9_kind 53 = .ok (.iload_n 1, 1) := by decide +kernel
theorem dX9_kind_54 : decode cX9_kind 54 = .ok (.iload_n 3, 1) := by decide +kernel
theorem dX9_kind_55 : decode cX9_kind 55 = .ok (.iastore, 1) := by decide +kernel
theorem dX9_kind_56 : decode cX9_kind 56 = .ok (.aload_n 0, 1) := by decide +kernel
theorem dX9_kind_57 : decode cX9_kind 57 = .ok (.getfield 40, 3) := by decide +kernel
theorem dX9_kind_60 : decode cX9_kind 60 = .ok (.iload_n 1, 1) := by decide +kernel
theorem dX9_kind_61 : decode cX9_kind 61 = .ok (.dconst 0, 1) := by decide +kernel
theorem dX9_kind_62 : decode cX9_kind 62 = .ok (.dastore, 1) := by decide +kernel
theorem dX9_kind_63 : decode cX9_kind 63 = .ok (.aload_n 0, 1) := by decide +kernel
theorem dX9_kind_64 : decode cX9_kind 64 = .ok (.getfield 43, 3) := by decide +kernel
theorem dX9_kind_67 : decode cX9_kind 67 = .ok (.iload_n 1, 1) := by decide +kernel
theorem dX9_kind_68 : decode cX9_kind 68 = .ok (.iconst (-1), 1) := by decide +kernel
theorem dX9_kind_69 : decode cX9_kind 69 = .ok (.iastore, 1) := by decide +kernel
theorem dX9_kind_70 : decode cX9_kind 70 = .ok (.aload_n 0, 1) := by decide +kernel
theorem dX9_kind_71 : decode cX9_kind 71 = .ok (.getfield 46, 3) := by decide +kernel
theorem dX9_kind_74 : decode cX9_kind 74 = .ok (.iload_n 1, 1) := by decide +kernel
theorem dX9_kind_75 : decode cX9_kind 75 = .ok (.aload_n 0, 1) := by decide +kernel
theorem dX9_kind_76 : decode cX9_kind 76 = .ok (.getfield 126, 3) := by decide +kernel
theorem dX9_kind_79 : decode cX9_kind 79 = .ok (.iastore, 1) := by decide +kernel
theorem dX9_kind_80 : decode cX9_kind 80 = .ok (.aload_n 0, 1) := by decide +kernel
theorem dX9_kind_81 : decode cX9_kind 81 = .ok (.getfield 58, 3) := by decide +kernel
theorem dX9_kind_84 : decode cX9_kind 84 = .ok (.iload_n 1, 1) := by decide +kernel
theorem dX9_kind_85 : decode cX9_kind 85 = .ok (.iconst 0, 1) := by decide +kernel
theorem dX9_kind_86 : decode cX9_kind 86 = .ok (.bastore, 1) := by decide +kernel
theorem dX9_kind_87 : decode cX9_kind 87 = .ok (.aload_n 0, 1) := by decide +kernel
theorem dX9_kind_88 : decode cX9_kind 88 = .ok (.getfield 62, 3) := by decide +kernel
theorem dX9_kind_91 : decode cX9_kind 91 = .ok (.iload_n 1, 1) := by decide +kernel
theorem dX9_kind_92 : decode cX9_kind 92 = .ok (.iconst 0, 1) := by decide +kernel
theorem dX9_kind_93 : decode cX9_kind 93 = .ok (.bastore, 1) := by decide +kernel
theorem dX9_kind_94 : decode cX9_kind 94 = .ok (.aload_n 0, 1) := by decide +kernel
theorem dX9_kind_95 : decode cX9_kind 95 = .ok (.getfield 65, 3) := by decide +kernel
theorem dX9_kind_98 : decode cX9_kind 98 = .ok (.iload_n 1, 1) := by decide +kernel
theorem dX9_kind_99 : decode cX9_kind 99 = .ok (.dconst 0, 1) := by decide +kernel
theorem dX9_kind_100 : decode cX9_kind 100 = .ok (.dastore, 1) := by decide +kernel
theorem dX9_kind_101 : decode cX9_kind 101 = .ok (.aload_n 0, 1) := by decide +kernel
theorem dX9_kind_102 : decode cX9_kind 102 = .ok (.getfield 68, 3) := by decide +kernel
theorem dX9_kind_105 : decode cX9_kind 105 = .ok (.iload_n 1, 1) := by decide +kernel
theorem dX9_kind_106 : decode cX9_kind 106 = .ok (.iconst 0, 1) := by decide +kernel
theorem dX9_kind_107 : decode cX9_kind 107 = .ok (.iastore, 1) := by decide +kernel
theorem dX9_kind_108 : decode cX9_kind 108 = .ok (.aload_n 0, 1) := by decide +kernel
theorem dX9_kind_109 : decode cX9_kind 109 = .ok (.getfield 71, 3) := by decide +kernel
theorem dX9_kind_112 : decode cX9_kind 112 = .ok (.iload_n 1, 1) := by decide +kernel
theorem dX9_kind_113 : decode cX9_kind 113 = .ok (.iconst 0, 1) := by decide +kernel
theorem dX9_kind_114 : decode cX9_kind 114 = .ok (.iastore, 1) := by decide +kernel
theorem dX9_kind_115 : decode cX9_kind 115 = .ok (.return_, 1) := by decide +kernel
set_option maxRecDepth 20000 in
theorem ggX9_mean_X9_isIn : GoodIn wsX9_mean wsX9_isIn := goodIn_r _ [9] (by decide +kernel) (by decide +kernel)
set_option maxRecDepth 20000 in
theorem gX9_mean_X9_isIn : GoodIn wsX9_mean (va_wsS RX9 118 yX9_isIn wsX9_isIn) := goodIn_app (goodIn_of _ (by decide +kernel)) ggX9_mean_X9_isIn
set_option maxRecDepth 20000 in
theorem ggX9_mean_X9_refused : GoodIn wsX9_mean wsX9_refused := goodIn_r _ [13, 14, 15, 16, 17, 18, 19, 20, 21, 22, 23, 24, 25, 26, 27, 28, 29, 30, 31, 32, 33, 34, 35, 36, 37, 38, 39, 40, 41, 42, 43, 44, 45, 46, 47, 48, 49, 50, 51, 52, 53, 54, 55, 56, 57] (by decide +kernel) (by decide +kernel)
set_option maxRecDepth 20000 in
theorem gX9_mean_X9_refused : GoodIn wsX9_mean (wsV RX9 122 RX9 yX9_refused wsX9_refused) := goodIn_app (goodIn_of _ (by decide +kernel)) ggX9_mean_X9_refused
theorem dX9_mean_0 : decode cX9_mean 0 = .ok (.iload_n 1, 1) := by decide +kernel
theorem dX9_mean_1 : decode cX9_mean 1 = .ok (.iconst 0, 1) := by decide +kernel
theorem dX9_mean_2 : decode cX9_mean 2 = .ok (.iconst 5, 1) := by decide +kernel
theorem dX9_mean_3 : decode cX9_mean 3 = .ok (.invokestatic 118, 3) := by decide +kernel
theorem dX9_mean_6 : decode cX9_mean 6 = .ok (.ifCond .eq 57, 3) := by decide +kernel
theorem dX9_mean_9 : decode cX9_mean 9 = .ok (.dload_n 2, 1) := by decide +kernel
theorem dX9_mean_10 : decode cX9_mean 10 = .ok (.dconst 0, 1) := by decide +kernel
theorem dX9_mean_11 : decode cX9_mean 11 = .ok (.dcmp .l, 1) := by decide +kernel
theorem dX9_mean_12 : decode cX9_mean 12 = .ok (.ifCond .lt 51, 3) := by decide +kernel
theorem dX9_mean_15 : decode cX9_mean 15 = .ok (.dload_n 2, 1) := by decide +kernel
theorem dX9_mean_16 : decode cX9_mean 16 = .ok (.dload 4, 2) := by decide +kernel
theorem dX9_mean_18 : decode cX9_mean 18 = .ok (.dcmp .g, 1) := by decide +kernel
theorem dX9_mean_19 : decode cX9_mean 19 = .ok (.ifCond .ge 44, 3) := by decide +kernel
theorem dX9_mean_22 : decode cX9_mean 22 = .ok (.dload 4, 2) := by decide +kernel
theorem dX9_mean_24 : decode cX9_mean 24 = .ok (.ldc2_w 129, 3) := by decide +kernel
theorem dX9_mean_27 : decode cX9_mean 27 = .ok (.dcmp .g, 1) := by decide +kernel
theorem dX9_mean_28 : decode cX9_mean 28 = .ok (.ifCond .gt 35, 3) := by decide +kernel
theorem dX9_mean_31 : decode cX9_mean 31 = .ok (.dload 6, 2) := by decide +kernel
theorem dX9_mean_33 : decode cX9_mean 33 = .ok (.dconst 0, 1) := by decide +kernel
theorem dX9_mean_34 : decode cX9_mean 34 = .ok (.dcmp .l, 1) := by decide +kernel
theorem dX9_mean_35 : decode cX9_mean 35 = .ok (.ifCond .le 28, 3) := by decide +kernel
theorem dX9_mean_38 : decode cX9_mean 38 = .ok (.dload 6, 2) := by decide +kernel
theorem dX9_mean_40 : decode cX9_mean 40 = .ok (.dconst 1, 1) := by decide +kernel
theorem dX9_mean_41 : decode cX9_mean 41 = .ok (.dcmp .g, 1) := by decide +kernel
theorem dX9_mean_42 : decode cX9_mean 42 = .ok (.ifCond .gt 21, 3) := by decide +kernel
theorem dX9_mean_45 : decode cX9_mean 45 = .ok (.dload 8, 2) := by decide +kernel
theorem dX9_mean_47 : decode cX9_mean 47 = .ok (.dconst 0, 1) := by decide +kernel
theorem dX9_mean_48 : decode cX9_mean 48 = .ok (.dcmp .l, 1) := by decide +kernel
theorem dX9_mean_49 : decode cX9_mean 49 = .ok (.ifCond .le 14, 3) := by decide +kernel
theorem dX9_mean_52 : decode cX9_mean 52 = .ok (.dload 8, 2) := by decide +kernel
theorem dX9_mean_54 : decode cX9_mean 54 = .ok (.dconst 1, 1) := by decide +kernel
theorem dX9_mean_55 : decode cX9_mean 55 = .ok (.dcmp .g, 1) := by decide +kernel
theorem dX9_mean_56 : decode cX9_mean 56 = .ok (.ifCond .gt 7, 3) := by decide +kernel
theorem dX9_mean_59 : decode cX9_mean 59 = .ok (.iconst 1, 1) := by decide +kernel
theorem dX9_mean_60 : decode cX9_mean 60 = .ok (.goto 4, 3) := by decide +kernel
theorem dX9_mean_63 : decode cX9_mean 63 = .ok (.iconst 0, 1) := by decide +kernel
theorem dX9_mean_64 : decode cX9_mean 64 = .ok (.istore 10, 2) := by decide +kernel
theorem dX9_mean_66 : decode cX9_mean 66 = .ok (.aload_n 0, 1) := by decide +kernel
theorem dX9_mean_67 : decode cX9_mean 67 = .ok (.iload 10, 2) := by decide +kernel
theorem dX9_mean_69 : decode cX9_mean 69 = .ok (.ifCond .eq 7, 3) := by decide +kernel
theorem dX9_mean_72 : decode cX9_mean 72 = .ok (.iconst 0, 1) := by decide +kernel
theorem dX9_mean_73 : decode cX9_mean 73 = .ok (.goto 4, 3) := by decide +kernel
theorem dX9_mean_76 : decode cX9_mean 76 = .ok (.iconst 1, 1) := by decide +kernel
theorem dX9_mean_77 : decode cX9_mean 77 = .ok (.invokevirtual 122, 3) := by decide +kernel
theorem dX9_mean_80 : decode cX9_mean 80 = .ok (.ifCond .eq 4, 3) := by decide +kernel
theorem dX9_mean_83 : decode cX9_mean 83 = .ok (.return_, 1) := by decide +kernel
theorem dX9_mean_84 : decode cX9_mean 84 = .ok (.aload_n 0, 1) := by decide +kernel
theorem dX9_mean_85 : decode cX9_mean 85 = .ok (.getfield 27, 3) := by decide +kernel
theorem dX9_mean_88 : decode cX9_mean 88 = .ok (.iload_n 1, 1) := by decide +kernel
theorem dX9_mean_89 : decode cX9_mean 89 = .ok (.dload_n 2, 1) := by decide +kernel
theorem dX9_mean_90 : decode cX9_mean 90 = .ok (.dastore, 1) := by decide +kernel
theorem dX9_mean_91 : decode cX9_mean 91 = .ok (.aload_n 0, 1) := by decide +kernel
theorem dX9_mean_92 : decode cX9_mean 92 = .ok (.getfield 31, 3) := by decide +kernel
theorem dX9_mean_95 : decode cX9_mean 95 = .ok (.iload_n 1, 1) := by decide +kernel
theorem dX9_mean_96 : decode cX9_mean 96 = .ok (.dload 4, 2) := by decide +kernel
theorem dX9_mean_98 : decode cX9_mean 98 = .ok (.dastore, 1) := by decide +kernel
theorem dX9_mean_99 : decode cX9_mean 99 = .ok (.aload_n 0, 1) := by decide +kernel
theorem dX9_mean_100 : decode cX9_mean 100 = .ok (.getfield 34, 3) := by decide +kernel
theorem dX9_mean_103 : decode cX9_mean 103 = .ok (.iload_n 1, 1) := by decide +kernel
theorem dX9_mean_104 : decode cX9_mean 104 = .ok (.dload 6, 2) := by decide +kernel
theorem dX9_mean_106 : decode cX9_mean 106 = .ok (.dastore, 1) := by decide +kernel
theorem dX9_mean_107 : decode cX9_mean 107 = .ok (.aload_n 0, 1) := by decide +kernel
theorem dX9_mean_108 : decode cX9_mean 108 = .ok (.getfield 37, 3) := by decide +kernel
theorem dX9_mean_111 : decode cX9_mean 111 = .ok (.iload_n 1, 1) := by decide +kernel
theorem dX9_mean_112 : decode cX9_mean 112 = .ok (.dload 8, 2) := by decide +kernel
theorem dX9_mean_114 : decode cX9_mean 114 = .ok (.dastore, 1) := by decide +kernel
theorem dX9_mean_115 : decode cX9_mean 115 = .ok (.return_, 1) := by decide +kernel
set_option maxRecDepth 20000 in
theorem ggX9_delay_X9_isIn : GoodIn wsX9_delay wsX9_isIn := goodIn_r _ [7] (by decide +kernel) (by decide +kernel)
set_option maxRecDepth 20000 in
theorem gX9_delay_X9_isIn : GoodIn wsX9_delay (va_wsS RX9 118 yX9_isIn wsX9_isIn) := goodIn_app (goodIn_of _ (by decide +kernel)) ggX9_delay_X9_isIn
set_option maxRecDepth 20000 in
theorem ggX9_delay_X9_refused : GoodIn wsX9_delay wsX9_refused := goodIn_r _ [11, 12, 13, 14, 15, 16, 17, 18, 19, 20, 21, 22, 23, 24, 25, 26, 27, 28, 29, 30, 31, 32, 33, 34, 35, 36, 37, 38, 39, 40, 41, 42, 43, 44, 45, 46, 47, 48, 49, 50, 51, 52, 53, 54, 55] (by decide +kernel) (by decide +kernel)
set_option maxRecDepth 20000 in
theorem gX9_delay_X9_refused : GoodIn wsX9_delay (wsV RX9 122 RX9 yX9_refused wsX9_refused) := goodIn_app (goodIn_of _ (by decide +kernel)) ggX9_delay_X9_refused
theorem dX9_delay_0 : decode cX9_delay 0 = .ok (.iload_n 1, 1) := by decide +kernel
theorem dX9_delay_1 : decode cX9_delay 1 = .ok (.iconst 0, 1) := by decide +kernel
theorem dX9_delay_2 : decode cX9_delay 2 = .ok (.iconst 5, 1) := by decide +kernel
theorem dX9_delay_3 : decode cX9_delay 3 = .ok (.invokestatic 118, 3) := by decide +kernel
theorem dX9_delay_6 : decode cX9_delay 6 = .ok (.ifCond .eq 29, 3) := by decide +kernel
theorem dX9_delay_9 : decode cX9_delay 9 = .ok (.dload_n 2, 1) := by decide +kernel
theorem dX9_delay_10 : decode cX9_delay 10 = .ok (.dconst 0, 1) := by decide +kernel
theorem dX9_delay_11 : decode cX9_delay 11 = .ok (.dcmp .l, 1) := by decide +kernel
theorem dX9_delay_12 : decode cX9_delay 12 = .ok (.ifCond .le 23, 3) := by decide +kernel
theorem dX9_delay_15 : decode cX9_delay 15 = .ok (.dload_n 2, 1) := by decide +kernel
theorem dX9_delay_16 : decode cX9_delay 16 = .ok (.dload 4, 2) := by decide +kernel
theorem dX9_delay_18 : decode cX9_delay 18 = .ok (.dcmp .g, 1) := by decide +kernel
theorem dX9_delay_19 : decode cX9_delay 19 = .ok (.ifCond .gt 16, 3) := by decide +kernel
theorem dX9_delay_22 : decode cX9_delay 22 = .ok (.dload 4, 2) := by decide +kernel
theorem dX9_delay_24 : decode cX9_delay 24 = .ok (.ldc2_w 131, 3) := by decide +kernel
theorem dX9_delay_27 : decode cX9_delay 27 = .ok (.dcmp .g, 1) := by decide +kernel
theorem dX9_delay_28 : decode cX9_delay 28 = .ok (.ifCond .gt 7, 3) := by decide +kernel
theorem dX9_delay_31 : decode cX9_delay 31 = .ok (.iconst 1, 1) := by decide +kernel
theorem dX9_delay_32 : decode cX9_delay 32 = .ok (.goto 4, 3) := by decide +kernel
theorem dX9_delay_35 : decode cX9_delay 35 = .ok (.iconst 0, 1) := by decide +kernel
theorem dX9_delay_36 : decode cX9_delay 36 = .ok (.istore 6, 2) := by decide +kernel
theorem dX9_delay_38 : decode cX9_delay 38 = .ok (.aload_n 0, 1) := by decide +kernel
theorem dX9_delay_39 : decode cX9_delay 39 = .ok (.iload 6, 2) := by decide +kernel
theorem dX9_delay_41 : decode cX9_delay 41 = .ok (.ifCond .eq 7, 3) := by decide +kernel
theorem dX9_delay_44 : decode cX9_delay 44 = .ok (.iconst 0, 1) := by decide +kernel
theorem dX9_delay_45 : decode cX9_delay 45 = .ok (.goto 4, 3) := by decide +kernel
theorem dX9_delay_48 : decode cX9_delay 48 = .ok (.iconst 1, 1) := by decide +kernel
theorem dX9_delay_49 : decode cX9_delay 49 = .ok (.invokevirtual 122, 3) := by decide +kernel
theorem dX9_delay_52 : decode cX9_delay 52 = .ok (.ifCond .eq 4, 3) := by decide +kernel
theorem dX9_delay_55 : decode cX9_delay 55 = .ok (.return_, 1) := by decide +kernel
theorem dX9_delay_56 : decode cX9_delay 56 = .ok (.aload_n 0, 1) := by decide +kernel
theorem dX9_delay_57 : decode cX9_delay 57 = .ok (.getfield 49, 3) := by decide +kernel
theorem dX9_delay_60 : decode cX9_delay 60 = .ok (.iload_n 1, 1) := by decide +kernel
theorem dX9_delay_61 : decode cX9_delay 61 = .ok (.dload_n 2, 1) := by decide +kernel
theorem dX9_delay_62 : decode cX9_delay 62 = .ok (.dastore, 1) := by decide +kernel
theorem dX9_delay_63 : decode cX9_delay 63 = .ok (.aload_n 0, 1) := by decide +kernel
theorem dX9_delay_64 : decode cX9_delay 64 = .ok (.getfield 52, 3) := by decide +kernel
theorem dX9_delay_67 : decode cX9_delay 67 = .ok (.iload_n 1, 1) := by decide +kernel
theorem dX9_delay_68 : decode cX9_delay 68 = .ok (.dload 4, 2) := by decide +kernel
theorem dX9_delay_70 : decode cX9_delay 70 = .ok (.dastore, 1) := by decide +kernel
theorem dX9_delay_71 : decode cX9_delay 71 = .ok (.return_, 1) := by decide +kernel
set_option maxRecDepth 20000 in
theorem ggX9_link_X9_isIn : GoodIn wsX9_link wsX9_isIn := goodIn_r _ [9] (by decide +kernel) (by decide +kernel)
set_option maxRecDepth 20000 in
theorem gX9_link_X9_isIn : GoodIn wsX9_link (va_wsS RX9 118 yX9_isIn wsX9_isIn) := goodIn_app (goodIn_of _ (by decide +kernel)) ggX9_link_X9_isIn
set_option maxRecDepth 20000 in
theorem ggX9_link_X9_refused : GoodIn wsX9_link wsX9_refused := goodIn_r _ [13, 14, 15, 16, 17, 18, 19, 20, 21, 22, 23, 24, 25, 26, 27, 28, 29, 30, 31, 32, 33, 34, 35, 36, 37, 38, 39, 40, 41, 42, 43, 44, 45, 46, 47, 48, 49, 50, 51, 52, 53, 54, 55, 56, 57] (by decide +kernel) (by decide +kernel)
set_option maxRecDepth 20000 in
theorem gX9_link_X9_refused : GoodIn wsX9_link (wsV RX9 122 RX9 yX9_refused wsX9_refused) := goodIn_app (goodIn_of _ (by decide +kernel)) ggX9_link_X9_refused
theorem dX9_link_0 : decode cX9_link 0 = .ok (.dload_n 1, 1) := by decide +kernel
theorem dX9_link_1 : decode cX9_link 1 = .ok (.ldc2_w 133, 3) := by decide +kernel
theorem dX9_link_4 : decode cX9_link 4 = .ok (.dcmp .l, 1) := by decide +kernel
theorem dX9_link_5 : decode cX9_link 5 = .ok (.ifCond .lt 25, 3) := by decide +kernel
theorem dX9_link_8 : decode cX9_link 8 = .ok (.dload_n 1, 1) := by decide +kernel
theorem dX9_link_9 : decode cX9_link 9 = .ok (.ldc2_w 131, 3) := by decide +kernel
theorem dX9_link_12 : decode cX9_link 12 = .ok (.dcmp .g, 1) := by decide +kernel
theorem dX9_link_13 : decode cX9_link 13 = .ok (.ifCond .gt 17, 3) := by decide +kernel
theorem dX9_link_16 : decode cX9_link 16 = .ok (.iload_n 3, 1) := by decide +kernel
theorem dX9_link_17 : decode cX9_link 17 = .ok (.iconst 1, 1) := by decide +kernel
theorem dX9_link_18 : decode cX9_link 18 = .ok (.ldc 15, 2) := by decide +kernel
theorem dX9_link_20 : decode cX9_link 20 = .ok (.invokestatic 118, 3) := by decide +kernel
theorem dX9_link_23 : decode cX9_link 23 = .ok (.ifCond .eq 7, 3) := by decide +kernel
theorem dX9_link_26 : decode cX9_link 26 = .ok (.iconst 1, 1) := by decide +kernel
theorem dX9_link_27 : decode cX9_link 27 = .ok (.goto 4, 3) := by decide +kernel
theorem dX9_link_30 : decode cX9_link 30 = .ok (.iconst 0, 1) := by decide +kernel
theorem dX9_link_31 : decode cX9_link 31 = .ok (.istore 4, 2) := by decide +kernel
theorem dX9_link_33 : decode cX9_link 33 = .ok (.aload_n 0, 1) := by decide +kernel
theorem dX9_link_34 : decode cX9_link 34 = .ok (.iload 4, 2) := by decide +kernel
theorem dX9_link_36 : decode cX9_link 36 = .ok (.ifCond .eq 7, 3) := by decide +kernel
theorem dX9_link_39 : decode cX9_link 39 = .ok (.iconst 0, 1) := by decide +kernel
theorem dX9_link_40 : decode cX9_link 40 = .ok (.goto 4, 3) := by decide +kernel
theorem dX9_link_43 : decode cX9_link 43 = .ok (.iconst 1, 1) := by decide +kernel
theorem dX9_link_44 : decode cX9_link 44 = .ok (.invokevirtual 122, 3) := by decide +kernel
theorem dX9_link_47 : decode cX9_link 47 = .ok (.ifCond .eq 4, 3) := by decide +kernel
theorem dX9_link_50 : decode cX9_link 50 = .ok (.return_, 1) := by decide +kernel
theorem dX9_link_51 : decode cX9_link 51 = .ok (.aload_n 0, 1) := by decide +kernel
theorem dX9_link_52 : decode cX9_link 52 = .ok (.dload_n 1, 1) := by decide +kernel
theorem dX9_link_53 : decode cX9_link 53 = .ok (.putfield 9, 3) := by decide +kernel
theorem dX9_link_56 : decode cX9_link 56 = .ok (.aload_n 0, 1) := by decide +kernel
theorem dX9_link_57 : decode cX9_link 57 = .ok (.iload_n 3, 1) := by decide +kernel
theorem dX9_link_58 : decode cX9_link 58 = .ok (.putfield 16, 3) := by decide +kernel
theorem dX9_link_61 : decode cX9_link 61 = .ok (.return_, 1) := by decide +kernel
set_option maxRecDepth 20000 in
theorem ggX9_coin_X9_refused : GoodIn wsX9_coin wsX9_refused := goodIn_r _ [7, 8, 9, 10, 11, 12, 13, 14, 15, 16, 17, 18, 19, 20, 21, 22, 23, 24, 25, 26, 27, 28, 29, 30, 31, 32, 33, 34, 35, 36, 37, 38, 39, 40, 41, 42, 43, 44, 45, 46, 47, 48, 49, 50, 51] (by decide +kernel) (by decide +kernel)
set_option maxRecDepth 20000 in
theorem gX9_coin_X9_refused : GoodIn wsX9_coin (wsV RX9 122 RX9 yX9_refused wsX9_refused) := goodIn_app (goodIn_of _ (by decide +kernel)) ggX9_coin_X9_refused
theorem dX9_coin_0 : decode cX9_coin 0 = .ok (.aload_n 0, 1) := by decide +kernel
theorem dX9_coin_1 : decode cX9_coin 1 = .ok (.dload_n 1, 1) := by decide +kernel
theorem dX9_coin_2 : decode cX9_coin 2 = .ok (.dconst 0, 1) := by decide +kernel
theorem dX9_coin_3 : decode cX9_coin 3 = .ok (.dcmp .l, 1) := by decide +kernel
theorem dX9_coin_4 : decode cX9_coin 4 = .ok (.ifCond .lt 9, 3) := by decide +kernel
theorem dX9_coin_7 : decode cX9_coin 7 = .ok (.dload_n 1, 1) := by decide +kernel
theorem dX9_coin_8 : decode cX9_coin 8 = .ok (.dconst 1, 1) := by decide +kernel
theorem dX9_coin_9 : decode cX9_coin 9 = .ok (.dcmp .g, 1) := by decide +kernel
theorem dX9_coin_10 : decode cX9_coin 10 = .ok (.ifCond .lt 7, 3) := by decide +kernel
theorem dX9_coin_13 : decode cX9_coin 13 = .ok (.iconst 1, 1) := by decide +kernel
theorem dX9_coin_14 : decode cX9_coin 14 = .ok (.goto 17, 3) := by decide +kernel
theorem dX9_coin_17 : decode cX9_coin 17 = .ok (.aload_n 0, 1) := by decide +kernel
theorem dX9_coin_18 : decode cX9_coin 18 = .ok (.getfield 135, 3) := by decide +kernel
theorem dX9_coin_21 : decode cX9_coin 21 = .ok (.bipush 64, 2) := by decide +kernel
theorem dX9_coin_23 : decode cX9_coin 23 = .ok (.if_icmp .ne 7, 3) := by decide +kernel
theorem dX9_coin_26 : decode cX9_coin 26 = .ok (.iconst 2, 1) := by decide +kernel
theorem dX9_coin_27 : decode cX9_coin 27 = .ok (.goto 4, 3) := by decide +kernel
theorem dX9_coin_30 : decode cX9_coin 30 = .ok (.iconst 0, 1) := by decide +kernel
theorem dX9_coin_31 : decode cX9_coin 31 = .ok (.invokevirtual 122, 3) := by decide +kernel
theorem dX9_coin_34 : decode cX9_coin 34 = .ok (.ifCond .eq 5, 3) := by decide +kernel
theorem dX9_coin_37 : decode cX9_coin 37 = .ok (.iconst 0, 1) := by decide +kernel
theorem dX9_coin_38 : decode cX9_coin 38 = .ok (.ireturn, 1) := by decide +kernel
theorem dX9_coin_39 : decode cX9_coin 39 = .ok (.aload_n 0, 1) := by decide +kernel
theorem dX9_coin_40 : decode cX9_coin 40 = .ok (.getfield 101, 3) := by decide +kernel
theorem dX9_coin_43 : decode cX9_coin 43 = .ok (.aload_n 0, 1) := by decide +kernel
theorem dX9_coin_44 : decode cX9_coin 44 = .ok (.getfield 135, 3) := by decide +kernel
theorem dX9_coin_47 : decode cX9_coin 47 = .ok (.dload_n 1, 1) := by decide +kernel
theorem dX9_coin_48 : decode cX9_coin 48 = .ok (.dastore, 1) := by decide +kernel
theorem dX9_coin_49 : decode cX9_coin 49 = .ok (.aload_n 0, 1) := by decide +kernel
theorem dX9_coin_50 : decode cX9_coin 50 = .ok (.dup, 1) := by decide +kernel
theorem dX9_coin_51 : decode cX9_coin 51 = .ok (.getfield 135, 3) := by decide +kernel
theorem dX9_coin_54 : decode cX9_coin 54 = .ok (.iconst 1, 1) := by decide +kernel
theorem dX9_coin_55 : decode cX9_coin 55 = .ok (.iadd, 1) := by decide +kernel
theorem dX9_coin_56 : decode cX9_coin 56 = .ok (.putfield 135, 3) := by decide +kernel
theorem dX9_coin_59 : decode cX9_coin 59 = .ok (.aload_n 0, 1) := by decide +kernel
theorem dX9_coin_60 : decode cX9_coin 60 = .ok (.getfield 135, 3) := by decide +kernel
theorem dX9_coin_63 : decode cX9_coin 63 = .ok (.ireturn, 1) := by decide +kernel
theorem dX9_useCoin_0 : decode cX9_useCoin 0 = .ok (.aload_n 0, 1) := by decide +kernel
theorem dX9_useCoin_1 : decode cX9_useCoin 1 = .ok (.getfield 135, 3) := by decide +kernel
theorem dX9_useCoin_4 : decode cX9_useCoin 4 = .ok (.ifCond .ne 7, 3) := by decide +kernel
theorem dX9_useCoin_7 : decode cX9_useCoin 7 = .ok (.ldc2_w 138, 3) := by decide +kernel
theorem dX9_useCoin_10 : decode cX9_useCoin 10 = .ok (.dreturn, 1) := by decide +kernel
theorem dX9_useCoin_11 : decode cX9_useCoin 11 = .ok (.aload_n 0, 1) := by decide +kernel
theorem dX9_useCoin_12 : decode cX9_useCoin 12 = .ok (.getfield 101, 3) := by decide +kernel
theorem dX9_useCoin_15 : decode cX9_useCoin 15 = .ok (.iconst 0, 1) := by decide +kernel
theorem dX9_useCoin_16 : decode cX9_useCoin 16 = .ok (.daload, 1) := by decide +kernel
theorem dX9_useCoin_17 : decode cX9_useCoin 17 = .ok (.dstore_n 1, 1) := by decide +kernel
theorem dX9_useCoin_18 : decode cX9_useCoin 18 = .ok (.aload_n 0, 1) := by decide +kernel
theorem dX9_useCoin_19 : decode cX9_useCoin 19 = .ok (.dup, 1) := by decide +kernel
theorem dX9_useCoin_20 : decode cX9_useCoin 20 = .ok (.getfield 135, 3) := by decide +kernel
theorem dX9_useCoin_23 : decode cX9_useCoin 23 = .ok (.iconst 1, 1) := by decide +kernel
theorem dX9_useCoin_24 : decode cX9_useCoin 24 = .ok (.isub, 1) := by decide +kernel
theorem dX9_useCoin_25 : decode cX9_useCoin 25 = .ok (.putfield 135, 3) := by decide +kernel
theorem dX9_useCoin_28 : decode cX9_useCoin 28 = .ok (.iconst 0, 1) := by decide +kernel
theorem dX9_useCoin_29 : decode cX9_useCoin 29 = .ok (.istore_n 3, 1) := by decide +kernel
theorem dX9_useCoin_30 : decode cX9_useCoin 30 = .ok (.iload_n 3, 1) := by decide +kernel
theorem dX9_useCoin_31 : decode cX9_useCoin 31 = .ok (.aload_n 0, 1) := by decide +kernel
theorem dX9_useCoin_32 : decode cX9_useCoin 32 = .ok (.getfield 135, 3) := by decide +kernel
theorem dX9_useCoin_35 : decode cX9_useCoin 35 = .ok (.if_icmp .ge 23, 3) := by decide +kernel
theorem dX9_useCoin_38 : decode cX9_useCoin 38 = .ok (.aload_n 0, 1) := by decide +kernel
theorem dX9_useCoin_39 : decode cX9_useCoin 39 = .ok (.getfield 101, 3) := by decide +kernel
theorem dX9_useCoin_42 : decode cX9_useCoin 42 = .ok (.iload_n 3, 1) := by decide +kernel
theorem dX9_useCoin_43 : decode cX9_useCoin 43 = .ok (.aload_n 0, 1) := by decide +kernel
theorem dX9_useCoin_44 : decode cX9_useCoin 44 = .ok (.getfield 101, 3) := by decide +kernel
theorem dX9_useCoin_47 : decode cX9_useCoin 47 = .ok (.iload_n 3, 1) := by decide +kernel
theorem dX9_useCoin_48 : decode cX9_useCoin 48 = .ok (.iconst 1, 1) := by decide +kernel
theorem dX9_useCoin_49 : decode cX9_useCoin 49 = .ok (.iadd, 1) := by decide +kernel
theorem dX9_useCoin_50 : decode cX9_useCoin 50 = .ok (.daload, 1) := by decide +kernel
theorem dX9_useCoin_51 : decode cX9_useCoin 51 = .ok (.dastore, 1) := by decide +kernel
theorem dX9_useCoin_52 : decode cX9_useCoin 52 = .ok (.iinc 3 1, 3) := by decide +kernel
theorem dX9_useCoin_55 : decode cX9_useCoin 55 = .ok (.goto (-25), 3) := by decide +kernel
theorem dX9_useCoin_58 : decode cX9_useCoin 58 = .ok (.dload_n 1, 1) := by decide +kernel
theorem dX9_useCoin_59 : decode cX9_useCoin 59 = .ok (.dreturn, 1) := by decide +kernel
theorem dX9_waiting_0 : decode cX9_waiting 0 = .ok (.iconst 0, 1) := by decide +kernel
theorem dX9_waiting_1 : decode cX9_waiting 1 = .ok (.istore_n 1, 1) := by decide +kernel
theorem dX9_waiting_2 : decode cX9_waiting 2 = .ok (.iconst 0, 1) := by decide +kernel
theorem dX9_waiting_3 : decode cX9_waiting 3 = .ok (.istore_n 2, 1) := by decide +kernel
theorem dX9_waiting_4 : decode cX9_waiting 4 = .ok (.iload_n 2, 1) := by decide +kernel
theorem dX9_waiting_5 : decode cX9_waiting 5 = .ok (.bipush 6, 2) := by decide +kernel
theorem dX9_waiting_7 : decode cX9_waiting 7 = .ok (.if_icmp .ge 18, 3) := by decide +kernel
theorem dX9_waiting_10 : decode cX9_waiting 10 = .ok (.iload_n 1, 1) := by decide +kernel
theorem dX9_waiting_11 : decode cX9_waiting 11 = .ok (.aload_n 0, 1) := by decide +kernel
theorem dX9_waiting_12 : decode cX9_waiting 12 = .ok (.getfield 74, 3) := by decide +kernel
theorem dX9_waiting_15 : decode cX9_waiting 15 = .ok (.iload_n 2, 1) := by decide +kernel
theorem dX9_waiting_16 : decode cX9_waiting 16 = .ok (.iaload, 1) := by decide +kernel
theorem dX9_waiting_17 : decode cX9_waiting 17 = .ok (.iadd, 1) := by decide +kernel
theorem dX9_waiting_18 : decode cX9_waiting 18 = .ok (.istore_n 1, 1) := by decide +kernel
theorem dX9_waiting_19 : decode cX9_waiting 19 = .ok (.iinc 2 1, 3) := by decide +kernel
theorem dX9_waiting_22 : decode cX9_waiting 22 = .ok (.goto (-18), 3) := by decide +kernel
theorem dX9_waiting_25 : decode cX9_waiting 25 = .ok (.iload_n 1, 1) := by decide +kernel
theorem dX9_waiting_26 : decode cX9_waiting 26 = .ok (.ireturn, 1) := by decide +kernel
theorem dX9_bytesWaiting_0 : decode cX9_bytesWaiting 0 = .ok (.iconst 0, 1) := by decide +kernel
theorem dX9_bytesWaiting_1 : decode cX9_bytesWaiting 1 = .ok (.istore_n 2, 1) := by decide +kernel
theorem dX9_bytesWaiting_2 : decode cX9_bytesWaiting 2 = .ok (.bipush 100, 2) := by decide +kernel
theorem dX9_bytesWaiting_4 : decode cX9_bytesWaiting 4 = .ok (.iload_n 1, 1) := by decide +kernel
theorem dX9_bytesWaiting_5 : decode cX9_bytesWaiting 5 = .ok (.imul, 1) := by decide +kernel
theorem dX9_bytesWaiting_6 : decode cX9_bytesWaiting 6 = .ok (.istore_n 3, 1) := by decide +kernel
theorem dX9_bytesWaiting_7 : decode cX9_bytesWaiting 7 = .ok (.iload_n 3, 1) := by decide +kernel
theorem dX9_bytesWaiting_8 : decode cX9_bytesWaiting 8 = .ok (.bipush 100, 2) := by decide +kernel
theorem dX9_bytesWaiting_10 : decode cX9_bytesWaiting 10 = .ok (.iload_n 1, 1) := by decide +kernel
theorem dX9_bytesWaiting_11 : decode cX9_bytesWaiting 11 = .ok (.imul, 1) := by decide +kernel
theorem dX9_bytesWaiting_12 : decode cX9_bytesWaiting 12 = .ok (.aload_n 0, 1) := by decide +kernel
theorem dX9_bytesWaiting_13 : decode cX9_bytesWaiting 13 = .ok (.getfield 74, 3) := by decide +kernel
theorem dX9_bytesWaiting_16 : decode cX9_bytesWaiting 16 = .ok (.iload_n 1, 1) := by decide +kernel
theorem dX9_bytesWaiting_17 : decode cX9_bytesWaiting 17 = .ok (.iaload, 1) := by decide +kernel
theorem dX9_bytesWaiting_18 : decode cX9_bytesWaiting 18 = .ok (.iadd, 1) := by decide +kernel
theorem dX9_bytesWaiting_19 : decode cX9_bytesWaiting 19 = .ok (.if_icmp .ge 18, 3) := by decide +kernel
theorem dX9_bytesWaiting_22 : decode cX9_bytesWaiting 22 = .ok (.iload_n 2, 1) := by decide +kernel
theorem dX9_bytesWaiting_23 : decode cX9_bytesWaiting 23 = .ok (.aload_n 0, 1) := by decide +kernel
theorem dX9_bytesWaiting_24 : decode cX9_bytesWaiting 24 = .ok (.getfield 80, 3) := by decide +kernel
theorem dX9_bytesWaiting_27 : decode cX9_bytesWaiting 27 = .ok (.iload_n 3, 1) := by decide +kernel
theorem dX9_bytesWaiting_28 : decode cX9_bytesWaiting 28 = .ok (.iaload, 1) := by decide +kernel
theorem dX9_bytesWaiting_29 : decode cX9_bytesWaiting 29 = .ok (.iadd, 1) := by decide +kernel
theorem dX9_bytesWaiting_30 : decode cX9_bytesWaiting 30 = .ok (.istore_n 2, 1) := by decide +kernel
theorem dX9_bytesWaiting_31 : decode cX9_bytesWaiting 31 = .ok (.iinc 3 1, 3) := by decide +kernel
theorem dX9_bytesWaiting_34 : decode cX9_bytesWaiting 34 = .ok (.goto (-27), 3) := by decide +kernel
theorem dX9_bytesWaiting_37 : decode cX9_bytesWaiting 37 = .ok (.iload_n 2, 1) := by decide +kernel
theorem dX9_bytesWaiting_38 : decode cX9_bytesWaiting 38 = .ok (.ireturn, 1) := by decide +kernel
set_option maxRecDepth 20000 in
theorem ggX9_look_X9_useCoin : GoodIn wsX9_look wsX9_useCoin := goodIn_r _ [14, 15, 16, 17, 18, 19, 20, 21, 22, 23, 24, 25, 26, 27, 28, 29, 30, 31, 32, 33, 34, 35, 36, 37, 38, 39, 40, 41, 42, 43, 44, 45, 46, 47, 48, 49, 50, 51, 52, 53, 54, 55, 56, 57, 58, 59, 60] (by decide +kernel) (by decide +kernel)
set_option maxRecDepth 20000 in
theorem gX9_look_X9_useCoin : GoodIn wsX9_look (wsV RX9 140 RX9 yX9_useCoin wsX9_useCoin) := goodIn_app (goodIn_of _ (by decide +kernel)) ggX9_look_X9_useCoin
theorem dX9_look_0 : decode cX9_look 0 = .ok (.aload_n 0, 1) := by decide +kernel
theorem dX9_look_1 : decode cX9_look 1 = .ok (.getfield 74, 3) := by decide +kernel
theorem dX9_look_4 : decode cX9_look 4 = .ok (.iload_n 1, 1) := by decide +kernel
theorem dX9_look_5 : decode cX9_look 5 = .ok (.iaload, 1) := by decide +kernel
theorem dX9_look_6 : decode cX9_look 6 = .ok (.ifCond .ne 83, 3) := by decide +kernel
theorem dX9_look_9 : decode cX9_look 9 = .ok (.aload_n 0, 1) := by decide +kernel
theorem dX9_look_10 : decode cX9_look 10 = .ok (.getfield 126, 3) := by decide +kernel
theorem dX9_look_13 : decode cX9_look 13 = .ok (.aload_n 0, 1) := by decide +kernel
theorem dX9_look_14 : decode cX9_look 14 = .ok (.getfield 46, 3) := by decide +kernel
theorem dX9_look_17 : decode cX9_look 17 = .ok (.iload_n 1, 1) := by decide +kernel
theorem dX9_look_18 : decode cX9_look 18 = .ok (.iaload, 1) := by decide +kernel
theorem dX9_look_19 : decode cX9_look 19 = .ok (.isub, 1) := by decide +kernel
theorem dX9_look_20 : decode cX9_look 20 = .ok (.bipush 100, 2) := by decide +kernel
theorem dX9_look_22 : decode cX9_look 22 = .ok (.if_icmp .ge 17, 3) := by decide +kernel
theorem dX9_look_25 : decode cX9_look 25 = .ok (.aload_n 0, 1) := by decide +kernel
theorem dX9_look_26 : decode cX9_look 26 = .ok (.getfield 126, 3) := by decide +kernel
theorem dX9_look_29 : decode cX9_look 29 = .ok (.aload_n 0, 1) := by decide +kernel
theorem dX9_look_30 : decode cX9_look 30 = .ok (.getfield 46, 3) := by decide +kernel
theorem dX9_look_33 : decode cX9_look 33 = .ok (.iload_n 1, 1) := by decide +kernel
theorem dX9_look_34 : decode cX9_look 34 = .ok (.iaload, 1) := by decide +kernel
theorem dX9_look_35 : decode cX9_look 35 = .ok (.isub, 1) := by decide +kernel
theorem dX9_look_36 : decode cX9_look 36 = .ok (.goto 5, 3) := by decide +kernel
theorem dX9_look_39 : decode cX9_look 39 = .ok (.bipush 100, 2) := by decide +kernel
theorem dX9_look_41 : decode cX9_look 41 = .ok (.istore_n 2, 1) := by decide +kernel
theorem dX9_look_42 : decode cX9_look 42 = .ok (.iconst 0, 1) := by decide +kernel
theorem dX9_look_43 : decode cX9_look 43 = .ok (.istore_n 3, 1) := by decide +kernel
theorem dX9_look_44 : decode cX9_look 44 = .ok (.iload_n 3, 1) := by decide +kernel
theorem dX9_look_45 : decode cX9_look 45 = .ok (.iload_n 2, 1) := by decide +kernel
theorem dX9_look_46 : decode cX9_look 46 = .ok (.if_icmp .ge 30, 3) := by decide +kernel
theorem dX9_look_49 : decode cX9_look 49 = .ok (.aload_n 0, 1) := by decide +kernel
theorem dX9_look_50 : decode cX9_look 50 = .ok (.getfield 40, 3) := by decide +kernel
theorem dX9_look_53 : decode cX9_look 53 = .ok (.iload_n 1, 1) := by decide +kernel
theorem dX9_look_54 : decode cX9_look 54 = .ok (.aload_n 0, 1) := by decide +kernel
theorem dX9_look_55 : decode cX9_look 55 = .ok (.getfield 40, 3) := by decide +kernel
theorem dX9_look_58 : decode cX9_look 58 = .ok (.iload_n 1, 1) := by decide +kernel
theorem dX9_look_59 : decode cX9_look 59 = .ok (.daload, 1) := by decide +kernel
theorem dX9_look_60 : decode cX9_look 60 = .ok (.dconst 1, 1) := by decide +kernel
theorem dX9_look_61 : decode cX9_look 61 = .ok (.aload_n 0, 1) := by decide +kernel
theorem dX9_look_62 : decode cX9_look 62 = .ok (.getfield 37, 3) := by decide +kernel
theorem dX9_look_65 : decode cX9_look 65 = .ok (.iload_n 1, 1) := by decide +kernel
theorem dX9_look_66 : decode cX9_look 66 = .ok (.daload, 1) := by decide +kernel
theorem dX9_look_67 : decode cX9_look 67 = .ok (.dsub, 1) := by decide +kernel
theorem dX9_look_68 : decode cX9_look 68 = .ok (.dmul, 1) := by decide +kernel
theorem dX9_look_69 : decode cX9_look 69 = .ok (.dastore, 1) := by decide +kernel
theorem dX9_look_70 : decode cX9_look 70 = .ok (.iinc 3 1, 3) := by decide +kernel
theorem dX9_look_73 : decode cX9_look 73 = .ok (.goto (-29), 3) := by decide +kernel
theorem dX9_look_76 : decode cX9_look 76 = .ok (.aload_n 0, 1) := by decide +kernel
theorem dX9_look_77 : decode cX9_look 77 = .ok (.getfield 46, 3) := by decide +kernel
theorem dX9_look_80 : decode cX9_look 80 = .ok (.iload_n 1, 1) := by decide +kernel
theorem dX9_look_81 : decode cX9_look 81 = .ok (.aload_n 0, 1) := by decide +kernel
theorem dX9_look_82 : decode cX9_look 82 = .ok (.getfield 126, 3) := by decide +kernel
theorem dX9_look_85 : decode cX9_look 85 = .ok (.iastore, 1) := by decide +kernel
theorem dX9_look_86 : decode cX9_look 86 = .ok (.goto 37, 3) := by decide +kernel
theorem dX9_look_89 : decode cX9_look 89 = .ok (.aload_n 0, 1) := by decide +kernel
theorem dX9_look_90 : decode cX9_look 90 = .ok (.getfield 40, 3) := by decide +kernel
theorem dX9_look_93 : decode cX9_look 93 = .ok (.iload_n 1, 1) := by decide +kernel
theorem dX9_look_94 : decode cX9_look 94 = .ok (.aload_n 0, 1) := by decide +kernel
theorem dX9_look_95 : decode cX9_look 95 = .ok (.getfield 40, 3) := by decide +kernel
theorem dX9_look_98 : decode cX9_look 98 = .ok (.iload_n 1, 1) := by decide +kernel
theorem dX9_look_99 : decode cX9_look 99 = .ok (.daload, 1) := by decide +kernel
theorem dX9_look_100 : decode cX9_look 100 = .ok (.aload_n 0, 1) := by decide +kernel
theorem dX9_look_101 : decode cX9_look 101 = .ok (.getfield 37, 3) := by decide +kernel
theorem dX9_look_104 : decode cX9_look 104 = .ok (.iload_n 1, 1) := by decide +kernel
theorem dX9_look_105 : decode cX9_look 105 = .ok (.daload, 1) := by decide +kernel
theorem dX9_look_106 : decode cX9_look 106 = .ok (.aload_n 0, 1) := by decide +kernel
theorem dX9_look_107 : decode cX9_look 107 = .ok (.getfield 74, 3) := by decide +kernel
theorem dX9_look_110 : decode cX9_look 110 = .ok (.iload_n 1, 1) := by decide +kernel
theorem dX9_look_111 : decode cX9_look 111 = .ok (.iaload, 1) := by decide +kernel
theorem dX9_look_112 : decode cX9_look 112 = .ok (.i2d, 1) := by decide +kernel
theorem dX9_look_113 : decode cX9_look 113 = .ok (.aload_n 0, 1) := by decide +kernel
theorem dX9_look_114 : decode cX9_look 114 = .ok (.getfield 40, 3) := by decide +kernel
theorem dX9_look_117 : decode cX9_look 117 = .ok (.iload_n 1, 1) := by decide +kernel
theorem dX9_look_118 : decode cX9_look 118 = .ok (.daload, 1) := by decide +kernel
theorem dX9_look_119 : decode cX9_look 119 = .ok (.dsub, 1) := by decide +kernel
theorem dX9_look_120 : decode cX9_look 120 = .ok (.dmul, 1) := by decide +kernel
theorem dX9_look_121 : decode cX9_look 121 = .ok (.dadd, 1) := by decide +kernel
theorem dX9_look_122 : decode cX9_look 122 = .ok (.dastore, 1) := by decide +kernel
theorem dX9_look_123 : decode cX9_look 123 = .ok (.aload_n 0, 1) := by decide +kernel
theorem dX9_look_124 : decode cX9_look 124 = .ok (.getfield 40, 3) := by decide +kernel
theorem dX9_look_127 : decode cX9_look 127 = .ok (.iload_n 1, 1) := by decide +kernel
theorem dX9_look_128 : decode cX9_look 128 = .ok (.daload, 1) := by decide +kernel
theorem dX9_look_129 : decode cX9_look 129 = .ok (.aload_n 0, 1) := by decide +kernel
theorem dX9_look_130 : decode cX9_look 130 = .ok (.getfield 27, 3) := by decide +kernel
theorem dX9_look_133 : decode cX9_look 133 = .ok (.iload_n 1, 1) := by decide +kernel
theorem dX9_look_134 : decode cX9_look 134 = .ok (.daload, 1) := by decide +kernel
theorem dX9_look_135 : decode cX9_look 135 = .ok (.dcmp .g, 1) := by decide +kernel
theorem dX9_look_136 : decode cX9_look 136 = .ok (.ifCond .ge 12, 3) := by decide +kernel
theorem dX9_look_139 : decode cX9_look 139 = .ok (.aload_n 0, 1) := by decide +kernel
theorem dX9_look_140 : decode cX9_look 140 = .ok (.getfield 43, 3) := by decide +kernel
theorem dX9_look_143 : decode cX9_look 143 = .ok (.iload_n 1, 1) := by decide +kernel
theorem dX9_look_144 : decode cX9_look 144 = .ok (.iconst (-1), 1) := by decide +kernel
theorem dX9_look_145 : decode cX9_look 145 = .ok (.iastore, 1) := by decide +kernel
theorem dX9_look_146 : decode cX9_look 146 = .ok (.iconst 0, 1) := by decide +kernel
theorem dX9_look_147 : decode cX9_look 147 = .ok (.ireturn, 1) := by decide +kernel
theorem dX9_look_148 : decode cX9_look 148 = .ok (.aload_n 0, 1) := by decide +kernel
theorem dX9_look_149 : decode cX9_look 149 = .ok (.getfield 40, 3) := by decide +kernel
theorem dX9_look_152 : decode cX9_look 152 = .ok (.iload_n 1, 1) := by decide +kernel
theorem dX9_look_153 : decode cX9_look 153 = .ok (.daload, 1) := by decide +kernel
theorem dX9_look_154 : decode cX9_look 154 = .ok (.aload_n 0, 1) := by decide +kernel
theorem dX9_look_155 : decode cX9_look 155 = .ok (.getfield 31, 3) := by decide +kernel
theorem dX9_look_158 : decode cX9_look 158 = .ok (.iload_n 1, 1) := by decide +kernel
theorem dX9_look_159 : decode cX9_look 159 = .ok (.daload, 1) := by decide +kernel
theorem dX9_look_160 : decode cX9_look 160 = .ok (.dcmp .l, 1) := by decide +kernel
theorem dX9_look_161 : decode cX9_look 161 = .ok (.ifCond .lt 12, 3) := by decide +kernel
theorem dX9_look_164 : decode cX9_look 164 = .ok (.aload_n 0, 1) := by decide +kernel
theorem dX9_look_165 : decode cX9_look 165 = .ok (.getfield 43, 3) := by decide +kernel
theorem dX9_look_168 : decode cX9_look 168 = .ok (.iload_n 1, 1) := by decide +kernel
theorem dX9_look_169 : decode cX9_look 169 = .ok (.iconst 0, 1) := by decide +kernel
theorem dX9_look_170 : decode cX9_look 170 = .ok (.iastore, 1) := by decide +kernel
theorem dX9_look_171 : decode cX9_look 171 = .ok (.iconst 1, 1) := by decide +kernel
theorem dX9_look_172 : decode cX9_look 172 = .ok (.ireturn, 1) := by decide +kernel
theorem dX9_look_173 : decode cX9_look 173 = .ok (.aload_n 0, 1) := by decide +kernel
theorem dX9_look_174 : decode cX9_look 174 = .ok (.getfield 43, 3) := by decide +kernel
theorem dX9_look_177 : decode cX9_look 177 = .ok (.iload_n 1, 1) := by decide +kernel
theorem dX9_look_178 : decode cX9_look 178 = .ok (.dup2, 1) := by decide +kernel
theorem dX9_look_179 : decode cX9_look 179 = .ok (.iaload, 1) := by decide +kernel
theorem dX9_look_180 : decode cX9_look 180 = .ok (.iconst 1, 1) := by decide +kernel
theorem dX9_look_181 : decode cX9_look 181 = .ok (.iadd, 1) := by decide +kernel
theorem dX9_look_182 : decode cX9_look 182 = .ok (.iastore, 1) := by decide +kernel
theorem dX9_look_183 : decode cX9_look 183 = .ok (.aload_n 0, 1) := by decide +kernel
theorem dX9_look_184 : decode cX9_look 184 = .ok (.getfield 34, 3) := by decide +kernel
theorem dX9_look_187 : decode cX9_look 187 = .ok (.iload_n 1, 1) := by decide +kernel
theorem dX9_look_188 : decode cX9_look 188 = .ok (.daload, 1) := by decide +kernel
theorem dX9_look_189 : decode cX9_look 189 = .ok (.aload_n 0, 1) := by decide +kernel
theorem dX9_look_190 : decode cX9_look 190 = .ok (.getfield 40, 3) := by decide +kernel
theorem dX9_look_193 : decode cX9_look 193 = .ok (.iload_n 1, 1) := by decide +kernel
theorem dX9_look_194 : decode cX9_look 194 = .ok (.daload, 1) := by decide +kernel
theorem dX9_look_195 : decode cX9_look 195 = .ok (.aload_n 0, 1) := by decide +kernel
theorem dX9_look_196 : decode cX9_look 196 = .ok (.getfield 27, 3) := by decide +kernel
theorem dX9_look_199 : decode cX9_look 199 = .ok (.iload_n 1, 1) := by decide +kernel
theorem dX9_look_200 : decode cX9_look 200 = .ok (.daload, 1) := by decide +kernel
theorem dX9_look_201 : decode cX9_look 201 = .ok (.dsub, 1) := by decide +kernel
theorem dX9_look_202 : decode cX9_look 202 = .ok (.dmul, 1) := by decide +kernel
theorem dX9_look_203 : decode cX9_look 203 = .ok (.aload_n 0, 1) := by decide +kernel
theorem dX9_look_204 : decode cX9_look 204 = .ok (.getfield 31, 3) := by decide +kernel
theorem dX9_look_207 : decode cX9_look 207 = .ok (.iload_n 1, 1) := by decide +kernel
theorem dX9_look_208 : decode cX9_look 208 = .ok (.daload, 1) := by decide +kernel
theorem dX9_look_209 : decode cX9_look 209 = .ok (.aload_n 0, 1) := by decide +kernel
theorem dX9_look_210 : decode cX9_look 210 = .ok (.getfield 27, 3) := by decide +kernel
theorem dX9_look_213 : decode cX9_look 213 = .ok (.iload_n 1, 1) := by decide +kernel
theorem dX9_look_214 : decode cX9_look 214 = .ok (.daload, 1) := by decide +kernel
theorem dX9_look_215 : decode cX9_look 215 = .ok (.dsub, 1) := by decide +kernel
theorem dX9_look_216 : decode cX9_look 216 = .ok (.ddiv, 1) := by decide +kernel
theorem dX9_look_217 : decode cX9_look 217 = .ok (.dstore_n 2, 1) := by decide +kernel
theorem dX9_look_218 : decode cX9_look 218 = .ok (.dconst 1, 1) := by decide +kernel
theorem dX9_look_219 : decode cX9_look 219 = .ok (.aload_n 0, 1) := by decide +kernel
theorem dX9_look_220 : decode cX9_look 220 = .ok (.getfield 43, 3) := by decide +kernel
theorem dX9_look_223 : decode cX9_look 223 = .ok (.iload_n 1, 1) := by decide +kernel
theorem dX9_look_224 : decode cX9_look 224 = .ok (.iaload, 1) := by decide +kernel
theorem dX9_look_225 : decode cX9_look 225 = .ok (.i2d, 1) := by decide +kernel
theorem dX9_look_226 : decode cX9_look 226 = .ok (.dload_n 2, 1) := by decide +kernel
theorem dX9_look_227 : decode cX9_look 227 = .ok (.dmul, 1) := by decide +kernel
theorem dX9_look_228 : decode cX9_look 228 = .ok (.dsub, 1) := by decide +kernel
theorem dX9_look_229 : decode cX9_look 229 = .ok (.dstore 4, 2) := by decide +kernel
theorem dX9_look_231 : decode cX9_look 231 = .ok (.dload 4, 2) := by decide +kernel
theorem dX9_look_233 : decode cX9_look 233 = .ok (.dconst 0, 1) := by decide +kernel
theorem dX9_look_234 : decode cX9_look 234 = .ok (.dcmp .l, 1) := by decide +kernel
theorem dX9_look_235 : decode cX9_look 235 = .ok (.ifCond .le 15, 3) := by decide +kernel
theorem dX9_look_238 : decode cX9_look 238 = .ok (.aload_n 0, 1) := by decide +kernel
theorem dX9_look_239 : decode cX9_look 239 = .ok (.invokevirtual 140, 3) := by decide +kernel
theorem dX9_look_242 : decode cX9_look 242 = .ok (.dload_n 2, 1) := by decide +kernel
theorem dX9_look_243 : decode cX9_look 243 = .ok (.dload 4, 2) := by decide +kernel
theorem dX9_look_245 : decode cX9_look 245 = .ok (.ddiv, 1) := by decide +kernel
theorem dX9_look_246 : decode cX9_look 246 = .ok (.dcmp .g, 1) := by decide +kernel
theorem dX9_look_247 : decode cX9_look 247 = .ok (.ifCond .ge 7, 3) := by decide +kernel
theorem dX9_look_250 : decode cX9_look 250 = .ok (.iconst 1, 1) := by decide +kernel
theorem dX9_look_251 : decode cX9_look 251 = .ok (.goto 4, 3) := by decide +kernel
theorem dX9_look_254 : decode cX9_look 254 = .ok (.iconst 0, 1) := by decide +kernel
theorem dX9_look_255 : decode cX9_look 255 = .ok (.istore 6, 2) := by decide +kernel
theorem dX9_look_257 : decode cX9_look 257 = .ok (.iload 6, 2) := by decide +kernel
theorem dX9_look_259 : decode cX9_look 259 = .ok (.ifCond .eq 10, 3) := by decide +kernel
theorem dX9_look_262 : decode cX9_look 262 = .ok (.aload_n 0, 1) := by decide +kernel
theorem dX9_look_263 : decode cX9_look 263 = .ok (.getfield 43, 3) := by decide +kernel
theorem dX9_look_266 : decode cX9_look 266 = .ok (.iload_n 1, 1) := by decide +kernel
theorem dX9_look_267 : decode cX9_look 267 = .ok (.iconst 0, 1) := by decide +kernel
theorem dX9_look_268 : decode cX9_look 268 = .ok (.iastore, 1) := by decide +kernel
theorem dX9_look_269 : decode cX9_look 269 = .ok (.iload 6, 2) := by decide +kernel
theorem dX9_look_271 : decode cX9_look 271 = .ok (.ifCond .eq 7, 3) := by decide +kernel
theorem dX9_look_274 : decode cX9_look 274 = .ok (.iconst 2, 1) := by decide +kernel
theorem dX9_look_275 : decode cX9_look 275 = .ok (.goto 4, 3) := by decide +kernel
theorem dX9_look_278 : decode cX9_look 278 = .ok (.iconst 0, 1) := by decide +kernel
theorem dX9_look_279 : decode cX9_look 279 = .ok (.ireturn, 1) := by decide +kernel
set_option maxRecDepth 20000 in
theorem ggX9_come_X9_isIn : GoodIn wsX9_come wsX9_isIn := goodIn_r _ [18] (by decide +kernel) (by decide +kernel)
set_option maxRecDepth 20000 in
theorem gX9_come_X9_isIn : GoodIn wsX9_come (va_wsS RX9 118 yX9_isIn wsX9_isIn) := goodIn_app (goodIn_of _ (by decide +kernel)) ggX9_come_X9_isIn
set_option maxRecDepth 20000 in
theorem ggX9_come_X9_refused : GoodIn wsX9_come wsX9_refused := goodIn_r _ [22, 23, 50, 51, 52, 53, 54, 55, 56, 57, 58, 59, 60, 61, 62, 63, 64, 65, 66, 67, 68, 69, 70, 71, 72, 73, 74, 75, 76, 77, 78, 79, 80, 81, 82, 83, 84, 85, 86, 87, 88, 89, 90, 91, 92] (by decide +kernel) (by decide +kernel)
set_option maxRecDepth 20000 in
theorem gX9_come_X9_refused : GoodIn wsX9_come (wsV RX9 122 RX9 yX9_refused wsX9_refused) := goodIn_app (goodIn_of _ (by decide +kernel)) ggX9_come_X9_refused
set_option maxRecDepth 20000 in
theorem ggX9_come_X9_bytesWaiting : GoodIn wsX9_come wsX9_bytesWaiting := goodIn_r _ [27, 5, 10, 50, 51, 52, 53, 54, 55, 56, 57, 58, 59, 60, 61, 62, 63, 64, 65, 66, 67, 68, 69, 70, 71, 72, 73, 74, 75, 76, 77, 78, 79, 80, 81, 82, 83, 84, 85, 86, 87, 88, 89, 90, 91, 92] (by decide +kernel) (by decide +kernel)
set_option maxRecDepth 20000 in
theorem gX9_come_X9_bytesWaiting : GoodIn wsX9_come (wsV RX9 147 RX9 yX9_bytesWaiting wsX9_bytesWaiting) := goodIn_app (goodIn_of _ (by decide +kernel)) ggX9_come_X9_bytesWaiting
set_option maxRecDepth 20000 in
theorem ggX9_come_X9_waiting : GoodIn wsX9_come wsX9_waiting := goodIn_r _ [31, 5, 50, 51, 52, 53, 54, 55, 56, 57, 58, 59, 60, 61, 62, 63, 64, 65, 66, 67, 68, 69, 70, 71, 72, 73, 74, 75, 76, 77, 78, 79, 80, 81, 82, 83, 84, 85, 86, 87, 88, 89, 90, 91, 92] (by decide +kernel) (by decide +kernel)
set_option maxRecDepth 20000 in
theorem gX9_come_X9_waiting : GoodIn wsX9_come (wsV RX9 151 RX9 yX9_waiting wsX9_waiting) := goodIn_app (goodIn_of _ (by decide +kernel)) ggX9_come_X9_waiting
set_option maxRecDepth 20000 in
theorem ggX9_come_X9_look : GoodIn wsX9_come wsX9_look := goodIn_r _ [35, 5, 12, 36, 37, 38, 39, 40, 41, 42, 43, 44, 45, 17, 46, 47, 48, 49, 50, 51, 52, 53, 54, 55, 56, 57, 58, 59, 60, 61, 62, 63, 64, 65, 66, 67, 68, 69, 70, 71, 72, 73, 74, 75, 76, 77, 78, 79, 80, 81, 82, 83, 84, 85, 86, 87, 88, 89, 90, 91, 92] (by decide +kernel) (by decide +kernel)
set_option maxRecDepth 20000 in
theorem gX9_come_X9_look : GoodIn wsX9_come (wsV RX9 155 RX9 yX9_look wsX9_look) := goodIn_app (goodIn_of _ (by decide +kernel)) ggX9_come_X9_look
theorem dX9_come_0 : decode cX9_come 0 = .ok (.aload_n 0, 1) := by decide +kernel
theorem dX9_come_1 : decode cX9_come 1 = .ok (.iload_n 1, 1) := by decide +kernel
theorem dX9_come_2 : decode cX9_come 2 = .ok (.iconst 0, 1) := by decide +kernel
theorem dX9_come_3 : decode cX9_come 3 = .ok (.iconst 5, 1) := by decide +kernel
theorem dX9_come_4 : decode cX9_come 4 = .ok (.invokestatic 118, 3) := by decide +kernel
theorem dX9_come_7 : decode cX9_come 7 = .ok (.ifCond .eq 18, 3) := by decide +kernel
theorem dX9_come_10 : decode cX9_come 10 = .ok (.iload_n 2, 1) := by decide +kernel
theorem dX9_come_11 : decode cX9_come 11 = .ok (.iconst 1, 1) := by decide +kernel
theorem dX9_come_12 : decode cX9_come 12 = .ok (.sipush 1500, 3) := by decide +kernel
theorem dX9_come_15 : decode cX9_come 15 = .ok (.invokestatic 118, 3) := by decide +kernel
theorem dX9_come_18 : decode cX9_come 18 = .ok (.ifCond .eq 7, 3) := by decide +kernel
theorem dX9_come_21 : decode cX9_come 21 = .ok (.iconst 0, 1) := by decide +kernel
theorem dX9_come_22 : decode cX9_come 22 = .ok (.goto 4, 3) := by decide +kernel
theorem dX9_come_25 : decode cX9_come 25 = .ok (.iconst 1, 1) := by decide +kernel
theorem dX9_come_26 : decode cX9_come 26 = .ok (.invokevirtual 122, 3) := by decide +kernel
theorem dX9_come_29 : decode cX9_come 29 = .ok (.ifCond .eq 5, 3) := by decide +kernel
theorem dX9_come_32 : decode cX9_come 32 = .ok (.iconst 0, 1) := by decide +kernel
theorem dX9_come_33 : decode cX9_come 33 = .ok (.ireturn, 1) := by decide +kernel
theorem dX9_come_34 : decode cX9_come 34 = .ok (.aload_n 0, 1) := by decide +kernel
theorem dX9_come_35 : decode cX9_come 35 = .ok (.getfield 144, 3) := by decide +kernel
theorem dX9_come_38 : decode cX9_come 38 = .ok (.istore 4, 2) := by decide +kernel
theorem dX9_come_40 : decode cX9_come 40 = .ok (.aload_n 0, 1) := by decide +kernel
theorem dX9_come_41 : decode cX9_come 41 = .ok (.dup, 1) := by decide +kernel
theorem dX9_come_42 : decode cX9_come 42 = .ok (.getfield 144, 3) := by decide +kernel
theorem dX9_come_45 : decode cX9_come 45 = .ok (.iconst 1, 1) := by decide +kernel
theorem dX9_come_46 : decode cX9_come 46 = .ok (.iadd, 1) := by decide +kernel
theorem dX9_come_47 : decode cX9_come 47 = .ok (.putfield 144, 3) := by decide +kernel
theorem dX9_come_50 : decode cX9_come 50 = .ok (.aload_n 0, 1) := by decide +kernel
theorem dX9_come_51 : decode cX9_come 51 = .ok (.getfield 92, 3) := by decide +kernel
theorem dX9_come_54 : decode cX9_come 54 = .ok (.bipush 10, 2) := by decide +kernel
theorem dX9_come_56 : decode cX9_come 56 = .ok (.iload_n 1, 1) := by decide +kernel
theorem dX9_come_57 : decode cX9_come 57 = .ok (.imul, 1) := by decide +kernel
theorem dX9_come_58 : decode cX9_come 58 = .ok (.iconst 0, 1) := by decide +kernel
theorem dX9_come_59 : decode cX9_come 59 = .ok (.iadd, 1) := by decide +kernel
theorem dX9_come_60 : decode cX9_come 60 = .ok (.dup2, 1) := by decide +kernel
theorem dX9_come_61 : decode cX9_come 61 = .ok (.iaload, 1) := by decide +kernel
theorem dX9_come_62 : decode cX9_come 62 = .ok (.iconst 1, 1) := by decide +kernel
theorem dX9_come_63 : decode cX9_come 63 = .ok (.iadd, 1) := by decide +kernel
theorem dX9_come_64 : decode cX9_come 64 = .ok (.iastore, 1) := by decide +kernel
theorem dX9_come_65 : decode cX9_come 65 = .ok (.iload_n 2, 1) := by decide +kernel
theorem dX9_come_66 : decode cX9_come 66 = .ok (.istore 5, 2) := by decide +kernel
theorem dX9_come_68 : decode cX9_come 68 = .ok (.iconst 0, 1) := by decide +kernel
theorem dX9_come_69 : decode cX9_come 69 = .ok (.istore 6, 2) := by decide +kernel
theorem dX9_come_71 : decode cX9_come 71 = .ok (.iload 6, 2) := by decide +kernel
theorem dX9_come_73 : decode cX9_come 73 = .ok (.bipush 6, 2) := by decide +kernel
theorem dX9_come_75 : decode cX9_come 75 = .ok (.if_icmp .ge 20, 3) := by decide +kernel
theorem dX9_come_78 : decode cX9_come 78 = .ok (.iload 5, 2) := by decide +kernel
theorem dX9_come_80 : decode cX9_come 80 = .ok (.aload_n 0, 1) := by decide +kernel
theorem dX9_come_81 : decode cX9_come 81 = .ok (.iload 6, 2) := by decide +kernel
theorem dX9_come_83 : decode cX9_come 83 = .ok (.invokevirtual 147, 3) := by decide +kernel
theorem dX9_come_86 : decode cX9_come 86 = .ok (.iadd, 1) := by decide +kernel
theorem dX9_come_87 : decode cX9_come 87 = .ok (.istore 5, 2) := by decide +kernel
theorem dX9_come_89 : decode cX9_come 89 = .ok (.iinc 6 1, 3) := by decide +kernel
theorem dX9_come_92 : decode cX9_come 92 = .ok (.goto (-21), 3) := by decide +kernel
theorem dX9_come_95 : decode cX9_come 95 = .ok (.aload_n 0, 1) := by decide +kernel
theorem dX9_come_96 : decode cX9_come 96 = .ok (.invokevirtual 151, 3) := by decide +kernel
theorem dX9_come_99 : decode cX9_come 99 = .ok (.bipush 100, 2) := by decide +kernel
theorem dX9_come_101 : decode cX9_come 101 = .ok (.if_icmp .eq 12, 3) := by decide +kernel
theorem dX9_come_104 : decode cX9_come 104 = .ok (.iload 5, 2) := by decide +kernel
theorem dX9_come_106 : decode cX9_come 106 = .ok (.aload_n 0, 1) := by decide +kernel
theorem dX9_come_107 : decode cX9_come 107 = .ok (.getfield 16, 3) := by decide +kernel
theorem dX9_come_110 : decode cX9_come 110 = .ok (.if_icmp .le 20, 3) := by decide +kernel
theorem dX9_come_113 : decode cX9_come 113 = .ok (.aload_n 0, 1) := by decide +kernel
theorem dX9_come_114 : decode cX9_come 114 = .ok (.getfield 92, 3) := by decide +kernel
theorem dX9_come_117 : decode cX9_come 117 = .ok (.bipush 10, 2) := by decide +kernel
theorem dX9_come_119 : decode cX9_come 119 = .ok (.iload_n 1, 1) := by decide +kernel
theorem dX9_come_120 : decode cX9_come 120 = .ok (.imul, 1) := by decide +kernel
theorem dX9_come_121 : decode cX9_come 121 = .ok (.iconst 2, 1) := by decide +kernel
theorem dX9_come_122 : decode cX9_come 122 = .ok (.iadd, 1) := by decide +kernel
theorem dX9_come_123 : decode cX9_come 123 = .ok (.dup2, 1) := by decide +kernel
theorem dX9_come_124 : decode cX9_come 124 = .ok (.iaload, 1) := by decide +kernel
theorem dX9_come_125 : decode cX9_come 125 = .ok (.iconst 1, 1) := by decide +kernel
theorem dX9_come_126 : decode cX9_come 126 = .ok (.iadd, 1) := by decide +kernel
theorem dX9_come_127 : decode cX9_come 127 = .ok (.iastore, 1) := by decide +kernel
theorem dX9_come_128 : decode cX9_come 128 = .ok (.iconst (-1), 1) := by decide +kernel
theorem dX9_come_129 : decode cX9_come 129 = .ok (.ireturn, 1) := by decide +kernel
theorem dX9_come_130 : decode cX9_come 130 = .ok (.aload_n 0, 1) := by decide +kernel
theorem dX9_come_131 : decode cX9_come 131 = .ok (.getfield 20, 3) := by decide +kernel
theorem dX9_come_134 : decode cX9_come 134 = .ok (.iload_n 1, 1) := by decide +kernel
theorem dX9_come_135 : decode cX9_come 135 = .ok (.iaload, 1) := by decide +kernel
theorem dX9_come_136 : decode cX9_come 136 = .ok (.iconst 1, 1) := by decide +kernel
theorem dX9_come_137 : decode cX9_come 137 = .ok (.if_icmp .ne 11, 3) := by decide +kernel
theorem dX9_come_140 : decode cX9_come 140 = .ok (.aload_n 0, 1) := by decide +kernel
theorem dX9_come_141 : decode cX9_come 141 = .ok (.iload_n 1, 1) := by decide +kernel
theorem dX9_come_142 : decode cX9_come 142 = .ok (.invokevirtual 155, 3) := by decide +kernel
theorem dX9_come_145 : decode cX9_come 145 = .ok (.goto 4, 3) := by decide +kernel
theorem dX9_come_148 : decode cX9_come 148 = .ok (.iconst 0, 1) := by decide +kernel
theorem dX9_come_149 : decode cX9_come 149 = .ok (.istore 6, 2) := by decide +kernel
theorem dX9_come_151 : decode cX9_come 151 = .ok (.iload 6, 2) := by decide +kernel
theorem dX9_come_153 : decode cX9_come 153 = .ok (.iconst 1, 1) := by decide +kernel
theorem dX9_come_154 : decode cX9_come 154 = .ok (.if_icmp .eq 13, 3) := by decide +kernel
theorem dX9_come_157 : decode cX9_come 157 = .ok (.iload 6, 2) := by decide +kernel
theorem dX9_come_159 : decode cX9_come 159 = .ok (.iconst 2, 1) := by decide +kernel
theorem dX9_come_160 : decode cX9_come 160 = .ok (.if_icmp .ne 24, 3) := by decide +kernel
theorem dX9_come_163 : decode cX9_come 163 = .ok (.iload_n 3, 1) := by decide +kernel
theorem dX9_come_164 : decode cX9_come 164 = .ok (.ifCond .ne 20, 3) := by decide +kernel
theorem dX9_come_167 : decode cX9_come 167 = .ok (.aload_n 0, 1) := by decide +kernel
theorem dX9_come_168 : decode cX9_come 168 = .ok (.getfield 92, 3) := by decide +kernel
theorem dX9_come_171 : decode cX9_come 171 = .ok (.bipush 10, 2) := by decide +kernel
theorem dX9_come_173 : decode cX9_come 173 = .ok (.iload_n 1, 1) := by decide +kernel
theorem dX9_come_174 : decode cX9_come 174 = .ok (.imul, 1) := by decide +kernel
theorem dX9_come_175 : decode cX9_come 175 = .ok (.iconst 3, 1) := by decide +kernel
theorem dX9_come_176 : decode cX9_come 176 = .ok (.iadd, 1) := by decide +kernel
theorem dX9_come_177 : decode cX9_come 177 = .ok (.dup2, 1) := by decide +kernel
theorem dX9_come_178 : decode cX9_come 178 = .ok (.iaload, 1) := by decide +kernel
theorem dX9_come_179 : decode cX9_come 179 = .ok (.iconst 1, 1) := by decide +kernel
theorem dX9_come_180 : decode cX9_come 180 = .ok (.iadd, 1) := by decide +kernel
theorem dX9_come_181 : decode cX9_come 181 = .ok (.iastore, 1) := by decide +kernel
theorem dX9_come_182 : decode cX9_come 182 = .ok (.iconst (-1), 1) := by decide +kernel
theorem dX9_come_183 : decode cX9_come 183 = .ok (.ireturn, 1) := by decide +kernel
theorem dX9_come_184 : decode cX9_come 184 = .ok (.iload 6, 2) := by decide +kernel
theorem dX9_come_186 : decode cX9_come 186 = .ok (.iconst 2, 1) := by decide +kernel
theorem dX9_come_187 : decode cX9_come 187 = .ok (.if_icmp .ne 18, 3) := by decide +kernel
theorem dX9_come_190 : decode cX9_come 190 = .ok (.aload_n 0, 1) := by decide +kernel
theorem dX9_come_191 : decode cX9_come 191 = .ok (.getfield 92, 3) := by decide +kernel
theorem dX9_come_194 : decode cX9_come 194 = .ok (.bipush 10, 2) := by decide +kernel
theorem dX9_come_196 : decode cX9_come 196 = .ok (.iload_n 1, 1) := by decide +kernel
theorem dX9_come_197 : decode cX9_come 197 = .ok (.imul, 1) := by decide +kernel
theorem dX9_come_198 : decode cX9_come 198 = .ok (.iconst 5, 1) := by decide +kernel
theorem dX9_come_199 : decode cX9_come 199 = .ok (.iadd, 1) := by decide +kernel
theorem dX9_come_200 : decode cX9_come 200 = .ok (.dup2, 1) := by decide +kernel
theorem dX9_come_201 : decode cX9_come 201 = .ok (.iaload, 1) := by decide +kernel
theorem dX9_come_202 : decode cX9_come 202 = .ok (.iconst 1, 1) := by decide +kernel
theorem dX9_come_203 : decode cX9_come 203 = .ok (.iadd, 1) := by decide +kernel
theorem dX9_come_204 : decode cX9_come 204 = .ok (.iastore, 1) := by decide +kernel
theorem dX9_come_205 : decode cX9_come 205 = .ok (.aload_n 0, 1) := by decide +kernel
theorem dX9_come_206 : decode cX9_come 206 = .ok (.getfield 74, 3) := by decide +kernel
theorem dX9_come_209 : decode cX9_come 209 = .ok (.iload_n 1, 1) := by decide +kernel
theorem dX9_come_210 : decode cX9_come 210 = .ok (.iaload, 1) := by decide +kernel
theorem dX9_come_211 : decode cX9_come 211 = .ok (.ifCond .ne 30, 3) := by decide +kernel
theorem dX9_come_214 : decode cX9_come 214 = .ok (.aload_n 0, 1) := by decide +kernel
theorem dX9_come_215 : decode cX9_come 215 = .ok (.getfield 95, 3) := by decide +kernel
theorem dX9_come_218 : decode cX9_come 218 = .ok (.aload_n 0, 1) := by decide +kernel
theorem dX9_come_219 : decode cX9_come 219 = .ok (.getfield 158, 3) := by decide +kernel
theorem dX9_come_222 : decode cX9_come 222 = .ok (.iload_n 1, 1) := by decide +kernel
theorem dX9_come_223 : decode cX9_come 223 = .ok (.iastore, 1) := by decide +kernel
theorem dX9_come_224 : decode cX9_come 224 = .ok (.aload_n 0, 1) := by decide +kernel
theorem dX9_come_225 : decode cX9_come 225 = .ok (.dup, 1) := by decide +kernel
theorem dX9_come_226 : decode cX9_come 226 = .ok (.getfield 158, 3) := by decide +kernel
theorem dX9_come_229 : decode cX9_come 229 = .ok (.iconst 1, 1) := by decide +kernel
theorem dX9_come_230 : decode cX9_come 230 = .ok (.iadd, 1) := by decide +kernel
theorem dX9_come_231 : decode cX9_come 231 = .ok (.putfield 158, 3) := by decide +kernel
theorem dX9_come_234 : decode cX9_come 234 = .ok (.aload_n 0, 1) := by decide +kernel
theorem dX9_come_235 : decode cX9_come 235 = .ok (.getfield 98, 3) := by decide +kernel
theorem dX9_come_238 : decode cX9_come 238 = .ok (.iload_n 1, 1) := by decide +kernel
theorem dX9_come_239 : decode cX9_come 239 = .ok (.iconst 0, 1) := by decide +kernel
theorem dX9_come_240 : decode cX9_come 240 = .ok (.iastore, 1) := by decide +kernel
theorem dX9_come_241 : decode cX9_come 241 = .ok (.bipush 100, 2) := by decide +kernel
theorem dX9_come_243 : decode cX9_come 243 = .ok (.iload_n 1, 1) := by decide +kernel
theorem dX9_come_244 : decode cX9_come 244 = .ok (.imul, 1) := by decide +kernel
theorem dX9_come_245 : decode cX9_come 245 = .ok (.aload_n 0, 1) := by decide +kernel
theorem dX9_come_246 : decode cX9_come 246 = .ok (.getfield 74, 3) := by decide +kernel
theorem dX9_come_249 : decode cX9_come 249 = .ok (.iload_n 1, 1) := by decide +kernel
theorem dX9_come_250 : decode cX9_come 250 = .ok (.iaload, 1) := by decide +kernel
theorem dX9_come_251 : decode cX9_come 251 = .ok (.iadd, 1) := by decide +kernel
theorem dX9_come_252 : decode cX9_come 252 = .ok (.istore 7, 2) := by decide +kernel
theorem dX9_come_254 : decode cX9_come 254 = .ok (.aload_n 0, 1) := by decide +kernel
theorem dX9_come_255 : decode cX9_come 255 = .ok (.getfield 74, 3) := by decide +kernel
theorem dX9_come_258 : decode cX9_come 258 = .ok (.iload_n 1, 1) := by decide +kernel
theorem dX9_come_259 : decode cX9_come 259 = .ok (.dup2, 1) := by decide +kernel
theorem dX9_come_260 : decode cX9_come 260 = .ok (.iaload, 1) := by decide +kernel
theorem dX9_come_261 : decode cX9_come 261 = .ok (.iconst 1, 1) := by decide +kernel
theorem dX9_come_262 : decode cX9_come 262 = .ok (.iadd, 1) := by decide +kernel
theorem dX9_come_263 : decode cX9_come 263 = .ok (.iastore, 1) := by decide +kernel
theorem dX9_come_264 : decode cX9_come 264 = .ok (.aload_n 0, 1) := by decide +kernel
theorem dX9_come_265 : decode cX9_come 265 = .ok (.getfield 77, 3) := by decide +kernel
theorem dX9_come_268 : decode cX9_come 268 = .ok (.iload 7, 2) := by decide +kernel
theorem dX9_come_270 : decode cX9_come 270 = .ok (.iload 4, 2) := by decide +kernel
theorem dX9_come_272 : decode cX9_come 272 = .ok (.iastore, 1) := by decide +kernel
theorem dX9_come_273 : decode cX9_come 273 = .ok (.aload_n 0, 1) := by decide +kernel
theorem dX9_come_274 : decode cX9_come 274 = .ok (.getfield 80, 3) := by decide +kernel
theorem dX9_come_277 : decode cX9_come 277 = .ok (.iload 7, 2) := by decide +kernel
theorem dX9_come_279 : decode cX9_come 279 = .ok (.iload_n 2, 1) := by decide +kernel
theorem dX9_come_280 : decode cX9_come 280 = .ok (.iastore, 1) := by decide +kernel
theorem dX9_come_281 : decode cX9_come 281 = .ok (.aload_n 0, 1) := by decide +kernel
theorem dX9_come_282 : decode cX9_come 282 = .ok (.getfield 83, 3) := by decide +kernel
theorem dX9_come_285 : decode cX9_come 285 = .ok (.iload 7, 2) := by decide +kernel
theorem dX9_come_287 : decode cX9_come 287 = .ok (.aload_n 0, 1) := by decide +kernel
theorem dX9_come_288 : decode cX9_come 288 = .ok (.getfield 126, 3) := by decide +kernel
theorem dX9_come_291 : decode cX9_come 291 = .ok (.iastore, 1) := by decide +kernel
theorem dX9_come_292 : decode cX9_come 292 = .ok (.aload_n 0, 1) := by decide +kernel
theorem dX9_come_293 : decode cX9_come 293 = .ok (.getfield 86, 3) := by decide +kernel
theorem dX9_come_296 : decode cX9_come 296 = .ok (.iload 7, 2) := by decide +kernel
theorem dX9_come_298 : decode cX9_come 298 = .ok (.iload_n 3, 1) := by decide +kernel
theorem dX9_come_299 : decode cX9_come 299 = .ok (.bastore, 1) := by decide +kernel
theorem dX9_come_300 : decode cX9_come 300 = .ok (.aload_n 0, 1) := by decide +kernel
theorem dX9_come_301 : decode cX9_come 301 = .ok (.getfield 89, 3) := by decide +kernel
theorem dX9_come_304 : decode cX9_come 304 = .ok (.iload 7, 2) := by decide +kernel
theorem dX9_come_306 : decode cX9_come 306 = .ok (.iload 6, 2) := by decide +kernel
theorem dX9_come_308 : decode cX9_come 308 = .ok (.iconst 2, 1) := by decide +kernel
theorem dX9_come_309 : decode cX9_come 309 = .ok (.if_icmp .ne 7, 3) := by decide +kernel
theorem dX9_come_312 : decode cX9_come 312 = .ok (.iconst 1, 1) := by decide +kernel
theorem dX9_come_313 : decode cX9_come 313 = .ok (.goto 4, 3) := by decide +kernel
theorem dX9_come_316 : decode cX9_come 316 = .ok (.iconst 0, 1) := by decide +kernel
theorem dX9_come_317 : decode cX9_come 317 = .ok (.bastore, 1) := by decide +kernel
theorem dX9_come_318 : decode cX9_come 318 = .ok (.iload 4, 2) := by decide +kernel
theorem dX9_come_320 : decode cX9_come 320 = .ok (.ireturn, 1) := by decide +kernel
theorem dX9_takeOut_0 : decode cX9_takeOut 0 = .ok (.bipush 100, 2) := by decide +kernel
theorem dX9_takeOut_2 : decode cX9_takeOut 2 = .ok (.iload_n 1, 1) := by decide +kernel
theorem dX9_takeOut_3 : decode cX9_takeOut 3 = .ok (.imul, 1) := by decide +kernel
theorem dX9_takeOut_4 : decode cX9_takeOut 4 = .ok (.istore_n 2, 1) := by decide +kernel
theorem dX9_takeOut_5 : decode cX9_takeOut 5 = .ok (.aload_n 0, 1) := by decide +kernel
theorem dX9_takeOut_6 : decode cX9_takeOut 6 = .ok (.aload_n 0, 1) := by decide +kernel
theorem dX9_takeOut_7 : decode cX9_takeOut 7 = .ok (.getfield 77, 3) := by decide +kernel
theorem dX9_takeOut_10 : decode cX9_takeOut 10 = .ok (.iload_n 2, 1) := by decide +kernel
theorem dX9_takeOut_11 : decode cX9_takeOut 11 = .ok (.iaload, 1) := by decide +kernel
theorem dX9_takeOut_12 : decode cX9_takeOut 12 = .ok (.putfield 161, 3) := by decide +kernel
theorem dX9_takeOut_15 : decode cX9_takeOut 15 = .ok (.aload_n 0, 1) := by decide +kernel
theorem dX9_takeOut_16 : decode cX9_takeOut 16 = .ok (.aload_n 0, 1) := by decide +kernel
theorem dX9_takeOut_17 : decode cX9_takeOut 17 = .ok (.getfield 80, 3) := by decide +kernel
theorem dX9_takeOut_20 : decode cX9_takeOut 20 = .ok (.iload_n 2, 1) := by decide +kernel
theorem dX9_takeOut_21 : decode cX9_takeOut 21 = .ok (.iaload, 1) := by decide +kernel
theorem dX9_takeOut_22 : decode cX9_takeOut 22 = .ok (.putfield 164, 3) := by decide +kernel
theorem dX9_takeOut_25 : decode cX9_takeOut 25 = .ok (.aload_n 0, 1) := by decide +kernel
theorem dX9_takeOut_26 : decode cX9_takeOut 26 = .ok (.aload_n 0, 1) := by decide +kernel
theorem dX9_takeOut_27 : decode cX9_takeOut 27 = .ok (.getfield 83, 3) := by decide +kernel
theorem dX9_takeOut_30 : decode cX9_takeOut 30 = .ok (.iload_n 2, 1) := by decide +kernel
theorem dX9_takeOut_31 : decode cX9_takeOut 31 = .ok (.iaload, 1) := by decide +kernel
theorem dX9_takeOut_32 : decode cX9_takeOut 32 = .ok (.putfield 167, 3) := by decide +kernel
theorem dX9_takeOut_35 : decode cX9_takeOut 35 = .ok (.aload_n 0, 1) := by decide +kernel
theorem dX9_takeOut_36 : decode cX9_takeOut 36 = .ok (.aload_n 0, 1) := by decide +kernel
theorem dX9_takeOut_37 : decode cX9_takeOut 37 = .ok (.getfield 86, 3) := by decide +kernel
theorem dX9_takeOut_40 : decode cX9_takeOut 40 = .ok (.iload_n 2, 1) := by decide +kernel
theorem dX9_takeOut_41 : decode cX9_takeOut 41 = .ok (.baload, 1) := by decide +kernel
theorem dX9_takeOut_42 : decode cX9_takeOut 42 = .ok (.putfield 170, 3) := by decide +kernel
theorem dX9_takeOut_45 : decode cX9_takeOut 45 = .ok (.aload_n 0, 1) := by decide +kernel
theorem dX9_takeOut_46 : decode cX9_takeOut 46 = .ok (.aload_n 0, 1) := by decide +kernel
theorem dX9_takeOut_47 : decode cX9_takeOut 47 = .ok (.getfield 89, 3) := by decide +kernel
theorem dX9_takeOut_50 : decode cX9_takeOut 50 = .ok (.iload_n 2, 1) := by decide +kernel
theorem dX9_takeOut_51 : decode cX9_takeOut 51 = .ok (.baload, 1) := by decide +kernel
theorem dX9_takeOut_52 : decode cX9_takeOut 52 = .ok (.putfield 174, 3) := by decide +kernel
theorem dX9_takeOut_55 : decode cX9_takeOut 55 = .ok (.aload_n 0, 1) := by decide +kernel
theorem dX9_takeOut_56 : decode cX9_takeOut 56 = .ok (.getfield 74, 3) := by decide +kernel
theorem dX9_takeOut_59 : decode cX9_takeOut 59 = .ok (.iload_n 1, 1) := by decide +kernel
theorem dX9_takeOut_60 : decode cX9_takeOut 60 = .ok (.dup2, 1) := by decide +kernel
theorem dX9_takeOut_61 : decode cX9_takeOut 61 = .ok (.iaload, 1) := by decide +kernel
theorem dX9_takeOut_62 : decode cX9_takeOut 62 = .ok (.iconst 1, 1) := by decide +kernel
theorem dX9_takeOut_63 : decode cX9_takeOut 63 = .ok (.isub, 1) := by decide +kernel
theorem dX9_takeOut_64 : decode cX9_takeOut 64 = .ok (.iastore, 1) := by decide +kernel
theorem dX9_takeOut_65 : decode cX9_takeOut 65 = .ok (.iload_n 2, 1) := by decide +kernel
theorem dX9_takeOut_66 : decode cX9_takeOut 66 = .ok (.istore_n 3, 1) := by decide +kernel
theorem dX9_takeOut_67 : decode cX9_takeOut 67 = .ok (.iload_n 3, 1) := by decide +kernel
theorem dX9_takeOut_68 : decode cX9_takeOut 68 = .ok (.iload_n 2, 1) := by decide +kernel
theorem dX9_takeOut_69 : decode cX9_takeOut 69 = .ok (.aload_n 0, 1) := by decide +kernel
theorem dX9_takeOut_70 : decode cX9_takeOut 70 = .ok (.getfield 74, 3) := by decide +kernel
theorem dX9_takeOut_73 : decode cX9_takeOut 73 = .ok (.iload_n 1, 1) := by decide +kernel
theorem dX9_takeOut_74 : decode cX9_takeOut 74 = .ok (.iaload, 1) := by decide +kernel
theorem dX9_takeOut_75 : decode cX9_takeOut 75 = .ok (.iadd, 1) := by decide +kernel
theorem dX9_takeOut_76 : decode cX9_takeOut 76 = .ok (.if_icmp .ge 79, 3) := by decide +kernel
theorem dX9_takeOut_79 : decode cX9_takeOut 79 = .ok (.aload_n 0, 1) := by decide +kernel
theorem dX9_takeOut_80 : decode cX9_takeOut 80 = .ok (.getfield 77, 3) := by decide +kernel
theorem dX9_takeOut_83 : decode cX9_takeOut 83 = .ok (.iload_n 3, 1) := by decide +kernel
theorem dX9_takeOut_84 : decode cX9_takeOut 84 = .ok (.aload_n 0, 1) := by decide +kernel
theorem dX9_takeOut_85 : decode cX9_takeOut 85 = .ok (.getfield 77, 3) := by decide +kernel
theorem dX9_takeOut_88 : decode cX9_takeOut 88 = .ok (.iload_n 3, 1) := by decide +kernel
theorem dX9_takeOut_89 : decode cX9_takeOut 89 = .ok (.iconst 1, 1) := by decide +kernel
theorem dX9_takeOut_90 : decode cX9_takeOut 90 = .ok (.iadd, 1) := by decide +kernel
theorem dX9_takeOut_91 : decode cX9_takeOut 91 = .ok (.iaload, 1) := by decide +kernel
theorem dX9_takeOut_92 : decode cX9_takeOut 92 = .ok (.iastore, 1) := by decide +kernel
theorem dX9_takeOut_93 : decode cX9_takeOut 93 = .ok (.aload_n 0, 1) := by decide +kernel
theorem dX9_takeOut_94 : decode cX9_takeOut 94 = .ok (.getfield 80, 3) := by decide +kernel
theorem dX9_takeOut_97 : decode cX9_takeOut 97 = .ok (.iload_n 3, 1) := by decide +kernel
theorem dX9_takeOut_98 : decode cX9_takeOut 98 = .ok (.aload_n 0, 1) := by decide +kernel
theorem dX9_takeOut_99 : decode cX9_takeOut 99 = .ok (.getfield 80, 3) := by decide +kernel
theorem dX9_takeOut_102 : decode cX9_takeOut 102 = .ok (.iload_n 3, 1) := by decide +kernel
theorem dX9_takeOut_103 : decode cX9_takeOut 103 = .ok (.iconst 1, 1) := by decide +kernel
theorem dX9_takeOut_104 : decode cX9_takeOut 104 = .ok (.iadd, 1) := by decide +kernel
theorem dX9_takeOut_105 : decode cX9_takeOut 105 = .ok (.iaload, 1) := by decide +kernel
theorem dX9_takeOut_106 : decode cX9_takeOut 106 = .ok (.iastore, 1) := by decide +kernel
theorem dX9_takeOut_107 : decode cX9_takeOut 107 = .ok (.aload_n 0, 1) := by decide +kernel
theorem dX9_takeOut_108 : decode cX9_takeOut 108 = .ok (.getfield 83, 3) := by decide +kernel
theorem dX9_takeOut_111 : decode cX9_takeOut 111 = .ok (.iload_n 3, 1) := by decide +kernel
theorem dX9_takeOut_112 : decode cX9_takeOut 112 = .ok (.aload_n 0, 1) := by decide +kernel
theorem dX9_takeOut_113 : decode cX9_takeOut 113 = .ok (.getfield 83, 3) := by decide +kernel
theorem dX9_takeOut_116 : decode cX9_takeOut 116 = .ok (.iload_n 3, 1) := by decide +kernel
theorem dX9_takeOut_117 : decode cX9_takeOut 117 = .ok (.iconst 1, 1) := by decide +kernel
theorem dX9_takeOut_118 : decode cX9_takeOut 118 = .ok (.iadd, 1) := by decide +kernel
theorem dX9_takeOut_119 : decode cX9_takeOut 119 = .ok (.iaload, 1) := by decide +kernel
theorem dX9_takeOut_120 : decode cX9_takeOut 120 = .ok (.iastore, 1) := by decide +kernel
theorem dX9_takeOut_121 : decode cX9_takeOut 121 = .ok (.aload_n 0, 1) := by decide +kernel
theorem dX9_takeOut_122 : decode cX9_takeOut 122 = .ok (.getfield 86, 3) := by decide +kernel
theorem dX9_takeOut_125 : decode cX9_takeOut 125 = .ok (.iload_n 3, 1) := by decide +kernel
theorem dX9_takeOut_126 : decode cX9_takeOut 126 = .ok (.aload_n 0, 1) := by decide +kernel
theorem dX9_takeOut_127 : decode cX9_takeOut 127 = .ok (.getfield 86, 3) := by decide +kernel
theorem dX9_takeOut_130 : decode cX9_takeOut 130 = .ok (.iload_n 3, 1) := by decide +kernel
theorem dX9_takeOut_131 : decode cX9_takeOut 131 = .ok (.iconst 1, 1) := by decide +kernel
theorem dX9_takeOut_132 : decode cX9_takeOut 132 = .ok (.iadd, 1) := by decide +kernel
theorem dX9_takeOut_133 : decode cX9_takeOut 133 = .ok (.baload, 1) := by decide +kernel
theorem dX9_takeOut_134 : decode cX9_takeOut 134 = .ok (.bastore, 1) := by decide +kernel
theorem dX9_takeOut_135 : decode cX9_takeOut 135 = .ok (.aload_n 0, 1) := by decide +kernel
theorem dX9_takeOut_136 : decode cX9_takeOut 136 = .ok (.getfield 89, 3) := by decide +kernel
theorem dX9_takeOut_139 : decode cX9_takeOut 139 = .ok (.iload_n 3, 1) := by decide +kernel
theorem dX9_takeOut_140 : decode cX9_takeOut 140 = .ok (.aload_n 0, 1) := by decide +kernel
theorem dX9_takeOut_141 : decode cX9_takeOut 141 = .ok (.getfield 89, 3) := by decide +kernel
theorem dX9_takeOut_144 : decode cX9_takeOut 144 = .ok (.iload_n 3, 1) := by decide +kernel
theorem dX9_takeOut_145 : decode cX9_takeOut 145 = .ok (.iconst 1, 1) := by decide +kernel
theorem dX9_takeOut_146 : decode cX9_takeOut 146 = .ok (.iadd, 1) := by decide +kernel
theorem dX9_takeOut_147 : decode cX9_takeOut 147 = .ok (.baload, 1) := by decide +kernel
theorem dX9_takeOut_148 : decode cX9_takeOut 148 = .ok (.bastore, 1) := by decide +kernel
theorem dX9_takeOut_149 : decode cX9_takeOut 149 = .ok (.iinc 3 1, 3) := by decide +kernel
theorem dX9_takeOut_152 : decode cX9_takeOut 152 = .ok (.goto (-85), 3) := by decide +kernel
theorem dX9_takeOut_155 : decode cX9_takeOut 155 = .ok (.aload_n 0, 1) := by decide +kernel
theorem dX9_takeOut_156 : decode cX9_takeOut 156 = .ok (.getfield 74, 3) := by decide +kernel
theorem dX9_takeOut_159 : decode cX9_takeOut 159 = .ok (.iload_n 1, 1) := by decide +kernel
theorem dX9_takeOut_160 : decode cX9_takeOut 160 = .ok (.iaload, 1) := by decide +kernel
theorem dX9_takeOut_161 : decode cX9_takeOut 161 = .ok (.ifCond .ne 13, 3) := by decide +kernel
theorem dX9_takeOut_164 : decode cX9_takeOut 164 = .ok (.aload_n 0, 1) := by decide +kernel
theorem dX9_takeOut_165 : decode cX9_takeOut 165 = .ok (.getfield 46, 3) := by decide +kernel
theorem dX9_takeOut_168 : decode cX9_takeOut 168 = .ok (.iload_n 1, 1) := by decide +kernel
theorem dX9_takeOut_169 : decode cX9_takeOut 169 = .ok (.aload_n 0, 1) := by decide +kernel
theorem dX9_takeOut_170 : decode cX9_takeOut 170 = .ok (.getfield 126, 3) := by decide +kernel
theorem dX9_takeOut_173 : decode cX9_takeOut 173 = .ok (.iastore, 1) := by decide +kernel
theorem dX9_takeOut_174 : decode cX9_takeOut 174 = .ok (.return_, 1) := by decide +kernel
theorem dX9_root_0 : decode cX9_root 0 = .ok (.iload_n 0, 1) := by decide +kernel
theorem dX9_root_1 : decode cX9_root 1 = .ok (.i2d, 1) := by decide +kernel
theorem dX9_root_2 : decode cX9_root 2 = .ok (.dstore_n 1, 1) := by decide +kernel
theorem dX9_root_3 : decode cX9_root 3 = .ok (.iconst 0, 1) := by decide +kernel
theorem dX9_root_4 : decode cX9_root 4 = .ok (.istore_n 3, 1) := by decide +kernel
theorem dX9_root_5 : decode cX9_root 5 = .ok (.iload_n 3, 1) := by decide +kernel
theorem dX9_root_6 : decode cX9_root 6 = .ok (.bipush 20, 2) := by decide +kernel
theorem dX9_root_8 : decode cX9_root 8 = .ok (.if_icmp .ge 20, 3) := by decide +kernel
theorem dX9_root_11 : decode cX9_root 11 = .ok (.dload_n 1, 1) := by decide +kernel
theorem dX9_root_12 : decode cX9_root 12 = .ok (.iload_n 0, 1) := by decide +kernel
theorem dX9_root_13 : decode cX9_root 13 = .ok (.i2d, 1) := by decide +kernel
theorem dX9_root_14 : decode cX9_root 14 = .ok (.dload_n 1, 1) := by decide +kernel
theorem dX9_root_15 : decode cX9_root 15 = .ok (.ddiv, 1) := by decide +kernel
theorem dX9_root_16 : decode cX9_root 16 = .ok (.dadd, 1) := by decide +kernel
theorem dX9_root_17 : decode cX9_root 17 = .ok (.ldc2_w 177, 3) := by decide +kernel
theorem dX9_root_20 : decode cX9_root 20 = .ok (.ddiv, 1) := by decide +kernel
theorem dX9_root_21 : decode cX9_root 21 = .ok (.dstore_n 1, 1) := by decide +kernel
theorem dX9_root_22 : decode cX9_root 22 = .ok (.iinc 3 1, 3) := by decide +kernel
theorem dX9_root_25 : decode cX9_root 25 = .ok (.goto (-20), 3) := by decide +kernel
theorem dX9_root_28 : decode cX9_root 28 = .ok (.dload_n 1, 1) := by decide +kernel
theorem dX9_root_29 : decode cX9_root 29 = .ok (.dreturn, 1) := by decide +kernel
set_option maxRecDepth 20000 in
theorem ggX9_isHit_X9_root : GoodIn wsX9_isHit wsX9_root := goodIn_r _ [16, 17] (by decide +kernel) (by decide +kernel)
set_option maxRecDepth 20000 in
theorem gX9_isHit_X9_root : GoodIn wsX9_isHit (va_wsS RX9 179 yX9_root wsX9_root) := goodIn_app (goodIn_of _ (by decide +kernel)) ggX9_isHit_X9_root
theorem dX9_isHit_0 : decode cX9_isHit 0 = .ok (.aload_n 0, 1) := by decide +kernel
theorem dX9_isHit_1 : decode cX9_isHit 1 = .ok (.getfield 126, 3) := by decide +kernel
theorem dX9_isHit_4 : decode cX9_isHit 4 = .ok (.i2d, 1) := by decide +kernel
theorem dX9_isHit_5 : decode cX9_isHit 5 = .ok (.dstore_n 2, 1) := by decide +kernel
theorem dX9_isHit_6 : decode cX9_isHit 6 = .ok (.iconst 0, 1) := by decide +kernel
theorem dX9_isHit_7 : decode cX9_isHit 7 = .ok (.istore 4, 2) := by decide +kernel
theorem dX9_isHit_9 : decode cX9_isHit 9 = .ok (.aload_n 0, 1) := by decide +kernel
theorem dX9_isHit_10 : decode cX9_isHit 10 = .ok (.getfield 126, 3) := by decide +kernel
theorem dX9_isHit_13 : decode cX9_isHit 13 = .ok (.aload_n 0, 1) := by decide +kernel
theorem dX9_isHit_14 : decode cX9_isHit 14 = .ok (.getfield 167, 3) := by decide +kernel
theorem dX9_isHit_17 : decode cX9_isHit 17 = .ok (.isub, 1) := by decide +kernel
theorem dX9_isHit_18 : decode cX9_isHit 18 = .ok (.i2d, 1) := by decide +kernel
theorem dX9_isHit_19 : decode cX9_isHit 19 = .ok (.aload_n 0, 1) := by decide +kernel
theorem dX9_isHit_20 : decode cX9_isHit 20 = .ok (.getfield 49, 3) := by decide +kernel
theorem dX9_isHit_23 : decode cX9_isHit 23 = .ok (.iload_n 1, 1) := by decide +kernel
theorem dX9_isHit_24 : decode cX9_isHit 24 = .ok (.daload, 1) := by decide +kernel
theorem dX9_isHit_25 : decode cX9_isHit 25 = .ok (.dcmp .g, 1) := by decide +kernel
theorem dX9_isHit_26 : decode cX9_isHit 26 = .ok (.ifCond .lt 12, 3) := by decide +kernel
theorem dX9_isHit_29 : decode cX9_isHit 29 = .ok (.aload_n 0, 1) := by decide +kernel
theorem dX9_isHit_30 : decode cX9_isHit 30 = .ok (.getfield 74, 3) := by decide +kernel
theorem dX9_isHit_33 : decode cX9_isHit 33 = .ok (.iload_n 1, 1) := by decide +kernel
theorem dX9_isHit_34 : decode cX9_isHit 34 = .ok (.iaload, 1) := by decide +kernel
theorem dX9_isHit_35 : decode cX9_isHit 35 = .ok (.ifCond .ne 13, 3) := by decide +kernel
theorem dX9_isHit_38 : decode cX9_isHit 38 = .ok (.aload_n 0, 1) := by decide +kernel
theorem dX9_isHit_39 : decode cX9_isHit 39 = .ok (.getfield 58, 3) := by decide +kernel
theorem dX9_isHit_42 : decode cX9_isHit 42 = .ok (.iload_n 1, 1) := by decide +kernel
theorem dX9_isHit_43 : decode cX9_isHit 43 = .ok (.iconst 0, 1) := by decide +kernel
theorem dX9_isHit_44 : decode cX9_isHit 44 = .ok (.bastore, 1) := by decide +kernel
theorem dX9_isHit_45 : decode cX9_isHit 45 = .ok (.goto 54, 3) := by decide +kernel
theorem dX9_isHit_48 : decode cX9_isHit 48 = .ok (.aload_n 0, 1) := by decide +kernel
theorem dX9_isHit_49 : decode cX9_isHit 49 = .ok (.getfield 58, 3) := by decide +kernel
theorem dX9_isHit_52 : decode cX9_isHit 52 = .ok (.iload_n 1, 1) := by decide +kernel
theorem dX9_isHit_53 : decode cX9_isHit 53 = .ok (.baload, 1) := by decide +kernel
theorem dX9_isHit_54 : decode cX9_isHit 54 = .ok (.ifCond .ne 27, 3) := by decide +kernel
theorem dX9_isHit_57 : decode cX9_isHit 57 = .ok (.aload_n 0, 1) := by decide +kernel
theorem dX9_isHit_58 : decode cX9_isHit 58 = .ok (.getfield 58, 3) := by decide +kernel
theorem dX9_isHit_61 : decode cX9_isHit 61 = .ok (.iload_n 1, 1) := by decide +kernel
theorem dX9_isHit_62 : decode cX9_isHit 62 = .ok (.iconst 1, 1) := by decide +kernel
theorem dX9_isHit_63 : decode cX9_isHit 63 = .ok (.bastore, 1) := by decide +kernel
theorem dX9_isHit_64 : decode cX9_isHit 64 = .ok (.aload_n 0, 1) := by decide +kernel
theorem dX9_isHit_65 : decode cX9_isHit 65 = .ok (.getfield 55, 3) := by decide +kernel
theorem dX9_isHit_68 : decode cX9_isHit 68 = .ok (.iload_n 1, 1) := by decide +kernel
theorem dX9_isHit_69 : decode cX9_isHit 69 = .ok (.dload_n 2, 1) := by decide +kernel
theorem dX9_isHit_70 : decode cX9_isHit 70 = .ok (.aload_n 0, 1) := by decide +kernel
theorem dX9_isHit_71 : decode cX9_isHit 71 = .ok (.getfield 52, 3) := by decide +kernel
theorem dX9_isHit_74 : decode cX9_isHit 74 = .ok (.iload_n 1, 1) := by decide +kernel
theorem dX9_isHit_75 : decode cX9_isHit 75 = .ok (.daload, 1) := by decide +kernel
theorem dX9_isHit_76 : decode cX9_isHit 76 = .ok (.dadd, 1) := by decide +kernel
theorem dX9_isHit_77 : decode cX9_isHit 77 = .ok (.dastore, 1) := by decide +kernel
theorem dX9_isHit_78 : decode cX9_isHit 78 = .ok (.goto 21, 3) := by decide +kernel
theorem dX9_isHit_81 : decode cX9_isHit 81 = .ok (.dload_n 2, 1) := by decide +kernel
theorem dX9_isHit_82 : decode cX9_isHit 82 = .ok (.aload_n 0, 1) := by decide +kernel
theorem dX9_isHit_83 : decode cX9_isHit 83 = .ok (.getfield 55, 3) := by decide +kernel
theorem dX9_isHit_86 : decode cX9_isHit 86 = .ok (.iload_n 1, 1) := by decide +kernel
theorem dX9_isHit_87 : decode cX9_isHit 87 = .ok (.daload, 1) := by decide +kernel
theorem dX9_isHit_88 : decode cX9_isHit 88 = .ok (.dcmp .l, 1) := by decide +kernel
theorem dX9_isHit_89 : decode cX9_isHit 89 = .ok (.ifCond .lt 7, 3) := by decide +kernel
theorem dX9_isHit_92 : decode cX9_isHit 92 = .ok (.iconst 1, 1) := by decide +kernel
theorem dX9_isHit_93 : decode cX9_isHit 93 = .ok (.goto 4, 3) := by decide +kernel
theorem dX9_isHit_96 : decode cX9_isHit 96 = .ok (.iconst 0, 1) := by decide +kernel
theorem dX9_isHit_97 : decode cX9_isHit 97 = .ok (.istore 4, 2) := by decide +kernel
theorem dX9_isHit_99 : decode cX9_isHit 99 = .ok (.aload_n 0, 1) := by decide +kernel
theorem dX9_isHit_100 : decode cX9_isHit 100 = .ok (.getfield 62, 3) := by decide +kernel
theorem dX9_isHit_103 : decode cX9_isHit 103 = .ok (.iload_n 1, 1) := by decide +kernel
theorem dX9_isHit_104 : decode cX9_isHit 104 = .ok (.baload, 1) := by decide +kernel
theorem dX9_isHit_105 : decode cX9_isHit 105 = .ok (.ifCond .eq 71, 3) := by decide +kernel
theorem dX9_isHit_108 : decode cX9_isHit 108 = .ok (.iload 4, 2) := by decide +kernel
theorem dX9_isHit_110 : decode cX9_isHit 110 = .ok (.ifCond .ne 12, 3) := by decide +kernel
theorem dX9_isHit_113 : decode cX9_isHit 113 = .ok (.aload_n 0, 1) := by decide +kernel
theorem dX9_isHit_114 : decode cX9_isHit 114 = .ok (.getfield 62, 3) := by decide +kernel
theorem dX9_isHit_117 : decode cX9_isHit 117 = .ok (.iload_n 1, 1) := by decide +kernel
theorem dX9_isHit_118 : decode cX9_isHit 118 = .ok (.iconst 0, 1) := by decide +kernel
theorem dX9_isHit_119 : decode cX9_isHit 119 = .ok (.bastore, 1) := by decide +kernel
theorem dX9_isHit_120 : decode cX9_isHit 120 = .ok (.iconst 0, 1) := by decide +kernel
theorem dX9_isHit_121 : decode cX9_isHit 121 = .ok (.ireturn, 1) := by decide +kernel
theorem dX9_isHit_122 : decode cX9_isHit 122 = .ok (.dload_n 2, 1) := by decide +kernel
theorem dX9_isHit_123 : decode cX9_isHit 123 = .ok (.aload_n 0, 1) := by decide +kernel
theorem dX9_isHit_124 : decode cX9_isHit 124 = .ok (.getfield 65, 3) := by decide +kernel
theorem dX9_isHit_127 : decode cX9_isHit 127 = .ok (.iload_n 1, 1) := by decide +kernel
theorem dX9_isHit_128 : decode cX9_isHit 128 = .ok (.daload, 1) := by decide +kernel
theorem dX9_isHit_129 : decode cX9_isHit 129 = .ok (.dcmp .g, 1) := by decide +kernel
theorem dX9_isHit_130 : decode cX9_isHit 130 = .ok (.ifCond .ge 5, 3) := by decide +kernel
theorem dX9_isHit_133 : decode cX9_isHit 133 = .ok (.iconst 0, 1) := by decide +kernel
theorem dX9_isHit_134 : decode cX9_isHit 134 = .ok (.ireturn, 1) := by decide +kernel
theorem dX9_isHit_135 : decode cX9_isHit 135 = .ok (.aload_n 0, 1) := by decide +kernel
theorem dX9_isHit_136 : decode cX9_isHit 136 = .ok (.getfield 68, 3) := by decide +kernel
theorem dX9_isHit_139 : decode cX9_isHit 139 = .ok (.iload_n 1, 1) := by decide +kernel
theorem dX9_isHit_140 : decode cX9_isHit 140 = .ok (.dup2, 1) := by decide +kernel
theorem dX9_isHit_141 : decode cX9_isHit 141 = .ok (.iaload, 1) := by decide +kernel
theorem dX9_isHit_142 : decode cX9_isHit 142 = .ok (.iconst 1, 1) := by decide +kernel
theorem dX9_isHit_143 : decode cX9_isHit 143 = .ok (.iadd, 1) := by decide +kernel
theorem dX9_isHit_144 : decode cX9_isHit 144 = .ok (.iastore, 1) := by decide +kernel
theorem dX9_isHit_145 : decode cX9_isHit 145 = .ok (.aload_n 0, 1) := by decide +kernel
theorem dX9_isHit_146 : decode cX9_isHit 146 = .ok (.getfield 65, 3) := by decide +kernel
theorem dX9_isHit_149 : decode cX9_isHit 149 = .ok (.iload_n 1, 1) := by decide +kernel
theorem dX9_isHit_150 : decode cX9_isHit 150 = .ok (.aload_n 0, 1) := by decide +kernel
theorem dX9_isHit_151 : decode cX9_isHit 151 = .ok (.getfield 65, 3) := by decide +kernel
theorem dX9_isHit_154 : decode cX9_isHit 154 = .ok (.iload_n 1, 1) := by decide +kernel
theorem dX9_isHit_155 : decode cX9_isHit 155 = .ok (.daload, 1) := by decide +kernel
theorem dX9_isHit_156 : decode cX9_isHit 156 = .ok (.aload_n 0, 1) := by decide +kernel
theorem dX9_isHit_157 : decode cX9_isHit 157 = .ok (.getfield 52, 3) := by decide +kernel
theorem dX9_isHit_160 : decode cX9_isHit 160 = .ok (.iload_n 1, 1) := by decide +kernel
theorem dX9_isHit_161 : decode cX9_isHit 161 = .ok (.daload, 1) := by decide +kernel
theorem dX9_isHit_162 : decode cX9_isHit 162 = .ok (.aload_n 0, 1) := by decide +kernel
theorem dX9_isHit_163 : decode cX9_isHit 163 = .ok (.getfield 68, 3) := by decide +kernel
theorem dX9_isHit_166 : decode cX9_isHit 166 = .ok (.iload_n 1, 1) := by decide +kernel
theorem dX9_isHit_167 : decode cX9_isHit 167 = .ok (.iaload, 1) := by decide +kernel
theorem dX9_isHit_168 : decode cX9_isHit 168 = .ok (.invokestatic 179, 3) := by decide +kernel
theorem dX9_isHit_171 : decode cX9_isHit 171 = .ok (.ddiv, 1) := by decide +kernel
theorem dX9_isHit_172 : decode cX9_isHit 172 = .ok (.dadd, 1) := by decide +kernel
theorem dX9_isHit_173 : decode cX9_isHit 173 = .ok (.dastore, 1) := by decide +kernel
theorem dX9_isHit_174 : decode cX9_isHit 174 = .ok (.iconst 1, 1) := by decide +kernel
theorem dX9_isHit_175 : decode cX9_isHit 175 = .ok (.ireturn, 1) := by decide +kernel
theorem dX9_isHit_176 : decode cX9_isHit 176 = .ok (.iload 4, 2) := by decide +kernel
theorem dX9_isHit_178 : decode cX9_isHit 178 = .ok (.ifCond .ne 5, 3) := by decide +kernel
theorem dX9_isHit_181 : decode cX9_isHit 181 = .ok (.iconst 0, 1) := by decide +kernel
theorem dX9_isHit_182 : decode cX9_isHit 182 = .ok (.ireturn, 1) := by decide +kernel
theorem dX9_isHit_183 : decode cX9_isHit 183 = .ok (.aload_n 0, 1) := by decide +kernel
theorem dX9_isHit_184 : decode cX9_isHit 184 = .ok (.getfield 62, 3) := by decide +kernel
theorem dX9_isHit_187 : decode cX9_isHit 187 = .ok (.iload_n 1, 1) := by decide +kernel
theorem dX9_isHit_188 : decode cX9_isHit 188 = .ok (.iconst 1, 1) := by decide +kernel
theorem dX9_isHit_189 : decode cX9_isHit 189 = .ok (.bastore, 1) := by decide +kernel
theorem dX9_isHit_190 : decode cX9_isHit 190 = .ok (.aload_n 0, 1) := by decide +kernel
theorem dX9_isHit_191 : decode cX9_isHit 191 = .ok (.getfield 68, 3) := by decide +kernel
theorem dX9_isHit_194 : decode cX9_isHit 194 = .ok (.iload_n 1, 1) := by decide +kernel
theorem dX9_isHit_195 : decode cX9_isHit 195 = .ok (.iaload, 1) := by decide +kernel
theorem dX9_isHit_196 : decode cX9_isHit 196 = .ok (.aload_n 0, 1) := by decide +kernel
theorem dX9_isHit_197 : decode cX9_isHit 197 = .ok (.getfield 71, 3) := by decide +kernel
theorem dX9_isHit_200 : decode cX9_isHit 200 = .ok (.iload_n 1, 1) := by decide +kernel
theorem dX9_isHit_201 : decode cX9_isHit 201 = .ok (.iaload, 1) := by decide +kernel
theorem dX9_isHit_202 : decode cX9_isHit 202 = .ok (.isub, 1) := by decide +kernel
theorem dX9_isHit_203 : decode cX9_isHit 203 = .ok (.istore 5, 2) := by decide +kernel
theorem dX9_isHit_205 : decode cX9_isHit 205 = .ok (.aload_n 0, 1) := by decide +kernel
theorem dX9_isHit_206 : decode cX9_isHit 206 = .ok (.getfield 68, 3) := by decide +kernel
theorem dX9_isHit_209 : decode cX9_isHit 209 = .ok (.iload_n 1, 1) := by decide +kernel
theorem dX9_isHit_210 : decode cX9_isHit 210 = .ok (.iload 5, 2) := by decide +kernel
theorem dX9_isHit_212 : decode cX9_isHit 212 = .ok (.iconst 1, 1) := by decide +kernel
theorem dX9_isHit_213 : decode cX9_isHit 213 = .ok (.if_icmp .le 30, 3) := by decide +kernel
theorem dX9_isHit_216 : decode cX9_isHit 216 = .ok (.dload_n 2, 1) := by decide +kernel
theorem dX9_isHit_217 : decode cX9_isHit 217 = .ok (.aload_n 0, 1) := by decide +kernel
theorem dX9_isHit_218 : decode cX9_isHit 218 = .ok (.getfield 65, 3) := by decide +kernel
theorem dX9_isHit_221 : decode cX9_isHit 221 = .ok (.iload_n 1, 1) := by decide +kernel
theorem dX9_isHit_222 : decode cX9_isHit 222 = .ok (.daload, 1) := by decide +kernel
theorem dX9_isHit_223 : decode cX9_isHit 223 = .ok (.dsub, 1) := by decide +kernel
theorem dX9_isHit_224 : decode cX9_isHit 224 = .ok (.ldc2_w 183, 3) := by decide +kernel
theorem dX9_isHit_227 : decode cX9_isHit 227 = .ok (.aload_n 0, 1) := by decide +kernel
theorem dX9_isHit_228 : decode cX9_isHit 228 = .ok (.getfield 52, 3) := by decide +kernel
theorem dX9_isHit_231 : decode cX9_isHit 231 = .ok (.iload_n 1, 1) := by decide +kernel
theorem dX9_isHit_232 : decode cX9_isHit 232 = .ok (.daload, 1) := by decide +kernel
theorem dX9_isHit_233 : decode cX9_isHit 233 = .ok (.dmul, 1) := by decide +kernel
theorem dX9_isHit_234 : decode cX9_isHit 234 = .ok (.dcmp .g, 1) := by decide +kernel
theorem dX9_isHit_235 : decode cX9_isHit 235 = .ok (.ifCond .ge 8, 3) := by decide +kernel
theorem dX9_isHit_238 : decode cX9_isHit 238 = .ok (.iload 5, 2) := by decide +kernel
theorem dX9_isHit_240 : decode cX9_isHit 240 = .ok (.goto 4, 3) := by decide +kernel
theorem dX9_isHit_243 : decode cX9_isHit 243 = .ok (.iconst 1, 1) := by decide +kernel
theorem dX9_isHit_244 : decode cX9_isHit 244 = .ok (.iastore, 1) := by decide +kernel
theorem dX9_isHit_245 : decode cX9_isHit 245 = .ok (.aload_n 0, 1) := by decide +kernel
theorem dX9_isHit_246 : decode cX9_isHit 246 = .ok (.getfield 71, 3) := by decide +kernel
theorem dX9_isHit_249 : decode cX9_isHit 249 = .ok (.iload_n 1, 1) := by decide +kernel
theorem dX9_isHit_250 : decode cX9_isHit 250 = .ok (.aload_n 0, 1) := by decide +kernel
theorem dX9_isHit_251 : decode cX9_isHit 251 = .ok (.getfield 68, 3) := by decide +kernel
theorem dX9_isHit_254 : decode cX9_isHit 254 = .ok (.iload_n 1, 1) := by decide +kernel
theorem dX9_isHit_255 : decode cX9_isHit 255 = .ok (.iaload, 1) := by decide +kernel
theorem dX9_isHit_256 : decode cX9_isHit 256 = .ok (.iastore, 1) := by decide +kernel
theorem dX9_isHit_257 : decode cX9_isHit 257 = .ok (.aload_n 0, 1) := by decide +kernel
theorem dX9_isHit_258 : decode cX9_isHit 258 = .ok (.getfield 65, 3) := by decide +kernel
theorem dX9_isHit_261 : decode cX9_isHit 261 = .ok (.iload_n 1, 1) := by decide +kernel
theorem dX9_isHit_262 : decode cX9_isHit 262 = .ok (.dload_n 2, 1) := by decide +kernel
theorem dX9_isHit_263 : decode cX9_isHit 263 = .ok (.aload_n 0, 1) := by decide +kernel
theorem dX9_isHit_264 : decode cX9_isHit 264 = .ok (.getfield 52, 3) := by decide +kernel
theorem dX9_isHit_267 : decode cX9_isHit 267 = .ok (.iload_n 1, 1) := by decide +kernel
theorem dX9_isHit_268 : decode cX9_isHit 268 = .ok (.daload, 1) := by decide +kernel
theorem dX9_isHit_269 : decode cX9_isHit 269 = .ok (.aload_n 0, 1) := by decide +kernel
theorem dX9_isHit_270 : decode cX9_isHit 270 = .ok (.getfield 68, 3) := by decide +kernel
theorem dX9_isHit_273 : decode cX9_isHit 273 = .ok (.iload_n 1, 1) := by decide +kernel
theorem dX9_isHit_274 : decode cX9_isHit 274 = .ok (.iaload, 1) := by decide +kernel
theorem dX9_isHit_275 : decode cX9_isHit 275 = .ok (.invokestatic 179, 3) := by decide +kernel
theorem dX9_isHit_278 : decode cX9_isHit 278 = .ok (.ddiv, 1) := by decide +kernel
theorem dX9_isHit_279 : decode cX9_isHit 279 = .ok (.dadd, 1) := by decide +kernel
theorem dX9_isHit_280 : decode cX9_isHit 280 = .ok (.dastore, 1) := by decide +kernel
theorem dX9_isHit_281 : decode cX9_isHit 281 = .ok (.iconst 1, 1) := by decide +kernel
theorem dX9_isHit_282 : decode cX9_isHit 282 = .ok (.ireturn, 1) := by decide +kernel
theorem dX9_leaveRound_0 : decode cX9_leaveRound 0 = .ok (.aload_n 0, 1) := by decide +kernel
theorem dX9_leaveRound_1 : decode cX9_leaveRound 1 = .ok (.dup, 1) := by decide +kernel
theorem dX9_leaveRound_2 : decode cX9_leaveRound 2 = .ok (.getfield 158, 3) := by decide +kernel
theorem dX9_leaveRound_5 : decode cX9_leaveRound 5 = .ok (.iconst 1, 1) := by decide +kernel
theorem dX9_leaveRound_6 : decode cX9_leaveRound 6 = .ok (.isub, 1) := by decide +kernel
theorem dX9_leaveRound_7 : decode cX9_leaveRound 7 = .ok (.putfield 158, 3) := by decide +kernel
theorem dX9_leaveRound_10 : decode cX9_leaveRound 10 = .ok (.iconst 0, 1) := by decide +kernel
theorem dX9_leaveRound_11 : decode cX9_leaveRound 11 = .ok (.istore_n 1, 1) := by decide +kernel
theorem dX9_leaveRound_12 : decode cX9_leaveRound 12 = .ok (.iload_n 1, 1) := by decide +kernel
theorem dX9_leaveRound_13 : decode cX9_leaveRound 13 = .ok (.aload_n 0, 1) := by decide +kernel
theorem dX9_leaveRound_14 : decode cX9_leaveRound 14 = .ok (.getfield 158, 3) := by decide +kernel
theorem dX9_leaveRound_17 : decode cX9_leaveRound 17 = .ok (.if_icmp .ge 23, 3) := by decide +kernel
theorem dX9_leaveRound_20 : decode cX9_leaveRound 20 = .ok (.aload_n 0, 1) := by decide +kernel
theorem dX9_leaveRound_21 : decode cX9_leaveRound 21 = .ok (.getfield 95, 3) := by decide +kernel
theorem dX9_leaveRound_24 : decode cX9_leaveRound 24 = .ok (.iload_n 1, 1) := by decide +kernel
theorem dX9_leaveRound_25 : decode cX9_leaveRound 25 = .ok (.aload_n 0, 1) := by decide +kernel
theorem dX9_leaveRound_26 : decode cX9_leaveRound 26 = .ok (.getfield 95, 3) := by decide +kernel
theorem dX9_leaveRound_29 : decode cX9_leaveRound 29 = .ok (.iload_n 1, 1) := by decide +kernel
theorem dX9_leaveRound_30 : decode cX9_leaveRound 30 = .ok (.iconst 1, 1) := by decide +kernel
theorem dX9_leaveRound_31 : decode cX9_leaveRound 31 = .ok (.iadd, 1) := by decide +kernel
theorem dX9_leaveRound_32 : decode cX9_leaveRound 32 = .ok (.iaload, 1) := by decide +kernel
theorem dX9_leaveRound_33 : decode cX9_leaveRound 33 = .ok (.iastore, 1) := by decide +kernel
theorem dX9_leaveRound_34 : decode cX9_leaveRound 34 = .ok (.iinc 1 1, 3) := by decide +kernel
theorem dX9_leaveRound_37 : decode cX9_leaveRound 37 = .ok (.goto (-25), 3) := by decide +kernel
theorem dX9_leaveRound_40 : decode cX9_leaveRound 40 = .ok (.aload_n 0, 1) := by decide +kernel
theorem dX9_leaveRound_41 : decode cX9_leaveRound 41 = .ok (.iconst 0, 1) := by decide +kernel
theorem dX9_leaveRound_42 : decode cX9_leaveRound 42 = .ok (.putfield 185, 3) := by decide +kernel
theorem dX9_leaveRound_45 : decode cX9_leaveRound 45 = .ok (.return_, 1) := by decide +kernel
set_option maxRecDepth 20000 in
theorem ggX9_choose_X9_leaveRound : GoodIn wsX9_choose wsX9_leaveRound := goodIn_r _ [17, 1, 2, 3, 47, 48, 49, 50, 51, 52, 53, 54, 55, 56, 57, 58, 59, 60, 61, 62, 63, 64, 65, 66, 67, 68, 69, 70, 71, 72, 73, 74, 75, 76, 77, 78, 79, 80, 81, 82, 83, 84, 85, 86, 87, 88, 89] (by decide +kernel) (by decide +kernel)
set_option maxRecDepth 20000 in
theorem gX9_choose_X9_leaveRound : GoodIn wsX9_choose (wsV RX9 188 RX9 yX9_leaveRound wsX9_leaveRound) := goodIn_app (goodIn_of _ (by decide +kernel)) ggX9_choose_X9_leaveRound
set_option maxRecDepth 20000 in
theorem ggX9_choose_X9_takeOut : GoodIn wsX9_choose wsX9_takeOut := goodIn_r _ [21, 22, 23, 6, 10, 24, 25, 26, 8, 27, 11, 12, 28, 29, 47, 48, 49, 50, 51, 52, 53, 54, 55, 56, 57, 58, 59, 60, 61, 62, 63, 64, 65, 66, 67, 68, 69, 70, 71, 72, 73, 74, 75, 76, 77, 78, 79, 80, 81, 82, 83, 84, 85, 86, 87, 88, 89] (by decide +kernel) (by decide +kernel)
set_option maxRecDepth 20000 in
theorem gX9_choose_X9_takeOut : GoodIn wsX9_choose (wsV RX9 191 RX9 yX9_takeOut wsX9_takeOut) := goodIn_app (goodIn_of _ (by decide +kernel)) ggX9_choose_X9_takeOut
set_option maxRecDepth 20000 in
theorem ggX9_choose_X9_isHit : GoodIn wsX9_choose wsX9_isHit := goodIn_r _ [33, 29, 25, 34, 12, 35, 36, 37, 38, 39, 40, 41, 42, 43, 44, 16, 45, 46, 47, 48, 49, 50, 51, 52, 53, 54, 55, 56, 57, 58, 59, 60, 61, 62, 63, 64, 65, 66, 67, 68, 69, 70, 71, 72, 73, 74, 75, 76, 77, 78, 79, 80, 81, 82, 83, 84, 85, 86, 87, 88, 89] (by decide +kernel) (by decide +kernel)
set_option maxRecDepth 20000 in
theorem gX9_choose_X9_isHit : GoodIn wsX9_choose (wsV RX9 195 RX9 yX9_isHit wsX9_isHit) := goodIn_app (goodIn_of _ (by decide +kernel)) ggX9_choose_X9_isHit
theorem dX9_choose_0 : decode cX9_choose 0 = .ok (.aload_n 0, 1) := by decide +kernel
theorem dX9_choose_1 : decode cX9_choose 1 = .ok (.getfield 158, 3) := by decide +kernel
theorem dX9_choose_4 : decode cX9_choose 4 = .ok (.ifCond .le 224, 3) := by decide +kernel
theorem dX9_choose_7 : decode cX9_choose 7 = .ok (.aload_n 0, 1) := by decide +kernel
theorem dX9_choose_8 : decode cX9_choose 8 = .ok (.getfield 95, 3) := by decide +kernel
theorem dX9_choose_11 : decode cX9_choose 11 = .ok (.iconst 0, 1) := by decide +kernel
theorem dX9_choose_12 : decode cX9_choose 12 = .ok (.iaload, 1) := by decide +kernel
theorem dX9_choose_13 : decode cX9_choose 13 = .ok (.istore_n 1, 1) := by decide +kernel
theorem dX9_choose_14 : decode cX9_choose 14 = .ok (.aload_n 0, 1) := by decide +kernel
theorem dX9_choose_15 : decode cX9_choose 15 = .ok (.getfield 185, 3) := by decide +kernel
theorem dX9_choose_18 : decode cX9_choose 18 = .ok (.ifCond .ne 27, 3) := by decide +kernel
theorem dX9_choose_21 : decode cX9_choose 21 = .ok (.aload_n 0, 1) := by decide +kernel
theorem dX9_choose_22 : decode cX9_choose 22 = .ok (.iconst 1, 1) := by decide +kernel
theorem dX9_choose_23 : decode cX9_choose 23 = .ok (.putfield 185, 3) := by decide +kernel
theorem dX9_choose_26 : decode cX9_choose 26 = .ok (.aload_n 0, 1) := by decide +kernel
theorem dX9_choose_27 : decode cX9_choose 27 = .ok (.getfield 98, 3) := by decide +kernel
theorem dX9_choose_30 : decode cX9_choose 30 = .ok (.iload_n 1, 1) := by decide +kernel
theorem dX9_choose_31 : decode cX9_choose 31 = .ok (.aload_n 0, 1) := by decide +kernel
theorem dX9_choose_32 : decode cX9_choose 32 = .ok (.getfield 98, 3) := by decide +kernel
theorem dX9_choose_35 : decode cX9_choose 35 = .ok (.iload_n 1, 1) := by decide +kernel
theorem dX9_choose_36 : decode cX9_choose 36 = .ok (.iaload, 1) := by decide +kernel
theorem dX9_choose_37 : decode cX9_choose 37 = .ok (.aload_n 0, 1) := by decide +kernel
theorem dX9_choose_38 : decode cX9_choose 38 = .ok (.getfield 24, 3) := by decide +kernel
theorem dX9_choose_41 : decode cX9_choose 41 = .ok (.iload_n 1, 1) := by decide +kernel
theorem dX9_choose_42 : decode cX9_choose 42 = .ok (.iaload, 1) := by decide +kernel
theorem dX9_choose_43 : decode cX9_choose 43 = .ok (.iadd, 1) := by decide +kernel
theorem dX9_choose_44 : decode cX9_choose 44 = .ok (.iastore, 1) := by decide +kernel
theorem dX9_choose_45 : decode cX9_choose 45 = .ok (.aload_n 0, 1) := by decide +kernel
theorem dX9_choose_46 : decode cX9_choose 46 = .ok (.getfield 80, 3) := by decide +kernel
theorem dX9_choose_49 : decode cX9_choose 49 = .ok (.bipush 100, 2) := by decide +kernel
theorem dX9_choose_51 : decode cX9_choose 51 = .ok (.iload_n 1, 1) := by decide +kernel
theorem dX9_choose_52 : decode cX9_choose 52 = .ok (.imul, 1) := by decide +kernel
theorem dX9_choose_53 : decode cX9_choose 53 = .ok (.iaload, 1) := by decide +kernel
theorem dX9_choose_54 : decode cX9_choose 54 = .ok (.aload_n 0, 1) := by decide +kernel
theorem dX9_choose_55 : decode cX9_choose 55 = .ok (.getfield 98, 3) := by decide +kernel
theorem dX9_choose_58 : decode cX9_choose 58 = .ok (.iload_n 1, 1) := by decide +kernel
theorem dX9_choose_59 : decode cX9_choose 59 = .ok (.iaload, 1) := by decide +kernel
theorem dX9_choose_60 : decode cX9_choose 60 = .ok (.if_icmp .le 30, 3) := by decide +kernel
theorem dX9_choose_63 : decode cX9_choose 63 = .ok (.aload_n 0, 1) := by decide +kernel
theorem dX9_choose_64 : decode cX9_choose 64 = .ok (.invokevirtual 188, 3) := by decide +kernel
theorem dX9_choose_67 : decode cX9_choose 67 = .ok (.aload_n 0, 1) := by decide +kernel
theorem dX9_choose_68 : decode cX9_choose 68 = .ok (.getfield 95, 3) := by decide +kernel
theorem dX9_choose_71 : decode cX9_choose 71 = .ok (.aload_n 0, 1) := by decide +kernel
theorem dX9_choose_72 : decode cX9_choose 72 = .ok (.getfield 158, 3) := by decide +kernel
theorem dX9_choose_75 : decode cX9_choose 75 = .ok (.iload_n 1, 1) := by decide +kernel
theorem dX9_choose_76 : decode cX9_choose 76 = .ok (.iastore, 1) := by decide +kernel
theorem dX9_choose_77 : decode cX9_choose 77 = .ok (.aload_n 0, 1) := by decide +kernel
theorem dX9_choose_78 : decode cX9_choose 78 = .ok (.dup, 1) := by decide +kernel
theorem dX9_choose_79 : decode cX9_choose 79 = .ok (.getfield 158, 3) := by decide +kernel
theorem dX9_choose_82 : decode cX9_choose 82 = .ok (.iconst 1, 1) := by decide +kernel
theorem dX9_choose_83 : decode cX9_choose 83 = .ok (.iadd, 1) := by decide +kernel
theorem dX9_choose_84 : decode cX9_choose 84 = .ok (.putfield 158, 3) := by decide +kernel
theorem dX9_choose_87 : decode cX9_choose 87 = .ok (.goto 138, 3) := by decide +kernel
theorem dX9_choose_90 : decode cX9_choose 90 = .ok (.aload_n 0, 1) := by decide +kernel
theorem dX9_choose_91 : decode cX9_choose 91 = .ok (.iload_n 1, 1) := by decide +kernel
theorem dX9_choose_92 : decode cX9_choose 92 = .ok (.invokevirtual 191, 3) := by decide +kernel
theorem dX9_choose_95 : decode cX9_choose 95 = .ok (.aload_n 0, 1) := by decide +kernel
theorem dX9_choose_96 : decode cX9_choose 96 = .ok (.getfield 20, 3) := by decide +kernel
theorem dX9_choose_99 : decode cX9_choose 99 = .ok (.iload_n 1, 1) := by decide +kernel
theorem dX9_choose_100 : decode cX9_choose 100 = .ok (.iaload, 1) := by decide +kernel
theorem dX9_choose_101 : decode cX9_choose 101 = .ok (.iconst 2, 1) := by decide +kernel
theorem dX9_choose_102 : decode cX9_choose 102 = .ok (.if_icmp .ne 15, 3) := by decide +kernel
theorem dX9_choose_105 : decode cX9_choose 105 = .ok (.aload_n 0, 1) := by decide +kernel
theorem dX9_choose_106 : decode cX9_choose 106 = .ok (.iload_n 1, 1) := by decide +kernel
theorem dX9_choose_107 : decode cX9_choose 107 = .ok (.invokevirtual 195, 3) := by decide +kernel
theorem dX9_choose_110 : decode cX9_choose 110 = .ok (.ifCond .eq 7, 3) := by decide +kernel
theorem dX9_choose_113 : decode cX9_choose 113 = .ok (.iconst 1, 1) := by decide +kernel
theorem dX9_choose_114 : decode cX9_choose 114 = .ok (.goto 4, 3) := by decide +kernel
theorem dX9_choose_117 : decode cX9_choose 117 = .ok (.iconst 0, 1) := by decide +kernel
theorem dX9_choose_118 : decode cX9_choose 118 = .ok (.istore_n 2, 1) := by decide +kernel
theorem dX9_choose_119 : decode cX9_choose 119 = .ok (.iload_n 2, 1) := by decide +kernel
theorem dX9_choose_120 : decode cX9_choose 120 = .ok (.ifCond .eq 14, 3) := by decide +kernel
theorem dX9_choose_123 : decode cX9_choose 123 = .ok (.aload_n 0, 1) := by decide +kernel
theorem dX9_choose_124 : decode cX9_choose 124 = .ok (.getfield 170, 3) := by decide +kernel
theorem dX9_choose_127 : decode cX9_choose 127 = .ok (.ifCond .ne 7, 3) := by decide +kernel
theorem dX9_choose_130 : decode cX9_choose 130 = .ok (.iconst 1, 1) := by decide +kernel
theorem dX9_choose_131 : decode cX9_choose 131 = .ok (.goto 4, 3) := by decide +kernel
theorem dX9_choose_134 : decode cX9_choose 134 = .ok (.iconst 0, 1) := by decide +kernel
theorem dX9_choose_135 : decode cX9_choose 135 = .ok (.istore_n 3, 1) := by decide +kernel
theorem dX9_choose_136 : decode cX9_choose 136 = .ok (.iload_n 3, 1) := by decide +kernel
theorem dX9_choose_137 : decode cX9_choose 137 = .ok (.ifCond .eq 21, 3) := by decide +kernel
theorem dX9_choose_140 : decode cX9_choose 140 = .ok (.aload_n 0, 1) := by decide +kernel
theorem dX9_choose_141 : decode cX9_choose 141 = .ok (.getfield 92, 3) := by decide +kernel
theorem dX9_choose_144 : decode cX9_choose 144 = .ok (.bipush 10, 2) := by decide +kernel
theorem dX9_choose_146 : decode cX9_choose 146 = .ok (.iload_n 1, 1) := by decide +kernel
theorem dX9_choose_147 : decode cX9_choose 147 = .ok (.imul, 1) := by decide +kernel
theorem dX9_choose_148 : decode cX9_choose 148 = .ok (.iconst 4, 1) := by decide +kernel
theorem dX9_choose_149 : decode cX9_choose 149 = .ok (.iadd, 1) := by decide +kernel
theorem dX9_choose_150 : decode cX9_choose 150 = .ok (.dup2, 1) := by decide +kernel
theorem dX9_choose_151 : decode cX9_choose 151 = .ok (.iaload, 1) := by decide +kernel
theorem dX9_choose_152 : decode cX9_choose 152 = .ok (.iconst 1, 1) := by decide +kernel
theorem dX9_choose_153 : decode cX9_choose 153 = .ok (.iadd, 1) := by decide +kernel
theorem dX9_choose_154 : decode cX9_choose 154 = .ok (.iastore, 1) := by decide +kernel
theorem dX9_choose_155 : decode cX9_choose 155 = .ok (.goto 51, 3) := by decide +kernel
theorem dX9_choose_158 : decode cX9_choose 158 = .ok (.aload_n 0, 1) := by decide +kernel
theorem dX9_choose_159 : decode cX9_choose 159 = .ok (.getfield 98, 3) := by decide +kernel
theorem dX9_choose_162 : decode cX9_choose 162 = .ok (.iload_n 1, 1) := by decide +kernel
theorem dX9_choose_163 : decode cX9_choose 163 = .ok (.aload_n 0, 1) := by decide +kernel
theorem dX9_choose_164 : decode cX9_choose 164 = .ok (.getfield 98, 3) := by decide +kernel
theorem dX9_choose_167 : decode cX9_choose 167 = .ok (.iload_n 1, 1) := by decide +kernel
theorem dX9_choose_168 : decode cX9_choose 168 = .ok (.iaload, 1) := by decide +kernel
theorem dX9_choose_169 : decode cX9_choose 169 = .ok (.aload_n 0, 1) := by decide +kernel
theorem dX9_choose_170 : decode cX9_choose 170 = .ok (.getfield 164, 3) := by decide +kernel
theorem dX9_choose_173 : decode cX9_choose 173 = .ok (.isub, 1) := by decide +kernel
theorem dX9_choose_174 : decode cX9_choose 174 = .ok (.iastore, 1) := by decide +kernel
theorem dX9_choose_175 : decode cX9_choose 175 = .ok (.iload_n 2, 1) := by decide +kernel
theorem dX9_choose_176 : decode cX9_choose 176 = .ok (.ifCond .eq 30, 3) := by decide +kernel
theorem dX9_choose_179 : decode cX9_choose 179 = .ok (.aload_n 0, 1) := by decide +kernel
theorem dX9_choose_180 : decode cX9_choose 180 = .ok (.getfield 174, 3) := by decide +kernel
theorem dX9_choose_183 : decode cX9_choose 183 = .ok (.ifCond .ne 23, 3) := by decide +kernel
theorem dX9_choose_186 : decode cX9_choose 186 = .ok (.aload_n 0, 1) := by decide +kernel
theorem dX9_choose_187 : decode cX9_choose 187 = .ok (.getfield 92, 3) := by decide +kernel
theorem dX9_choose_190 : decode cX9_choose 190 = .ok (.bipush 10, 2) := by decide +kernel
theorem dX9_choose_192 : decode cX9_choose 192 = .ok (.iload_n 1, 1) := by decide +kernel
theorem dX9_choose_193 : decode cX9_choose 193 = .ok (.imul, 1) := by decide +kernel
theorem dX9_choose_194 : decode cX9_choose 194 = .ok (.iconst 5, 1) := by decide +kernel
theorem dX9_choose_195 : decode cX9_choose 195 = .ok (.iadd, 1) := by decide +kernel
theorem dX9_choose_196 : decode cX9_choose 196 = .ok (.dup2, 1) := by decide +kernel
theorem dX9_choose_197 : decode cX9_choose 197 = .ok (.iaload, 1) := by decide +kernel
theorem dX9_choose_198 : decode cX9_choose 198 = .ok (.iconst 1, 1) := by decide +kernel
theorem dX9_choose_199 : decode cX9_choose 199 = .ok (.iadd, 1) := by decide +kernel
theorem dX9_choose_200 : decode cX9_choose 200 = .ok (.iastore, 1) := by decide +kernel
theorem dX9_choose_201 : decode cX9_choose 201 = .ok (.aload_n 0, 1) := by decide +kernel
theorem dX9_choose_202 : decode cX9_choose 202 = .ok (.iconst 1, 1) := by decide +kernel
theorem dX9_choose_203 : decode cX9_choose 203 = .ok (.putfield 174, 3) := by decide +kernel
theorem dX9_choose_206 : decode cX9_choose 206 = .ok (.aload_n 0, 1) := by decide +kernel
theorem dX9_choose_207 : decode cX9_choose 207 = .ok (.getfield 74, 3) := by decide +kernel
theorem dX9_choose_210 : decode cX9_choose 210 = .ok (.iload_n 1, 1) := by decide +kernel
theorem dX9_choose_211 : decode cX9_choose 211 = .ok (.iaload, 1) := by decide +kernel
theorem dX9_choose_212 : decode cX9_choose 212 = .ok (.ifCond .ne 7, 3) := by decide +kernel
theorem dX9_choose_215 : decode cX9_choose 215 = .ok (.aload_n 0, 1) := by decide +kernel
theorem dX9_choose_216 : decode cX9_choose 216 = .ok (.invokevirtual 188, 3) := by decide +kernel
theorem dX9_choose_219 : decode cX9_choose 219 = .ok (.iload_n 3, 1) := by decide +kernel
theorem dX9_choose_220 : decode cX9_choose 220 = .ok (.ifCond .ne 5, 3) := by decide +kernel
theorem dX9_choose_223 : decode cX9_choose 223 = .ok (.iload_n 1, 1) := by decide +kernel
theorem dX9_choose_224 : decode cX9_choose 224 = .ok (.ireturn, 1) := by decide +kernel
theorem dX9_choose_225 : decode cX9_choose 225 = .ok (.goto (-225), 3) := by decide +kernel
theorem dX9_choose_228 : decode cX9_choose 228 = .ok (.iconst (-1), 1) := by decide +kernel
theorem dX9_choose_229 : decode cX9_choose 229 = .ok (.ireturn, 1) := by decide +kernel
theorem dX9_send_0 : decode cX9_send 0 = .ok (.aload_n 0, 1) := by decide +kernel
theorem dX9_send_1 : decode cX9_send 1 = .ok (.getfield 92, 3) := by decide +kernel
theorem dX9_send_4 : decode cX9_send 4 = .ok (.bipush 10, 2) := by decide +kernel
theorem dX9_send_6 : decode cX9_send 6 = .ok (.iload_n 1, 1) := by decide +kernel
theorem dX9_send_7 : decode cX9_send 7 = .ok (.imul, 1) := by decide +kernel
theorem dX9_send_8 : decode cX9_send 8 = .ok (.iconst 1, 1) := by decide +kernel
theorem dX9_send_9 : decode cX9_send 9 = .ok (.iadd, 1) := by decide +kernel
theorem dX9_send_10 : decode cX9_send 10 = .ok (.dup2, 1) := by decide +kernel
theorem dX9_send_11 : decode cX9_send 11 = .ok (.iaload, 1) := by decide +kernel
theorem dX9_send_12 : decode cX9_send 12 = .ok (.iconst 1, 1) := by decide +kernel
theorem dX9_send_13 : decode cX9_send 13 = .ok (.iadd, 1) := by decide +kernel
theorem dX9_send_14 : decode cX9_send 14 = .ok (.iastore, 1) := by decide +kernel
theorem dX9_send_15 : decode cX9_send 15 = .ok (.aload_n 0, 1) := by decide +kernel
theorem dX9_send_16 : decode cX9_send 16 = .ok (.getfield 92, 3) := by decide +kernel
theorem dX9_send_19 : decode cX9_send 19 = .ok (.bipush 10, 2) := by decide +kernel
theorem dX9_send_21 : decode cX9_send 21 = .ok (.iload_n 1, 1) := by decide +kernel
theorem dX9_send_22 : decode cX9_send 22 = .ok (.imul, 1) := by decide +kernel
theorem dX9_send_23 : decode cX9_send 23 = .ok (.bipush 8, 2) := by decide +kernel
theorem dX9_send_25 : decode cX9_send 25 = .ok (.iadd, 1) := by decide +kernel
theorem dX9_send_26 : decode cX9_send 26 = .ok (.aload_n 0, 1) := by decide +kernel
theorem dX9_send_27 : decode cX9_send 27 = .ok (.getfield 92, 3) := by decide +kernel
theorem dX9_send_30 : decode cX9_send 30 = .ok (.bipush 10, 2) := by decide +kernel
theorem dX9_send_32 : decode cX9_send 32 = .ok (.iload_n 1, 1) := by decide +kernel
theorem dX9_send_33 : decode cX9_send 33 = .ok (.imul, 1) := by decide +kernel
theorem dX9_send_34 : decode cX9_send 34 = .ok (.bipush 8, 2) := by decide +kernel
theorem dX9_send_36 : decode cX9_send 36 = .ok (.iadd, 1) := by decide +kernel
theorem dX9_send_37 : decode cX9_send 37 = .ok (.iaload, 1) := by decide +kernel
theorem dX9_send_38 : decode cX9_send 38 = .ok (.aload_n 0, 1) := by decide +kernel
theorem dX9_send_39 : decode cX9_send 39 = .ok (.getfield 164, 3) := by decide +kernel
theorem dX9_send_42 : decode cX9_send 42 = .ok (.iadd, 1) := by decide +kernel
theorem dX9_send_43 : decode cX9_send 43 = .ok (.iastore, 1) := by decide +kernel
theorem dX9_send_44 : decode cX9_send 44 = .ok (.aload_n 0, 1) := by decide +kernel
theorem dX9_send_45 : decode cX9_send 45 = .ok (.aload_n 0, 1) := by decide +kernel
theorem dX9_send_46 : decode cX9_send 46 = .ok (.getfield 198, 3) := by decide +kernel
theorem dX9_send_49 : decode cX9_send 49 = .ok (.aload_n 0, 1) := by decide +kernel
theorem dX9_send_50 : decode cX9_send 50 = .ok (.getfield 164, 3) := by decide +kernel
theorem dX9_send_53 : decode cX9_send 53 = .ok (.i2d, 1) := by decide +kernel
theorem dX9_send_54 : decode cX9_send 54 = .ok (.aload_n 0, 1) := by decide +kernel
theorem dX9_send_55 : decode cX9_send 55 = .ok (.getfield 9, 3) := by decide +kernel
theorem dX9_send_58 : decode cX9_send 58 = .ok (.ddiv, 1) := by decide +kernel
theorem dX9_send_59 : decode cX9_send 59 = .ok (.dadd, 1) := by decide +kernel
theorem dX9_send_60 : decode cX9_send 60 = .ok (.putfield 198, 3) := by decide +kernel
theorem dX9_send_63 : decode cX9_send 63 = .ok (.sipush 159, 3) := by decide +kernel
theorem dX9_send_66 : decode cX9_send 66 = .ok (.istore_n 2, 1) := by decide +kernel
theorem dX9_send_67 : decode cX9_send 67 = .ok (.iload_n 2, 1) := by decide +kernel
theorem dX9_send_68 : decode cX9_send 68 = .ok (.iconst 5, 1) := by decide +kernel
theorem dX9_send_69 : decode cX9_send 69 = .ok (.if_icmp .lt 23, 3) := by decide +kernel
theorem dX9_send_72 : decode cX9_send 72 = .ok (.aload_n 0, 1) := by decide +kernel
theorem dX9_send_73 : decode cX9_send 73 = .ok (.getfield 104, 3) := by decide +kernel
theorem dX9_send_76 : decode cX9_send 76 = .ok (.iload_n 2, 1) := by decide +kernel
theorem dX9_send_77 : decode cX9_send 77 = .ok (.aload_n 0, 1) := by decide +kernel
theorem dX9_send_78 : decode cX9_send 78 = .ok (.getfield 104, 3) := by decide +kernel
theorem dX9_send_81 : decode cX9_send 81 = .ok (.iload_n 2, 1) := by decide +kernel
theorem dX9_send_82 : decode cX9_send 82 = .ok (.iconst 5, 1) := by decide +kernel
theorem dX9_send_83 : decode cX9_send 83 = .ok (.isub, 1) := by decide +kernel
theorem dX9_send_84 : decode cX9_send 84 = .ok (.iaload, 1) := by decide +kernel
theorem dX9_send_85 : decode cX9_send 85 = .ok (.iastore, 1) := by decide +kernel
theorem dX9_send_86 : decode cX9_send 86 = .ok (.iinc 2 (-1), 3) := by decide +kernel
theorem dX9_send_89 : decode cX9_send 89 = .ok (.goto (-22), 3) := by decide +kernel
theorem dX9_send_92 : decode cX9_send 92 = .ok (.aload_n 0, 1) := by decide +kernel
theorem dX9_send_93 : decode cX9_send 93 = .ok (.getfield 104, 3) := by decide +kernel
theorem dX9_send_96 : decode cX9_send 96 = .ok (.iconst 0, 1) := by decide +kernel
theorem dX9_send_97 : decode cX9_send 97 = .ok (.aload_n 0, 1) := by decide +kernel
theorem dX9_send_98 : decode cX9_send 98 = .ok (.getfield 161, 3) := by decide +kernel
theorem dX9_send_101 : decode cX9_send 101 = .ok (.iastore, 1) := by decide +kernel
theorem dX9_send_102 : decode cX9_send 102 = .ok (.aload_n 0, 1) := by decide +kernel
theorem dX9_send_103 : decode cX9_send 103 = .ok (.getfield 104, 3) := by decide +kernel
theorem dX9_send_106 : decode cX9_send 106 = .ok (.iconst 1, 1) := by decide +kernel
theorem dX9_send_107 : decode cX9_send 107 = .ok (.iload_n 1, 1) := by decide +kernel
theorem dX9_send_108 : decode cX9_send 108 = .ok (.iastore, 1) := by decide +kernel
theorem dX9_send_109 : decode cX9_send 109 = .ok (.aload_n 0, 1) := by decide +kernel
theorem dX9_send_110 : decode cX9_send 110 = .ok (.getfield 104, 3) := by decide +kernel
theorem dX9_send_113 : decode cX9_send 113 = .ok (.iconst 2, 1) := by decide +kernel
theorem dX9_send_114 : decode cX9_send 114 = .ok (.aload_n 0, 1) := by decide +kernel
theorem dX9_send_115 : decode cX9_send 115 = .ok (.getfield 164, 3) := by decide +kernel
theorem dX9_send_118 : decode cX9_send 118 = .ok (.iastore, 1) := by decide +kernel
theorem dX9_send_119 : decode cX9_send 119 = .ok (.aload_n 0, 1) := by decide +kernel
theorem dX9_send_120 : decode cX9_send 120 = .ok (.getfield 104, 3) := by decide +kernel
theorem dX9_send_123 : decode cX9_send 123 = .ok (.iconst 3, 1) := by decide +kernel
theorem dX9_send_124 : decode cX9_send 124 = .ok (.aload_n 0, 1) := by decide +kernel
theorem dX9_send_125 : decode cX9_send 125 = .ok (.getfield 126, 3) := by decide +kernel
theorem dX9_send_128 : decode cX9_send 128 = .ok (.aload_n 0, 1) := by decide +kernel
theorem dX9_send_129 : decode cX9_send 129 = .ok (.getfield 167, 3) := by decide +kernel
theorem dX9_send_132 : decode cX9_send 132 = .ok (.isub, 1) := by decide +kernel
theorem dX9_send_133 : decode cX9_send 133 = .ok (.iastore, 1) := by decide +kernel
theorem dX9_send_134 : decode cX9_send 134 = .ok (.aload_n 0, 1) := by decide +kernel
theorem dX9_send_135 : decode cX9_send 135 = .ok (.getfield 104, 3) := by decide +kernel
theorem dX9_send_138 : decode cX9_send 138 = .ok (.iconst 4, 1) := by decide +kernel
theorem dX9_send_139 : decode cX9_send 139 = .ok (.aload_n 0, 1) := by decide +kernel
theorem dX9_send_140 : decode cX9_send 140 = .ok (.getfield 174, 3) := by decide +kernel
theorem dX9_send_143 : decode cX9_send 143 = .ok (.ifCond .eq 7, 3) := by decide +kernel
theorem dX9_send_146 : decode cX9_send 146 = .ok (.iconst 1, 1) := by decide +kernel
theorem dX9_send_147 : decode cX9_send 147 = .ok (.goto 4, 3) := by decide +kernel
theorem dX9_send_150 : decode cX9_send 150 = .ok (.iconst 0, 1) := by decide +kernel
theorem dX9_send_151 : decode cX9_send 151 = .ok (.iastore, 1) := by decide +kernel
theorem dX9_send_152 : decode cX9_send 152 = .ok (.aload_n 0, 1) := by decide +kernel
theorem dX9_send_153 : decode cX9_send 153 = .ok (.aload_n 0, 1) := by decide +kernel
theorem dX9_send_154 : decode cX9_send 154 = .ok (.getfield 201, 3) := by decide +kernel
theorem dX9_send_157 : decode cX9_send 157 = .ok (.bipush 32, 2) := by decide +kernel
theorem dX9_send_159 : decode cX9_send 159 = .ok (.if_icmp .ge 12, 3) := by decide +kernel
theorem dX9_send_162 : decode cX9_send 162 = .ok (.aload_n 0, 1) := by decide +kernel
theorem dX9_send_163 : decode cX9_send 163 = .ok (.getfield 201, 3) := by decide +kernel
theorem dX9_send_166 : decode cX9_send 166 = .ok (.iconst 1, 1) := by decide +kernel
theorem dX9_send_167 : decode cX9_send 167 = .ok (.iadd, 1) := by decide +kernel
theorem dX9_send_168 : decode cX9_send 168 = .ok (.goto 5, 3) := by decide +kernel
theorem dX9_send_171 : decode cX9_send 171 = .ok (.bipush 32, 2) := by decide +kernel
theorem dX9_send_173 : decode cX9_send 173 = .ok (.putfield 201, 3) := by decide +kernel
theorem dX9_send_176 : decode cX9_send 176 = .ok (.return_, 1) := by decide +kernel
set_option maxRecDepth 20000 in
theorem ggX9_tick_X9_isIn : GoodIn wsX9_tick wsX9_isIn := goodIn_r _ [6] (by decide +kernel) (by decide +kernel)
set_option maxRecDepth 20000 in
theorem gX9_tick_X9_isIn : GoodIn wsX9_tick (va_wsS RX9 118 yX9_isIn wsX9_isIn) := goodIn_app (goodIn_of _ (by decide +kernel)) ggX9_tick_X9_isIn
set_option maxRecDepth 20000 in
theorem ggX9_tick_X9_refused : GoodIn wsX9_tick wsX9_refused := goodIn_r _ [10, 11, 67, 68, 69, 70, 71, 72, 73, 74, 75, 76, 77, 78, 79, 80, 81, 82, 83, 84, 85, 86, 87, 88, 89, 90, 91, 92, 93, 94, 95, 96, 97, 98, 99, 100, 101, 102, 103, 104, 105, 106, 107, 108, 109] (by decide +kernel) (by decide +kernel)
set_option maxRecDepth 20000 in
theorem gX9_tick_X9_refused : GoodIn wsX9_tick (wsV RX9 122 RX9 yX9_refused wsX9_refused) := goodIn_app (goodIn_of _ (by decide +kernel)) ggX9_tick_X9_refused
set_option maxRecDepth 20000 in
theorem ggX9_tick_X9_choose : GoodIn wsX9_tick wsX9_choose := goodIn_r _ [15, 16, 17, 18, 19, 20, 21, 22, 23, 24, 25, 26, 27, 28, 29, 30, 5, 31, 32, 33, 34, 35, 36, 37, 38, 39, 40, 41, 42, 1, 43, 44, 45, 46, 47, 48, 49, 50, 51, 52, 53, 54, 55, 56, 57, 58, 59, 67, 68, 69, 70, 71, 72, 73, 74, 75, 76, 77, 78, 79, 80, 81, 82, 83, 84, 85, 86, 87, 88, 89, 90, 91, 92, 93, 94, 95, 96, 97, 98, 99, 100, 101, 102, 103, 104, 105, 106, 107, 108, 109] (by decide +kernel) (by decide +kernel)
set_option maxRecDepth 20000 in
theorem gX9_tick_X9_choose : GoodIn wsX9_tick (wsV RX9 204 RX9 yX9_choose wsX9_choose) := goodIn_app (goodIn_of _ (by decide +kernel)) ggX9_tick_X9_choose
set_option maxRecDepth 20000 in
theorem ggX9_tick_X9_send : GoodIn wsX9_tick wsX9_send := goodIn_r _ [63, 24, 25, 2, 64, 65, 37, 1, 39, 26, 66, 67, 68, 69, 70, 71, 72, 73, 74, 75, 76, 77, 78, 79, 80, 81, 82, 83, 84, 85, 86, 87, 88, 89, 90, 91, 92, 93, 94, 95, 96, 97, 98, 99, 100, 101, 102, 103, 104, 105, 106, 107, 108, 109] (by decide +kernel) (by decide +kernel)
set_option maxRecDepth 20000 in
theorem gX9_tick_X9_send : GoodIn wsX9_tick (wsV RX9 207 RX9 yX9_send wsX9_send) := goodIn_app (goodIn_of _ (by decide +kernel)) ggX9_tick_X9_send
theorem dX9_tick_0 : decode cX9_tick 0 = .ok (.aload_n 0, 1) := by decide +kernel
theorem dX9_tick_1 : decode cX9_tick 1 = .ok (.iload_n 1, 1) := by decide +kernel
theorem dX9_tick_2 : decode cX9_tick 2 = .ok (.iconst 1, 1) := by decide +kernel
theorem dX9_tick_3 : decode cX9_tick 3 = .ok (.sipush 1000, 3) := by decide +kernel
theorem dX9_tick_6 : decode cX9_tick 6 = .ok (.invokestatic 118, 3) := by decide +kernel
theorem dX9_tick_9 : decode cX9_tick 9 = .ok (.ifCond .eq 7, 3) := by decide +kernel
theorem dX9_tick_12 : decode cX9_tick 12 = .ok (.iconst 0, 1) := by decide +kernel
theorem dX9_tick_13 : decode cX9_tick 13 = .ok (.goto 4, 3) := by decide +kernel
theorem dX9_tick_16 : decode cX9_tick 16 = .ok (.iconst 1, 1) := by decide +kernel
theorem dX9_tick_17 : decode cX9_tick 17 = .ok (.invokevirtual 122, 3) := by decide +kernel
theorem dX9_tick_20 : decode cX9_tick 20 = .ok (.ifCond .eq 5, 3) := by decide +kernel
theorem dX9_tick_23 : decode cX9_tick 23 = .ok (.iconst 0, 1) := by decide +kernel
theorem dX9_tick_24 : decode cX9_tick 24 = .ok (.ireturn, 1) := by decide +kernel
theorem dX9_tick_25 : decode cX9_tick 25 = .ok (.iconst 0, 1) := by decide +kernel
theorem dX9_tick_26 : decode cX9_tick 26 = .ok (.istore_n 2, 1) := by decide +kernel
theorem dX9_tick_27 : decode cX9_tick 27 = .ok (.iconst 0, 1) := by decide +kernel
theorem dX9_tick_28 : decode cX9_tick 28 = .ok (.istore_n 3, 1) := by decide +kernel
theorem dX9_tick_29 : decode cX9_tick 29 = .ok (.iload_n 3, 1) := by decide +kernel
theorem dX9_tick_30 : decode cX9_tick 30 = .ok (.iload_n 1, 1) := by decide +kernel
theorem dX9_tick_31 : decode cX9_tick 31 = .ok (.if_icmp .ge 102, 3) := by decide +kernel
theorem dX9_tick_34 : decode cX9_tick 34 = .ok (.aload_n 0, 1) := by decide +kernel
theorem dX9_tick_35 : decode cX9_tick 35 = .ok (.dup, 1) := by decide +kernel
theorem dX9_tick_36 : decode cX9_tick 36 = .ok (.getfield 126, 3) := by decide +kernel
theorem dX9_tick_39 : decode cX9_tick 39 = .ok (.iconst 1, 1) := by decide +kernel
theorem dX9_tick_40 : decode cX9_tick 40 = .ok (.iadd, 1) := by decide +kernel
theorem dX9_tick_41 : decode cX9_tick 41 = .ok (.putfield 126, 3) := by decide +kernel
theorem dX9_tick_44 : decode cX9_tick 44 = .ok (.aload_n 0, 1) := by decide +kernel
theorem dX9_tick_45 : decode cX9_tick 45 = .ok (.getfield 198, 3) := by decide +kernel
theorem dX9_tick_48 : decode cX9_tick 48 = .ok (.aload_n 0, 1) := by decide +kernel
theorem dX9_tick_49 : decode cX9_tick 49 = .ok (.getfield 126, 3) := by decide +kernel
theorem dX9_tick_52 : decode cX9_tick 52 = .ok (.i2d, 1) := by decide +kernel
theorem dX9_tick_53 : decode cX9_tick 53 = .ok (.dcmp .g, 1) := by decide +kernel
theorem dX9_tick_54 : decode cX9_tick 54 = .ok (.ifCond .gt 7, 3) := by decide +kernel
theorem dX9_tick_57 : decode cX9_tick 57 = .ok (.iconst 1, 1) := by decide +kernel
theorem dX9_tick_58 : decode cX9_tick 58 = .ok (.goto 4, 3) := by decide +kernel
theorem dX9_tick_61 : decode cX9_tick 61 = .ok (.iconst 0, 1) := by decide +kernel
theorem dX9_tick_62 : decode cX9_tick 62 = .ok (.istore 4, 2) := by decide +kernel
theorem dX9_tick_64 : decode cX9_tick 64 = .ok (.iload 4, 2) := by decide +kernel
theorem dX9_tick_66 : decode cX9_tick 66 = .ok (.ifCond .eq 61, 3) := by decide +kernel
theorem dX9_tick_69 : decode cX9_tick 69 = .ok (.aload_n 0, 1) := by decide +kernel
theorem dX9_tick_70 : decode cX9_tick 70 = .ok (.invokevirtual 204, 3) := by decide +kernel
theorem dX9_tick_73 : decode cX9_tick 73 = .ok (.istore 5, 2) := by decide +kernel
theorem dX9_tick_75 : decode cX9_tick 75 = .ok (.iload 5, 2) := by decide +kernel
theorem dX9_tick_77 : decode cX9_tick 77 = .ok (.ifCond .ge 18, 3) := by decide +kernel
theorem dX9_tick_80 : decode cX9_tick 80 = .ok (.aload_n 0, 1) := by decide +kernel
theorem dX9_tick_81 : decode cX9_tick 81 = .ok (.aload_n 0, 1) := by decide +kernel
theorem dX9_tick_82 : decode cX9_tick 82 = .ok (.getfield 126, 3) := by decide +kernel
theorem dX9_tick_85 : decode cX9_tick 85 = .ok (.i2d, 1) := by decide +kernel
theorem dX9_tick_86 : decode cX9_tick 86 = .ok (.putfield 198, 3) := by decide +kernel
theorem dX9_tick_89 : decode cX9_tick 89 = .ok (.iconst 0, 1) := by decide +kernel
theorem dX9_tick_90 : decode cX9_tick 90 = .ok (.istore 4, 2) := by decide +kernel
theorem dX9_tick_92 : decode cX9_tick 92 = .ok (.goto 32, 3) := by decide +kernel
theorem dX9_tick_95 : decode cX9_tick 95 = .ok (.aload_n 0, 1) := by decide +kernel
theorem dX9_tick_96 : decode cX9_tick 96 = .ok (.iload 5, 2) := by decide +kernel
theorem dX9_tick_98 : decode cX9_tick 98 = .ok (.invokevirtual 207, 3) := by decide +kernel
theorem dX9_tick_101 : decode cX9_tick 101 = .ok (.iinc 2 1, 3) := by decide +kernel
theorem dX9_tick_104 : decode cX9_tick 104 = .ok (.aload_n 0, 1) := by decide +kernel
theorem dX9_tick_105 : decode cX9_tick 105 = .ok (.getfield 198, 3) := by decide +kernel
theorem dX9_tick_108 : decode cX9_tick 108 = .ok (.aload_n 0, 1) := by decide +kernel
theorem dX9_tick_109 : decode cX9_tick 109 = .ok (.getfield 126, 3) := by decide +kernel
theorem dX9_tick_112 : decode cX9_tick 112 = .ok (.i2d, 1) := by decide +kernel
theorem dX9_tick_113 : decode cX9_tick 113 = .ok (.dcmp .g, 1) := by decide +kernel
theorem dX9_tick_114 : decode cX9_tick 114 = .ok (.ifCond .gt 7, 3) := by decide +kernel
theorem dX9_tick_117 : decode cX9_tick 117 = .ok (.iconst 1, 1) := by decide +kernel
theorem dX9_tick_118 : decode cX9_tick 118 = .ok (.goto 4, 3) := by decide +kernel
theorem dX9_tick_121 : decode cX9_tick 121 = .ok (.iconst 0, 1) := by decide +kernel
theorem dX9_tick_122 : decode cX9_tick 122 = .ok (.istore 4, 2) := by decide +kernel
theorem dX9_tick_124 : decode cX9_tick 124 = .ok (.goto (-60), 3) := by decide +kernel
theorem dX9_tick_127 : decode cX9_tick 127 = .ok (.iinc 3 1, 3) := by decide +kernel
theorem dX9_tick_130 : decode cX9_tick 130 = .ok (.goto (-101), 3) := by decide +kernel
theorem dX9_tick_133 : decode cX9_tick 133 = .ok (.iload_n 2, 1) := by decide +kernel
theorem dX9_tick_134 : decode cX9_tick 134 = .ok (.ireturn, 1) := by decide +kernel
theorem dX9_isRound_0 : decode cX9_isRound 0 = .ok (.iconst 0, 1) := by decide +kernel
theorem dX9_isRound_1 : decode cX9_isRound 1 = .ok (.istore_n 2, 1) := by decide +kernel
theorem dX9_isRound_2 : decode cX9_isRound 2 = .ok (.iconst 0, 1) := by decide +kernel
theorem dX9_isRound_3 : decode cX9_isRound 3 = .ok (.istore_n 3, 1) := by decide +kernel
theorem dX9_isRound_4 : decode cX9_isRound 4 = .ok (.iload_n 3, 1) := by decide +kernel
theorem dX9_isRound_5 : decode cX9_isRound 5 = .ok (.aload_n 0, 1) := by decide +kernel
theorem dX9_isRound_6 : decode cX9_isRound 6 = .ok (.getfield 158, 3) := by decide +kernel
theorem dX9_isRound_9 : decode cX9_isRound 9 = .ok (.if_icmp .ge 29, 3) := by decide +kernel
theorem dX9_isRound_12 : decode cX9_isRound 12 = .ok (.iload_n 2, 1) := by decide +kernel
theorem dX9_isRound_13 : decode cX9_isRound 13 = .ok (.ifCond .ne 13, 3) := by decide +kernel
theorem dX9_isRound_16 : decode cX9_isRound 16 = .ok (.aload_n 0, 1) := by decide +kernel
theorem dX9_isRound_17 : decode cX9_isRound 17 = .ok (.getfield 95, 3) := by decide +kernel
theorem dX9_isRound_20 : decode cX9_isRound 20 = .ok (.iload_n 3, 1) := by decide +kernel
theorem dX9_isRound_21 : decode cX9_isRound 21 = .ok (.iaload, 1) := by decide +kernel
theorem dX9_isRound_22 : decode cX9_isRound 22 = .ok (.iload_n 1, 1) := by decide +kernel
theorem dX9_isRound_23 : decode cX9_isRound 23 = .ok (.if_icmp .ne 7, 3) := by decide +kernel
theorem dX9_isRound_26 : decode cX9_isRound 26 = .ok (.iconst 1, 1) := by decide +kernel
theorem dX9_isRound_27 : decode cX9_isRound 27 = .ok (.goto 4, 3) := by decide +kernel
theorem dX9_isRound_30 : decode cX9_isRound 30 = .ok (.iconst 0, 1) := by decide +kernel
theorem dX9_isRound_31 : decode cX9_isRound 31 = .ok (.istore_n 2, 1) := by decide +kernel
theorem dX9_isRound_32 : decode cX9_isRound 32 = .ok (.iinc 3 1, 3) := by decide +kernel
theorem dX9_isRound_35 : decode cX9_isRound 35 = .ok (.goto (-31), 3) := by decide +kernel
theorem dX9_isRound_38 : decode cX9_isRound 38 = .ok (.iload_n 2, 1) := by decide +kernel
theorem dX9_isRound_39 : decode cX9_isRound 39 = .ok (.ireturn, 1) := by decide +kernel
set_option maxRecDepth 20000 in
theorem ggX9_count_X9_isIn : GoodIn wsX9_count wsX9_isIn := goodIn_r _ [7] (by decide +kernel) (by decide +kernel)
set_option maxRecDepth 20000 in
theorem gX9_count_X9_isIn : GoodIn wsX9_count (va_wsS RX9 118 yX9_isIn wsX9_isIn) := goodIn_app (goodIn_of _ (by decide +kernel)) ggX9_count_X9_isIn
set_option maxRecDepth 20000 in
theorem ggX9_count_X9_refused : GoodIn wsX9_count wsX9_refused := goodIn_r _ [11, 12, 24, 25, 26, 27, 28, 29, 30, 31, 32, 33, 34, 35, 36, 37, 38, 39, 40, 41, 42, 43, 44, 45, 46, 47, 48, 49, 50, 51, 52, 53, 54, 55, 56, 57, 58, 59, 60, 61, 62, 63, 64, 65, 66] (by decide +kernel) (by decide +kernel)
set_option maxRecDepth 20000 in
theorem gX9_count_X9_refused : GoodIn wsX9_count (wsV RX9 122 RX9 yX9_refused wsX9_refused) := goodIn_app (goodIn_of _ (by decide +kernel)) ggX9_count_X9_refused
set_option maxRecDepth 20000 in
theorem ggX9_count_X9_bytesWaiting : GoodIn wsX9_count wsX9_bytesWaiting := goodIn_r _ [16, 1, 17, 24, 25, 26, 27, 28, 29, 30, 31, 32, 33, 34, 35, 36, 37, 38, 39, 40, 41, 42, 43, 44, 45, 46, 47, 48, 49, 50, 51, 52, 53, 54, 55, 56, 57, 58, 59, 60, 61, 62, 63, 64, 65, 66] (by decide +kernel) (by decide +kernel)
set_option maxRecDepth 20000 in
theorem gX9_count_X9_bytesWaiting : GoodIn wsX9_count (wsV RX9 147 RX9 yX9_bytesWaiting wsX9_bytesWaiting) := goodIn_app (goodIn_of _ (by decide +kernel)) ggX9_count_X9_bytesWaiting
set_option maxRecDepth 20000 in
theorem ggX9_count_X9_isRound : GoodIn wsX9_count wsX9_isRound := goodIn_r _ [21, 22, 23, 24, 25, 26, 27, 28, 29, 30, 31, 32, 33, 34, 35, 36, 37, 38, 39, 40, 41, 42, 43, 44, 45, 46, 47, 48, 49, 50, 51, 52, 53, 54, 55, 56, 57, 58, 59, 60, 61, 62, 63, 64, 65, 66] (by decide +kernel) (by decide +kernel)
set_option maxRecDepth 20000 in
theorem gX9_count_X9_isRound : GoodIn wsX9_count (wsV RX9 210 RX9 yX9_isRound wsX9_isRound) := goodIn_app (goodIn_of _ (by decide +kernel)) ggX9_count_X9_isRound
theorem dX9_count_0 : decode cX9_count 0 = .ok (.aload_n 0, 1) := by decide +kernel
theorem dX9_count_1 : decode cX9_count 1 = .ok (.iload_n 1, 1) := by decide +kernel
theorem dX9_count_2 : decode cX9_count 2 = .ok (.iconst 0, 1) := by decide +kernel
theorem dX9_count_3 : decode cX9_count 3 = .ok (.iconst 5, 1) := by decide +kernel
theorem dX9_count_4 : decode cX9_count 4 = .ok (.invokestatic 118, 3) := by decide +kernel
theorem dX9_count_7 : decode cX9_count 7 = .ok (.ifCond .eq 17, 3) := by decide +kernel
theorem dX9_count_10 : decode cX9_count 10 = .ok (.iload_n 2, 1) := by decide +kernel
theorem dX9_count_11 : decode cX9_count 11 = .ok (.iconst 0, 1) := by decide +kernel
theorem dX9_count_12 : decode cX9_count 12 = .ok (.bipush 9, 2) := by decide +kernel
theorem dX9_count_14 : decode cX9_count 14 = .ok (.invokestatic 118, 3) := by decide +kernel
theorem dX9_count_17 : decode cX9_count 17 = .ok (.ifCond .eq 7, 3) := by decide +kernel
theorem dX9_count_20 : decode cX9_count 20 = .ok (.iconst 0, 1) := by decide +kernel
theorem dX9_count_21 : decode cX9_count 21 = .ok (.goto 4, 3) := by decide +kernel
theorem dX9_count_24 : decode cX9_count 24 = .ok (.iconst 1, 1) := by decide +kernel
theorem dX9_count_25 : decode cX9_count 25 = .ok (.invokevirtual 122, 3) := by decide +kernel
theorem dX9_count_28 : decode cX9_count 28 = .ok (.ifCond .eq 5, 3) := by decide +kernel
theorem dX9_count_31 : decode cX9_count 31 = .ok (.iconst 0, 1) := by decide +kernel
theorem dX9_count_32 : decode cX9_count 32 = .ok (.ireturn, 1) := by decide +kernel
theorem dX9_count_33 : decode cX9_count 33 = .ok (.iload_n 2, 1) := by decide +kernel
theorem dX9_count_34 : decode cX9_count 34 = .ok (.bipush 6, 2) := by decide +kernel
theorem dX9_count_36 : decode cX9_count 36 = .ok (.if_icmp .ne 12, 3) := by decide +kernel
theorem dX9_count_39 : decode cX9_count 39 = .ok (.aload_n 0, 1) := by decide +kernel
theorem dX9_count_40 : decode cX9_count 40 = .ok (.getfield 74, 3) := by decide +kernel
theorem dX9_count_43 : decode cX9_count 43 = .ok (.iload_n 1, 1) := by decide +kernel
theorem dX9_count_44 : decode cX9_count 44 = .ok (.iaload, 1) := by decide +kernel
theorem dX9_count_45 : decode cX9_count 45 = .ok (.goto 55, 3) := by decide +kernel
theorem dX9_count_48 : decode cX9_count 48 = .ok (.iload_n 2, 1) := by decide +kernel
theorem dX9_count_49 : decode cX9_count 49 = .ok (.bipush 7, 2) := by decide +kernel
theorem dX9_count_51 : decode cX9_count 51 = .ok (.if_icmp .ne 11, 3) := by decide +kernel
theorem dX9_count_54 : decode cX9_count 54 = .ok (.aload_n 0, 1) := by decide +kernel
theorem dX9_count_55 : decode cX9_count 55 = .ok (.iload_n 1, 1) := by decide +kernel
theorem dX9_count_56 : decode cX9_count 56 = .ok (.invokevirtual 147, 3) := by decide +kernel
theorem dX9_count_59 : decode cX9_count 59 = .ok (.goto 41, 3) := by decide +kernel
theorem dX9_count_62 : decode cX9_count 62 = .ok (.iload_n 2, 1) := by decide +kernel
theorem dX9_count_63 : decode cX9_count 63 = .ok (.bipush 9, 2) := by decide +kernel
theorem dX9_count_65 : decode cX9_count 65 = .ok (.if_icmp .ne 24, 3) := by decide +kernel
theorem dX9_count_68 : decode cX9_count 68 = .ok (.aload_n 0, 1) := by decide +kernel
theorem dX9_count_69 : decode cX9_count 69 = .ok (.iload_n 1, 1) := by decide +kernel
theorem dX9_count_70 : decode cX9_count 70 = .ok (.invokevirtual 210, 3) := by decide +kernel
theorem dX9_count_73 : decode cX9_count 73 = .ok (.ifCond .eq 12, 3) := by decide +kernel
theorem dX9_count_76 : decode cX9_count 76 = .ok (.aload_n 0, 1) := by decide +kernel
theorem dX9_count_77 : decode cX9_count 77 = .ok (.getfield 98, 3) := by decide +kernel
theorem dX9_count_80 : decode cX9_count 80 = .ok (.iload_n 1, 1) := by decide +kernel
theorem dX9_count_81 : decode cX9_count 81 = .ok (.iaload, 1) := by decide +kernel
theorem dX9_count_82 : decode cX9_count 82 = .ok (.goto 18, 3) := by decide +kernel
theorem dX9_count_85 : decode cX9_count 85 = .ok (.iconst 0, 1) := by decide +kernel
theorem dX9_count_86 : decode cX9_count 86 = .ok (.goto 14, 3) := by decide +kernel
theorem dX9_count_89 : decode cX9_count 89 = .ok (.aload_n 0, 1) := by decide +kernel
theorem dX9_count_90 : decode cX9_count 90 = .ok (.getfield 92, 3) := by decide +kernel
theorem dX9_count_93 : decode cX9_count 93 = .ok (.bipush 10, 2) := by decide +kernel
theorem dX9_count_95 : decode cX9_count 95 = .ok (.iload_n 1, 1) := by decide +kernel
theorem dX9_count_96 : decode cX9_count 96 = .ok (.imul, 1) := by decide +kernel
theorem dX9_count_97 : decode cX9_count 97 = .ok (.iload_n 2, 1) := by decide +kernel
theorem dX9_count_98 : decode cX9_count 98 = .ok (.iadd, 1) := by decide +kernel
theorem dX9_count_99 : decode cX9_count 99 = .ok (.iaload, 1) := by decide +kernel
theorem dX9_count_100 : decode cX9_count 100 = .ok (.ireturn, 1) := by decide +kernel
set_option maxRecDepth 20000 in
theorem ggX9_average_X9_isIn : GoodIn wsX9_average wsX9_isIn := goodIn_r _ [5] (by decide +kernel) (by decide +kernel)
set_option maxRecDepth 20000 in
theorem gX9_average_X9_isIn : GoodIn wsX9_average (va_wsS RX9 118 yX9_isIn wsX9_isIn) := goodIn_app (goodIn_of _ (by decide +kernel)) ggX9_average_X9_isIn
set_option maxRecDepth 20000 in
theorem ggX9_average_X9_refused : GoodIn wsX9_average wsX9_refused := goodIn_r _ [9, 10, 11, 12, 13, 14, 15, 16, 17, 18, 19, 20, 21, 22, 23, 24, 25, 26, 27, 28, 29, 30, 31, 32, 33, 34, 35, 36, 37, 38, 39, 40, 41, 42, 43, 44, 45, 46, 47, 48, 49, 50, 51, 52, 53] (by decide +kernel) (by decide +kernel)
set_option maxRecDepth 20000 in
theorem gX9_average_X9_refused : GoodIn wsX9_average (wsV RX9 122 RX9 yX9_refused wsX9_refused) := goodIn_app (goodIn_of _ (by decide +kernel)) ggX9_average_X9_refused
theorem dX9_average_0 : decode cX9_average 0 = .ok (.aload_n 0, 1) := by decide +kernel
theorem dX9_average_1 : decode cX9_average 1 = .ok (.iload_n 1, 1) := by decide +kernel
theorem dX9_average_2 : decode cX9_average 2 = .ok (.iconst 0, 1) := by decide +kernel
theorem dX9_average_3 : decode cX9_average 3 = .ok (.iconst 5, 1) := by decide +kernel
theorem dX9_average_4 : decode cX9_average 4 = .ok (.invokestatic 118, 3) := by decide +kernel
theorem dX9_average_7 : decode cX9_average 7 = .ok (.ifCond .eq 7, 3) := by decide +kernel
theorem dX9_average_10 : decode cX9_average 10 = .ok (.iconst 0, 1) := by decide +kernel
theorem dX9_average_11 : decode cX9_average 11 = .ok (.goto 4, 3) := by decide +kernel
theorem dX9_average_14 : decode cX9_average 14 = .ok (.iconst 1, 1) := by decide +kernel
theorem dX9_average_15 : decode cX9_average 15 = .ok (.invokevirtual 122, 3) := by decide +kernel
theorem dX9_average_18 : decode cX9_average 18 = .ok (.ifCond .eq 7, 3) := by decide +kernel
theorem dX9_average_21 : decode cX9_average 21 = .ok (.dconst 0, 1) := by decide +kernel
theorem dX9_average_22 : decode cX9_average 22 = .ok (.goto 9, 3) := by decide +kernel
theorem dX9_average_25 : decode cX9_average 25 = .ok (.aload_n 0, 1) := by decide +kernel
theorem dX9_average_26 : decode cX9_average 26 = .ok (.getfield 40, 3) := by decide +kernel
theorem dX9_average_29 : decode cX9_average 29 = .ok (.iload_n 1, 1) := by decide +kernel
theorem dX9_average_30 : decode cX9_average 30 = .ok (.daload, 1) := by decide +kernel
theorem dX9_average_31 : decode cX9_average 31 = .ok (.dreturn, 1) := by decide +kernel
set_option maxRecDepth 20000 in
theorem ggX9_next_X9_isIn : GoodIn wsX9_next wsX9_isIn := goodIn_r _ [7] (by decide +kernel) (by decide +kernel)
set_option maxRecDepth 20000 in
theorem gX9_next_X9_isIn : GoodIn wsX9_next (va_wsS RX9 118 yX9_isIn wsX9_isIn) := goodIn_app (goodIn_of _ (by decide +kernel)) ggX9_next_X9_isIn
set_option maxRecDepth 20000 in
theorem ggX9_next_X9_refused : GoodIn wsX9_next wsX9_refused := goodIn_r _ [11, 12, 13, 14, 15, 16, 17, 18, 19, 20, 21, 22, 23, 24, 25, 26, 27, 28, 29, 30, 31, 32, 33, 34, 35, 36, 37, 38, 39, 40, 41, 42, 43, 44, 45, 46, 47, 48, 49, 50, 51, 52, 53, 54, 55] (by decide +kernel) (by decide +kernel)
set_option maxRecDepth 20000 in
theorem gX9_next_X9_refused : GoodIn wsX9_next (wsV RX9 122 RX9 yX9_refused wsX9_refused) := goodIn_app (goodIn_of _ (by decide +kernel)) ggX9_next_X9_refused
theorem dX9_next_0 : decode cX9_next 0 = .ok (.aload_n 0, 1) := by decide +kernel
theorem dX9_next_1 : decode cX9_next 1 = .ok (.iload_n 1, 1) := by decide +kernel
theorem dX9_next_2 : decode cX9_next 2 = .ok (.iconst 0, 1) := by decide +kernel
theorem dX9_next_3 : decode cX9_next 3 = .ok (.iconst 5, 1) := by decide +kernel
theorem dX9_next_4 : decode cX9_next 4 = .ok (.invokestatic 118, 3) := by decide +kernel
theorem dX9_next_7 : decode cX9_next 7 = .ok (.ifCond .eq 7, 3) := by decide +kernel
theorem dX9_next_10 : decode cX9_next 10 = .ok (.iconst 0, 1) := by decide +kernel
theorem dX9_next_11 : decode cX9_next 11 = .ok (.goto 4, 3) := by decide +kernel
theorem dX9_next_14 : decode cX9_next 14 = .ok (.iconst 1, 1) := by decide +kernel
theorem dX9_next_15 : decode cX9_next 15 = .ok (.invokevirtual 122, 3) := by decide +kernel
theorem dX9_next_18 : decode cX9_next 18 = .ok (.ifCond .eq 7, 3) := by decide +kernel
theorem dX9_next_21 : decode cX9_next 21 = .ok (.dconst 0, 1) := by decide +kernel
theorem dX9_next_22 : decode cX9_next 22 = .ok (.goto 24, 3) := by decide +kernel
theorem dX9_next_25 : decode cX9_next 25 = .ok (.aload_n 0, 1) := by decide +kernel
theorem dX9_next_26 : decode cX9_next 26 = .ok (.getfield 62, 3) := by decide +kernel
theorem dX9_next_29 : decode cX9_next 29 = .ok (.iload_n 1, 1) := by decide +kernel
theorem dX9_next_30 : decode cX9_next 30 = .ok (.baload, 1) := by decide +kernel
theorem dX9_next_31 : decode cX9_next 31 = .ok (.ifCond .eq 12, 3) := by decide +kernel
theorem dX9_next_34 : decode cX9_next 34 = .ok (.aload_n 0, 1) := by decide +kernel
theorem dX9_next_35 : decode cX9_next 35 = .ok (.getfield 65, 3) := by decide +kernel
theorem dX9_next_38 : decode cX9_next 38 = .ok (.iload_n 1, 1) := by decide +kernel
theorem dX9_next_39 : decode cX9_next 39 = .ok (.daload, 1) := by decide +kernel
theorem dX9_next_40 : decode cX9_next 40 = .ok (.goto 6, 3) := by decide +kernel
theorem dX9_next_43 : decode cX9_next 43 = .ok (.ldc2_w 213, 3) := by decide +kernel
theorem dX9_next_46 : decode cX9_next 46 = .ok (.dreturn, 1) := by decide +kernel
theorem dX9_free_0 : decode cX9_free 0 = .ok (.aload_n 0, 1) := by decide +kernel
theorem dX9_free_1 : decode cX9_free 1 = .ok (.iconst 0, 1) := by decide +kernel
theorem dX9_free_2 : decode cX9_free 2 = .ok (.putfield 115, 3) := by decide +kernel
theorem dX9_free_5 : decode cX9_free 5 = .ok (.aload_n 0, 1) := by decide +kernel
theorem dX9_free_6 : decode cX9_free 6 = .ok (.getfield 198, 3) := by decide +kernel
theorem dX9_free_9 : decode cX9_free 9 = .ok (.dreturn, 1) := by decide +kernel
set_option maxRecDepth 20000 in
theorem ggX9_sent_X9_isIn : GoodIn wsX9_sent wsX9_isIn := goodIn_r _ [6] (by decide +kernel) (by decide +kernel)
set_option maxRecDepth 20000 in
theorem gX9_sent_X9_isIn : GoodIn wsX9_sent (va_wsS RX9 118 yX9_isIn wsX9_isIn) := goodIn_app (goodIn_of _ (by decide +kernel)) ggX9_sent_X9_isIn
set_option maxRecDepth 20000 in
theorem ggX9_sent_X9_refused : GoodIn wsX9_sent wsX9_refused := goodIn_r _ [10, 11, 12, 13, 14, 15, 16, 17, 18, 19, 20, 21, 22, 23, 24, 25, 26, 27, 28, 29, 30, 31, 32, 33, 34, 35, 36, 37, 38, 39, 40, 41, 42, 43, 44, 45, 46, 47, 48, 49, 50, 51, 52, 53, 54] (by decide +kernel) (by decide +kernel)
set_option maxRecDepth 20000 in
theorem gX9_sent_X9_refused : GoodIn wsX9_sent (wsV RX9 122 RX9 yX9_refused wsX9_refused) := goodIn_app (goodIn_of _ (by decide +kernel)) ggX9_sent_X9_refused
theorem dX9_sent_0 : decode cX9_sent 0 = .ok (.aload_n 0, 1) := by decide +kernel
theorem dX9_sent_1 : decode cX9_sent 1 = .ok (.iload_n 2, 1) := by decide +kernel
theorem dX9_sent_2 : decode cX9_sent 2 = .ok (.iconst 0, 1) := by decide +kernel
theorem dX9_sent_3 : decode cX9_sent 3 = .ok (.iconst 4, 1) := by decide +kernel
theorem dX9_sent_4 : decode cX9_sent 4 = .ok (.invokestatic 118, 3) := by decide +kernel
theorem dX9_sent_7 : decode cX9_sent 7 = .ok (.ifCond .eq 7, 3) := by decide +kernel
theorem dX9_sent_10 : decode cX9_sent 10 = .ok (.iconst 0, 1) := by decide +kernel
theorem dX9_sent_11 : decode cX9_sent 11 = .ok (.goto 4, 3) := by decide +kernel
theorem dX9_sent_14 : decode cX9_sent 14 = .ok (.iconst 1, 1) := by decide +kernel
theorem dX9_sent_15 : decode cX9_sent 15 = .ok (.invokevirtual 122, 3) := by decide +kernel
theorem dX9_sent_18 : decode cX9_sent 18 = .ok (.ifCond .eq 5, 3) := by decide +kernel
theorem dX9_sent_21 : decode cX9_sent 21 = .ok (.iconst 0, 1) := by decide +kernel
theorem dX9_sent_22 : decode cX9_sent 22 = .ok (.ireturn, 1) := by decide +kernel
theorem dX9_sent_23 : decode cX9_sent 23 = .ok (.iload_n 1, 1) := by decide +kernel
theorem dX9_sent_24 : decode cX9_sent 24 = .ok (.iconst 0, 1) := by decide +kernel
theorem dX9_sent_25 : decode cX9_sent 25 = .ok (.aload_n 0, 1) := by decide +kernel
theorem dX9_sent_26 : decode cX9_sent 26 = .ok (.getfield 201, 3) := by decide +kernel
theorem dX9_sent_29 : decode cX9_sent 29 = .ok (.iconst 1, 1) := by decide +kernel
theorem dX9_sent_30 : decode cX9_sent 30 = .ok (.isub, 1) := by decide +kernel
theorem dX9_sent_31 : decode cX9_sent 31 = .ok (.invokestatic 118, 3) := by decide +kernel
theorem dX9_sent_34 : decode cX9_sent 34 = .ok (.ifCond .eq 16, 3) := by decide +kernel
theorem dX9_sent_37 : decode cX9_sent 37 = .ok (.aload_n 0, 1) := by decide +kernel
theorem dX9_sent_38 : decode cX9_sent 38 = .ok (.getfield 104, 3) := by decide +kernel
theorem dX9_sent_41 : decode cX9_sent 41 = .ok (.iconst 5, 1) := by decide +kernel
theorem dX9_sent_42 : decode cX9_sent 42 = .ok (.iload_n 1, 1) := by decide +kernel
theorem dX9_sent_43 : decode cX9_sent 43 = .ok (.imul, 1) := by decide +kernel
theorem dX9_sent_44 : decode cX9_sent 44 = .ok (.iload_n 2, 1) := by decide +kernel
theorem dX9_sent_45 : decode cX9_sent 45 = .ok (.iadd, 1) := by decide +kernel
theorem dX9_sent_46 : decode cX9_sent 46 = .ok (.iaload, 1) := by decide +kernel
theorem dX9_sent_47 : decode cX9_sent 47 = .ok (.goto 4, 3) := by decide +kernel
theorem dX9_sent_50 : decode cX9_sent 50 = .ok (.iconst (-1), 1) := by decide +kernel
theorem dX9_sent_51 : decode cX9_sent 51 = .ok (.ireturn, 1) := by decide +kernel
set_option maxRecDepth 20000 in
theorem ggX9_round_X9_isIn : GoodIn wsX9_round wsX9_isIn := goodIn_r _ [7] (by decide +kernel) (by decide +kernel)
set_option maxRecDepth 20000 in
theorem gX9_round_X9_isIn : GoodIn wsX9_round (va_wsS RX9 118 yX9_isIn wsX9_isIn) := goodIn_app (goodIn_of _ (by decide +kernel)) ggX9_round_X9_isIn
theorem dX9_round_0 : decode cX9_round 0 = .ok (.aload_n 0, 1) := by decide +kernel
theorem dX9_round_1 : decode cX9_round 1 = .ok (.iconst 0, 1) := by decide +kernel
theorem dX9_round_2 : decode cX9_round 2 = .ok (.putfield 115, 3) := by decide +kernel
theorem dX9_round_5 : decode cX9_round 5 = .ok (.iload_n 1, 1) := by decide +kernel
theorem dX9_round_6 : decode cX9_round 6 = .ok (.iconst 0, 1) := by decide +kernel
theorem dX9_round_7 : decode cX9_round 7 = .ok (.aload_n 0, 1) := by decide +kernel
theorem dX9_round_8 : decode cX9_round 8 = .ok (.getfield 158, 3) := by decide +kernel
theorem dX9_round_11 : decode cX9_round 11 = .ok (.iconst 1, 1) := by decide +kernel
theorem dX9_round_12 : decode cX9_round 12 = .ok (.isub, 1) := by decide +kernel
theorem dX9_round_13 : decode cX9_round 13 = .ok (.invokestatic 118, 3) := by decide +kernel
theorem dX9_round_16 : decode cX9_round 16 = .ok (.ifCond .eq 12, 3) := by decide +kernel
theorem dX9_round_19 : decode cX9_round 19 = .ok (.aload_n 0, 1) := by decide +kernel
theorem dX9_round_20 : decode cX9_round 20 = .ok (.getfield 95, 3) := by decide +kernel
theorem dX9_round_23 : decode cX9_round 23 = .ok (.iload_n 1, 1) := by decide +kernel
theorem dX9_round_24 : decode cX9_round 24 = .ok (.iaload, 1) := by decide +kernel
theorem dX9_round_25 : decode cX9_round 25 = .ok (.goto 4, 3) := by decide +kernel
theorem dX9_round_28 : decode cX9_round 28 = .ok (.iconst (-1), 1) := by decide +kernel
theorem dX9_round_29 : decode cX9_round 29 = .ok (.ireturn, 1) := by decide +kernel
theorem dX9_clock_0 : decode cX9_clock 0 = .ok (.aload_n 0, 1) := by decide +kernel
theorem dX9_clock_1 : decode cX9_clock 1 = .ok (.iconst 0, 1) := by decide +kernel
theorem dX9_clock_2 : decode cX9_clock 2 = .ok (.putfield 115, 3) := by decide +kernel
theorem dX9_clock_5 : decode cX9_clock 5 = .ok (.aload_n 0, 1) := by decide +kernel
theorem dX9_clock_6 : decode cX9_clock 6 = .ok (.getfield 126, 3) := by decide +kernel
theorem dX9_clock_9 : decode cX9_clock 9 = .ok (.ireturn, 1) := by decide +kernel
